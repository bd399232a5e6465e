section
-- ===== PART A: goes FIRST, ahead of the names: the tables' words, and 'selects' of the private methods out of them =====
/-- a private method of a class that the tables say can be made, by its rows of tables_1 -/
def lw_okq (q : MethodName × Nat) : Prop := (q.1.cls ≠ "java/lang/invoke/MethodHandle" ∧ q.1.cls ≠ "java/lang/invoke/VarHandle") ∧ Cond.instantiable q.1.cls q.2 ∈ tables_1 ∧ Cond.privateMethod q.1 ∈ tables_1 ∧ Cond.instanceMethod q.1 ∈ tables_1
theorem lw_p0 : lw_okq (⟨"SneezeRace", "firstFault", "()I"⟩, 11) := ⟨⟨by decide +kernel, by decide +kernel⟩, List.mem_of_getElem? (i := 14) (by decide +kernel), List.mem_of_getElem? (i := 268) (by decide +kernel), List.mem_of_getElem? (i := 269) (by decide +kernel)⟩
theorem lw_p1 : lw_okq (⟨"SneezeRace", "flyBehind", "(I)V"⟩, 11) := ⟨⟨by decide +kernel, by decide +kernel⟩, List.mem_of_getElem? (i := 14) (by decide +kernel), List.mem_of_getElem? (i := 300) (by decide +kernel), List.mem_of_getElem? (i := 301) (by decide +kernel)⟩
theorem lw_p2 : lw_okq (⟨"SneezeRace", "doubtWith", "(II)I"⟩, 11) := ⟨⟨by decide +kernel, by decide +kernel⟩, List.mem_of_getElem? (i := 14) (by decide +kernel), List.mem_of_getElem? (i := 366) (by decide +kernel), List.mem_of_getElem? (i := 367) (by decide +kernel)⟩
theorem lw_p3 : lw_okq (⟨"SneezeRace$Pepper", "add", "(II)V"⟩, 2) := ⟨⟨by decide +kernel, by decide +kernel⟩, List.mem_of_getElem? (i := 85) (by decide +kernel), List.mem_of_getElem? (i := 376) (by decide +kernel), List.mem_of_getElem? (i := 377) (by decide +kernel)⟩
theorem lw_p4 : lw_okq (⟨"SneezeRace$Pepper", "near", "(II)I"⟩, 2) := ⟨⟨by decide +kernel, by decide +kernel⟩, List.mem_of_getElem? (i := 85) (by decide +kernel), List.mem_of_getElem? (i := 385) (by decide +kernel), List.mem_of_getElem? (i := 386) (by decide +kernel)⟩
theorem lw_p5 : lw_okq (⟨"SneezeRace", "choiceRefusal", "(Z)I"⟩, 11) := ⟨⟨by decide +kernel, by decide +kernel⟩, List.mem_of_getElem? (i := 14) (by decide +kernel), List.mem_of_getElem? (i := 401) (by decide +kernel), List.mem_of_getElem? (i := 402) (by decide +kernel)⟩
theorem lw_p6 : lw_okq (⟨"SneezeRace", "courseRefusal", "(Z)I"⟩, 11) := ⟨⟨by decide +kernel, by decide +kernel⟩, List.mem_of_getElem? (i := 14) (by decide +kernel), List.mem_of_getElem? (i := 405) (by decide +kernel), List.mem_of_getElem? (i := 406) (by decide +kernel)⟩
theorem lw_p7 : lw_okq (⟨"SneezeRace$Chart", "addMinute", "(LSneezeRace$Setup;II)V"⟩, 2) := ⟨⟨by decide +kernel, by decide +kernel⟩, List.mem_of_getElem? (i := 98) (by decide +kernel), List.mem_of_getElem? (i := 421) (by decide +kernel), List.mem_of_getElem? (i := 422) (by decide +kernel)⟩
theorem lw_p8 : lw_okq (⟨"SneezeRace", "offWith", "(III)I"⟩, 11) := ⟨⟨by decide +kernel, by decide +kernel⟩, List.mem_of_getElem? (i := 14) (by decide +kernel), List.mem_of_getElem? (i := 484) (by decide +kernel), List.mem_of_getElem? (i := 485) (by decide +kernel)⟩
theorem lw_p9 : lw_okq (⟨"SneezeRace$Chances", "placeBy", "(LSneezeRace$Chart;I)I"⟩, 1) := ⟨⟨by decide +kernel, by decide +kernel⟩, List.mem_of_getElem? (i := 133) (by decide +kernel), List.mem_of_getElem? (i := 513) (by decide +kernel), List.mem_of_getElem? (i := 514) (by decide +kernel)⟩
theorem lw_p10 : lw_okq (⟨"SneezeRace$Chances", "chance", "(LSneezeRace$Chart;II)J"⟩, 1) := ⟨⟨by decide +kernel, by decide +kernel⟩, List.mem_of_getElem? (i := 133) (by decide +kernel), List.mem_of_getElem? (i := 521) (by decide +kernel), List.mem_of_getElem? (i := 522) (by decide +kernel)⟩
theorem lw_p11 : lw_okq (⟨"SneezeRace", "sightsHold", "(I)Z"⟩, 11) := ⟨⟨by decide +kernel, by decide +kernel⟩, List.mem_of_getElem? (i := 14) (by decide +kernel), List.mem_of_getElem? (i := 572) (by decide +kernel), List.mem_of_getElem? (i := 573) (by decide +kernel)⟩
theorem lw_p12 : lw_okq (⟨"SneezeRace", "flyByDraws", "(I)I"⟩, 11) := ⟨⟨by decide +kernel, by decide +kernel⟩, List.mem_of_getElem? (i := 14) (by decide +kernel), List.mem_of_getElem? (i := 611) (by decide +kernel), List.mem_of_getElem? (i := 612) (by decide +kernel)⟩
theorem lw_p13 : lw_okq (⟨"SneezeRace", "imageOf", "(I)LSneezeRace$Setup;"⟩, 11) := ⟨⟨by decide +kernel, by decide +kernel⟩, List.mem_of_getElem? (i := 14) (by decide +kernel), List.mem_of_getElem? (i := 624) (by decide +kernel), List.mem_of_getElem? (i := 625) (by decide +kernel)⟩
theorem lw_p14 : lw_okq (⟨"SneezeRaceModel", "loaded", "()I"⟩, 27) := ⟨⟨by decide +kernel, by decide +kernel⟩, List.mem_of_getElem? (i := 650) (by decide +kernel), List.mem_of_getElem? (i := 785) (by decide +kernel), List.mem_of_getElem? (i := 786) (by decide +kernel)⟩
theorem lw_p15 : lw_okq (⟨"SneezeRaceModel", "countOf", "(I)I"⟩, 27) := ⟨⟨by decide +kernel, by decide +kernel⟩, List.mem_of_getElem? (i := 650) (by decide +kernel), List.mem_of_getElem? (i := 795) (by decide +kernel), List.mem_of_getElem? (i := 796) (by decide +kernel)⟩
def lw_privs_1 : List (MethodName × Nat) := [(⟨"SneezeRace", "firstFault", "()I"⟩, 11), (⟨"SneezeRace", "flyBehind", "(I)V"⟩, 11), (⟨"SneezeRace", "doubtWith", "(II)I"⟩, 11), (⟨"SneezeRace$Pepper", "add", "(II)V"⟩, 2), (⟨"SneezeRace$Pepper", "near", "(II)I"⟩, 2), (⟨"SneezeRace", "choiceRefusal", "(Z)I"⟩, 11), (⟨"SneezeRace", "courseRefusal", "(Z)I"⟩, 11), (⟨"SneezeRace$Chart", "addMinute", "(LSneezeRace$Setup;II)V"⟩, 2), (⟨"SneezeRace", "offWith", "(III)I"⟩, 11), (⟨"SneezeRace$Chances", "placeBy", "(LSneezeRace$Chart;I)I"⟩, 1), (⟨"SneezeRace$Chances", "chance", "(LSneezeRace$Chart;II)J"⟩, 1), (⟨"SneezeRace", "sightsHold", "(I)Z"⟩, 11), (⟨"SneezeRace", "flyByDraws", "(I)I"⟩, 11), (⟨"SneezeRace", "imageOf", "(I)LSneezeRace$Setup;"⟩, 11), (⟨"SneezeRaceModel", "loaded", "()I"⟩, 27), (⟨"SneezeRaceModel", "countOf", "(I)I"⟩, 27)]
theorem lw_r1 : ∀ q ∈ lw_privs_1, lw_okq q := List.forall_mem_cons.mpr ⟨lw_p0, List.forall_mem_cons.mpr ⟨lw_p1, List.forall_mem_cons.mpr ⟨lw_p2, List.forall_mem_cons.mpr ⟨lw_p3, List.forall_mem_cons.mpr ⟨lw_p4, List.forall_mem_cons.mpr ⟨lw_p5, List.forall_mem_cons.mpr ⟨lw_p6, List.forall_mem_cons.mpr ⟨lw_p7, List.forall_mem_cons.mpr ⟨lw_p8, List.forall_mem_cons.mpr ⟨lw_p9, List.forall_mem_cons.mpr ⟨lw_p10, List.forall_mem_cons.mpr ⟨lw_p11, List.forall_mem_cons.mpr ⟨lw_p12, List.forall_mem_cons.mpr ⟨lw_p13, List.forall_mem_cons.mpr ⟨lw_p14, List.forall_mem_cons.mpr ⟨lw_p15, fun _ h => absurd h List.not_mem_nil⟩⟩⟩⟩⟩⟩⟩⟩⟩⟩⟩⟩⟩⟩⟩⟩
theorem lw_p16 : lw_okq (⟨"SneezeRaceModel", "startNow", "()V"⟩, 27) := ⟨⟨by decide +kernel, by decide +kernel⟩, List.mem_of_getElem? (i := 650) (by decide +kernel), List.mem_of_getElem? (i := 800) (by decide +kernel), List.mem_of_getElem? (i := 801) (by decide +kernel)⟩
theorem lw_p17 : lw_okq (⟨"SneezeRaceModel", "start", "(II)V"⟩, 27) := ⟨⟨by decide +kernel, by decide +kernel⟩, List.mem_of_getElem? (i := 650) (by decide +kernel), List.mem_of_getElem? (i := 804) (by decide +kernel), List.mem_of_getElem? (i := 805) (by decide +kernel)⟩
theorem lw_p18 : lw_okq (⟨"SneezeRaceModel", "happen", "(I)V"⟩, 27) := ⟨⟨by decide +kernel, by decide +kernel⟩, List.mem_of_getElem? (i := 650) (by decide +kernel), List.mem_of_getElem? (i := 808) (by decide +kernel), List.mem_of_getElem? (i := 809) (by decide +kernel)⟩
theorem lw_p19 : lw_okq (⟨"SneezeRaceModel", "drift", "()V"⟩, 27) := ⟨⟨by decide +kernel, by decide +kernel⟩, List.mem_of_getElem? (i := 650) (by decide +kernel), List.mem_of_getElem? (i := 812) (by decide +kernel), List.mem_of_getElem? (i := 813) (by decide +kernel)⟩
theorem lw_p20 : lw_okq (⟨"SneezeRaceModel", "height", "()I"⟩, 27) := ⟨⟨by decide +kernel, by decide +kernel⟩, List.mem_of_getElem? (i := 650) (by decide +kernel), List.mem_of_getElem? (i := 816) (by decide +kernel), List.mem_of_getElem? (i := 817) (by decide +kernel)⟩
theorem lw_p21 : lw_okq (⟨"SneezeRaceModel", "throwOut", "(I)V"⟩, 27) := ⟨⟨by decide +kernel, by decide +kernel⟩, List.mem_of_getElem? (i := 650) (by decide +kernel), List.mem_of_getElem? (i := 820) (by decide +kernel), List.mem_of_getElem? (i := 821) (by decide +kernel)⟩
theorem lw_p22 : lw_okq (⟨"SneezeRaceModel", "ones", "(I)I"⟩, 27) := ⟨⟨by decide +kernel, by decide +kernel⟩, List.mem_of_getElem? (i := 650) (by decide +kernel), List.mem_of_getElem? (i := 824) (by decide +kernel), List.mem_of_getElem? (i := 825) (by decide +kernel)⟩
theorem lw_p23 : lw_okq (⟨"SneezeRaceModel", "fines", "()I"⟩, 27) := ⟨⟨by decide +kernel, by decide +kernel⟩, List.mem_of_getElem? (i := 650) (by decide +kernel), List.mem_of_getElem? (i := 832) (by decide +kernel), List.mem_of_getElem? (i := 833) (by decide +kernel)⟩
theorem lw_p24 : lw_okq (⟨"SneezeRaceModel", "doubted", "()I"⟩, 27) := ⟨⟨by decide +kernel, by decide +kernel⟩, List.mem_of_getElem? (i := 650) (by decide +kernel), List.mem_of_getElem? (i := 836) (by decide +kernel), List.mem_of_getElem? (i := 837) (by decide +kernel)⟩
theorem lw_p25 : lw_okq (⟨"SneezeRaceModel", "findSneezes", "()V"⟩, 27) := ⟨⟨by decide +kernel, by decide +kernel⟩, List.mem_of_getElem? (i := 650) (by decide +kernel), List.mem_of_getElem? (i := 840) (by decide +kernel), List.mem_of_getElem? (i := 841) (by decide +kernel)⟩
theorem lw_p26 : lw_okq (⟨"SneezeRaceModel", "within", "(I)I"⟩, 27) := ⟨⟨by decide +kernel, by decide +kernel⟩, List.mem_of_getElem? (i := 650) (by decide +kernel), List.mem_of_getElem? (i := 844) (by decide +kernel), List.mem_of_getElem? (i := 845) (by decide +kernel)⟩
theorem lw_p27 : lw_okq (⟨"SneezeRaceModel", "isDoubted", "()Z"⟩, 27) := ⟨⟨by decide +kernel, by decide +kernel⟩, List.mem_of_getElem? (i := 650) (by decide +kernel), List.mem_of_getElem? (i := 852) (by decide +kernel), List.mem_of_getElem? (i := 853) (by decide +kernel)⟩
theorem lw_p28 : lw_okq (⟨"SneezeRaceModel", "refusal", "(I)I"⟩, 27) := ⟨⟨by decide +kernel, by decide +kernel⟩, List.mem_of_getElem? (i := 650) (by decide +kernel), List.mem_of_getElem? (i := 865) (by decide +kernel), List.mem_of_getElem? (i := 866) (by decide +kernel)⟩
theorem lw_p29 : lw_okq (⟨"SneezeRaceModel", "layThrows", "(II)Z"⟩, 27) := ⟨⟨by decide +kernel, by decide +kernel⟩, List.mem_of_getElem? (i := 650) (by decide +kernel), List.mem_of_getElem? (i := 873) (by decide +kernel), List.mem_of_getElem? (i := 874) (by decide +kernel)⟩
theorem lw_p30 : lw_okq (⟨"SneezeRaceModel", "goCourse", "()V"⟩, 27) := ⟨⟨by decide +kernel, by decide +kernel⟩, List.mem_of_getElem? (i := 650) (by decide +kernel), List.mem_of_getElem? (i := 877) (by decide +kernel), List.mem_of_getElem? (i := 878) (by decide +kernel)⟩
theorem lw_p31 : lw_okq (⟨"SneezeRaceModel", "apart", "(I)I"⟩, 27) := ⟨⟨by decide +kernel, by decide +kernel⟩, List.mem_of_getElem? (i := 650) (by decide +kernel), List.mem_of_getElem? (i := 881) (by decide +kernel), List.mem_of_getElem? (i := 882) (by decide +kernel)⟩
def lw_privs_2 : List (MethodName × Nat) := [(⟨"SneezeRaceModel", "startNow", "()V"⟩, 27), (⟨"SneezeRaceModel", "start", "(II)V"⟩, 27), (⟨"SneezeRaceModel", "happen", "(I)V"⟩, 27), (⟨"SneezeRaceModel", "drift", "()V"⟩, 27), (⟨"SneezeRaceModel", "height", "()I"⟩, 27), (⟨"SneezeRaceModel", "throwOut", "(I)V"⟩, 27), (⟨"SneezeRaceModel", "ones", "(I)I"⟩, 27), (⟨"SneezeRaceModel", "fines", "()I"⟩, 27), (⟨"SneezeRaceModel", "doubted", "()I"⟩, 27), (⟨"SneezeRaceModel", "findSneezes", "()V"⟩, 27), (⟨"SneezeRaceModel", "within", "(I)I"⟩, 27), (⟨"SneezeRaceModel", "isDoubted", "()Z"⟩, 27), (⟨"SneezeRaceModel", "refusal", "(I)I"⟩, 27), (⟨"SneezeRaceModel", "layThrows", "(II)Z"⟩, 27), (⟨"SneezeRaceModel", "goCourse", "()V"⟩, 27), (⟨"SneezeRaceModel", "apart", "(I)I"⟩, 27)]
theorem lw_r2 : ∀ q ∈ lw_privs_2, lw_okq q := List.forall_mem_cons.mpr ⟨lw_p16, List.forall_mem_cons.mpr ⟨lw_p17, List.forall_mem_cons.mpr ⟨lw_p18, List.forall_mem_cons.mpr ⟨lw_p19, List.forall_mem_cons.mpr ⟨lw_p20, List.forall_mem_cons.mpr ⟨lw_p21, List.forall_mem_cons.mpr ⟨lw_p22, List.forall_mem_cons.mpr ⟨lw_p23, List.forall_mem_cons.mpr ⟨lw_p24, List.forall_mem_cons.mpr ⟨lw_p25, List.forall_mem_cons.mpr ⟨lw_p26, List.forall_mem_cons.mpr ⟨lw_p27, List.forall_mem_cons.mpr ⟨lw_p28, List.forall_mem_cons.mpr ⟨lw_p29, List.forall_mem_cons.mpr ⟨lw_p30, List.forall_mem_cons.mpr ⟨lw_p31, fun _ h => absurd h List.not_mem_nil⟩⟩⟩⟩⟩⟩⟩⟩⟩⟩⟩⟩⟩⟩⟩⟩
theorem lw_p32 : lw_okq (⟨"SneezeRaceModel", "goMinutes", "()V"⟩, 27) := ⟨⟨by decide +kernel, by decide +kernel⟩, List.mem_of_getElem? (i := 650) (by decide +kernel), List.mem_of_getElem? (i := 896) (by decide +kernel), List.mem_of_getElem? (i := 897) (by decide +kernel)⟩
theorem lw_p33 : lw_okq (⟨"SneezeRaceModel", "goChance", "(II)J"⟩, 27) := ⟨⟨by decide +kernel, by decide +kernel⟩, List.mem_of_getElem? (i := 650) (by decide +kernel), List.mem_of_getElem? (i := 910) (by decide +kernel), List.mem_of_getElem? (i := 911) (by decide +kernel)⟩
theorem lw_p34 : lw_okq (⟨"SneezeRaceModel", "heaviest", "()I"⟩, 27) := ⟨⟨by decide +kernel, by decide +kernel⟩, List.mem_of_getElem? (i := 650) (by decide +kernel), List.mem_of_getElem? (i := 914) (by decide +kernel), List.mem_of_getElem? (i := 915) (by decide +kernel)⟩
theorem lw_p35 : lw_okq (⟨"SneezeRaceModel", "allWays", "()J"⟩, 27) := ⟨⟨by decide +kernel, by decide +kernel⟩, List.mem_of_getElem? (i := 650) (by decide +kernel), List.mem_of_getElem? (i := 918) (by decide +kernel), List.mem_of_getElem? (i := 919) (by decide +kernel)⟩
theorem lw_p36 : lw_okq (⟨"SneezeRaceModel", "holdsFrom", "(I)Z"⟩, 27) := ⟨⟨by decide +kernel, by decide +kernel⟩, List.mem_of_getElem? (i := 650) (by decide +kernel), List.mem_of_getElem? (i := 942) (by decide +kernel), List.mem_of_getElem? (i := 943) (by decide +kernel)⟩
theorem lw_p37 : lw_okq (⟨"SneezeRaceModel", "passAll", "()V"⟩, 27) := ⟨⟨by decide +kernel, by decide +kernel⟩, List.mem_of_getElem? (i := 650) (by decide +kernel), List.mem_of_getElem? (i := 965) (by decide +kernel), List.mem_of_getElem? (i := 966) (by decide +kernel)⟩
theorem lw_p38 : lw_okq (⟨"SneezeRaceModel", "pass", "(I)I"⟩, 27) := ⟨⟨by decide +kernel, by decide +kernel⟩, List.mem_of_getElem? (i := 650) (by decide +kernel), List.mem_of_getElem? (i := 969) (by decide +kernel), List.mem_of_getElem? (i := 970) (by decide +kernel)⟩
def lw_privs_3 : List (MethodName × Nat) := [(⟨"SneezeRaceModel", "goMinutes", "()V"⟩, 27), (⟨"SneezeRaceModel", "goChance", "(II)J"⟩, 27), (⟨"SneezeRaceModel", "heaviest", "()I"⟩, 27), (⟨"SneezeRaceModel", "allWays", "()J"⟩, 27), (⟨"SneezeRaceModel", "holdsFrom", "(I)Z"⟩, 27), (⟨"SneezeRaceModel", "passAll", "()V"⟩, 27), (⟨"SneezeRaceModel", "pass", "(I)I"⟩, 27)]
theorem lw_r3 : ∀ q ∈ lw_privs_3, lw_okq q := List.forall_mem_cons.mpr ⟨lw_p32, List.forall_mem_cons.mpr ⟨lw_p33, List.forall_mem_cons.mpr ⟨lw_p34, List.forall_mem_cons.mpr ⟨lw_p35, List.forall_mem_cons.mpr ⟨lw_p36, List.forall_mem_cons.mpr ⟨lw_p37, List.forall_mem_cons.mpr ⟨lw_p38, fun _ h => absurd h List.not_mem_nil⟩⟩⟩⟩⟩⟩⟩
def lw_privs : List (MethodName × Nat) := lw_privs_1 ++ (lw_privs_2 ++ (lw_privs_3))
def lw_tbl : List Cond := k2_sels lw_privs ++ tables_1
theorem lw_privs_ok : ∀ q ∈ lw_privs, lw_okq q := by
  show ∀ q ∈ lw_privs_1 ++ (lw_privs_2 ++ (lw_privs_3)), lw_okq q
  exact List.forall_mem_append.mpr ⟨lw_r1, List.forall_mem_append.mpr ⟨lw_r2, lw_r3⟩⟩
-- ===== end of PART A; then your names; then what follows =====
end
section
/-! names and the tables' words by their places (written by wip/whole/mkwords.py; names and decode rows as claim/NAMES.whole.lean.txt prints them) -/
def zq_nest (w : Cond) : Bool := match w with
  | .methodLinkNest _ _ _ _ => true
  | .fieldLinkNest _ _ _ _ _ _ => true
  | _ => false
def zt : List Cond := lw_tbl.filter (fun w => goodWord w || zq_nest w)
theorem zw_at (i : Nat) {w : Cond} (h : lw_tbl[i]? = some w ∧ (goodWord w || zq_nest w) = true) : w ∈ zt := List.mem_filter.mpr ⟨List.mem_of_getElem? h.1, h.2⟩
def RX0 : String := "SneezeRace$Balloon"
def TX0 : u_T := fun k => match k with
  | 0 => ("SneezeRace$Balloon", "place", "I", false)
  | 1 => ("SneezeRace$Balloon", "gas", "I", false)
  | 2 => ("SneezeRace$Balloon", "aboard", "I", false)
  | _ => ("SneezeRace$Balloon", "minute", "I", false)
def tyX0 : Nat → FieldType := fun k => match k with
  | 0 => .int
  | 1 => .int
  | 2 => .int
  | _ => .int
abbrev wsX00 : List Cond := u_ws RX0 TX0 4
theorem nmX0 : ∀ a, a < 4 → ∀ b, b < 4 → a ≠ b → (TX0 a).2.1 ≠ (TX0 b).2.1 := by decide +kernel
theorem tyX0_ok : ∀ k, k < 4 → parseFieldDescriptor (TX0 k).2.2.1 = some (tyX0 k) := by decide +kernel
abbrev cX0_init : ByteArray := prog_2_method_1_code
def yX0_init : MethodName := ⟨RX0, "<init>", "()V"⟩
abbrev cX0_start : ByteArray := prog_2_method_2_code
def yX0_start : MethodName := ⟨RX0, "start", "(III)V"⟩
abbrev cX0_fly : ByteArray := prog_2_method_3_code
def yX0_fly : MethodName := ⟨RX0, "fly", "(LSneezeRace$Setup;)V"⟩
abbrev cX0_lose : ByteArray := prog_2_method_4_code
def yX0_lose : MethodName := ⟨RX0, "lose", "(I)V"⟩
abbrev cX0_place : ByteArray := prog_2_method_5_code
def yX0_place : MethodName := ⟨RX0, "place", "()I"⟩
abbrev cX0_gas : ByteArray := prog_2_method_6_code
def yX0_gas : MethodName := ⟨RX0, "gas", "()I"⟩
abbrev cX0_aboard : ByteArray := prog_2_method_7_code
def yX0_aboard : MethodName := ⟨RX0, "aboard", "()I"⟩
def RX1 : String := "SneezeRace$Chances"
def TX1 : u_T := fun k => match k with
  | _ => ("SneezeRace$Chances", "left", "[I", true)
def tyX1 : Nat → FieldType := fun k => match k with
  | _ => .array .int
abbrev wsX10 : List Cond := u_ws RX1 TX1 1
theorem nmX1 : ∀ a, a < 1 → ∀ b, b < 1 → a ≠ b → (TX1 a).2.1 ≠ (TX1 b).2.1 := by decide +kernel
theorem tyX1_ok : ∀ k, k < 1 → parseFieldDescriptor (TX1 k).2.2.1 = some (tyX1 k) := by decide +kernel
abbrev cX1_init : ByteArray := prog_3_method_1_code
def yX1_init : MethodName := ⟨RX1, "<init>", "()V"⟩
abbrev cX1_line : ByteArray := prog_3_method_2_code
def yX1_line : MethodName := ⟨RX1, "line", "(LSneezeRace$Setup;)V"⟩
abbrev cX1_all : ByteArray := prog_3_method_3_code
def yX1_all : MethodName := ⟨RX1, "all", "(LSneezeRace$Chart;)J"⟩
abbrev cX1_landing : ByteArray := prog_3_method_4_code
def yX1_landing : MethodName := ⟨RX1, "landing", "(LSneezeRace$Chart;III)J"⟩
abbrev cX1_places : ByteArray := prog_3_method_5_code
def yX1_places : MethodName := ⟨RX1, "places", "(LSneezeRace$Chart;I)J"⟩
abbrev cX1_placeBy : ByteArray := prog_3_method_6_code
def yX1_placeBy : MethodName := ⟨RX1, "placeBy", "(LSneezeRace$Chart;I)I"⟩
abbrev cX1_chance : ByteArray := prog_3_method_7_code
def yX1_chance : MethodName := ⟨RX1, "chance", "(LSneezeRace$Chart;II)J"⟩
abbrev cX1_power : ByteArray := prog_3_method_8_code
def yX1_power : MethodName := ⟨RX1, "power", "(II)J"⟩
def RX2 : String := "SneezeRace$Chart"
def TX2 : u_T := fun k => match k with
  | 0 => ("SneezeRace$Chart", "drifts", "[I", true)
  | _ => ("SneezeRace$Chart", "sneezes", "I", false)
def tyX2 : Nat → FieldType := fun k => match k with
  | 0 => .array .int
  | _ => .int
abbrev wsX20 : List Cond := u_ws RX2 TX2 2
theorem nmX2 : ∀ a, a < 2 → ∀ b, b < 2 → a ≠ b → (TX2 a).2.1 ≠ (TX2 b).2.1 := by decide +kernel
theorem tyX2_ok : ∀ k, k < 2 → parseFieldDescriptor (TX2 k).2.2.1 = some (tyX2 k) := by decide +kernel
abbrev cX2_init : ByteArray := prog_4_method_1_code
def yX2_init : MethodName := ⟨RX2, "<init>", "()V"⟩
abbrev cX2_sneezes : ByteArray := prog_4_method_2_code
def yX2_sneezes : MethodName := ⟨RX2, "sneezes", "()I"⟩
abbrev cX2_drift : ByteArray := prog_4_method_3_code
def yX2_drift : MethodName := ⟨RX2, "drift", "(II)I"⟩
abbrev cX2_draw : ByteArray := prog_4_method_4_code
def yX2_draw : MethodName := ⟨RX2, "draw", "(LSneezeRace$Setup;LSneezeRace$Pad;)V"⟩
abbrev cX2_addMinute : ByteArray := prog_4_method_5_code
def yX2_addMinute : MethodName := ⟨RX2, "addMinute", "(LSneezeRace$Setup;II)V"⟩
def RX3 : String := "SneezeRace$Falls"
def TX3 : u_T := fun k => match k with
  | 0 => ("SneezeRace$Falls", "places", "[I", true)
  | _ => ("SneezeRace$Falls", "fallen", "I", false)
def tyX3 : Nat → FieldType := fun k => match k with
  | 0 => .array .int
  | _ => .int
abbrev wsX30 : List Cond := u_ws RX3 TX3 2
theorem nmX3 : ∀ a, a < 2 → ∀ b, b < 2 → a ≠ b → (TX3 a).2.1 ≠ (TX3 b).2.1 := by decide +kernel
theorem tyX3_ok : ∀ k, k < 2 → parseFieldDescriptor (TX3 k).2.2.1 = some (tyX3 k) := by decide +kernel
abbrev cX3_init : ByteArray := prog_5_method_1_code
def yX3_init : MethodName := ⟨RX3, "<init>", "()V"⟩
abbrev cX3_clear : ByteArray := prog_5_method_2_code
def yX3_clear : MethodName := ⟨RX3, "clear", "()V"⟩
abbrev cX3_note : ByteArray := prog_5_method_3_code
def yX3_note : MethodName := ⟨RX3, "note", "(II)V"⟩
abbrev cX3_saw : ByteArray := prog_5_method_4_code
def yX3_saw : MethodName := ⟨RX3, "saw", "(II)Z"⟩
def RX4 : String := "SneezeRace$Pad"
def TX4 : u_T := fun k => match k with
  | 0 => ("SneezeRace$Pad", "signs", "[I", true)
  | _ => ("SneezeRace$Pad", "length", "I", false)
def tyX4 : Nat → FieldType := fun k => match k with
  | 0 => .array .int
  | _ => .int
abbrev wsX40 : List Cond := u_ws RX4 TX4 2
theorem nmX4 : ∀ a, a < 2 → ∀ b, b < 2 → a ≠ b → (TX4 a).2.1 ≠ (TX4 b).2.1 := by decide +kernel
theorem tyX4_ok : ∀ k, k < 2 → parseFieldDescriptor (TX4 k).2.2.1 = some (tyX4 k) := by decide +kernel
abbrev cX4_init : ByteArray := prog_6_method_1_code
def yX4_init : MethodName := ⟨RX4, "<init>", "()V"⟩
abbrev cX4_length : ByteArray := prog_6_method_2_code
def yX4_length : MethodName := ⟨RX4, "length", "()I"⟩
abbrev cX4_sign : ByteArray := prog_6_method_3_code
def yX4_sign : MethodName := ⟨RX4, "sign", "(I)I"⟩
abbrev cX4_write : ByteArray := prog_6_method_4_code
def yX4_write : MethodName := ⟨RX4, "write", "(I)V"⟩
abbrev cX4_clear : ByteArray := prog_6_method_5_code
def yX4_clear : MethodName := ⟨RX4, "clear", "()V"⟩
abbrev cX4_count : ByteArray := prog_6_method_6_code
def yX4_count : MethodName := ⟨RX4, "count", "(I)I"⟩
abbrev cX4_hasThrow : ByteArray := prog_6_method_7_code
def yX4_hasThrow : MethodName := ⟨RX4, "hasThrow", "()Z"⟩
abbrev cX4_fines : ByteArray := prog_6_method_8_code
def yX4_fines : MethodName := ⟨RX4, "fines", "()I"⟩
def RX5 : String := "SneezeRace$Pepper"
def TX5 : u_T := fun k => match k with
  | 0 => ("SneezeRace$Pepper", "minutes", "[I", true)
  | _ => ("SneezeRace$Pepper", "count", "I", false)
def tyX5 : Nat → FieldType := fun k => match k with
  | 0 => .array .int
  | _ => .int
abbrev wsX50 : List Cond := u_ws RX5 TX5 2
theorem nmX5 : ∀ a, a < 2 → ∀ b, b < 2 → a ≠ b → (TX5 a).2.1 ≠ (TX5 b).2.1 := by decide +kernel
theorem tyX5_ok : ∀ k, k < 2 → parseFieldDescriptor (TX5 k).2.2.1 = some (tyX5 k) := by decide +kernel
abbrev cX5_init : ByteArray := prog_7_method_1_code
def yX5_init : MethodName := ⟨RX5, "<init>", "()V"⟩
abbrev cX5_gather : ByteArray := prog_7_method_2_code
def yX5_gather : MethodName := ⟨RX5, "gather", "(LSneezeRace$Pad;II)V"⟩
abbrev cX5_add : ByteArray := prog_7_method_3_code
def yX5_add : MethodName := ⟨RX5, "add", "(II)V"⟩
abbrev cX5_firstDoubt : ByteArray := prog_7_method_4_code
def yX5_firstDoubt : MethodName := ⟨RX5, "firstDoubt", "(II)I"⟩
abbrev cX5_near : ByteArray := prog_7_method_5_code
def yX5_near : MethodName := ⟨RX5, "near", "(II)I"⟩
def RX6 : String := "SneezeRace$Search"
def TX6 : u_T := fun k => match k with
  | 0 => ("SneezeRace$Search", "picked", "[I", true)
  | 1 => ("SneezeRace$Search", "best", "[I", true)
  | 2 => ("SneezeRace$Search", "goal", "I", false)
  | 3 => ("SneezeRace$Search", "off", "I", false)
  | _ => ("SneezeRace$Search", "thrown", "I", false)
def tyX6 : Nat → FieldType := fun k => match k with
  | 0 => .array .int
  | 1 => .array .int
  | 2 => .int
  | 3 => .int
  | _ => .int
abbrev wsX60 : List Cond := u_ws RX6 TX6 5
theorem nmX6 : ∀ a, a < 5 → ∀ b, b < 5 → a ≠ b → (TX6 a).2.1 ≠ (TX6 b).2.1 := by decide +kernel
theorem tyX6_ok : ∀ k, k < 5 → parseFieldDescriptor (TX6 k).2.2.1 = some (tyX6 k) := by decide +kernel
abbrev cX6_init : ByteArray := prog_8_method_1_code
def yX6_init : MethodName := ⟨RX6, "<init>", "()V"⟩
abbrev cX6_begin : ByteArray := prog_8_method_2_code
def yX6_begin : MethodName := ⟨RX6, "begin", "(I)V"⟩
abbrev cX6_pick : ByteArray := prog_8_method_3_code
def yX6_pick : MethodName := ⟨RX6, "pick", "(II)V"⟩
abbrev cX6_end : ByteArray := prog_8_method_4_code
def yX6_end : MethodName := ⟨RX6, "end", "(II)V"⟩
abbrev cX6_off : ByteArray := prog_8_method_5_code
def yX6_off : MethodName := ⟨RX6, "off", "()I"⟩
abbrev cX6_chosen : ByteArray := prog_8_method_6_code
def yX6_chosen : MethodName := ⟨RX6, "chosen", "(I)I"⟩
def RX7 : String := "SneezeRace$Setup"
def TX7 : u_T := fun k => match k with
  | 0 => ("SneezeRace$Setup", "numbers", "[I", true)
  | 1 => ("SneezeRace$Setup", "winds", "[I", true)
  | 2 => ("SneezeRace$Setup", "weights", "[I", true)
  | 3 => ("SneezeRace$Setup", "sightThings", "[I", true)
  | 4 => ("SneezeRace$Setup", "sightPlaces", "[I", true)
  | 5 => ("SneezeRace$Setup", "sights", "I", false)
  | _ => ("SneezeRace$Setup", "kept", "Z", false)
def tyX7 : Nat → FieldType := fun k => match k with
  | 0 => .array .int
  | 1 => .array .int
  | 2 => .array .int
  | 3 => .array .int
  | 4 => .array .int
  | 5 => .int
  | _ => .boolean
abbrev wsX70 : List Cond := u_ws RX7 TX7 7
theorem nmX7 : ∀ a, a < 7 → ∀ b, b < 7 → a ≠ b → (TX7 a).2.1 ≠ (TX7 b).2.1 := by decide +kernel
theorem tyX7_ok : ∀ k, k < 7 → parseFieldDescriptor (TX7 k).2.2.1 = some (tyX7 k) := by decide +kernel
abbrev cX7_init : ByteArray := prog_9_method_1_code
def yX7_init : MethodName := ⟨RX7, "<init>", "()V"⟩
abbrev cX7_number : ByteArray := prog_9_method_2_code
def yX7_number : MethodName := ⟨RX7, "number", "(I)I"⟩
abbrev cX7_changeNumber : ByteArray := prog_9_method_3_code
def yX7_changeNumber : MethodName := ⟨RX7, "changeNumber", "(II)V"⟩
abbrev cX7_windAt : ByteArray := prog_9_method_4_code
def yX7_windAt : MethodName := ⟨RX7, "windAt", "(II)I"⟩
abbrev cX7_changeWind : ByteArray := prog_9_method_5_code
def yX7_changeWind : MethodName := ⟨RX7, "changeWind", "(III)V"⟩
abbrev cX7_weight : ByteArray := prog_9_method_6_code
def yX7_weight : MethodName := ⟨RX7, "weight", "(I)I"⟩
abbrev cX7_changeWeight : ByteArray := prog_9_method_7_code
def yX7_changeWeight : MethodName := ⟨RX7, "changeWeight", "(II)V"⟩
abbrev cX7_sights : ByteArray := prog_9_method_8_code
def yX7_sights : MethodName := ⟨RX7, "sights", "()I"⟩
abbrev cX7_sightThing : ByteArray := prog_9_method_9_code
def yX7_sightThing : MethodName := ⟨RX7, "sightThing", "(I)I"⟩
abbrev cX7_sightPlace : ByteArray := prog_9_method_10_code
def yX7_sightPlace : MethodName := ⟨RX7, "sightPlace", "(I)I"⟩
abbrev cX7_addSight : ByteArray := prog_9_method_11_code
def yX7_addSight : MethodName := ⟨RX7, "addSight", "(II)V"⟩
abbrev cX7_forgetSights : ByteArray := prog_9_method_12_code
def yX7_forgetSights : MethodName := ⟨RX7, "forgetSights", "()V"⟩
abbrev cX7_loaded : ByteArray := prog_9_method_13_code
def yX7_loaded : MethodName := ⟨RX7, "loaded", "()I"⟩
abbrev cX7_heaviest : ByteArray := prog_9_method_14_code
def yX7_heaviest : MethodName := ⟨RX7, "heaviest", "(I)I"⟩
abbrev cX7_height : ByteArray := prog_9_method_15_code
def yX7_height : MethodName := ⟨RX7, "height", "(II)I"⟩
abbrev cX7_drift : ByteArray := prog_9_method_16_code
def yX7_drift : MethodName := ⟨RX7, "drift", "(III)I"⟩
abbrev cX7_leaked : ByteArray := prog_9_method_17_code
def yX7_leaked : MethodName := ⟨RX7, "leaked", "(I)I"⟩
abbrev cX7_become : ByteArray := prog_9_method_18_code
def yX7_become : MethodName := ⟨RX7, "become", "(LSneezeRace$Setup;)V"⟩
abbrev cX7_keep : ByteArray := prog_9_method_19_code
def yX7_keep : MethodName := ⟨RX7, "keep", "(LSneezeRace$Setup;)V"⟩
abbrev cX7_isKept : ByteArray := prog_9_method_20_code
def yX7_isKept : MethodName := ⟨RX7, "isKept", "()Z"⟩
def RX8 : String := "SneezeRace"
def TX8 : u_T := fun k => match k with
  | 0 => ("SneezeRace", "setup", "LSneezeRace$Setup;", true)
  | 1 => ("SneezeRace", "firstImage", "LSneezeRace$Setup;", true)
  | 2 => ("SneezeRace", "secondImage", "LSneezeRace$Setup;", true)
  | 3 => ("SneezeRace", "pad", "LSneezeRace$Pad;", true)
  | 4 => ("SneezeRace", "balloon", "LSneezeRace$Balloon;", true)
  | 5 => ("SneezeRace", "rival", "LSneezeRace$Balloon;", true)
  | 6 => ("SneezeRace", "sneezes", "LSneezeRace$Pepper;", true)
  | 7 => ("SneezeRace", "chart", "LSneezeRace$Chart;", true)
  | 8 => ("SneezeRace", "search", "LSneezeRace$Search;", true)
  | 9 => ("SneezeRace", "chances", "LSneezeRace$Chances;", true)
  | _ => ("SneezeRace", "falls", "LSneezeRace$Falls;", true)
def tyX8 : Nat → FieldType := fun k => match k with
  | 0 => .object "SneezeRace$Setup"
  | 1 => .object "SneezeRace$Setup"
  | 2 => .object "SneezeRace$Setup"
  | 3 => .object "SneezeRace$Pad"
  | 4 => .object "SneezeRace$Balloon"
  | 5 => .object "SneezeRace$Balloon"
  | 6 => .object "SneezeRace$Pepper"
  | 7 => .object "SneezeRace$Chart"
  | 8 => .object "SneezeRace$Search"
  | 9 => .object "SneezeRace$Chances"
  | _ => .object "SneezeRace$Falls"
abbrev wsX80 : List Cond := u_ws RX8 TX8 11
theorem nmX8 : ∀ a, a < 11 → ∀ b, b < 11 → a ≠ b → (TX8 a).2.1 ≠ (TX8 b).2.1 := by decide +kernel
theorem tyX8_ok : ∀ k, k < 11 → parseFieldDescriptor (TX8 k).2.2.1 = some (tyX8 k) := by decide +kernel
abbrev cX8_init : ByteArray := prog_1_method_1_code
def yX8_init : MethodName := ⟨RX8, "<init>", "()V"⟩
abbrev cX8_wind : ByteArray := prog_1_method_2_code
def yX8_wind : MethodName := ⟨RX8, "wind", "(III)I"⟩
abbrev cX8_set : ByteArray := prog_1_method_3_code
def yX8_set : MethodName := ⟨RX8, "set", "(II)I"⟩
abbrev cX8_load : ByteArray := prog_1_method_4_code
def yX8_load : MethodName := ⟨RX8, "load", "(II)I"⟩
abbrev cX8_say : ByteArray := prog_1_method_5_code
def yX8_say : MethodName := ⟨RX8, "say", "(I)I"⟩
abbrev cX8_wipe : ByteArray := prog_1_method_6_code
def yX8_wipe : MethodName := ⟨RX8, "wipe", "()I"⟩
abbrev cX8_fault : ByteArray := prog_1_method_7_code
def yX8_fault : MethodName := ⟨RX8, "fault", "()I"⟩
abbrev cX8_at : ByteArray := prog_1_method_8_code
def yX8_at : MethodName := ⟨RX8, "at", "(II)I"⟩
abbrev cX8_judge : ByteArray := prog_1_method_9_code
def yX8_judge : MethodName := ⟨RX8, "judge", "(I)I"⟩
abbrev cX8_pepper : ByteArray := prog_1_method_10_code
def yX8_pepper : MethodName := ⟨RX8, "pepper", "(I)I"⟩
abbrev cX8_nearest : ByteArray := prog_1_method_11_code
def yX8_nearest : MethodName := ⟨RX8, "nearest", "(II)I"⟩
abbrev cX8_field : ByteArray := prog_1_method_12_code
def yX8_field : MethodName := ⟨RX8, "field", "(II)I"⟩
abbrev cX8_take : ByteArray := prog_1_method_13_code
def yX8_take : MethodName := ⟨RX8, "take", "(II)I"⟩
abbrev cX8_stay : ByteArray := prog_1_method_14_code
def yX8_stay : MethodName := ⟨RX8, "stay", "(II)I"⟩
abbrev cX8_likely : ByteArray := prog_1_method_15_code
def yX8_likely : MethodName := ⟨RX8, "likely", "(IIII)J"⟩
abbrev cX8_mean : ByteArray := prog_1_method_16_code
def yX8_mean : MethodName := ⟨RX8, "mean", "(II)J"⟩
abbrev cX8_fell : ByteArray := prog_1_method_17_code
def yX8_fell : MethodName := ⟨RX8, "fell", "(II)I"⟩
abbrev cX8_forget : ByteArray := prog_1_method_18_code
def yX8_forget : MethodName := ⟨RX8, "forget", "()I"⟩
abbrev cX8_starts : ByteArray := prog_1_method_19_code
def yX8_starts : MethodName := ⟨RX8, "starts", "(I)I"⟩
abbrev cX8_ahead : ByteArray := prog_1_method_20_code
def yX8_ahead : MethodName := ⟨RX8, "ahead", "(II)I"⟩
abbrev cX8_year : ByteArray := prog_1_method_21_code
def yX8_year : MethodName := ⟨RX8, "year", "(III)I"⟩
abbrev cX8_image : ByteArray := prog_1_method_22_code
def yX8_image : MethodName := ⟨RX8, "image", "(I)I"⟩
abbrev cX8_restore : ByteArray := prog_1_method_23_code
def yX8_restore : MethodName := ⟨RX8, "restore", "(I)I"⟩
abbrev cX8_told : ByteArray := prog_1_method_24_code
def yX8_told : MethodName := ⟨RX8, "told", "(I)I"⟩
abbrev cX8_within : ByteArray := prog_1_method_25_code
def yX8_within : MethodName := ⟨RX8, "within", "(III)Z"⟩
abbrev cX8_isThing : ByteArray := prog_1_method_26_code
def yX8_isThing : MethodName := ⟨RX8, "isThing", "(I)Z"⟩
abbrev cX8_isPlace : ByteArray := prog_1_method_27_code
def yX8_isPlace : MethodName := ⟨RX8, "isPlace", "(I)Z"⟩
abbrev cX8_isStretch : ByteArray := prog_1_method_28_code
def yX8_isStretch : MethodName := ⟨RX8, "isStretch", "(II)Z"⟩
abbrev cX8_courseRefusal : ByteArray := prog_1_method_29_code
def yX8_courseRefusal : MethodName := ⟨RX8, "courseRefusal", "(Z)I"⟩
abbrev cX8_choiceRefusal : ByteArray := prog_1_method_30_code
def yX8_choiceRefusal : MethodName := ⟨RX8, "choiceRefusal", "(Z)I"⟩
abbrev cX8_thingOf : ByteArray := prog_1_method_31_code
def yX8_thingOf : MethodName := ⟨RX8, "thingOf", "(I)I"⟩
abbrev cX8_firstFault : ByteArray := prog_1_method_32_code
def yX8_firstFault : MethodName := ⟨RX8, "firstFault", "()I"⟩
abbrev cX8_has : ByteArray := prog_1_method_33_code
def yX8_has : MethodName := ⟨RX8, "has", "(II)Z"⟩
abbrev cX8_without : ByteArray := prog_1_method_34_code
def yX8_without : MethodName := ⟨RX8, "without", "(II)I"⟩
abbrev cX8_flyBehind : ByteArray := prog_1_method_35_code
def yX8_flyBehind : MethodName := ⟨RX8, "flyBehind", "(I)V"⟩
abbrev cX8_offWith : ByteArray := prog_1_method_36_code
def yX8_offWith : MethodName := ⟨RX8, "offWith", "(III)I"⟩
abbrev cX8_sightsHold : ByteArray := prog_1_method_37_code
def yX8_sightsHold : MethodName := ⟨RX8, "sightsHold", "(I)Z"⟩
abbrev cX8_flyByDraws : ByteArray := prog_1_method_38_code
def yX8_flyByDraws : MethodName := ⟨RX8, "flyByDraws", "(I)I"⟩
abbrev cX8_doubtWith : ByteArray := prog_1_method_39_code
def yX8_doubtWith : MethodName := ⟨RX8, "doubtWith", "(II)I"⟩
abbrev cX8_seek : ByteArray := prog_1_method_40_code
def yX8_seek : MethodName := ⟨RX8, "seek", "(LSneezeRace$Chart;LSneezeRace$Search;IIII)V"⟩
abbrev cX8_ways : ByteArray := prog_1_method_41_code
def yX8_ways : MethodName := ⟨RX8, "ways", "(LSneezeRace$Chart;IIIII)I"⟩
abbrev cX8_oneOf : ByteArray := prog_1_method_42_code
def yX8_oneOf : MethodName := ⟨RX8, "oneOf", "(IIII)I"⟩
abbrev cX8_inLowestTerms : ByteArray := prog_1_method_43_code
def yX8_inLowestTerms : MethodName := ⟨RX8, "inLowestTerms", "(JJI)J"⟩
abbrev cX8_commonDivisor : ByteArray := prog_1_method_44_code
def yX8_commonDivisor : MethodName := ⟨RX8, "commonDivisor", "(JJ)J"⟩
abbrev cX8_cell : ByteArray := prog_1_method_45_code
def yX8_cell : MethodName := ⟨RX8, "cell", "([II)I"⟩
abbrev cX8_put : ByteArray := prog_1_method_46_code
def yX8_put : MethodName := ⟨RX8, "put", "([III)V"⟩
abbrev cX8_copy : ByteArray := prog_1_method_47_code
def yX8_copy : MethodName := ⟨RX8, "copy", "([I[I)V"⟩
abbrev cX8_imageOf : ByteArray := prog_1_method_48_code
def yX8_imageOf : MethodName := ⟨RX8, "imageOf", "(I)LSneezeRace$Setup;"⟩
def RX9 : String := "SneezeRaceModel"
def TX9 : u_T := fun k => match k with
  | 0 => ("SneezeRaceModel", "turn", "I", false)
  | 1 => ("SneezeRaceModel", "gas", "I", false)
  | 2 => ("SneezeRaceModel", "leak", "I", false)
  | 3 => ("SneezeRaceModel", "step", "I", false)
  | 4 => ("SneezeRaceModel", "doubts", "I", false)
  | 5 => ("SneezeRaceModel", "window", "I", false)
  | 6 => ("SneezeRaceModel", "early", "[I", true)
  | 7 => ("SneezeRaceModel", "late", "[I", true)
  | 8 => ("SneezeRaceModel", "weight", "[I", true)
  | 9 => ("SneezeRaceModel", "sightThing", "[I", true)
  | 10 => ("SneezeRaceModel", "sightPlace", "[I", true)
  | 11 => ("SneezeRaceModel", "sights", "I", false)
  | 12 => ("SneezeRaceModel", "pad", "[I", true)
  | 13 => ("SneezeRaceModel", "padMany", "I", false)
  | 14 => ("SneezeRaceModel", "place", "I", false)
  | 15 => ("SneezeRaceModel", "minute", "I", false)
  | 16 => ("SneezeRaceModel", "left", "I", false)
  | 17 => ("SneezeRaceModel", "aboard", "I", false)
  | 18 => ("SneezeRaceModel", "sneezesAt", "[I", true)
  | 19 => ("SneezeRaceModel", "throwAt", "[I", true)
  | 20 => ("SneezeRaceModel", "best", "[I", true)
  | 21 => ("SneezeRaceModel", "fellAt", "[I", true)
  | 22 => ("SneezeRaceModel", "placeAt", "[I", true)
  | 23 => ("SneezeRaceModel", "kept", "[I", true)
  | 24 => ("SneezeRaceModel", "isKept", "[Z", true)
  | 25 => ("SneezeRaceModel", "keptAt", "I", false)
  | _ => ("SneezeRaceModel", "isWriting", "Z", false)
def tyX9 : Nat → FieldType := fun k => match k with
  | 0 => .int
  | 1 => .int
  | 2 => .int
  | 3 => .int
  | 4 => .int
  | 5 => .int
  | 6 => .array .int
  | 7 => .array .int
  | 8 => .array .int
  | 9 => .array .int
  | 10 => .array .int
  | 11 => .int
  | 12 => .array .int
  | 13 => .int
  | 14 => .int
  | 15 => .int
  | 16 => .int
  | 17 => .int
  | 18 => .array .int
  | 19 => .array .int
  | 20 => .array .int
  | 21 => .array .int
  | 22 => .array .int
  | 23 => .array .int
  | 24 => .array .boolean
  | 25 => .int
  | _ => .boolean
abbrev wsX90 : List Cond := u_ws RX9 TX9 27
theorem nmX9 : ∀ a, a < 27 → ∀ b, b < 27 → a ≠ b → (TX9 a).2.1 ≠ (TX9 b).2.1 := by decide +kernel
theorem tyX9_ok : ∀ k, k < 27 → parseFieldDescriptor (TX9 k).2.2.1 = some (tyX9 k) := by decide +kernel
abbrev cX9_init : ByteArray := prog_11_method_1_code
def yX9_init : MethodName := ⟨RX9, "<init>", "()V"⟩
abbrev cX9_in : ByteArray := prog_11_method_3_code
def yX9_in : MethodName := ⟨RX9, "in", "(JJJ)Z"⟩
abbrev cX9_wind : ByteArray := prog_11_method_4_code
def yX9_wind : MethodName := ⟨RX9, "wind", "(III)I"⟩
abbrev cX9_set : ByteArray := prog_11_method_5_code
def yX9_set : MethodName := ⟨RX9, "set", "(II)I"⟩
abbrev cX9_isThing : ByteArray := prog_11_method_6_code
def yX9_isThing : MethodName := ⟨RX9, "isThing", "(I)Z"⟩
abbrev cX9_load : ByteArray := prog_11_method_7_code
def yX9_load : MethodName := ⟨RX9, "load", "(II)I"⟩
abbrev cX9_loaded : ByteArray := prog_11_method_8_code
def yX9_loaded : MethodName := ⟨RX9, "loaded", "()I"⟩
abbrev cX9_say : ByteArray := prog_11_method_9_code
def yX9_say : MethodName := ⟨RX9, "say", "(I)I"⟩
abbrev cX9_wipe : ByteArray := prog_11_method_10_code
def yX9_wipe : MethodName := ⟨RX9, "wipe", "()I"⟩
abbrev cX9_fault : ByteArray := prog_11_method_11_code
def yX9_fault : MethodName := ⟨RX9, "fault", "()I"⟩
abbrev cX9_start : ByteArray := prog_11_method_12_code
def yX9_start : MethodName := ⟨RX9, "start", "(II)V"⟩
abbrev cX9_startNow : ByteArray := prog_11_method_13_code
def yX9_startNow : MethodName := ⟨RX9, "startNow", "()V"⟩
abbrev cX9_height : ByteArray := prog_11_method_14_code
def yX9_height : MethodName := ⟨RX9, "height", "()I"⟩
abbrev cX9_drift : ByteArray := prog_11_method_15_code
def yX9_drift : MethodName := ⟨RX9, "drift", "()V"⟩
abbrev cX9_heaviest : ByteArray := prog_11_method_16_code
def yX9_heaviest : MethodName := ⟨RX9, "heaviest", "()I"⟩
abbrev cX9_throwOut : ByteArray := prog_11_method_17_code
def yX9_throwOut : MethodName := ⟨RX9, "throwOut", "(I)V"⟩
abbrev cX9_countOf : ByteArray := prog_11_method_18_code
def yX9_countOf : MethodName := ⟨RX9, "countOf", "(I)I"⟩
abbrev cX9_ones : ByteArray := prog_11_method_19_code
def yX9_ones : MethodName := ⟨RX9, "ones", "(I)I"⟩
abbrev cX9_happen : ByteArray := prog_11_method_20_code
def yX9_happen : MethodName := ⟨RX9, "happen", "(I)V"⟩
abbrev cX9_at : ByteArray := prog_11_method_21_code
def yX9_at : MethodName := ⟨RX9, "at", "(II)I"⟩
abbrev cX9_fines : ByteArray := prog_11_method_22_code
def yX9_fines : MethodName := ⟨RX9, "fines", "()I"⟩
abbrev cX9_findSneezes : ByteArray := prog_11_method_23_code
def yX9_findSneezes : MethodName := ⟨RX9, "findSneezes", "()V"⟩
abbrev cX9_within : ByteArray := prog_11_method_24_code
def yX9_within : MethodName := ⟨RX9, "within", "(I)I"⟩
abbrev cX9_doubted : ByteArray := prog_11_method_25_code
def yX9_doubted : MethodName := ⟨RX9, "doubted", "()I"⟩
abbrev cX9_judge : ByteArray := prog_11_method_26_code
def yX9_judge : MethodName := ⟨RX9, "judge", "(I)I"⟩
abbrev cX9_isDoubted : ByteArray := prog_11_method_27_code
def yX9_isDoubted : MethodName := ⟨RX9, "isDoubted", "()Z"⟩
abbrev cX9_pepper : ByteArray := prog_11_method_28_code
def yX9_pepper : MethodName := ⟨RX9, "pepper", "(I)I"⟩
abbrev cX9_refusal : ByteArray := prog_11_method_29_code
def yX9_refusal : MethodName := ⟨RX9, "refusal", "(I)I"⟩
abbrev cX9_layThrows : ByteArray := prog_11_method_30_code
def yX9_layThrows : MethodName := ⟨RX9, "layThrows", "(II)Z"⟩
abbrev cX9_goCourse : ByteArray := prog_11_method_31_code
def yX9_goCourse : MethodName := ⟨RX9, "goCourse", "()V"⟩
abbrev cX9_sevens : ByteArray := prog_11_method_32_code
def yX9_sevens : MethodName := ⟨RX9, "sevens", "(I)I"⟩
abbrev cX9_isGoal : ByteArray := prog_11_method_33_code
def yX9_isGoal : MethodName := ⟨RX9, "isGoal", "(I)Z"⟩
abbrev cX9_apart : ByteArray := prog_11_method_34_code
def yX9_apart : MethodName := ⟨RX9, "apart", "(I)I"⟩
abbrev cX9_nearest : ByteArray := prog_11_method_35_code
def yX9_nearest : MethodName := ⟨RX9, "nearest", "(II)I"⟩
abbrev cX9_isSpan : ByteArray := prog_11_method_36_code
def yX9_isSpan : MethodName := ⟨RX9, "isSpan", "(II)Z"⟩
abbrev cX9_field : ByteArray := prog_11_method_37_code
def yX9_field : MethodName := ⟨RX9, "field", "(II)I"⟩
abbrev cX9_goMinutes : ByteArray := prog_11_method_38_code
def yX9_goMinutes : MethodName := ⟨RX9, "goMinutes", "()V"⟩
abbrev cX9_take : ByteArray := prog_11_method_39_code
def yX9_take : MethodName := ⟨RX9, "take", "(II)I"⟩
abbrev cX9_stay : ByteArray := prog_11_method_40_code
def yX9_stay : MethodName := ⟨RX9, "stay", "(II)I"⟩
abbrev cX9_goChance : ByteArray := prog_11_method_41_code
def yX9_goChance : MethodName := ⟨RX9, "goChance", "(II)J"⟩
abbrev cX9_allWays : ByteArray := prog_11_method_42_code
def yX9_allWays : MethodName := ⟨RX9, "allWays", "()J"⟩
abbrev cX9_lowest : ByteArray := prog_11_method_43_code
def yX9_lowest : MethodName := ⟨RX9, "lowest", "(JJI)J"⟩
abbrev cX9_likely : ByteArray := prog_11_method_44_code
def yX9_likely : MethodName := ⟨RX9, "likely", "(IIII)J"⟩
abbrev cX9_mean : ByteArray := prog_11_method_45_code
def yX9_mean : MethodName := ⟨RX9, "mean", "(II)J"⟩
abbrev cX9_fell : ByteArray := prog_11_method_46_code
def yX9_fell : MethodName := ⟨RX9, "fell", "(II)I"⟩
abbrev cX9_forget : ByteArray := prog_11_method_47_code
def yX9_forget : MethodName := ⟨RX9, "forget", "()I"⟩
abbrev cX9_holdsFrom : ByteArray := prog_11_method_48_code
def yX9_holdsFrom : MethodName := ⟨RX9, "holdsFrom", "(I)Z"⟩
abbrev cX9_starts : ByteArray := prog_11_method_49_code
def yX9_starts : MethodName := ⟨RX9, "starts", "(I)I"⟩
abbrev cX9_ahead : ByteArray := prog_11_method_50_code
def yX9_ahead : MethodName := ⟨RX9, "ahead", "(II)I"⟩
abbrev cX9_year : ByteArray := prog_11_method_51_code
def yX9_year : MethodName := ⟨RX9, "year", "(III)I"⟩
abbrev cX9_pass : ByteArray := prog_11_method_52_code
def yX9_pass : MethodName := ⟨RX9, "pass", "(I)I"⟩
abbrev cX9_passAll : ByteArray := prog_11_method_53_code
def yX9_passAll : MethodName := ⟨RX9, "passAll", "()V"⟩
abbrev cX9_image : ByteArray := prog_11_method_54_code
def yX9_image : MethodName := ⟨RX9, "image", "(I)I"⟩
abbrev cX9_restore : ByteArray := prog_11_method_55_code
def yX9_restore : MethodName := ⟨RX9, "restore", "(I)I"⟩
abbrev cX9_told : ByteArray := prog_11_method_56_code
def yX9_told : MethodName := ⟨RX9, "told", "(I)I"⟩
def RJ6 : String := "java/lang/Integer"
abbrev cJ6_bitCount_0f7a4 : ByteArray := prog_12_method_49_code
def yJ6_bitCount_0f7a4 : MethodName := ⟨RJ6, "bitCount", "(I)I"⟩
def RJ9 : String := "java/lang/Math"
abbrev cJ9_abs_0f7a4 : ByteArray := prog_13_method_59_code
def yJ9_abs_0f7a4 : MethodName := ⟨RJ9, "abs", "(I)I"⟩
abbrev cJ9_max_7cf53 : ByteArray := prog_13_method_65_code
def yJ9_max_7cf53 : MethodName := ⟨RJ9, "max", "(II)I"⟩
abbrev cJ9_min_7cf53 : ByteArray := prog_13_method_69_code
def yJ9_min_7cf53 : MethodName := ⟨RJ9, "min", "(II)I"⟩
def RL : String := "SneezeRaceLaw"
abbrev cL_law : ByteArray := code
def yL_law : MethodName := ⟨RL, "law", "([I)Z"⟩
abbrev vwCl : List vw_C := [(RX0, TX0, 4), (RX1, TX1, 1), (RX2, TX2, 2), (RX3, TX3, 2), (RX4, TX4, 2), (RX5, TX5, 2), (RX6, TX6, 5), (RX7, TX7, 7), (RX8, TX8, 11), (RX9, TX9, 27)]
theorem ini_RL : Cond.initialized RL ∈ zt := zw_at 39 (by decide +kernel)
theorem ini_RX8 : Cond.initialized RX8 ∈ zt := zw_at 40 (by decide +kernel)
theorem ini_RX7 : Cond.initialized RX7 ∈ zt := zw_at 41 (by decide +kernel)
theorem ini_RX4 : Cond.initialized RX4 ∈ zt := zw_at 42 (by decide +kernel)
theorem ini_RX0 : Cond.initialized RX0 ∈ zt := zw_at 43 (by decide +kernel)
theorem ini_RX5 : Cond.initialized RX5 ∈ zt := zw_at 44 (by decide +kernel)
theorem ini_RX2 : Cond.initialized RX2 ∈ zt := zw_at 45 (by decide +kernel)
theorem ini_RX6 : Cond.initialized RX6 ∈ zt := zw_at 46 (by decide +kernel)
theorem ini_RX1 : Cond.initialized RX1 ∈ zt := zw_at 47 (by decide +kernel)
theorem ini_RX3 : Cond.initialized RX3 ∈ zt := zw_at 48 (by decide +kernel)
theorem ini_RX9 : Cond.initialized RX9 ∈ zt := zw_at 49 (by decide +kernel)
theorem ini_Math : Cond.initialized "java/lang/Math" ∈ zt := zw_at 50 (by decide +kernel)
theorem ini_RJ6 : Cond.initialized RJ6 ∈ zt := zw_at 51 (by decide +kernel)
theorem cl_RL_7 : Cond.classLink RL 7 RX8 ∈ zt := zw_at 52 (by decide +kernel)
theorem it_RX8 : Cond.instantiable RX8 11 ∈ zt := zw_at 53 (by decide +kernel)
theorem lk_RL_9 : Cond.methodLink RL 9 yX8_init ∈ zt := zw_at 54 (by decide +kernel)
theorem im_X8_init : Cond.instanceMethod yX8_init ∈ zt := zw_at 55 (by decide +kernel)
theorem cd_X8_init : Cond.code yX8_init cX8_init 1 (Option.none : Option Jvm.ClassFile.FieldType) ∈ zt := zw_at 56 (by decide +kernel)
theorem lk_RX8_1 : Cond.methodLink RX8 1 objectInit ∈ zt := zw_at 57 (by decide +kernel)
theorem im_objectInit : Cond.instanceMethod objectInit ∈ zt := zw_at 58 (by decide +kernel)
theorem cd_objectInit : Cond.code objectInit ⟨#[0xb1]⟩ 1 none ∈ zt := zw_at 59 (by decide +kernel)
theorem cl_RX8_7 : Cond.classLink RX8 7 RX7 ∈ zt := zw_at 60 (by decide +kernel)
theorem it_RX7 : Cond.instantiable RX7 7 ∈ zt := zw_at 61 (by decide +kernel)
theorem lk_RX8_9 : Cond.methodLink RX8 9 yX7_init ∈ zt := zw_at 62 (by decide +kernel)
theorem im_X7_init : Cond.instanceMethod yX7_init ∈ zt := zw_at 63 (by decide +kernel)
theorem cd_X7_init : Cond.code yX7_init cX7_init 2 (Option.none : Option Jvm.ClassFile.FieldType) ∈ zt := zw_at 64 (by decide +kernel)
theorem lk_RX7_3 : Cond.methodLink RX7 3 objectInit ∈ zt := zw_at 65 (by decide +kernel)
theorem fn_RX7_27 : Cond.fieldLinkNest RX7 27 "SneezeRace" "AT_FIRST" "[I" "SneezeRace" ∈ zt := zw_at 66 (by decide +kernel)
theorem fl_RX7_9 : Cond.fieldLink RX7 9 "SneezeRace$Setup" "numbers" "[I" ∈ zt := zw_at 68 (by decide +kernel)
theorem fl_RX7_15 : Cond.fieldLink RX7 15 "SneezeRace$Setup" "winds" "[I" ∈ zt := zw_at 69 (by decide +kernel)
theorem fl_RX7_18 : Cond.fieldLink RX7 18 "SneezeRace$Setup" "weights" "[I" ∈ zt := zw_at 70 (by decide +kernel)
theorem fl_RX7_21 : Cond.fieldLink RX7 21 "SneezeRace$Setup" "sightThings" "[I" ∈ zt := zw_at 71 (by decide +kernel)
theorem fl_RX7_24 : Cond.fieldLink RX7 24 "SneezeRace$Setup" "sightPlaces" "[I" ∈ zt := zw_at 72 (by decide +kernel)
theorem fl_RX7_38 : Cond.fieldLink RX7 38 "SneezeRace$Setup" "sights" "I" ∈ zt := zw_at 73 (by decide +kernel)
theorem fl_RX7_76 : Cond.fieldLink RX7 76 "SneezeRace$Setup" "kept" "Z" ∈ zt := zw_at 74 (by decide +kernel)
theorem ac_int : Cond.arrayClass .int ∈ zt := zw_at 90 (by decide +kernel)
theorem cl_RX8_22 : Cond.classLink RX8 22 RX4 ∈ zt := zw_at 91 (by decide +kernel)
theorem it_RX4 : Cond.instantiable RX4 2 ∈ zt := zw_at 92 (by decide +kernel)
theorem lk_RX8_24 : Cond.methodLink RX8 24 yX4_init ∈ zt := zw_at 93 (by decide +kernel)
theorem im_X4_init : Cond.instanceMethod yX4_init ∈ zt := zw_at 94 (by decide +kernel)
theorem cd_X4_init : Cond.code yX4_init cX4_init 1 (Option.none : Option Jvm.ClassFile.FieldType) ∈ zt := zw_at 95 (by decide +kernel)
theorem lk_RX4_3 : Cond.methodLink RX4 3 objectInit ∈ zt := zw_at 96 (by decide +kernel)
theorem fl_RX4_9 : Cond.fieldLink RX4 9 "SneezeRace$Pad" "signs" "[I" ∈ zt := zw_at 97 (by decide +kernel)
theorem fl_RX4_15 : Cond.fieldLink RX4 15 "SneezeRace$Pad" "length" "I" ∈ zt := zw_at 98 (by decide +kernel)
theorem cl_RX8_29 : Cond.classLink RX8 29 RX0 ∈ zt := zw_at 104 (by decide +kernel)
theorem it_RX0 : Cond.instantiable RX0 4 ∈ zt := zw_at 105 (by decide +kernel)
theorem ln_RX8_31 : Cond.methodLinkNest RX8 31 yX0_init RX8 ∈ zt := zw_at 106 (by decide +kernel)
theorem im_X0_init : Cond.instanceMethod yX0_init ∈ zt := zw_at 107 (by decide +kernel)
theorem cd_X0_init : Cond.code yX0_init cX0_init 1 (Option.none : Option Jvm.ClassFile.FieldType) ∈ zt := zw_at 108 (by decide +kernel)
theorem lk_RX0_1 : Cond.methodLink RX0 1 objectInit ∈ zt := zw_at 109 (by decide +kernel)
theorem fl_RX0_7 : Cond.fieldLink RX0 7 "SneezeRace$Balloon" "place" "I" ∈ zt := zw_at 110 (by decide +kernel)
theorem fl_RX0_13 : Cond.fieldLink RX0 13 "SneezeRace$Balloon" "gas" "I" ∈ zt := zw_at 111 (by decide +kernel)
theorem fl_RX0_16 : Cond.fieldLink RX0 16 "SneezeRace$Balloon" "aboard" "I" ∈ zt := zw_at 112 (by decide +kernel)
theorem fl_RX0_19 : Cond.fieldLink RX0 19 "SneezeRace$Balloon" "minute" "I" ∈ zt := zw_at 113 (by decide +kernel)
theorem cl_RX8_39 : Cond.classLink RX8 39 RX5 ∈ zt := zw_at 123 (by decide +kernel)
theorem it_RX5 : Cond.instantiable RX5 2 ∈ zt := zw_at 124 (by decide +kernel)
theorem lk_RX8_41 : Cond.methodLink RX8 41 yX5_init ∈ zt := zw_at 125 (by decide +kernel)
theorem im_X5_init : Cond.instanceMethod yX5_init ∈ zt := zw_at 126 (by decide +kernel)
theorem cd_X5_init : Cond.code yX5_init cX5_init 1 (Option.none : Option Jvm.ClassFile.FieldType) ∈ zt := zw_at 127 (by decide +kernel)
theorem lk_RX5_3 : Cond.methodLink RX5 3 objectInit ∈ zt := zw_at 128 (by decide +kernel)
theorem fl_RX5_9 : Cond.fieldLink RX5 9 "SneezeRace$Pepper" "minutes" "[I" ∈ zt := zw_at 129 (by decide +kernel)
theorem fl_RX5_15 : Cond.fieldLink RX5 15 "SneezeRace$Pepper" "count" "I" ∈ zt := zw_at 130 (by decide +kernel)
theorem cl_RX8_46 : Cond.classLink RX8 46 RX2 ∈ zt := zw_at 136 (by decide +kernel)
theorem it_RX2 : Cond.instantiable RX2 2 ∈ zt := zw_at 137 (by decide +kernel)
theorem lk_RX8_48 : Cond.methodLink RX8 48 yX2_init ∈ zt := zw_at 138 (by decide +kernel)
theorem im_X2_init : Cond.instanceMethod yX2_init ∈ zt := zw_at 139 (by decide +kernel)
theorem cd_X2_init : Cond.code yX2_init cX2_init 1 (Option.none : Option Jvm.ClassFile.FieldType) ∈ zt := zw_at 140 (by decide +kernel)
theorem lk_RX2_3 : Cond.methodLink RX2 3 objectInit ∈ zt := zw_at 141 (by decide +kernel)
theorem fl_RX2_9 : Cond.fieldLink RX2 9 "SneezeRace$Chart" "drifts" "[I" ∈ zt := zw_at 142 (by decide +kernel)
theorem fl_RX2_15 : Cond.fieldLink RX2 15 "SneezeRace$Chart" "sneezes" "I" ∈ zt := zw_at 143 (by decide +kernel)
theorem cl_RX8_53 : Cond.classLink RX8 53 RX6 ∈ zt := zw_at 149 (by decide +kernel)
theorem it_RX6 : Cond.instantiable RX6 5 ∈ zt := zw_at 150 (by decide +kernel)
theorem lk_RX8_55 : Cond.methodLink RX8 55 yX6_init ∈ zt := zw_at 151 (by decide +kernel)
theorem im_X6_init : Cond.instanceMethod yX6_init ∈ zt := zw_at 152 (by decide +kernel)
theorem cd_X6_init : Cond.code yX6_init cX6_init 1 (Option.none : Option Jvm.ClassFile.FieldType) ∈ zt := zw_at 153 (by decide +kernel)
theorem lk_RX6_3 : Cond.methodLink RX6 3 objectInit ∈ zt := zw_at 154 (by decide +kernel)
theorem fl_RX6_9 : Cond.fieldLink RX6 9 "SneezeRace$Search" "picked" "[I" ∈ zt := zw_at 155 (by decide +kernel)
theorem fl_RX6_15 : Cond.fieldLink RX6 15 "SneezeRace$Search" "best" "[I" ∈ zt := zw_at 156 (by decide +kernel)
theorem fl_RX6_18 : Cond.fieldLink RX6 18 "SneezeRace$Search" "goal" "I" ∈ zt := zw_at 157 (by decide +kernel)
theorem fl_RX6_25 : Cond.fieldLink RX6 25 "SneezeRace$Search" "off" "I" ∈ zt := zw_at 158 (by decide +kernel)
theorem fl_RX6_28 : Cond.fieldLink RX6 28 "SneezeRace$Search" "thrown" "I" ∈ zt := zw_at 159 (by decide +kernel)
theorem cl_RX8_60 : Cond.classLink RX8 60 RX1 ∈ zt := zw_at 171 (by decide +kernel)
theorem it_RX1 : Cond.instantiable RX1 1 ∈ zt := zw_at 172 (by decide +kernel)
theorem lk_RX8_62 : Cond.methodLink RX8 62 yX1_init ∈ zt := zw_at 173 (by decide +kernel)
theorem im_X1_init : Cond.instanceMethod yX1_init ∈ zt := zw_at 174 (by decide +kernel)
theorem cd_X1_init : Cond.code yX1_init cX1_init 1 (Option.none : Option Jvm.ClassFile.FieldType) ∈ zt := zw_at 175 (by decide +kernel)
theorem lk_RX1_3 : Cond.methodLink RX1 3 objectInit ∈ zt := zw_at 176 (by decide +kernel)
theorem fl_RX1_9 : Cond.fieldLink RX1 9 "SneezeRace$Chances" "left" "[I" ∈ zt := zw_at 177 (by decide +kernel)
theorem cl_RX8_67 : Cond.classLink RX8 67 RX3 ∈ zt := zw_at 181 (by decide +kernel)
theorem it_RX3 : Cond.instantiable RX3 2 ∈ zt := zw_at 182 (by decide +kernel)
theorem lk_RX8_69 : Cond.methodLink RX8 69 yX3_init ∈ zt := zw_at 183 (by decide +kernel)
theorem im_X3_init : Cond.instanceMethod yX3_init ∈ zt := zw_at 184 (by decide +kernel)
theorem cd_X3_init : Cond.code yX3_init cX3_init 1 (Option.none : Option Jvm.ClassFile.FieldType) ∈ zt := zw_at 185 (by decide +kernel)
theorem lk_RX3_3 : Cond.methodLink RX3 3 objectInit ∈ zt := zw_at 186 (by decide +kernel)
theorem fl_RX3_9 : Cond.fieldLink RX3 9 "SneezeRace$Falls" "places" "[I" ∈ zt := zw_at 187 (by decide +kernel)
theorem fl_RX3_15 : Cond.fieldLink RX3 15 "SneezeRace$Falls" "fallen" "I" ∈ zt := zw_at 188 (by decide +kernel)
theorem fl_RX8_10 : Cond.fieldLink RX8 10 "SneezeRace" "setup" "LSneezeRace$Setup;" ∈ zt := zw_at 194 (by decide +kernel)
theorem fl_RX8_16 : Cond.fieldLink RX8 16 "SneezeRace" "firstImage" "LSneezeRace$Setup;" ∈ zt := zw_at 195 (by decide +kernel)
theorem fl_RX8_19 : Cond.fieldLink RX8 19 "SneezeRace" "secondImage" "LSneezeRace$Setup;" ∈ zt := zw_at 196 (by decide +kernel)
theorem fl_RX8_25 : Cond.fieldLink RX8 25 "SneezeRace" "pad" "LSneezeRace$Pad;" ∈ zt := zw_at 197 (by decide +kernel)
theorem fl_RX8_32 : Cond.fieldLink RX8 32 "SneezeRace" "balloon" "LSneezeRace$Balloon;" ∈ zt := zw_at 198 (by decide +kernel)
theorem fl_RX8_36 : Cond.fieldLink RX8 36 "SneezeRace" "rival" "LSneezeRace$Balloon;" ∈ zt := zw_at 199 (by decide +kernel)
theorem fl_RX8_42 : Cond.fieldLink RX8 42 "SneezeRace" "sneezes" "LSneezeRace$Pepper;" ∈ zt := zw_at 200 (by decide +kernel)
theorem fl_RX8_49 : Cond.fieldLink RX8 49 "SneezeRace" "chart" "LSneezeRace$Chart;" ∈ zt := zw_at 201 (by decide +kernel)
theorem fl_RX8_56 : Cond.fieldLink RX8 56 "SneezeRace" "search" "LSneezeRace$Search;" ∈ zt := zw_at 202 (by decide +kernel)
theorem fl_RX8_63 : Cond.fieldLink RX8 63 "SneezeRace" "chances" "LSneezeRace$Chances;" ∈ zt := zw_at 203 (by decide +kernel)
theorem fl_RX8_70 : Cond.fieldLink RX8 70 "SneezeRace" "falls" "LSneezeRace$Falls;" ∈ zt := zw_at 204 (by decide +kernel)
theorem lk_RL_13 : Cond.methodLink RL 13 yX8_wind ∈ zt := zw_at 228 (by decide +kernel)
theorem im_X8_wind : Cond.instanceMethod yX8_wind ∈ zt := zw_at 229 (by decide +kernel)
theorem se_X8_wind : Cond.selects RX8 yX8_wind yX8_wind ∈ zt := zw_at 230 (by decide +kernel)
theorem cd_X8_wind : Cond.code yX8_wind cX8_wind 5 (Option.some Jvm.ClassFile.FieldType.int) ∈ zt := zw_at 231 (by decide +kernel)
theorem lk_RX8_74 : Cond.methodLink RX8 74 yX8_within ∈ zt := zw_at 232 (by decide +kernel)
theorem sm_X8_within : Cond.static yX8_within ∈ zt := zw_at 233 (by decide +kernel)
theorem cd_X8_within : Cond.code yX8_within cX8_within 3 (Option.some Jvm.ClassFile.FieldType.boolean) ∈ zt := zw_at 234 (by decide +kernel)
theorem lk_RX8_78 : Cond.methodLink RX8 78 yX7_windAt ∈ zt := zw_at 235 (by decide +kernel)
theorem im_X7_windAt : Cond.instanceMethod yX7_windAt ∈ zt := zw_at 236 (by decide +kernel)
theorem se_X7_windAt : Cond.selects RX7 yX7_windAt yX7_windAt ∈ zt := zw_at 237 (by decide +kernel)
theorem cd_X7_windAt : Cond.code yX7_windAt cX7_windAt 3 (Option.some Jvm.ClassFile.FieldType.int) ∈ zt := zw_at 238 (by decide +kernel)
theorem ln_RX7_30 : Cond.methodLinkNest RX7 30 yX8_cell RX8 ∈ zt := zw_at 239 (by decide +kernel)
theorem sm_X8_cell : Cond.static yX8_cell ∈ zt := zw_at 240 (by decide +kernel)
theorem cd_X8_cell : Cond.code yX8_cell cX8_cell 2 (Option.some Jvm.ClassFile.FieldType.int) ∈ zt := zw_at 241 (by decide +kernel)
theorem lk_RX8_82 : Cond.methodLink RX8 82 yX7_changeWind ∈ zt := zw_at 242 (by decide +kernel)
theorem im_X7_changeWind : Cond.instanceMethod yX7_changeWind ∈ zt := zw_at 243 (by decide +kernel)
theorem se_X7_changeWind : Cond.selects RX7 yX7_changeWind yX7_changeWind ∈ zt := zw_at 244 (by decide +kernel)
theorem cd_X7_changeWind : Cond.code yX7_changeWind cX7_changeWind 4 (Option.none : Option Jvm.ClassFile.FieldType) ∈ zt := zw_at 245 (by decide +kernel)
theorem ln_RX7_34 : Cond.methodLinkNest RX7 34 yX8_put RX8 ∈ zt := zw_at 246 (by decide +kernel)
theorem sm_X8_put : Cond.static yX8_put ∈ zt := zw_at 247 (by decide +kernel)
theorem cd_X8_put : Cond.code yX8_put cX8_put 3 (Option.none : Option Jvm.ClassFile.FieldType) ∈ zt := zw_at 248 (by decide +kernel)
theorem lk_RL_18 : Cond.methodLink RL 18 yX8_set ∈ zt := zw_at 249 (by decide +kernel)
theorem im_X8_set : Cond.instanceMethod yX8_set ∈ zt := zw_at 250 (by decide +kernel)
theorem se_X8_set : Cond.selects RX8 yX8_set yX8_set ∈ zt := zw_at 251 (by decide +kernel)
theorem cd_X8_set : Cond.code yX8_set cX8_set 4 (Option.some Jvm.ClassFile.FieldType.int) ∈ zt := zw_at 252 (by decide +kernel)
theorem fl_RX8_86 : Cond.fieldLink RX8 86 "SneezeRace" "LEAST" "[I" ∈ zt := zw_at 253 (by decide +kernel)
theorem lk_RX8_90 : Cond.methodLink RX8 90 yX8_cell ∈ zt := zw_at 255 (by decide +kernel)
theorem fl_RX8_94 : Cond.fieldLink RX8 94 "SneezeRace" "GREATEST" "[I" ∈ zt := zw_at 256 (by decide +kernel)
theorem lk_RX8_97 : Cond.methodLink RX8 97 yX7_number ∈ zt := zw_at 258 (by decide +kernel)
theorem im_X7_number : Cond.instanceMethod yX7_number ∈ zt := zw_at 259 (by decide +kernel)
theorem se_X7_number : Cond.selects RX7 yX7_number yX7_number ∈ zt := zw_at 260 (by decide +kernel)
theorem cd_X7_number : Cond.code yX7_number cX7_number 2 (Option.some Jvm.ClassFile.FieldType.int) ∈ zt := zw_at 261 (by decide +kernel)
theorem lk_RX8_101 : Cond.methodLink RX8 101 yX7_changeNumber ∈ zt := zw_at 262 (by decide +kernel)
theorem im_X7_changeNumber : Cond.instanceMethod yX7_changeNumber ∈ zt := zw_at 263 (by decide +kernel)
theorem se_X7_changeNumber : Cond.selects RX7 yX7_changeNumber yX7_changeNumber ∈ zt := zw_at 264 (by decide +kernel)
theorem cd_X7_changeNumber : Cond.code yX7_changeNumber cX7_changeNumber 3 (Option.none : Option Jvm.ClassFile.FieldType) ∈ zt := zw_at 265 (by decide +kernel)
theorem lk_RL_23 : Cond.methodLink RL 23 yX8_load ∈ zt := zw_at 266 (by decide +kernel)
theorem im_X8_load : Cond.instanceMethod yX8_load ∈ zt := zw_at 267 (by decide +kernel)
theorem se_X8_load : Cond.selects RX8 yX8_load yX8_load ∈ zt := zw_at 268 (by decide +kernel)
theorem cd_X8_load : Cond.code yX8_load cX8_load 4 (Option.some Jvm.ClassFile.FieldType.int) ∈ zt := zw_at 269 (by decide +kernel)
theorem lk_RX8_105 : Cond.methodLink RX8 105 yX8_isThing ∈ zt := zw_at 270 (by decide +kernel)
theorem sm_X8_isThing : Cond.static yX8_isThing ∈ zt := zw_at 271 (by decide +kernel)
theorem cd_X8_isThing : Cond.code yX8_isThing cX8_isThing 1 (Option.some Jvm.ClassFile.FieldType.boolean) ∈ zt := zw_at 272 (by decide +kernel)
theorem lk_RX8_109 : Cond.methodLink RX8 109 yX7_weight ∈ zt := zw_at 273 (by decide +kernel)
theorem im_X7_weight : Cond.instanceMethod yX7_weight ∈ zt := zw_at 274 (by decide +kernel)
theorem se_X7_weight : Cond.selects RX7 yX7_weight yX7_weight ∈ zt := zw_at 275 (by decide +kernel)
theorem cd_X7_weight : Cond.code yX7_weight cX7_weight 2 (Option.some Jvm.ClassFile.FieldType.int) ∈ zt := zw_at 276 (by decide +kernel)
theorem lk_RX8_112 : Cond.methodLink RX8 112 yX7_changeWeight ∈ zt := zw_at 277 (by decide +kernel)
theorem im_X7_changeWeight : Cond.instanceMethod yX7_changeWeight ∈ zt := zw_at 278 (by decide +kernel)
theorem se_X7_changeWeight : Cond.selects RX7 yX7_changeWeight yX7_changeWeight ∈ zt := zw_at 279 (by decide +kernel)
theorem cd_X7_changeWeight : Cond.code yX7_changeWeight cX7_changeWeight 3 (Option.none : Option Jvm.ClassFile.FieldType) ∈ zt := zw_at 280 (by decide +kernel)
theorem lk_RL_27 : Cond.methodLink RL 27 yX8_say ∈ zt := zw_at 281 (by decide +kernel)
theorem im_X8_say : Cond.instanceMethod yX8_say ∈ zt := zw_at 282 (by decide +kernel)
theorem se_X8_say : Cond.selects RX8 yX8_say yX8_say ∈ zt := zw_at 283 (by decide +kernel)
theorem cd_X8_say : Cond.code yX8_say cX8_say 2 (Option.some Jvm.ClassFile.FieldType.int) ∈ zt := zw_at 284 (by decide +kernel)
theorem lk_RX8_115 : Cond.methodLink RX8 115 yX4_length ∈ zt := zw_at 285 (by decide +kernel)
theorem im_X4_length : Cond.instanceMethod yX4_length ∈ zt := zw_at 286 (by decide +kernel)
theorem se_X4_length : Cond.selects RX4 yX4_length yX4_length ∈ zt := zw_at 287 (by decide +kernel)
theorem cd_X4_length : Cond.code yX4_length cX4_length 1 (Option.some Jvm.ClassFile.FieldType.int) ∈ zt := zw_at 288 (by decide +kernel)
theorem lk_RX8_119 : Cond.methodLink RX8 119 yX4_write ∈ zt := zw_at 289 (by decide +kernel)
theorem im_X4_write : Cond.instanceMethod yX4_write ∈ zt := zw_at 290 (by decide +kernel)
theorem se_X4_write : Cond.selects RX4 yX4_write yX4_write ∈ zt := zw_at 291 (by decide +kernel)
theorem cd_X4_write : Cond.code yX4_write cX4_write 2 (Option.none : Option Jvm.ClassFile.FieldType) ∈ zt := zw_at 292 (by decide +kernel)
theorem ln_RX4_23 : Cond.methodLinkNest RX4 23 yX8_put RX8 ∈ zt := zw_at 293 (by decide +kernel)
theorem lk_RL_32 : Cond.methodLink RL 32 yX8_wipe ∈ zt := zw_at 294 (by decide +kernel)
theorem im_X8_wipe : Cond.instanceMethod yX8_wipe ∈ zt := zw_at 295 (by decide +kernel)
theorem se_X8_wipe : Cond.selects RX8 yX8_wipe yX8_wipe ∈ zt := zw_at 296 (by decide +kernel)
theorem cd_X8_wipe : Cond.code yX8_wipe cX8_wipe 2 (Option.some Jvm.ClassFile.FieldType.int) ∈ zt := zw_at 297 (by decide +kernel)
theorem lk_RX8_123 : Cond.methodLink RX8 123 yX4_clear ∈ zt := zw_at 298 (by decide +kernel)
theorem im_X4_clear : Cond.instanceMethod yX4_clear ∈ zt := zw_at 299 (by decide +kernel)
theorem se_X4_clear : Cond.selects RX4 yX4_clear yX4_clear ∈ zt := zw_at 300 (by decide +kernel)
theorem cd_X4_clear : Cond.code yX4_clear cX4_clear 1 (Option.none : Option Jvm.ClassFile.FieldType) ∈ zt := zw_at 301 (by decide +kernel)
theorem lk_RL_37 : Cond.methodLink RL 37 yX8_fault ∈ zt := zw_at 302 (by decide +kernel)
theorem im_X8_fault : Cond.instanceMethod yX8_fault ∈ zt := zw_at 303 (by decide +kernel)
theorem se_X8_fault : Cond.selects RX8 yX8_fault yX8_fault ∈ zt := zw_at 304 (by decide +kernel)
theorem cd_X8_fault : Cond.code yX8_fault cX8_fault 1 (Option.some Jvm.ClassFile.FieldType.int) ∈ zt := zw_at 305 (by decide +kernel)
theorem lk_RX8_126 : Cond.methodLink RX8 126 yX8_firstFault ∈ zt := zw_at 306 (by decide +kernel)
theorem im_X8_firstFault : Cond.instanceMethod yX8_firstFault ∈ zt := zw_at 308 (by decide +kernel)
theorem cd_X8_firstFault : Cond.code yX8_firstFault cX8_firstFault 7 (Option.some Jvm.ClassFile.FieldType.int) ∈ zt := zw_at 309 (by decide +kernel)
theorem lk_RX8_172 : Cond.methodLink RX8 172 yX7_loaded ∈ zt := zw_at 310 (by decide +kernel)
theorem im_X7_loaded : Cond.instanceMethod yX7_loaded ∈ zt := zw_at 311 (by decide +kernel)
theorem se_X7_loaded : Cond.selects RX7 yX7_loaded yX7_loaded ∈ zt := zw_at 312 (by decide +kernel)
theorem cd_X7_loaded : Cond.code yX7_loaded cX7_loaded 3 (Option.some Jvm.ClassFile.FieldType.int) ∈ zt := zw_at 313 (by decide +kernel)
theorem lk_RX7_42 : Cond.methodLink RX7 42 yX7_weight ∈ zt := zw_at 314 (by decide +kernel)
theorem lk_RX8_277 : Cond.methodLink RX8 277 yX4_sign ∈ zt := zw_at 315 (by decide +kernel)
theorem im_X4_sign : Cond.instanceMethod yX4_sign ∈ zt := zw_at 316 (by decide +kernel)
theorem se_X4_sign : Cond.selects RX4 yX4_sign yX4_sign ∈ zt := zw_at 317 (by decide +kernel)
theorem cd_X4_sign : Cond.code yX4_sign cX4_sign 2 (Option.some Jvm.ClassFile.FieldType.int) ∈ zt := zw_at 318 (by decide +kernel)
theorem ln_RX4_19 : Cond.methodLinkNest RX4 19 yX8_cell RX8 ∈ zt := zw_at 319 (by decide +kernel)
theorem lk_RX8_280 : Cond.methodLink RX8 280 yX8_thingOf ∈ zt := zw_at 320 (by decide +kernel)
theorem sm_X8_thingOf : Cond.static yX8_thingOf ∈ zt := zw_at 321 (by decide +kernel)
theorem cd_X8_thingOf : Cond.code yX8_thingOf cX8_thingOf 1 (Option.some Jvm.ClassFile.FieldType.int) ∈ zt := zw_at 322 (by decide +kernel)
theorem lk_RX8_283 : Cond.methodLink RX8 283 yX8_has ∈ zt := zw_at 323 (by decide +kernel)
theorem sm_X8_has : Cond.static yX8_has ∈ zt := zw_at 324 (by decide +kernel)
theorem cd_X8_has : Cond.code yX8_has cX8_has 2 (Option.some Jvm.ClassFile.FieldType.boolean) ∈ zt := zw_at 325 (by decide +kernel)
theorem lk_RX8_286 : Cond.methodLink RX8 286 yX8_without ∈ zt := zw_at 326 (by decide +kernel)
theorem sm_X8_without : Cond.static yX8_without ∈ zt := zw_at 327 (by decide +kernel)
theorem cd_X8_without : Cond.code yX8_without cX8_without 2 (Option.some Jvm.ClassFile.FieldType.int) ∈ zt := zw_at 328 (by decide +kernel)
theorem lk_RL_41 : Cond.methodLink RL 41 yX8_at ∈ zt := zw_at 329 (by decide +kernel)
theorem im_X8_at : Cond.instanceMethod yX8_at ∈ zt := zw_at 330 (by decide +kernel)
theorem se_X8_at : Cond.selects RX8 yX8_at yX8_at ∈ zt := zw_at 331 (by decide +kernel)
theorem cd_X8_at : Cond.code yX8_at cX8_at 3 (Option.some Jvm.ClassFile.FieldType.int) ∈ zt := zw_at 332 (by decide +kernel)
theorem lk_RX8_129 : Cond.methodLink RX8 129 yX4_count ∈ zt := zw_at 333 (by decide +kernel)
theorem im_X4_count : Cond.instanceMethod yX4_count ∈ zt := zw_at 334 (by decide +kernel)
theorem se_X4_count : Cond.selects RX4 yX4_count yX4_count ∈ zt := zw_at 335 (by decide +kernel)
theorem cd_X4_count : Cond.code yX4_count cX4_count 4 (Option.some Jvm.ClassFile.FieldType.int) ∈ zt := zw_at 336 (by decide +kernel)
theorem lk_RX4_27 : Cond.methodLink RX4 27 yX4_sign ∈ zt := zw_at 337 (by decide +kernel)
theorem lk_RX8_132 : Cond.methodLink RX8 132 yX8_flyBehind ∈ zt := zw_at 338 (by decide +kernel)
theorem im_X8_flyBehind : Cond.instanceMethod yX8_flyBehind ∈ zt := zw_at 340 (by decide +kernel)
theorem cd_X8_flyBehind : Cond.code yX8_flyBehind cX8_flyBehind 4 (Option.none : Option Jvm.ClassFile.FieldType) ∈ zt := zw_at 341 (by decide +kernel)
theorem lk_RX8_242 : Cond.methodLink RX8 242 yX0_start ∈ zt := zw_at 342 (by decide +kernel)
theorem im_X0_start : Cond.instanceMethod yX0_start ∈ zt := zw_at 343 (by decide +kernel)
theorem se_X0_start : Cond.selects RX0 yX0_start yX0_start ∈ zt := zw_at 344 (by decide +kernel)
theorem cd_X0_start : Cond.code yX0_start cX0_start 4 (Option.none : Option Jvm.ClassFile.FieldType) ∈ zt := zw_at 345 (by decide +kernel)
theorem lk_RX8_245 : Cond.methodLink RX8 245 yX0_fly ∈ zt := zw_at 346 (by decide +kernel)
theorem im_X0_fly : Cond.instanceMethod yX0_fly ∈ zt := zw_at 347 (by decide +kernel)
theorem se_X0_fly : Cond.selects RX0 yX0_fly yX0_fly ∈ zt := zw_at 348 (by decide +kernel)
theorem cd_X0_fly : Cond.code yX0_fly cX0_fly 2 (Option.none : Option Jvm.ClassFile.FieldType) ∈ zt := zw_at 349 (by decide +kernel)
theorem lk_RX0_22 : Cond.methodLink RX0 22 yX7_drift ∈ zt := zw_at 350 (by decide +kernel)
theorem im_X7_drift : Cond.instanceMethod yX7_drift ∈ zt := zw_at 351 (by decide +kernel)
theorem se_X7_drift : Cond.selects RX7 yX7_drift yX7_drift ∈ zt := zw_at 352 (by decide +kernel)
theorem cd_X7_drift : Cond.code yX7_drift cX7_drift 4 (Option.some Jvm.ClassFile.FieldType.int) ∈ zt := zw_at 353 (by decide +kernel)
theorem lk_RX7_59 : Cond.methodLink RX7 59 yX7_height ∈ zt := zw_at 354 (by decide +kernel)
theorem im_X7_height : Cond.instanceMethod yX7_height ∈ zt := zw_at 355 (by decide +kernel)
theorem se_X7_height : Cond.selects RX7 yX7_height yX7_height ∈ zt := zw_at 356 (by decide +kernel)
theorem cd_X7_height : Cond.code yX7_height cX7_height 5 (Option.some Jvm.ClassFile.FieldType.int) ∈ zt := zw_at 357 (by decide +kernel)
theorem ln_RX7_46 : Cond.methodLinkNest RX7 46 yX8_has RX8 ∈ zt := zw_at 358 (by decide +kernel)
theorem lk_RX7_50 : Cond.methodLink RX7 50 yX7_number ∈ zt := zw_at 359 (by decide +kernel)
theorem lk_RX7_53 : Cond.methodLink RX7 53 yJ9_min_7cf53 ∈ zt := zw_at 360 (by decide +kernel)
theorem sm_J9_min_7cf53 : Cond.static yJ9_min_7cf53 ∈ zt := zw_at 361 (by decide +kernel)
theorem cd_J9_min_7cf53 : Cond.code yJ9_min_7cf53 cJ9_min_7cf53 2 (Option.some Jvm.ClassFile.FieldType.int) ∈ zt := zw_at 362 (by decide +kernel)
theorem lk_RX7_62 : Cond.methodLink RX7 62 yX7_windAt ∈ zt := zw_at 363 (by decide +kernel)
theorem lk_RX0_28 : Cond.methodLink RX0 28 yX7_leaked ∈ zt := zw_at 364 (by decide +kernel)
theorem im_X7_leaked : Cond.instanceMethod yX7_leaked ∈ zt := zw_at 365 (by decide +kernel)
theorem se_X7_leaked : Cond.selects RX7 yX7_leaked yX7_leaked ∈ zt := zw_at 366 (by decide +kernel)
theorem cd_X7_leaked : Cond.code yX7_leaked cX7_leaked 2 (Option.some Jvm.ClassFile.FieldType.int) ∈ zt := zw_at 367 (by decide +kernel)
theorem lk_RX7_65 : Cond.methodLink RX7 65 yJ9_max_7cf53 ∈ zt := zw_at 368 (by decide +kernel)
theorem sm_J9_max_7cf53 : Cond.static yJ9_max_7cf53 ∈ zt := zw_at 369 (by decide +kernel)
theorem cd_J9_max_7cf53 : Cond.code yJ9_max_7cf53 cJ9_max_7cf53 2 (Option.some Jvm.ClassFile.FieldType.int) ∈ zt := zw_at 370 (by decide +kernel)
theorem lk_RX8_289 : Cond.methodLink RX8 289 yX0_lose ∈ zt := zw_at 371 (by decide +kernel)
theorem im_X0_lose : Cond.instanceMethod yX0_lose ∈ zt := zw_at 372 (by decide +kernel)
theorem se_X0_lose : Cond.selects RX0 yX0_lose yX0_lose ∈ zt := zw_at 373 (by decide +kernel)
theorem cd_X0_lose : Cond.code yX0_lose cX0_lose 2 (Option.none : Option Jvm.ClassFile.FieldType) ∈ zt := zw_at 374 (by decide +kernel)
theorem ln_RX0_32 : Cond.methodLinkNest RX0 32 yX8_without RX8 ∈ zt := zw_at 375 (by decide +kernel)
theorem lk_RX8_135 : Cond.methodLink RX8 135 yX0_place ∈ zt := zw_at 376 (by decide +kernel)
theorem im_X0_place : Cond.instanceMethod yX0_place ∈ zt := zw_at 377 (by decide +kernel)
theorem se_X0_place : Cond.selects RX0 yX0_place yX0_place ∈ zt := zw_at 378 (by decide +kernel)
theorem cd_X0_place : Cond.code yX0_place cX0_place 1 (Option.some Jvm.ClassFile.FieldType.int) ∈ zt := zw_at 379 (by decide +kernel)
theorem lk_RX8_138 : Cond.methodLink RX8 138 yX0_gas ∈ zt := zw_at 380 (by decide +kernel)
theorem im_X0_gas : Cond.instanceMethod yX0_gas ∈ zt := zw_at 381 (by decide +kernel)
theorem se_X0_gas : Cond.selects RX0 yX0_gas yX0_gas ∈ zt := zw_at 382 (by decide +kernel)
theorem cd_X0_gas : Cond.code yX0_gas cX0_gas 1 (Option.some Jvm.ClassFile.FieldType.int) ∈ zt := zw_at 383 (by decide +kernel)
theorem lk_RX8_141 : Cond.methodLink RX8 141 yX0_aboard ∈ zt := zw_at 384 (by decide +kernel)
theorem im_X0_aboard : Cond.instanceMethod yX0_aboard ∈ zt := zw_at 385 (by decide +kernel)
theorem se_X0_aboard : Cond.selects RX0 yX0_aboard yX0_aboard ∈ zt := zw_at 386 (by decide +kernel)
theorem cd_X0_aboard : Cond.code yX0_aboard cX0_aboard 1 (Option.some Jvm.ClassFile.FieldType.int) ∈ zt := zw_at 387 (by decide +kernel)
theorem lk_RX8_144 : Cond.methodLink RX8 144 yX7_height ∈ zt := zw_at 388 (by decide +kernel)
theorem lk_RX8_147 : Cond.methodLink RX8 147 yJ6_bitCount_0f7a4 ∈ zt := zw_at 389 (by decide +kernel)
theorem sm_J6_bitCount_0f7a4 : Cond.static yJ6_bitCount_0f7a4 ∈ zt := zw_at 390 (by decide +kernel)
theorem cd_J6_bitCount_0f7a4 : Cond.code yJ6_bitCount_0f7a4 cJ6_bitCount_0f7a4 1 (Option.some Jvm.ClassFile.FieldType.int) ∈ zt := zw_at 391 (by decide +kernel)
theorem ct_RJ6_265 : Cond.constant RJ6 265 (1431655765) ∈ zt := zw_at 392 (by decide +kernel)
theorem ct_RJ6_266 : Cond.constant RJ6 266 (858993459) ∈ zt := zw_at 393 (by decide +kernel)
theorem ct_RJ6_267 : Cond.constant RJ6 267 (252645135) ∈ zt := zw_at 394 (by decide +kernel)
theorem lk_RL_45 : Cond.methodLink RL 45 yX8_judge ∈ zt := zw_at 395 (by decide +kernel)
theorem im_X8_judge : Cond.instanceMethod yX8_judge ∈ zt := zw_at 396 (by decide +kernel)
theorem se_X8_judge : Cond.selects RX8 yX8_judge yX8_judge ∈ zt := zw_at 397 (by decide +kernel)
theorem cd_X8_judge : Cond.code yX8_judge cX8_judge 2 (Option.some Jvm.ClassFile.FieldType.int) ∈ zt := zw_at 398 (by decide +kernel)
theorem lk_RX8_152 : Cond.methodLink RX8 152 yX4_fines ∈ zt := zw_at 399 (by decide +kernel)
theorem im_X4_fines : Cond.instanceMethod yX4_fines ∈ zt := zw_at 400 (by decide +kernel)
theorem se_X4_fines : Cond.selects RX4 yX4_fines yX4_fines ∈ zt := zw_at 401 (by decide +kernel)
theorem cd_X4_fines : Cond.code yX4_fines cX4_fines 4 (Option.some Jvm.ClassFile.FieldType.int) ∈ zt := zw_at 402 (by decide +kernel)
theorem ln_RX4_31 : Cond.methodLinkNest RX4 31 yX8_thingOf RX8 ∈ zt := zw_at 403 (by decide +kernel)
theorem lk_RX8_155 : Cond.methodLink RX8 155 yX8_doubtWith ∈ zt := zw_at 404 (by decide +kernel)
theorem im_X8_doubtWith : Cond.instanceMethod yX8_doubtWith ∈ zt := zw_at 406 (by decide +kernel)
theorem cd_X8_doubtWith : Cond.code yX8_doubtWith cX8_doubtWith 3 (Option.some Jvm.ClassFile.FieldType.int) ∈ zt := zw_at 407 (by decide +kernel)
theorem lk_RX8_312 : Cond.methodLink RX8 312 yX5_gather ∈ zt := zw_at 408 (by decide +kernel)
theorem im_X5_gather : Cond.instanceMethod yX5_gather ∈ zt := zw_at 409 (by decide +kernel)
theorem se_X5_gather : Cond.selects RX5 yX5_gather yX5_gather ∈ zt := zw_at 410 (by decide +kernel)
theorem cd_X5_gather : Cond.code yX5_gather cX5_gather 6 (Option.none : Option Jvm.ClassFile.FieldType) ∈ zt := zw_at 411 (by decide +kernel)
theorem lk_RX5_19 : Cond.methodLink RX5 19 yX4_length ∈ zt := zw_at 412 (by decide +kernel)
theorem lk_RX5_25 : Cond.methodLink RX5 25 yX4_sign ∈ zt := zw_at 413 (by decide +kernel)
theorem lk_RX5_29 : Cond.methodLink RX5 29 yX5_add ∈ zt := zw_at 414 (by decide +kernel)
theorem im_X5_add : Cond.instanceMethod yX5_add ∈ zt := zw_at 416 (by decide +kernel)
theorem cd_X5_add : Cond.code yX5_add cX5_add 4 (Option.none : Option Jvm.ClassFile.FieldType) ∈ zt := zw_at 417 (by decide +kernel)
theorem ln_RX5_33 : Cond.methodLinkNest RX5 33 yX8_put RX8 ∈ zt := zw_at 418 (by decide +kernel)
theorem lk_RX8_316 : Cond.methodLink RX8 316 yX5_firstDoubt ∈ zt := zw_at 419 (by decide +kernel)
theorem im_X5_firstDoubt : Cond.instanceMethod yX5_firstDoubt ∈ zt := zw_at 420 (by decide +kernel)
theorem se_X5_firstDoubt : Cond.selects RX5 yX5_firstDoubt yX5_firstDoubt ∈ zt := zw_at 421 (by decide +kernel)
theorem cd_X5_firstDoubt : Cond.code yX5_firstDoubt cX5_firstDoubt 4 (Option.some Jvm.ClassFile.FieldType.int) ∈ zt := zw_at 422 (by decide +kernel)
theorem lk_RX5_37 : Cond.methodLink RX5 37 yX5_near ∈ zt := zw_at 423 (by decide +kernel)
theorem im_X5_near : Cond.instanceMethod yX5_near ∈ zt := zw_at 425 (by decide +kernel)
theorem cd_X5_near : Cond.code yX5_near cX5_near 5 (Option.some Jvm.ClassFile.FieldType.int) ∈ zt := zw_at 426 (by decide +kernel)
theorem ln_RX5_41 : Cond.methodLinkNest RX5 41 yX8_cell RX8 ∈ zt := zw_at 427 (by decide +kernel)
theorem lk_RL_49 : Cond.methodLink RL 49 yX8_pepper ∈ zt := zw_at 428 (by decide +kernel)
theorem im_X8_pepper : Cond.instanceMethod yX8_pepper ∈ zt := zw_at 429 (by decide +kernel)
theorem se_X8_pepper : Cond.selects RX8 yX8_pepper yX8_pepper ∈ zt := zw_at 430 (by decide +kernel)
theorem cd_X8_pepper : Cond.code yX8_pepper cX8_pepper 3 (Option.some Jvm.ClassFile.FieldType.int) ∈ zt := zw_at 431 (by decide +kernel)
theorem lk_RL_53 : Cond.methodLink RL 53 yX8_nearest ∈ zt := zw_at 432 (by decide +kernel)
theorem im_X8_nearest : Cond.instanceMethod yX8_nearest ∈ zt := zw_at 433 (by decide +kernel)
theorem se_X8_nearest : Cond.selects RX8 yX8_nearest yX8_nearest ∈ zt := zw_at 434 (by decide +kernel)
theorem cd_X8_nearest : Cond.code yX8_nearest cX8_nearest 4 (Option.some Jvm.ClassFile.FieldType.int) ∈ zt := zw_at 435 (by decide +kernel)
theorem lk_RX8_158 : Cond.methodLink RX8 158 yX8_isPlace ∈ zt := zw_at 436 (by decide +kernel)
theorem sm_X8_isPlace : Cond.static yX8_isPlace ∈ zt := zw_at 437 (by decide +kernel)
theorem cd_X8_isPlace : Cond.code yX8_isPlace cX8_isPlace 1 (Option.some Jvm.ClassFile.FieldType.boolean) ∈ zt := zw_at 438 (by decide +kernel)
theorem lk_RX8_161 : Cond.methodLink RX8 161 yX8_choiceRefusal ∈ zt := zw_at 439 (by decide +kernel)
theorem im_X8_choiceRefusal : Cond.instanceMethod yX8_choiceRefusal ∈ zt := zw_at 441 (by decide +kernel)
theorem cd_X8_choiceRefusal : Cond.code yX8_choiceRefusal cX8_choiceRefusal 3 (Option.some Jvm.ClassFile.FieldType.int) ∈ zt := zw_at 442 (by decide +kernel)
theorem lk_RX8_195 : Cond.methodLink RX8 195 yX8_courseRefusal ∈ zt := zw_at 443 (by decide +kernel)
theorem im_X8_courseRefusal : Cond.instanceMethod yX8_courseRefusal ∈ zt := zw_at 445 (by decide +kernel)
theorem cd_X8_courseRefusal : Cond.code yX8_courseRefusal cX8_courseRefusal 2 (Option.some Jvm.ClassFile.FieldType.int) ∈ zt := zw_at 446 (by decide +kernel)
theorem lk_RX8_274 : Cond.methodLink RX8 274 yX4_hasThrow ∈ zt := zw_at 447 (by decide +kernel)
theorem im_X4_hasThrow : Cond.instanceMethod yX4_hasThrow ∈ zt := zw_at 448 (by decide +kernel)
theorem se_X4_hasThrow : Cond.selects RX4 yX4_hasThrow yX4_hasThrow ∈ zt := zw_at 449 (by decide +kernel)
theorem cd_X4_hasThrow : Cond.code yX4_hasThrow cX4_hasThrow 2 (Option.some Jvm.ClassFile.FieldType.boolean) ∈ zt := zw_at 450 (by decide +kernel)
theorem lk_RX8_165 : Cond.methodLink RX8 165 yX2_draw ∈ zt := zw_at 451 (by decide +kernel)
theorem im_X2_draw : Cond.instanceMethod yX2_draw ∈ zt := zw_at 452 (by decide +kernel)
theorem se_X2_draw : Cond.selects RX2 yX2_draw yX2_draw ∈ zt := zw_at 453 (by decide +kernel)
theorem cd_X2_draw : Cond.code yX2_draw cX2_draw 6 (Option.none : Option Jvm.ClassFile.FieldType) ∈ zt := zw_at 454 (by decide +kernel)
theorem lk_RX2_23 : Cond.methodLink RX2 23 yX7_number ∈ zt := zw_at 455 (by decide +kernel)
theorem lk_RX2_29 : Cond.methodLink RX2 29 yX4_length ∈ zt := zw_at 456 (by decide +kernel)
theorem lk_RX2_35 : Cond.methodLink RX2 35 yX4_sign ∈ zt := zw_at 457 (by decide +kernel)
theorem lk_RX2_38 : Cond.methodLink RX2 38 yJ9_min_7cf53 ∈ zt := zw_at 458 (by decide +kernel)
theorem lk_RX2_44 : Cond.methodLink RX2 44 yX2_addMinute ∈ zt := zw_at 459 (by decide +kernel)
theorem im_X2_addMinute : Cond.instanceMethod yX2_addMinute ∈ zt := zw_at 461 (by decide +kernel)
theorem cd_X2_addMinute : Cond.code yX2_addMinute cX2_addMinute 5 (Option.none : Option Jvm.ClassFile.FieldType) ∈ zt := zw_at 462 (by decide +kernel)
theorem lk_RX2_51 : Cond.methodLink RX2 51 yX2_drift ∈ zt := zw_at 463 (by decide +kernel)
theorem im_X2_drift : Cond.instanceMethod yX2_drift ∈ zt := zw_at 464 (by decide +kernel)
theorem se_X2_drift : Cond.selects RX2 yX2_drift yX2_drift ∈ zt := zw_at 465 (by decide +kernel)
theorem cd_X2_drift : Cond.code yX2_drift cX2_drift 3 (Option.some Jvm.ClassFile.FieldType.int) ∈ zt := zw_at 466 (by decide +kernel)
theorem ln_RX2_19 : Cond.methodLinkNest RX2 19 yX8_cell RX8 ∈ zt := zw_at 467 (by decide +kernel)
theorem lk_RX2_54 : Cond.methodLink RX2 54 yX7_drift ∈ zt := zw_at 468 (by decide +kernel)
theorem ln_RX2_57 : Cond.methodLinkNest RX2 57 yX8_put RX8 ∈ zt := zw_at 469 (by decide +kernel)
theorem lk_RX2_48 : Cond.methodLink RX2 48 yX7_leaked ∈ zt := zw_at 470 (by decide +kernel)
theorem lk_RX8_169 : Cond.methodLink RX8 169 yX6_begin ∈ zt := zw_at 471 (by decide +kernel)
theorem im_X6_begin : Cond.instanceMethod yX6_begin ∈ zt := zw_at 472 (by decide +kernel)
theorem se_X6_begin : Cond.selects RX6 yX6_begin yX6_begin ∈ zt := zw_at 473 (by decide +kernel)
theorem cd_X6_begin : Cond.code yX6_begin cX6_begin 2 (Option.none : Option Jvm.ClassFile.FieldType) ∈ zt := zw_at 474 (by decide +kernel)
theorem ct_RX6_24 : Cond.constant RX6 24 (2147483647) ∈ zt := zw_at 475 (by decide +kernel)
theorem lk_RX8_175 : Cond.methodLink RX8 175 yX8_seek ∈ zt := zw_at 476 (by decide +kernel)
theorem sm_X8_seek : Cond.static yX8_seek ∈ zt := zw_at 477 (by decide +kernel)
theorem cd_X8_seek : Cond.code yX8_seek cX8_seek 8 (Option.none : Option Jvm.ClassFile.FieldType) ∈ zt := zw_at 478 (by decide +kernel)
theorem lk_RX8_319 : Cond.methodLink RX8 319 yX2_drift ∈ zt := zw_at 479 (by decide +kernel)
theorem lk_RX8_182 : Cond.methodLink RX8 182 yX2_sneezes ∈ zt := zw_at 480 (by decide +kernel)
theorem im_X2_sneezes : Cond.instanceMethod yX2_sneezes ∈ zt := zw_at 481 (by decide +kernel)
theorem se_X2_sneezes : Cond.selects RX2 yX2_sneezes yX2_sneezes ∈ zt := zw_at 482 (by decide +kernel)
theorem cd_X2_sneezes : Cond.code yX2_sneezes cX2_sneezes 1 (Option.some Jvm.ClassFile.FieldType.int) ∈ zt := zw_at 483 (by decide +kernel)
theorem lk_RX8_322 : Cond.methodLink RX8 322 yX6_end ∈ zt := zw_at 484 (by decide +kernel)
theorem im_X6_end : Cond.instanceMethod yX6_end ∈ zt := zw_at 485 (by decide +kernel)
theorem se_X6_end : Cond.selects RX6 yX6_end yX6_end ∈ zt := zw_at 486 (by decide +kernel)
theorem cd_X6_end : Cond.code yX6_end cX6_end 4 (Option.none : Option Jvm.ClassFile.FieldType) ∈ zt := zw_at 487 (by decide +kernel)
theorem lk_RX6_35 : Cond.methodLink RX6 35 yJ9_abs_0f7a4 ∈ zt := zw_at 488 (by decide +kernel)
theorem sm_J9_abs_0f7a4 : Cond.static yJ9_abs_0f7a4 ∈ zt := zw_at 489 (by decide +kernel)
theorem cd_J9_abs_0f7a4 : Cond.code yJ9_abs_0f7a4 cJ9_abs_0f7a4 1 (Option.some Jvm.ClassFile.FieldType.int) ∈ zt := zw_at 490 (by decide +kernel)
theorem ln_RX6_41 : Cond.methodLinkNest RX6 41 yX8_copy RX8 ∈ zt := zw_at 491 (by decide +kernel)
theorem sm_X8_copy : Cond.static yX8_copy ∈ zt := zw_at 492 (by decide +kernel)
theorem cd_X8_copy : Cond.code yX8_copy cX8_copy 3 (Option.none : Option Jvm.ClassFile.FieldType) ∈ zt := zw_at 493 (by decide +kernel)
theorem lk_RX8_325 : Cond.methodLink RX8 325 yX6_pick ∈ zt := zw_at 494 (by decide +kernel)
theorem im_X6_pick : Cond.instanceMethod yX6_pick ∈ zt := zw_at 495 (by decide +kernel)
theorem se_X6_pick : Cond.selects RX6 yX6_pick yX6_pick ∈ zt := zw_at 496 (by decide +kernel)
theorem cd_X6_pick : Cond.code yX6_pick cX6_pick 3 (Option.none : Option Jvm.ClassFile.FieldType) ∈ zt := zw_at 497 (by decide +kernel)
theorem ln_RX6_31 : Cond.methodLinkNest RX6 31 yX8_put RX8 ∈ zt := zw_at 498 (by decide +kernel)
theorem lk_RX8_179 : Cond.methodLink RX8 179 yX6_off ∈ zt := zw_at 499 (by decide +kernel)
theorem im_X6_off : Cond.instanceMethod yX6_off ∈ zt := zw_at 500 (by decide +kernel)
theorem se_X6_off : Cond.selects RX6 yX6_off yX6_off ∈ zt := zw_at 501 (by decide +kernel)
theorem cd_X6_off : Cond.code yX6_off cX6_off 1 (Option.some Jvm.ClassFile.FieldType.int) ∈ zt := zw_at 502 (by decide +kernel)
theorem lk_RX8_184 : Cond.methodLink RX8 184 yX6_chosen ∈ zt := zw_at 503 (by decide +kernel)
theorem im_X6_chosen : Cond.instanceMethod yX6_chosen ∈ zt := zw_at 504 (by decide +kernel)
theorem se_X6_chosen : Cond.selects RX6 yX6_chosen yX6_chosen ∈ zt := zw_at 505 (by decide +kernel)
theorem cd_X6_chosen : Cond.code yX6_chosen cX6_chosen 2 (Option.some Jvm.ClassFile.FieldType.int) ∈ zt := zw_at 506 (by decide +kernel)
theorem ln_RX6_45 : Cond.methodLinkNest RX6 45 yX8_cell RX8 ∈ zt := zw_at 507 (by decide +kernel)
theorem lk_RL_57 : Cond.methodLink RL 57 yX8_field ∈ zt := zw_at 508 (by decide +kernel)
theorem im_X8_field : Cond.instanceMethod yX8_field ∈ zt := zw_at 509 (by decide +kernel)
theorem se_X8_field : Cond.selects RX8 yX8_field yX8_field ∈ zt := zw_at 510 (by decide +kernel)
theorem cd_X8_field : Cond.code yX8_field cX8_field 4 (Option.some Jvm.ClassFile.FieldType.int) ∈ zt := zw_at 511 (by decide +kernel)
theorem lk_RX8_187 : Cond.methodLink RX8 187 yX8_isStretch ∈ zt := zw_at 512 (by decide +kernel)
theorem sm_X8_isStretch : Cond.static yX8_isStretch ∈ zt := zw_at 513 (by decide +kernel)
theorem cd_X8_isStretch : Cond.code yX8_isStretch cX8_isStretch 2 (Option.some Jvm.ClassFile.FieldType.boolean) ∈ zt := zw_at 514 (by decide +kernel)
theorem lk_RX8_191 : Cond.methodLink RX8 191 yX8_ways ∈ zt := zw_at 515 (by decide +kernel)
theorem sm_X8_ways : Cond.static yX8_ways ∈ zt := zw_at 516 (by decide +kernel)
theorem cd_X8_ways : Cond.code yX8_ways cX8_ways 9 (Option.some Jvm.ClassFile.FieldType.int) ∈ zt := zw_at 517 (by decide +kernel)
theorem lk_RL_61 : Cond.methodLink RL 61 yX8_take ∈ zt := zw_at 518 (by decide +kernel)
theorem im_X8_take : Cond.instanceMethod yX8_take ∈ zt := zw_at 519 (by decide +kernel)
theorem se_X8_take : Cond.selects RX8 yX8_take yX8_take ∈ zt := zw_at 520 (by decide +kernel)
theorem cd_X8_take : Cond.code yX8_take cX8_take 9 (Option.some Jvm.ClassFile.FieldType.int) ∈ zt := zw_at 521 (by decide +kernel)
theorem lk_RX8_198 : Cond.methodLink RX8 198 yX8_offWith ∈ zt := zw_at 522 (by decide +kernel)
theorem im_X8_offWith : Cond.instanceMethod yX8_offWith ∈ zt := zw_at 524 (by decide +kernel)
theorem cd_X8_offWith : Cond.code yX8_offWith cX8_offWith 5 (Option.some Jvm.ClassFile.FieldType.int) ∈ zt := zw_at 525 (by decide +kernel)
theorem lk_RX8_292 : Cond.methodLink RX8 292 yJ9_abs_0f7a4 ∈ zt := zw_at 526 (by decide +kernel)
theorem lk_RL_65 : Cond.methodLink RL 65 yX8_stay ∈ zt := zw_at 527 (by decide +kernel)
theorem im_X8_stay : Cond.instanceMethod yX8_stay ∈ zt := zw_at 528 (by decide +kernel)
theorem se_X8_stay : Cond.selects RX8 yX8_stay yX8_stay ∈ zt := zw_at 529 (by decide +kernel)
theorem cd_X8_stay : Cond.code yX8_stay cX8_stay 9 (Option.some Jvm.ClassFile.FieldType.int) ∈ zt := zw_at 530 (by decide +kernel)
theorem lk_RL_69 : Cond.methodLink RL 69 yX8_likely ∈ zt := zw_at 531 (by decide +kernel)
theorem im_X8_likely : Cond.instanceMethod yX8_likely ∈ zt := zw_at 532 (by decide +kernel)
theorem se_X8_likely : Cond.selects RX8 yX8_likely yX8_likely ∈ zt := zw_at 533 (by decide +kernel)
theorem cd_X8_likely : Cond.code yX8_likely cX8_likely 6 (Option.some Jvm.ClassFile.FieldType.long) ∈ zt := zw_at 534 (by decide +kernel)
theorem ct_RX8_202 : Cond.constantLong RX8 202 (-1000000000000000000) ∈ zt := zw_at 535 (by decide +kernel)
theorem lk_RX8_204 : Cond.methodLink RX8 204 yX1_line ∈ zt := zw_at 536 (by decide +kernel)
theorem im_X1_line : Cond.instanceMethod yX1_line ∈ zt := zw_at 537 (by decide +kernel)
theorem se_X1_line : Cond.selects RX1 yX1_line yX1_line ∈ zt := zw_at 538 (by decide +kernel)
theorem cd_X1_line : Cond.code yX1_line cX1_line 4 (Option.none : Option Jvm.ClassFile.FieldType) ∈ zt := zw_at 539 (by decide +kernel)
theorem lk_RX1_15 : Cond.methodLink RX1 15 yX7_loaded ∈ zt := zw_at 540 (by decide +kernel)
theorem lk_RX1_21 : Cond.methodLink RX1 21 yX7_heaviest ∈ zt := zw_at 541 (by decide +kernel)
theorem im_X7_heaviest : Cond.instanceMethod yX7_heaviest ∈ zt := zw_at 542 (by decide +kernel)
theorem se_X7_heaviest : Cond.selects RX7 yX7_heaviest yX7_heaviest ∈ zt := zw_at 543 (by decide +kernel)
theorem cd_X7_heaviest : Cond.code yX7_heaviest cX7_heaviest 4 (Option.some Jvm.ClassFile.FieldType.int) ∈ zt := zw_at 544 (by decide +kernel)
theorem ln_RX1_25 : Cond.methodLinkNest RX1 25 yX8_without RX8 ∈ zt := zw_at 545 (by decide +kernel)
theorem lk_RX8_208 : Cond.methodLink RX8 208 yX1_landing ∈ zt := zw_at 546 (by decide +kernel)
theorem im_X1_landing : Cond.instanceMethod yX1_landing ∈ zt := zw_at 547 (by decide +kernel)
theorem se_X1_landing : Cond.selects RX1 yX1_landing yX1_landing ∈ zt := zw_at 548 (by decide +kernel)
theorem cd_X1_landing : Cond.code yX1_landing cX1_landing 8 (Option.some Jvm.ClassFile.FieldType.long) ∈ zt := zw_at 549 (by decide +kernel)
theorem lk_RX1_29 : Cond.methodLink RX1 29 yX2_sneezes ∈ zt := zw_at 550 (by decide +kernel)
theorem lk_RX1_38 : Cond.methodLink RX1 38 yX1_placeBy ∈ zt := zw_at 551 (by decide +kernel)
theorem im_X1_placeBy : Cond.instanceMethod yX1_placeBy ∈ zt := zw_at 553 (by decide +kernel)
theorem cd_X1_placeBy : Cond.code yX1_placeBy cX1_placeBy 6 (Option.some Jvm.ClassFile.FieldType.int) ∈ zt := zw_at 554 (by decide +kernel)
theorem ln_RX1_50 : Cond.methodLinkNest RX1 50 yX8_cell RX8 ∈ zt := zw_at 555 (by decide +kernel)
theorem lk_RX1_54 : Cond.methodLink RX1 54 yX2_drift ∈ zt := zw_at 556 (by decide +kernel)
theorem lk_RX1_57 : Cond.methodLink RX1 57 yJ9_min_7cf53 ∈ zt := zw_at 557 (by decide +kernel)
theorem ln_RX1_42 : Cond.methodLinkNest RX1 42 yX8_within RX8 ∈ zt := zw_at 558 (by decide +kernel)
theorem lk_RX1_46 : Cond.methodLink RX1 46 yX1_chance ∈ zt := zw_at 559 (by decide +kernel)
theorem im_X1_chance : Cond.instanceMethod yX1_chance ∈ zt := zw_at 561 (by decide +kernel)
theorem cd_X1_chance : Cond.code yX1_chance cX1_chance 5 (Option.some Jvm.ClassFile.FieldType.long) ∈ zt := zw_at 562 (by decide +kernel)
theorem lk_RX1_62 : Cond.methodLink RX1 62 yJ6_bitCount_0f7a4 ∈ zt := zw_at 563 (by decide +kernel)
theorem lk_RX1_34 : Cond.methodLink RX1 34 yX1_power ∈ zt := zw_at 564 (by decide +kernel)
theorem sm_X1_power : Cond.static yX1_power ∈ zt := zw_at 565 (by decide +kernel)
theorem cd_X1_power : Cond.code yX1_power cX1_power 5 (Option.some Jvm.ClassFile.FieldType.long) ∈ zt := zw_at 566 (by decide +kernel)
theorem lk_RX8_212 : Cond.methodLink RX8 212 yX1_all ∈ zt := zw_at 567 (by decide +kernel)
theorem im_X1_all : Cond.instanceMethod yX1_all ∈ zt := zw_at 568 (by decide +kernel)
theorem se_X1_all : Cond.selects RX1 yX1_all yX1_all ∈ zt := zw_at 569 (by decide +kernel)
theorem cd_X1_all : Cond.code yX1_all cX1_all 2 (Option.some Jvm.ClassFile.FieldType.long) ∈ zt := zw_at 570 (by decide +kernel)
theorem lk_RX8_216 : Cond.methodLink RX8 216 yX8_inLowestTerms ∈ zt := zw_at 571 (by decide +kernel)
theorem sm_X8_inLowestTerms : Cond.static yX8_inLowestTerms ∈ zt := zw_at 572 (by decide +kernel)
theorem cd_X8_inLowestTerms : Cond.code yX8_inLowestTerms cX8_inLowestTerms 7 (Option.some Jvm.ClassFile.FieldType.long) ∈ zt := zw_at 573 (by decide +kernel)
theorem lk_RX8_328 : Cond.methodLink RX8 328 yX8_commonDivisor ∈ zt := zw_at 574 (by decide +kernel)
theorem sm_X8_commonDivisor : Cond.static yX8_commonDivisor ∈ zt := zw_at 575 (by decide +kernel)
theorem cd_X8_commonDivisor : Cond.code yX8_commonDivisor cX8_commonDivisor 11 (Option.some Jvm.ClassFile.FieldType.long) ∈ zt := zw_at 576 (by decide +kernel)
theorem lk_RL_74 : Cond.methodLink RL 74 yX8_mean ∈ zt := zw_at 577 (by decide +kernel)
theorem im_X8_mean : Cond.instanceMethod yX8_mean ∈ zt := zw_at 578 (by decide +kernel)
theorem se_X8_mean : Cond.selects RX8 yX8_mean yX8_mean ∈ zt := zw_at 579 (by decide +kernel)
theorem cd_X8_mean : Cond.code yX8_mean cX8_mean 6 (Option.some Jvm.ClassFile.FieldType.long) ∈ zt := zw_at 580 (by decide +kernel)
theorem lk_RX8_220 : Cond.methodLink RX8 220 yX1_places ∈ zt := zw_at 581 (by decide +kernel)
theorem im_X1_places : Cond.instanceMethod yX1_places ∈ zt := zw_at 582 (by decide +kernel)
theorem se_X1_places : Cond.selects RX1 yX1_places yX1_places ∈ zt := zw_at 583 (by decide +kernel)
theorem cd_X1_places : Cond.code yX1_places cX1_places 6 (Option.some Jvm.ClassFile.FieldType.long) ∈ zt := zw_at 584 (by decide +kernel)
theorem ct_RX8_224 : Cond.constantLong RX8 224 (1000) ∈ zt := zw_at 585 (by decide +kernel)
theorem lk_RL_79 : Cond.methodLink RL 79 yX8_fell ∈ zt := zw_at 586 (by decide +kernel)
theorem im_X8_fell : Cond.instanceMethod yX8_fell ∈ zt := zw_at 587 (by decide +kernel)
theorem se_X8_fell : Cond.selects RX8 yX8_fell yX8_fell ∈ zt := zw_at 588 (by decide +kernel)
theorem cd_X8_fell : Cond.code yX8_fell cX8_fell 3 (Option.some Jvm.ClassFile.FieldType.int) ∈ zt := zw_at 589 (by decide +kernel)
theorem lk_RX8_226 : Cond.methodLink RX8 226 yX7_sights ∈ zt := zw_at 590 (by decide +kernel)
theorem im_X7_sights : Cond.instanceMethod yX7_sights ∈ zt := zw_at 591 (by decide +kernel)
theorem se_X7_sights : Cond.selects RX7 yX7_sights yX7_sights ∈ zt := zw_at 592 (by decide +kernel)
theorem cd_X7_sights : Cond.code yX7_sights cX7_sights 1 (Option.some Jvm.ClassFile.FieldType.int) ∈ zt := zw_at 593 (by decide +kernel)
theorem lk_RX8_229 : Cond.methodLink RX8 229 yX7_addSight ∈ zt := zw_at 594 (by decide +kernel)
theorem im_X7_addSight : Cond.instanceMethod yX7_addSight ∈ zt := zw_at 595 (by decide +kernel)
theorem se_X7_addSight : Cond.selects RX7 yX7_addSight yX7_addSight ∈ zt := zw_at 596 (by decide +kernel)
theorem cd_X7_addSight : Cond.code yX7_addSight cX7_addSight 3 (Option.none : Option Jvm.ClassFile.FieldType) ∈ zt := zw_at 597 (by decide +kernel)
theorem lk_RL_83 : Cond.methodLink RL 83 yX8_forget ∈ zt := zw_at 598 (by decide +kernel)
theorem im_X8_forget : Cond.instanceMethod yX8_forget ∈ zt := zw_at 599 (by decide +kernel)
theorem se_X8_forget : Cond.selects RX8 yX8_forget yX8_forget ∈ zt := zw_at 600 (by decide +kernel)
theorem cd_X8_forget : Cond.code yX8_forget cX8_forget 2 (Option.some Jvm.ClassFile.FieldType.int) ∈ zt := zw_at 601 (by decide +kernel)
theorem lk_RX8_232 : Cond.methodLink RX8 232 yX7_forgetSights ∈ zt := zw_at 602 (by decide +kernel)
theorem im_X7_forgetSights : Cond.instanceMethod yX7_forgetSights ∈ zt := zw_at 603 (by decide +kernel)
theorem se_X7_forgetSights : Cond.selects RX7 yX7_forgetSights yX7_forgetSights ∈ zt := zw_at 604 (by decide +kernel)
theorem cd_X7_forgetSights : Cond.code yX7_forgetSights cX7_forgetSights 1 (Option.none : Option Jvm.ClassFile.FieldType) ∈ zt := zw_at 605 (by decide +kernel)
theorem lk_RL_87 : Cond.methodLink RL 87 yX8_starts ∈ zt := zw_at 606 (by decide +kernel)
theorem im_X8_starts : Cond.instanceMethod yX8_starts ∈ zt := zw_at 607 (by decide +kernel)
theorem se_X8_starts : Cond.selects RX8 yX8_starts yX8_starts ∈ zt := zw_at 608 (by decide +kernel)
theorem cd_X8_starts : Cond.code yX8_starts cX8_starts 6 (Option.some Jvm.ClassFile.FieldType.int) ∈ zt := zw_at 609 (by decide +kernel)
theorem lk_RX8_235 : Cond.methodLink RX8 235 yX8_sightsHold ∈ zt := zw_at 610 (by decide +kernel)
theorem im_X8_sightsHold : Cond.instanceMethod yX8_sightsHold ∈ zt := zw_at 612 (by decide +kernel)
theorem cd_X8_sightsHold : Cond.code yX8_sightsHold cX8_sightsHold 3 (Option.some Jvm.ClassFile.FieldType.boolean) ∈ zt := zw_at 613 (by decide +kernel)
theorem lk_RX8_295 : Cond.methodLink RX8 295 yX3_clear ∈ zt := zw_at 614 (by decide +kernel)
theorem im_X3_clear : Cond.instanceMethod yX3_clear ∈ zt := zw_at 615 (by decide +kernel)
theorem se_X3_clear : Cond.selects RX3 yX3_clear yX3_clear ∈ zt := zw_at 616 (by decide +kernel)
theorem cd_X3_clear : Cond.code yX3_clear cX3_clear 1 (Option.none : Option Jvm.ClassFile.FieldType) ∈ zt := zw_at 617 (by decide +kernel)
theorem lk_RX8_296 : Cond.methodLink RX8 296 yX3_note ∈ zt := zw_at 618 (by decide +kernel)
theorem im_X3_note : Cond.instanceMethod yX3_note ∈ zt := zw_at 619 (by decide +kernel)
theorem se_X3_note : Cond.selects RX3 yX3_note yX3_note ∈ zt := zw_at 620 (by decide +kernel)
theorem cd_X3_note : Cond.code yX3_note cX3_note 3 (Option.none : Option Jvm.ClassFile.FieldType) ∈ zt := zw_at 621 (by decide +kernel)
theorem ln_RX3_19 : Cond.methodLinkNest RX3 19 yX8_isThing RX8 ∈ zt := zw_at 622 (by decide +kernel)
theorem ln_RX3_23 : Cond.methodLinkNest RX3 23 yX8_put RX8 ∈ zt := zw_at 623 (by decide +kernel)
theorem lk_RX8_299 : Cond.methodLink RX8 299 yX7_sightThing ∈ zt := zw_at 624 (by decide +kernel)
theorem im_X7_sightThing : Cond.instanceMethod yX7_sightThing ∈ zt := zw_at 625 (by decide +kernel)
theorem se_X7_sightThing : Cond.selects RX7 yX7_sightThing yX7_sightThing ∈ zt := zw_at 626 (by decide +kernel)
theorem cd_X7_sightThing : Cond.code yX7_sightThing cX7_sightThing 2 (Option.some Jvm.ClassFile.FieldType.int) ∈ zt := zw_at 627 (by decide +kernel)
theorem lk_RX8_302 : Cond.methodLink RX8 302 yX7_sightPlace ∈ zt := zw_at 628 (by decide +kernel)
theorem im_X7_sightPlace : Cond.instanceMethod yX7_sightPlace ∈ zt := zw_at 629 (by decide +kernel)
theorem se_X7_sightPlace : Cond.selects RX7 yX7_sightPlace yX7_sightPlace ∈ zt := zw_at 630 (by decide +kernel)
theorem cd_X7_sightPlace : Cond.code yX7_sightPlace cX7_sightPlace 2 (Option.some Jvm.ClassFile.FieldType.int) ∈ zt := zw_at 631 (by decide +kernel)
theorem lk_RX8_305 : Cond.methodLink RX8 305 yX3_saw ∈ zt := zw_at 632 (by decide +kernel)
theorem im_X3_saw : Cond.instanceMethod yX3_saw ∈ zt := zw_at 633 (by decide +kernel)
theorem se_X3_saw : Cond.selects RX3 yX3_saw yX3_saw ∈ zt := zw_at 634 (by decide +kernel)
theorem cd_X3_saw : Cond.code yX3_saw cX3_saw 3 (Option.some Jvm.ClassFile.FieldType.boolean) ∈ zt := zw_at 635 (by decide +kernel)
theorem ln_RX3_27 : Cond.methodLinkNest RX3 27 yX8_has RX8 ∈ zt := zw_at 636 (by decide +kernel)
theorem ln_RX3_31 : Cond.methodLinkNest RX3 31 yX8_cell RX8 ∈ zt := zw_at 637 (by decide +kernel)
theorem lk_RX8_238 : Cond.methodLink RX8 238 yX8_oneOf ∈ zt := zw_at 638 (by decide +kernel)
theorem sm_X8_oneOf : Cond.static yX8_oneOf ∈ zt := zw_at 639 (by decide +kernel)
theorem cd_X8_oneOf : Cond.code yX8_oneOf cX8_oneOf 4 (Option.some Jvm.ClassFile.FieldType.int) ∈ zt := zw_at 640 (by decide +kernel)
theorem lk_RL_91 : Cond.methodLink RL 91 yX8_ahead ∈ zt := zw_at 641 (by decide +kernel)
theorem im_X8_ahead : Cond.instanceMethod yX8_ahead ∈ zt := zw_at 642 (by decide +kernel)
theorem se_X8_ahead : Cond.selects RX8 yX8_ahead yX8_ahead ∈ zt := zw_at 643 (by decide +kernel)
theorem cd_X8_ahead : Cond.code yX8_ahead cX8_ahead 8 (Option.some Jvm.ClassFile.FieldType.int) ∈ zt := zw_at 644 (by decide +kernel)
theorem lk_RL_95 : Cond.methodLink RL 95 yX8_year ∈ zt := zw_at 645 (by decide +kernel)
theorem im_X8_year : Cond.instanceMethod yX8_year ∈ zt := zw_at 646 (by decide +kernel)
theorem se_X8_year : Cond.selects RX8 yX8_year yX8_year ∈ zt := zw_at 647 (by decide +kernel)
theorem cd_X8_year : Cond.code yX8_year cX8_year 9 (Option.some Jvm.ClassFile.FieldType.int) ∈ zt := zw_at 648 (by decide +kernel)
theorem lk_RX8_248 : Cond.methodLink RX8 248 yX8_flyByDraws ∈ zt := zw_at 649 (by decide +kernel)
theorem im_X8_flyByDraws : Cond.instanceMethod yX8_flyByDraws ∈ zt := zw_at 651 (by decide +kernel)
theorem cd_X8_flyByDraws : Cond.code yX8_flyByDraws cX8_flyByDraws 4 (Option.some Jvm.ClassFile.FieldType.int) ∈ zt := zw_at 652 (by decide +kernel)
theorem ct_RX8_308 : Cond.constant RX8 308 (65537) ∈ zt := zw_at 653 (by decide +kernel)
theorem lk_RX8_309 : Cond.methodLink RX8 309 yX7_heaviest ∈ zt := zw_at 654 (by decide +kernel)
theorem lk_RX8_251 : Cond.methodLink RX8 251 yJ9_min_7cf53 ∈ zt := zw_at 655 (by decide +kernel)
theorem lk_RX8_256 : Cond.methodLink RX8 256 yJ9_max_7cf53 ∈ zt := zw_at 656 (by decide +kernel)
theorem ct_RX8_259 : Cond.constant RX8 259 (100000) ∈ zt := zw_at 657 (by decide +kernel)
theorem lk_RL_99 : Cond.methodLink RL 99 yX8_image ∈ zt := zw_at 658 (by decide +kernel)
theorem im_X8_image : Cond.instanceMethod yX8_image ∈ zt := zw_at 659 (by decide +kernel)
theorem se_X8_image : Cond.selects RX8 yX8_image yX8_image ∈ zt := zw_at 660 (by decide +kernel)
theorem cd_X8_image : Cond.code yX8_image cX8_image 2 (Option.some Jvm.ClassFile.FieldType.int) ∈ zt := zw_at 661 (by decide +kernel)
theorem lk_RX8_260 : Cond.methodLink RX8 260 yX8_imageOf ∈ zt := zw_at 662 (by decide +kernel)
theorem im_X8_imageOf : Cond.instanceMethod yX8_imageOf ∈ zt := zw_at 664 (by decide +kernel)
theorem cd_X8_imageOf : Cond.code yX8_imageOf cX8_imageOf 2 (Option.some (Jvm.ClassFile.FieldType.object "SneezeRace$Setup")) ∈ zt := zw_at 665 (by decide +kernel)
theorem lk_RX8_264 : Cond.methodLink RX8 264 yX7_keep ∈ zt := zw_at 666 (by decide +kernel)
theorem im_X7_keep : Cond.instanceMethod yX7_keep ∈ zt := zw_at 667 (by decide +kernel)
theorem se_X7_keep : Cond.selects RX7 yX7_keep yX7_keep ∈ zt := zw_at 668 (by decide +kernel)
theorem cd_X7_keep : Cond.code yX7_keep cX7_keep 2 (Option.none : Option Jvm.ClassFile.FieldType) ∈ zt := zw_at 669 (by decide +kernel)
theorem lk_RX7_72 : Cond.methodLink RX7 72 yX7_become ∈ zt := zw_at 670 (by decide +kernel)
theorem im_X7_become : Cond.instanceMethod yX7_become ∈ zt := zw_at 671 (by decide +kernel)
theorem se_X7_become : Cond.selects RX7 yX7_become yX7_become ∈ zt := zw_at 672 (by decide +kernel)
theorem cd_X7_become : Cond.code yX7_become cX7_become 2 (Option.none : Option Jvm.ClassFile.FieldType) ∈ zt := zw_at 673 (by decide +kernel)
theorem ln_RX7_68 : Cond.methodLinkNest RX7 68 yX8_copy RX8 ∈ zt := zw_at 674 (by decide +kernel)
theorem lk_RL_103 : Cond.methodLink RL 103 yX8_restore ∈ zt := zw_at 675 (by decide +kernel)
theorem im_X8_restore : Cond.instanceMethod yX8_restore ∈ zt := zw_at 676 (by decide +kernel)
theorem se_X8_restore : Cond.selects RX8 yX8_restore yX8_restore ∈ zt := zw_at 677 (by decide +kernel)
theorem cd_X8_restore : Cond.code yX8_restore cX8_restore 2 (Option.some Jvm.ClassFile.FieldType.int) ∈ zt := zw_at 678 (by decide +kernel)
theorem lk_RX8_267 : Cond.methodLink RX8 267 yX7_isKept ∈ zt := zw_at 679 (by decide +kernel)
theorem im_X7_isKept : Cond.instanceMethod yX7_isKept ∈ zt := zw_at 680 (by decide +kernel)
theorem se_X7_isKept : Cond.selects RX7 yX7_isKept yX7_isKept ∈ zt := zw_at 681 (by decide +kernel)
theorem cd_X7_isKept : Cond.code yX7_isKept cX7_isKept 1 (Option.some Jvm.ClassFile.FieldType.boolean) ∈ zt := zw_at 682 (by decide +kernel)
theorem lk_RX8_271 : Cond.methodLink RX8 271 yX7_become ∈ zt := zw_at 683 (by decide +kernel)
theorem lk_RL_107 : Cond.methodLink RL 107 yX8_told ∈ zt := zw_at 684 (by decide +kernel)
theorem im_X8_told : Cond.instanceMethod yX8_told ∈ zt := zw_at 685 (by decide +kernel)
theorem se_X8_told : Cond.selects RX8 yX8_told yX8_told ∈ zt := zw_at 686 (by decide +kernel)
theorem cd_X8_told : Cond.code yX8_told cX8_told 2 (Option.some Jvm.ClassFile.FieldType.int) ∈ zt := zw_at 687 (by decide +kernel)
theorem cl_RL_10 : Cond.classLink RL 10 RX9 ∈ zt := zw_at 688 (by decide +kernel)
theorem it_RX9 : Cond.instantiable RX9 27 ∈ zt := zw_at 689 (by decide +kernel)
theorem lk_RL_12 : Cond.methodLink RL 12 yX9_init ∈ zt := zw_at 690 (by decide +kernel)
theorem im_X9_init : Cond.instanceMethod yX9_init ∈ zt := zw_at 691 (by decide +kernel)
theorem cd_X9_init : Cond.code yX9_init cX9_init 2 (Option.none : Option Jvm.ClassFile.FieldType) ∈ zt := zw_at 692 (by decide +kernel)
theorem lk_RX9_1 : Cond.methodLink RX9 1 objectInit ∈ zt := zw_at 693 (by decide +kernel)
theorem fl_RX9_50 : Cond.fieldLink RX9 50 "SneezeRaceModel" "turn" "I" ∈ zt := zw_at 694 (by decide +kernel)
theorem fl_RX9_54 : Cond.fieldLink RX9 54 "SneezeRaceModel" "gas" "I" ∈ zt := zw_at 695 (by decide +kernel)
theorem fl_RX9_57 : Cond.fieldLink RX9 57 "SneezeRaceModel" "leak" "I" ∈ zt := zw_at 696 (by decide +kernel)
theorem fl_RX9_60 : Cond.fieldLink RX9 60 "SneezeRaceModel" "step" "I" ∈ zt := zw_at 697 (by decide +kernel)
theorem fl_RX9_63 : Cond.fieldLink RX9 63 "SneezeRaceModel" "doubts" "I" ∈ zt := zw_at 698 (by decide +kernel)
theorem fl_RX9_66 : Cond.fieldLink RX9 66 "SneezeRaceModel" "window" "I" ∈ zt := zw_at 699 (by decide +kernel)
theorem fl_RX9_7 : Cond.fieldLink RX9 7 "SneezeRaceModel" "early" "[I" ∈ zt := zw_at 700 (by decide +kernel)
theorem fl_RX9_13 : Cond.fieldLink RX9 13 "SneezeRaceModel" "late" "[I" ∈ zt := zw_at 701 (by decide +kernel)
theorem fl_RX9_16 : Cond.fieldLink RX9 16 "SneezeRaceModel" "weight" "[I" ∈ zt := zw_at 702 (by decide +kernel)
theorem fl_RX9_19 : Cond.fieldLink RX9 19 "SneezeRaceModel" "sightThing" "[I" ∈ zt := zw_at 703 (by decide +kernel)
theorem fl_RX9_22 : Cond.fieldLink RX9 22 "SneezeRaceModel" "sightPlace" "[I" ∈ zt := zw_at 704 (by decide +kernel)
theorem fl_RX9_214 : Cond.fieldLink RX9 214 "SneezeRaceModel" "sights" "I" ∈ zt := zw_at 705 (by decide +kernel)
theorem fl_RX9_25 : Cond.fieldLink RX9 25 "SneezeRaceModel" "pad" "[I" ∈ zt := zw_at 706 (by decide +kernel)
theorem fl_RX9_95 : Cond.fieldLink RX9 95 "SneezeRaceModel" "padMany" "I" ∈ zt := zw_at 707 (by decide +kernel)
theorem fl_RX9_102 : Cond.fieldLink RX9 102 "SneezeRaceModel" "place" "I" ∈ zt := zw_at 708 (by decide +kernel)
theorem fl_RX9_105 : Cond.fieldLink RX9 105 "SneezeRaceModel" "minute" "I" ∈ zt := zw_at 709 (by decide +kernel)
theorem fl_RX9_108 : Cond.fieldLink RX9 108 "SneezeRaceModel" "left" "I" ∈ zt := zw_at 710 (by decide +kernel)
theorem fl_RX9_111 : Cond.fieldLink RX9 111 "SneezeRaceModel" "aboard" "I" ∈ zt := zw_at 711 (by decide +kernel)
theorem fl_RX9_28 : Cond.fieldLink RX9 28 "SneezeRaceModel" "sneezesAt" "[I" ∈ zt := zw_at 712 (by decide +kernel)
theorem fl_RX9_31 : Cond.fieldLink RX9 31 "SneezeRaceModel" "throwAt" "[I" ∈ zt := zw_at 713 (by decide +kernel)
theorem fl_RX9_34 : Cond.fieldLink RX9 34 "SneezeRaceModel" "best" "[I" ∈ zt := zw_at 714 (by decide +kernel)
theorem fl_RX9_37 : Cond.fieldLink RX9 37 "SneezeRaceModel" "fellAt" "[I" ∈ zt := zw_at 715 (by decide +kernel)
theorem fl_RX9_40 : Cond.fieldLink RX9 40 "SneezeRaceModel" "placeAt" "[I" ∈ zt := zw_at 716 (by decide +kernel)
theorem fl_RX9_43 : Cond.fieldLink RX9 43 "SneezeRaceModel" "kept" "[I" ∈ zt := zw_at 717 (by decide +kernel)
theorem fl_RX9_46 : Cond.fieldLink RX9 46 "SneezeRaceModel" "isKept" "[Z" ∈ zt := zw_at 718 (by decide +kernel)
theorem fl_RX9_239 : Cond.fieldLink RX9 239 "SneezeRaceModel" "keptAt" "I" ∈ zt := zw_at 719 (by decide +kernel)
theorem fl_RX9_235 : Cond.fieldLink RX9 235 "SneezeRaceModel" "isWriting" "Z" ∈ zt := zw_at 720 (by decide +kernel)
theorem ac_boolean : Cond.arrayClass .boolean ∈ zt := zw_at 776 (by decide +kernel)
theorem lk_RL_17 : Cond.methodLink RL 17 yX9_wind ∈ zt := zw_at 777 (by decide +kernel)
theorem im_X9_wind : Cond.instanceMethod yX9_wind ∈ zt := zw_at 778 (by decide +kernel)
theorem se_X9_wind : Cond.selects RX9 yX9_wind yX9_wind ∈ zt := zw_at 779 (by decide +kernel)
theorem cd_X9_wind : Cond.code yX9_wind cX9_wind 5 (Option.some Jvm.ClassFile.FieldType.int) ∈ zt := zw_at 780 (by decide +kernel)
theorem ct_RX9_69 : Cond.constantLong RX9 69 (4) ∈ zt := zw_at 781 (by decide +kernel)
theorem lk_RX9_71 : Cond.methodLink RX9 71 yX9_in ∈ zt := zw_at 782 (by decide +kernel)
theorem sm_X9_in : Cond.static yX9_in ∈ zt := zw_at 783 (by decide +kernel)
theorem cd_X9_in : Cond.code yX9_in cX9_in 6 (Option.some Jvm.ClassFile.FieldType.boolean) ∈ zt := zw_at 784 (by decide +kernel)
theorem ct_RX9_75 : Cond.constantLong RX9 75 (-9) ∈ zt := zw_at 785 (by decide +kernel)
theorem ct_RX9_77 : Cond.constantLong RX9 77 (9) ∈ zt := zw_at 786 (by decide +kernel)
theorem lk_RL_22 : Cond.methodLink RL 22 yX9_set ∈ zt := zw_at 787 (by decide +kernel)
theorem im_X9_set : Cond.instanceMethod yX9_set ∈ zt := zw_at 788 (by decide +kernel)
theorem se_X9_set : Cond.selects RX9 yX9_set yX9_set ∈ zt := zw_at 789 (by decide +kernel)
theorem cd_X9_set : Cond.code yX9_set cX9_set 6 (Option.some Jvm.ClassFile.FieldType.int) ∈ zt := zw_at 790 (by decide +kernel)
theorem ct_RX9_79 : Cond.constantLong RX9 79 (5) ∈ zt := zw_at 791 (by decide +kernel)
theorem lk_RX9_81 : Cond.methodLink RX9 81 yX9_told ∈ zt := zw_at 792 (by decide +kernel)
theorem im_X9_told : Cond.instanceMethod yX9_told ∈ zt := zw_at 793 (by decide +kernel)
theorem se_X9_told : Cond.selects RX9 yX9_told yX9_told ∈ zt := zw_at 794 (by decide +kernel)
theorem cd_X9_told : Cond.code yX9_told cX9_told 2 (Option.some Jvm.ClassFile.FieldType.int) ∈ zt := zw_at 795 (by decide +kernel)
theorem ct_RX9_196 : Cond.constantLong RX9 196 (10) ∈ zt := zw_at 796 (by decide +kernel)
theorem ct_RX9_248 : Cond.constantLong RX9 248 (15) ∈ zt := zw_at 797 (by decide +kernel)
theorem ct_RX9_89 : Cond.constantLong RX9 89 (20) ∈ zt := zw_at 798 (by decide +kernel)
theorem ct_RX9_250 : Cond.constantLong RX9 250 (24) ∈ zt := zw_at 799 (by decide +kernel)
theorem ct_RX9_252 : Cond.constantLong RX9 252 (30) ∈ zt := zw_at 800 (by decide +kernel)
theorem ct_RX9_254 : Cond.constantLong RX9 254 (34) ∈ zt := zw_at 801 (by decide +kernel)
theorem lk_RL_26 : Cond.methodLink RL 26 yX9_load ∈ zt := zw_at 802 (by decide +kernel)
theorem im_X9_load : Cond.instanceMethod yX9_load ∈ zt := zw_at 803 (by decide +kernel)
theorem se_X9_load : Cond.selects RX9 yX9_load yX9_load ∈ zt := zw_at 804 (by decide +kernel)
theorem cd_X9_load : Cond.code yX9_load cX9_load 4 (Option.some Jvm.ClassFile.FieldType.int) ∈ zt := zw_at 805 (by decide +kernel)
theorem lk_RX9_85 : Cond.methodLink RX9 85 yX9_isThing ∈ zt := zw_at 806 (by decide +kernel)
theorem sm_X9_isThing : Cond.static yX9_isThing ∈ zt := zw_at 807 (by decide +kernel)
theorem cd_X9_isThing : Cond.code yX9_isThing cX9_isThing 1 (Option.some Jvm.ClassFile.FieldType.boolean) ∈ zt := zw_at 808 (by decide +kernel)
theorem lk_RL_31 : Cond.methodLink RL 31 yX9_say ∈ zt := zw_at 809 (by decide +kernel)
theorem im_X9_say : Cond.instanceMethod yX9_say ∈ zt := zw_at 810 (by decide +kernel)
theorem se_X9_say : Cond.selects RX9 yX9_say yX9_say ∈ zt := zw_at 811 (by decide +kernel)
theorem cd_X9_say : Cond.code yX9_say cX9_say 2 (Option.some Jvm.ClassFile.FieldType.int) ∈ zt := zw_at 812 (by decide +kernel)
theorem ct_RX9_91 : Cond.constantLong RX9 91 (33) ∈ zt := zw_at 813 (by decide +kernel)
theorem ct_RX9_93 : Cond.constantLong RX9 93 (126) ∈ zt := zw_at 814 (by decide +kernel)
theorem lk_RL_36 : Cond.methodLink RL 36 yX9_wipe ∈ zt := zw_at 815 (by decide +kernel)
theorem im_X9_wipe : Cond.instanceMethod yX9_wipe ∈ zt := zw_at 816 (by decide +kernel)
theorem se_X9_wipe : Cond.selects RX9 yX9_wipe yX9_wipe ∈ zt := zw_at 817 (by decide +kernel)
theorem cd_X9_wipe : Cond.code yX9_wipe cX9_wipe 2 (Option.some Jvm.ClassFile.FieldType.int) ∈ zt := zw_at 818 (by decide +kernel)
theorem lk_RL_40 : Cond.methodLink RL 40 yX9_fault ∈ zt := zw_at 819 (by decide +kernel)
theorem im_X9_fault : Cond.instanceMethod yX9_fault ∈ zt := zw_at 820 (by decide +kernel)
theorem se_X9_fault : Cond.selects RX9 yX9_fault yX9_fault ∈ zt := zw_at 821 (by decide +kernel)
theorem cd_X9_fault : Cond.code yX9_fault cX9_fault 7 (Option.some Jvm.ClassFile.FieldType.int) ∈ zt := zw_at 822 (by decide +kernel)
theorem lk_RX9_98 : Cond.methodLink RX9 98 yX9_loaded ∈ zt := zw_at 823 (by decide +kernel)
theorem im_X9_loaded : Cond.instanceMethod yX9_loaded ∈ zt := zw_at 825 (by decide +kernel)
theorem cd_X9_loaded : Cond.code yX9_loaded cX9_loaded 3 (Option.some Jvm.ClassFile.FieldType.int) ∈ zt := zw_at 826 (by decide +kernel)
theorem lk_RL_44 : Cond.methodLink RL 44 yX9_at ∈ zt := zw_at 827 (by decide +kernel)
theorem im_X9_at : Cond.instanceMethod yX9_at ∈ zt := zw_at 828 (by decide +kernel)
theorem se_X9_at : Cond.selects RX9 yX9_at yX9_at ∈ zt := zw_at 829 (by decide +kernel)
theorem cd_X9_at : Cond.code yX9_at cX9_at 4 (Option.some Jvm.ClassFile.FieldType.int) ∈ zt := zw_at 830 (by decide +kernel)
theorem lk_RX9_128 : Cond.methodLink RX9 128 yX9_fault ∈ zt := zw_at 831 (by decide +kernel)
theorem ct_RX9_131 : Cond.constantLong RX9 131 (-1) ∈ zt := zw_at 832 (by decide +kernel)
theorem lk_RX9_133 : Cond.methodLink RX9 133 yX9_countOf ∈ zt := zw_at 833 (by decide +kernel)
theorem im_X9_countOf : Cond.instanceMethod yX9_countOf ∈ zt := zw_at 835 (by decide +kernel)
theorem cd_X9_countOf : Cond.code yX9_countOf cX9_countOf 4 (Option.some Jvm.ClassFile.FieldType.int) ∈ zt := zw_at 836 (by decide +kernel)
theorem ct_RX9_136 : Cond.constantLong RX9 136 (3) ∈ zt := zw_at 837 (by decide +kernel)
theorem lk_RX9_138 : Cond.methodLink RX9 138 yX9_startNow ∈ zt := zw_at 838 (by decide +kernel)
theorem im_X9_startNow : Cond.instanceMethod yX9_startNow ∈ zt := zw_at 840 (by decide +kernel)
theorem cd_X9_startNow : Cond.code yX9_startNow cX9_startNow 1 (Option.none : Option Jvm.ClassFile.FieldType) ∈ zt := zw_at 841 (by decide +kernel)
theorem lk_RX9_114 : Cond.methodLink RX9 114 yX9_start ∈ zt := zw_at 842 (by decide +kernel)
theorem im_X9_start : Cond.instanceMethod yX9_start ∈ zt := zw_at 844 (by decide +kernel)
theorem cd_X9_start : Cond.code yX9_start cX9_start 3 (Option.none : Option Jvm.ClassFile.FieldType) ∈ zt := zw_at 845 (by decide +kernel)
theorem lk_RX9_141 : Cond.methodLink RX9 141 yX9_happen ∈ zt := zw_at 846 (by decide +kernel)
theorem im_X9_happen : Cond.instanceMethod yX9_happen ∈ zt := zw_at 848 (by decide +kernel)
theorem cd_X9_happen : Cond.code yX9_happen cX9_happen 2 (Option.none : Option Jvm.ClassFile.FieldType) ∈ zt := zw_at 849 (by decide +kernel)
theorem lk_RX9_121 : Cond.methodLink RX9 121 yX9_drift ∈ zt := zw_at 850 (by decide +kernel)
theorem im_X9_drift : Cond.instanceMethod yX9_drift ∈ zt := zw_at 852 (by decide +kernel)
theorem cd_X9_drift : Cond.code yX9_drift cX9_drift 1 (Option.none : Option Jvm.ClassFile.FieldType) ∈ zt := zw_at 853 (by decide +kernel)
theorem lk_RX9_118 : Cond.methodLink RX9 118 yX9_height ∈ zt := zw_at 854 (by decide +kernel)
theorem im_X9_height : Cond.instanceMethod yX9_height ∈ zt := zw_at 856 (by decide +kernel)
theorem cd_X9_height : Cond.code yX9_height cX9_height 3 (Option.some Jvm.ClassFile.FieldType.int) ∈ zt := zw_at 857 (by decide +kernel)
theorem lk_RX9_124 : Cond.methodLink RX9 124 yX9_throwOut ∈ zt := zw_at 858 (by decide +kernel)
theorem im_X9_throwOut : Cond.instanceMethod yX9_throwOut ∈ zt := zw_at 860 (by decide +kernel)
theorem cd_X9_throwOut : Cond.code yX9_throwOut cX9_throwOut 2 (Option.none : Option Jvm.ClassFile.FieldType) ∈ zt := zw_at 861 (by decide +kernel)
theorem lk_RX9_144 : Cond.methodLink RX9 144 yX9_ones ∈ zt := zw_at 862 (by decide +kernel)
theorem im_X9_ones : Cond.instanceMethod yX9_ones ∈ zt := zw_at 864 (by decide +kernel)
theorem cd_X9_ones : Cond.code yX9_ones cX9_ones 4 (Option.some Jvm.ClassFile.FieldType.int) ∈ zt := zw_at 865 (by decide +kernel)
theorem lk_RL_48 : Cond.methodLink RL 48 yX9_judge ∈ zt := zw_at 866 (by decide +kernel)
theorem im_X9_judge : Cond.instanceMethod yX9_judge ∈ zt := zw_at 867 (by decide +kernel)
theorem se_X9_judge : Cond.selects RX9 yX9_judge yX9_judge ∈ zt := zw_at 868 (by decide +kernel)
theorem cd_X9_judge : Cond.code yX9_judge cX9_judge 2 (Option.some Jvm.ClassFile.FieldType.int) ∈ zt := zw_at 869 (by decide +kernel)
theorem lk_RX9_153 : Cond.methodLink RX9 153 yX9_fines ∈ zt := zw_at 870 (by decide +kernel)
theorem im_X9_fines : Cond.instanceMethod yX9_fines ∈ zt := zw_at 872 (by decide +kernel)
theorem cd_X9_fines : Cond.code yX9_fines cX9_fines 4 (Option.some Jvm.ClassFile.FieldType.int) ∈ zt := zw_at 873 (by decide +kernel)
theorem lk_RX9_156 : Cond.methodLink RX9 156 yX9_doubted ∈ zt := zw_at 874 (by decide +kernel)
theorem im_X9_doubted : Cond.instanceMethod yX9_doubted ∈ zt := zw_at 876 (by decide +kernel)
theorem cd_X9_doubted : Cond.code yX9_doubted cX9_doubted 5 (Option.some Jvm.ClassFile.FieldType.int) ∈ zt := zw_at 877 (by decide +kernel)
theorem lk_RX9_147 : Cond.methodLink RX9 147 yX9_findSneezes ∈ zt := zw_at 878 (by decide +kernel)
theorem im_X9_findSneezes : Cond.instanceMethod yX9_findSneezes ∈ zt := zw_at 880 (by decide +kernel)
theorem cd_X9_findSneezes : Cond.code yX9_findSneezes cX9_findSneezes 3 (Option.none : Option Jvm.ClassFile.FieldType) ∈ zt := zw_at 881 (by decide +kernel)
theorem lk_RX9_150 : Cond.methodLink RX9 150 yX9_within ∈ zt := zw_at 882 (by decide +kernel)
theorem im_X9_within : Cond.instanceMethod yX9_within ∈ zt := zw_at 884 (by decide +kernel)
theorem cd_X9_within : Cond.code yX9_within cX9_within 4 (Option.some Jvm.ClassFile.FieldType.int) ∈ zt := zw_at 885 (by decide +kernel)
theorem lk_RL_52 : Cond.methodLink RL 52 yX9_pepper ∈ zt := zw_at 886 (by decide +kernel)
theorem im_X9_pepper : Cond.instanceMethod yX9_pepper ∈ zt := zw_at 887 (by decide +kernel)
theorem se_X9_pepper : Cond.selects RX9 yX9_pepper yX9_pepper ∈ zt := zw_at 888 (by decide +kernel)
theorem cd_X9_pepper : Cond.code yX9_pepper cX9_pepper 4 (Option.some Jvm.ClassFile.FieldType.int) ∈ zt := zw_at 889 (by decide +kernel)
theorem lk_RX9_159 : Cond.methodLink RX9 159 yX9_isDoubted ∈ zt := zw_at 890 (by decide +kernel)
theorem im_X9_isDoubted : Cond.instanceMethod yX9_isDoubted ∈ zt := zw_at 892 (by decide +kernel)
theorem cd_X9_isDoubted : Cond.code yX9_isDoubted cX9_isDoubted 3 (Option.some Jvm.ClassFile.FieldType.boolean) ∈ zt := zw_at 893 (by decide +kernel)
theorem lk_RL_56 : Cond.methodLink RL 56 yX9_nearest ∈ zt := zw_at 894 (by decide +kernel)
theorem im_X9_nearest : Cond.instanceMethod yX9_nearest ∈ zt := zw_at 895 (by decide +kernel)
theorem se_X9_nearest : Cond.selects RX9 yX9_nearest yX9_nearest ∈ zt := zw_at 896 (by decide +kernel)
theorem cd_X9_nearest : Cond.code yX9_nearest cX9_nearest 9 (Option.some Jvm.ClassFile.FieldType.int) ∈ zt := zw_at 897 (by decide +kernel)
theorem lk_RX9_167 : Cond.methodLink RX9 167 yX9_isGoal ∈ zt := zw_at 898 (by decide +kernel)
theorem sm_X9_isGoal : Cond.static yX9_isGoal ∈ zt := zw_at 899 (by decide +kernel)
theorem cd_X9_isGoal : Cond.code yX9_isGoal cX9_isGoal 1 (Option.some Jvm.ClassFile.FieldType.boolean) ∈ zt := zw_at 900 (by decide +kernel)
theorem ct_RX9_163 : Cond.constantLong RX9 163 (-600) ∈ zt := zw_at 901 (by decide +kernel)
theorem ct_RX9_165 : Cond.constantLong RX9 165 (600) ∈ zt := zw_at 902 (by decide +kernel)
theorem lk_RX9_170 : Cond.methodLink RX9 170 yX9_refusal ∈ zt := zw_at 903 (by decide +kernel)
theorem im_X9_refusal : Cond.instanceMethod yX9_refusal ∈ zt := zw_at 905 (by decide +kernel)
theorem cd_X9_refusal : Cond.code yX9_refusal cX9_refusal 3 (Option.some Jvm.ClassFile.FieldType.int) ∈ zt := zw_at 906 (by decide +kernel)
theorem ct_RX9_173 : Cond.constant RX9 173 (100000) ∈ zt := zw_at 907 (by decide +kernel)
theorem lk_RX9_174 : Cond.methodLink RX9 174 yX9_sevens ∈ zt := zw_at 908 (by decide +kernel)
theorem sm_X9_sevens : Cond.static yX9_sevens ∈ zt := zw_at 909 (by decide +kernel)
theorem cd_X9_sevens : Cond.code yX9_sevens cX9_sevens 3 (Option.some Jvm.ClassFile.FieldType.int) ∈ zt := zw_at 910 (by decide +kernel)
theorem lk_RX9_177 : Cond.methodLink RX9 177 yX9_layThrows ∈ zt := zw_at 911 (by decide +kernel)
theorem im_X9_layThrows : Cond.instanceMethod yX9_layThrows ∈ zt := zw_at 913 (by decide +kernel)
theorem cd_X9_layThrows : Cond.code yX9_layThrows cX9_layThrows 9 (Option.some Jvm.ClassFile.FieldType.boolean) ∈ zt := zw_at 914 (by decide +kernel)
theorem lk_RX9_181 : Cond.methodLink RX9 181 yX9_goCourse ∈ zt := zw_at 915 (by decide +kernel)
theorem im_X9_goCourse : Cond.instanceMethod yX9_goCourse ∈ zt := zw_at 917 (by decide +kernel)
theorem cd_X9_goCourse : Cond.code yX9_goCourse cX9_goCourse 3 (Option.none : Option Jvm.ClassFile.FieldType) ∈ zt := zw_at 918 (by decide +kernel)
theorem lk_RX9_184 : Cond.methodLink RX9 184 yX9_apart ∈ zt := zw_at 919 (by decide +kernel)
theorem im_X9_apart : Cond.instanceMethod yX9_apart ∈ zt := zw_at 921 (by decide +kernel)
theorem cd_X9_apart : Cond.code yX9_apart cX9_apart 2 (Option.some Jvm.ClassFile.FieldType.int) ∈ zt := zw_at 922 (by decide +kernel)
theorem lk_RL_60 : Cond.methodLink RL 60 yX9_field ∈ zt := zw_at 923 (by decide +kernel)
theorem im_X9_field : Cond.instanceMethod yX9_field ∈ zt := zw_at 924 (by decide +kernel)
theorem se_X9_field : Cond.selects RX9 yX9_field yX9_field ∈ zt := zw_at 925 (by decide +kernel)
theorem cd_X9_field : Cond.code yX9_field cX9_field 7 (Option.some Jvm.ClassFile.FieldType.int) ∈ zt := zw_at 926 (by decide +kernel)
theorem lk_RX9_187 : Cond.methodLink RX9 187 yX9_isSpan ∈ zt := zw_at 927 (by decide +kernel)
theorem sm_X9_isSpan : Cond.static yX9_isSpan ∈ zt := zw_at 928 (by decide +kernel)
theorem cd_X9_isSpan : Cond.code yX9_isSpan cX9_isSpan 2 (Option.some Jvm.ClassFile.FieldType.boolean) ∈ zt := zw_at 929 (by decide +kernel)
theorem lk_RL_64 : Cond.methodLink RL 64 yX9_take ∈ zt := zw_at 930 (by decide +kernel)
theorem im_X9_take : Cond.instanceMethod yX9_take ∈ zt := zw_at 931 (by decide +kernel)
theorem se_X9_take : Cond.selects RX9 yX9_take yX9_take ∈ zt := zw_at 932 (by decide +kernel)
theorem cd_X9_take : Cond.code yX9_take cX9_take 7 (Option.some Jvm.ClassFile.FieldType.int) ∈ zt := zw_at 933 (by decide +kernel)
theorem lk_RX9_190 : Cond.methodLink RX9 190 yX9_goMinutes ∈ zt := zw_at 934 (by decide +kernel)
theorem im_X9_goMinutes : Cond.instanceMethod yX9_goMinutes ∈ zt := zw_at 936 (by decide +kernel)
theorem cd_X9_goMinutes : Cond.code yX9_goMinutes cX9_goMinutes 2 (Option.none : Option Jvm.ClassFile.FieldType) ∈ zt := zw_at 937 (by decide +kernel)
theorem lk_RL_68 : Cond.methodLink RL 68 yX9_stay ∈ zt := zw_at 938 (by decide +kernel)
theorem im_X9_stay : Cond.instanceMethod yX9_stay ∈ zt := zw_at 939 (by decide +kernel)
theorem se_X9_stay : Cond.selects RX9 yX9_stay yX9_stay ∈ zt := zw_at 940 (by decide +kernel)
theorem cd_X9_stay : Cond.code yX9_stay cX9_stay 7 (Option.some Jvm.ClassFile.FieldType.int) ∈ zt := zw_at 941 (by decide +kernel)
theorem lk_RL_73 : Cond.methodLink RL 73 yX9_likely ∈ zt := zw_at 942 (by decide +kernel)
theorem im_X9_likely : Cond.instanceMethod yX9_likely ∈ zt := zw_at 943 (by decide +kernel)
theorem se_X9_likely : Cond.selects RX9 yX9_likely yX9_likely ∈ zt := zw_at 944 (by decide +kernel)
theorem cd_X9_likely : Cond.code yX9_likely cX9_likely 11 (Option.some Jvm.ClassFile.FieldType.long) ∈ zt := zw_at 945 (by decide +kernel)
theorem ct_RX9_198 : Cond.constantLong RX9 198 (-1000000000000000002) ∈ zt := zw_at 946 (by decide +kernel)
theorem ct_RX9_200 : Cond.constantLong RX9 200 (-1000000000000000000) ∈ zt := zw_at 947 (by decide +kernel)
theorem lk_RX9_202 : Cond.methodLink RX9 202 yX9_goChance ∈ zt := zw_at 948 (by decide +kernel)
theorem im_X9_goChance : Cond.instanceMethod yX9_goChance ∈ zt := zw_at 950 (by decide +kernel)
theorem cd_X9_goChance : Cond.code yX9_goChance cX9_goChance 8 (Option.some Jvm.ClassFile.FieldType.long) ∈ zt := zw_at 951 (by decide +kernel)
theorem lk_RX9_193 : Cond.methodLink RX9 193 yX9_heaviest ∈ zt := zw_at 952 (by decide +kernel)
theorem im_X9_heaviest : Cond.instanceMethod yX9_heaviest ∈ zt := zw_at 954 (by decide +kernel)
theorem cd_X9_heaviest : Cond.code yX9_heaviest cX9_heaviest 4 (Option.some Jvm.ClassFile.FieldType.int) ∈ zt := zw_at 955 (by decide +kernel)
theorem lk_RX9_206 : Cond.methodLink RX9 206 yX9_allWays ∈ zt := zw_at 956 (by decide +kernel)
theorem im_X9_allWays : Cond.instanceMethod yX9_allWays ∈ zt := zw_at 958 (by decide +kernel)
theorem cd_X9_allWays : Cond.code yX9_allWays cX9_allWays 4 (Option.some Jvm.ClassFile.FieldType.long) ∈ zt := zw_at 959 (by decide +kernel)
theorem lk_RX9_210 : Cond.methodLink RX9 210 yX9_lowest ∈ zt := zw_at 960 (by decide +kernel)
theorem sm_X9_lowest : Cond.static yX9_lowest ∈ zt := zw_at 961 (by decide +kernel)
theorem cd_X9_lowest : Cond.code yX9_lowest cX9_lowest 11 (Option.some Jvm.ClassFile.FieldType.long) ∈ zt := zw_at 962 (by decide +kernel)
theorem lk_RL_78 : Cond.methodLink RL 78 yX9_mean ∈ zt := zw_at 963 (by decide +kernel)
theorem im_X9_mean : Cond.instanceMethod yX9_mean ∈ zt := zw_at 964 (by decide +kernel)
theorem se_X9_mean : Cond.selects RX9 yX9_mean yX9_mean ∈ zt := zw_at 965 (by decide +kernel)
theorem cd_X9_mean : Cond.code yX9_mean cX9_mean 9 (Option.some Jvm.ClassFile.FieldType.long) ∈ zt := zw_at 966 (by decide +kernel)
theorem lk_RL_82 : Cond.methodLink RL 82 yX9_fell ∈ zt := zw_at 967 (by decide +kernel)
theorem im_X9_fell : Cond.instanceMethod yX9_fell ∈ zt := zw_at 968 (by decide +kernel)
theorem se_X9_fell : Cond.selects RX9 yX9_fell yX9_fell ∈ zt := zw_at 969 (by decide +kernel)
theorem cd_X9_fell : Cond.code yX9_fell cX9_fell 3 (Option.some Jvm.ClassFile.FieldType.int) ∈ zt := zw_at 970 (by decide +kernel)
theorem lk_RL_86 : Cond.methodLink RL 86 yX9_forget ∈ zt := zw_at 971 (by decide +kernel)
theorem im_X9_forget : Cond.instanceMethod yX9_forget ∈ zt := zw_at 972 (by decide +kernel)
theorem se_X9_forget : Cond.selects RX9 yX9_forget yX9_forget ∈ zt := zw_at 973 (by decide +kernel)
theorem cd_X9_forget : Cond.code yX9_forget cX9_forget 2 (Option.some Jvm.ClassFile.FieldType.int) ∈ zt := zw_at 974 (by decide +kernel)
theorem lk_RL_90 : Cond.methodLink RL 90 yX9_starts ∈ zt := zw_at 975 (by decide +kernel)
theorem im_X9_starts : Cond.instanceMethod yX9_starts ∈ zt := zw_at 976 (by decide +kernel)
theorem se_X9_starts : Cond.selects RX9 yX9_starts yX9_starts ∈ zt := zw_at 977 (by decide +kernel)
theorem cd_X9_starts : Cond.code yX9_starts cX9_starts 6 (Option.some Jvm.ClassFile.FieldType.int) ∈ zt := zw_at 978 (by decide +kernel)
theorem ct_RX9_217 : Cond.constantLong RX9 217 (2) ∈ zt := zw_at 979 (by decide +kernel)
theorem lk_RX9_219 : Cond.methodLink RX9 219 yX9_holdsFrom ∈ zt := zw_at 980 (by decide +kernel)
theorem im_X9_holdsFrom : Cond.instanceMethod yX9_holdsFrom ∈ zt := zw_at 982 (by decide +kernel)
theorem cd_X9_holdsFrom : Cond.code yX9_holdsFrom cX9_holdsFrom 4 (Option.some Jvm.ClassFile.FieldType.boolean) ∈ zt := zw_at 983 (by decide +kernel)
theorem lk_RL_94 : Cond.methodLink RL 94 yX9_ahead ∈ zt := zw_at 984 (by decide +kernel)
theorem im_X9_ahead : Cond.instanceMethod yX9_ahead ∈ zt := zw_at 985 (by decide +kernel)
theorem se_X9_ahead : Cond.selects RX9 yX9_ahead yX9_ahead ∈ zt := zw_at 986 (by decide +kernel)
theorem cd_X9_ahead : Cond.code yX9_ahead cX9_ahead 7 (Option.some Jvm.ClassFile.FieldType.int) ∈ zt := zw_at 987 (by decide +kernel)
theorem ct_RX9_222 : Cond.constantLong RX9 222 (63) ∈ zt := zw_at 988 (by decide +kernel)
theorem lk_RL_98 : Cond.methodLink RL 98 yX9_year ∈ zt := zw_at 989 (by decide +kernel)
theorem im_X9_year : Cond.instanceMethod yX9_year ∈ zt := zw_at 990 (by decide +kernel)
theorem se_X9_year : Cond.selects RX9 yX9_year yX9_year ∈ zt := zw_at 991 (by decide +kernel)
theorem cd_X9_year : Cond.code yX9_year cX9_year 10 (Option.some Jvm.ClassFile.FieldType.int) ∈ zt := zw_at 992 (by decide +kernel)
theorem ct_RX9_224 : Cond.constantLong RX9 224 (9999) ∈ zt := zw_at 993 (by decide +kernel)
theorem ct_RX9_226 : Cond.constantLong RX9 226 (60) ∈ zt := zw_at 994 (by decide +kernel)
theorem ct_RX9_228 : Cond.constant RX9 228 (-100000) ∈ zt := zw_at 995 (by decide +kernel)
theorem ct_RX9_229 : Cond.constantLong RX9 229 (75) ∈ zt := zw_at 996 (by decide +kernel)
theorem ct_RX9_231 : Cond.constantLong RX9 231 (74) ∈ zt := zw_at 997 (by decide +kernel)
theorem ct_RX9_233 : Cond.constantLong RX9 233 (65537) ∈ zt := zw_at 998 (by decide +kernel)
theorem lk_RL_102 : Cond.methodLink RL 102 yX9_image ∈ zt := zw_at 999 (by decide +kernel)
theorem im_X9_image : Cond.instanceMethod yX9_image ∈ zt := zw_at 1000 (by decide +kernel)
theorem se_X9_image : Cond.selects RX9 yX9_image yX9_image ∈ zt := zw_at 1001 (by decide +kernel)
theorem cd_X9_image : Cond.code yX9_image cX9_image 2 (Option.some Jvm.ClassFile.FieldType.int) ∈ zt := zw_at 1002 (by decide +kernel)
theorem lk_RX9_245 : Cond.methodLink RX9 245 yX9_passAll ∈ zt := zw_at 1003 (by decide +kernel)
theorem im_X9_passAll : Cond.instanceMethod yX9_passAll ∈ zt := zw_at 1005 (by decide +kernel)
theorem cd_X9_passAll : Cond.code yX9_passAll cX9_passAll 2 (Option.none : Option Jvm.ClassFile.FieldType) ∈ zt := zw_at 1006 (by decide +kernel)
theorem lk_RX9_242 : Cond.methodLink RX9 242 yX9_pass ∈ zt := zw_at 1007 (by decide +kernel)
theorem im_X9_pass : Cond.instanceMethod yX9_pass ∈ zt := zw_at 1009 (by decide +kernel)
theorem cd_X9_pass : Cond.code yX9_pass cX9_pass 3 (Option.some Jvm.ClassFile.FieldType.int) ∈ zt := zw_at 1010 (by decide +kernel)
theorem lk_RL_106 : Cond.methodLink RL 106 yX9_restore ∈ zt := zw_at 1011 (by decide +kernel)
theorem im_X9_restore : Cond.instanceMethod yX9_restore ∈ zt := zw_at 1012 (by decide +kernel)
theorem se_X9_restore : Cond.selects RX9 yX9_restore yX9_restore ∈ zt := zw_at 1013 (by decide +kernel)
theorem cd_X9_restore : Cond.code yX9_restore cX9_restore 2 (Option.some Jvm.ClassFile.FieldType.int) ∈ zt := zw_at 1014 (by decide +kernel)
theorem lk_RL_110 : Cond.methodLink RL 110 yX9_told ∈ zt := zw_at 1015 (by decide +kernel)
theorem se_X8_firstFault : Cond.selects RX8 yX8_firstFault yX8_firstFault ∈ zt := zw_at 0 (by decide +kernel)
theorem se_X8_flyBehind : Cond.selects RX8 yX8_flyBehind yX8_flyBehind ∈ zt := zw_at 1 (by decide +kernel)
theorem se_X8_doubtWith : Cond.selects RX8 yX8_doubtWith yX8_doubtWith ∈ zt := zw_at 2 (by decide +kernel)
theorem se_X5_add : Cond.selects RX5 yX5_add yX5_add ∈ zt := zw_at 3 (by decide +kernel)
theorem se_X5_near : Cond.selects RX5 yX5_near yX5_near ∈ zt := zw_at 4 (by decide +kernel)
theorem se_X8_choiceRefusal : Cond.selects RX8 yX8_choiceRefusal yX8_choiceRefusal ∈ zt := zw_at 5 (by decide +kernel)
theorem se_X8_courseRefusal : Cond.selects RX8 yX8_courseRefusal yX8_courseRefusal ∈ zt := zw_at 6 (by decide +kernel)
theorem se_X2_addMinute : Cond.selects RX2 yX2_addMinute yX2_addMinute ∈ zt := zw_at 7 (by decide +kernel)
theorem se_X8_offWith : Cond.selects RX8 yX8_offWith yX8_offWith ∈ zt := zw_at 8 (by decide +kernel)
theorem se_X1_placeBy : Cond.selects RX1 yX1_placeBy yX1_placeBy ∈ zt := zw_at 9 (by decide +kernel)
theorem se_X1_chance : Cond.selects RX1 yX1_chance yX1_chance ∈ zt := zw_at 10 (by decide +kernel)
theorem se_X8_sightsHold : Cond.selects RX8 yX8_sightsHold yX8_sightsHold ∈ zt := zw_at 11 (by decide +kernel)
theorem se_X8_flyByDraws : Cond.selects RX8 yX8_flyByDraws yX8_flyByDraws ∈ zt := zw_at 12 (by decide +kernel)
theorem se_X8_imageOf : Cond.selects RX8 yX8_imageOf yX8_imageOf ∈ zt := zw_at 13 (by decide +kernel)
theorem se_X9_loaded : Cond.selects RX9 yX9_loaded yX9_loaded ∈ zt := zw_at 14 (by decide +kernel)
theorem se_X9_countOf : Cond.selects RX9 yX9_countOf yX9_countOf ∈ zt := zw_at 15 (by decide +kernel)
theorem se_X9_startNow : Cond.selects RX9 yX9_startNow yX9_startNow ∈ zt := zw_at 16 (by decide +kernel)
theorem se_X9_start : Cond.selects RX9 yX9_start yX9_start ∈ zt := zw_at 17 (by decide +kernel)
theorem se_X9_happen : Cond.selects RX9 yX9_happen yX9_happen ∈ zt := zw_at 18 (by decide +kernel)
theorem se_X9_drift : Cond.selects RX9 yX9_drift yX9_drift ∈ zt := zw_at 19 (by decide +kernel)
theorem se_X9_height : Cond.selects RX9 yX9_height yX9_height ∈ zt := zw_at 20 (by decide +kernel)
theorem se_X9_throwOut : Cond.selects RX9 yX9_throwOut yX9_throwOut ∈ zt := zw_at 21 (by decide +kernel)
theorem se_X9_ones : Cond.selects RX9 yX9_ones yX9_ones ∈ zt := zw_at 22 (by decide +kernel)
theorem se_X9_fines : Cond.selects RX9 yX9_fines yX9_fines ∈ zt := zw_at 23 (by decide +kernel)
theorem se_X9_doubted : Cond.selects RX9 yX9_doubted yX9_doubted ∈ zt := zw_at 24 (by decide +kernel)
theorem se_X9_findSneezes : Cond.selects RX9 yX9_findSneezes yX9_findSneezes ∈ zt := zw_at 25 (by decide +kernel)
theorem se_X9_within : Cond.selects RX9 yX9_within yX9_within ∈ zt := zw_at 26 (by decide +kernel)
theorem se_X9_isDoubted : Cond.selects RX9 yX9_isDoubted yX9_isDoubted ∈ zt := zw_at 27 (by decide +kernel)
theorem se_X9_refusal : Cond.selects RX9 yX9_refusal yX9_refusal ∈ zt := zw_at 28 (by decide +kernel)
theorem se_X9_layThrows : Cond.selects RX9 yX9_layThrows yX9_layThrows ∈ zt := zw_at 29 (by decide +kernel)
theorem se_X9_goCourse : Cond.selects RX9 yX9_goCourse yX9_goCourse ∈ zt := zw_at 30 (by decide +kernel)
theorem se_X9_apart : Cond.selects RX9 yX9_apart yX9_apart ∈ zt := zw_at 31 (by decide +kernel)
theorem se_X9_goMinutes : Cond.selects RX9 yX9_goMinutes yX9_goMinutes ∈ zt := zw_at 32 (by decide +kernel)
theorem se_X9_goChance : Cond.selects RX9 yX9_goChance yX9_goChance ∈ zt := zw_at 33 (by decide +kernel)
theorem se_X9_heaviest : Cond.selects RX9 yX9_heaviest yX9_heaviest ∈ zt := zw_at 34 (by decide +kernel)
theorem se_X9_allWays : Cond.selects RX9 yX9_allWays yX9_allWays ∈ zt := zw_at 35 (by decide +kernel)
theorem se_X9_holdsFrom : Cond.selects RX9 yX9_holdsFrom yX9_holdsFrom ∈ zt := zw_at 36 (by decide +kernel)
theorem se_X9_passAll : Cond.selects RX9 yX9_passAll yX9_passAll ∈ zt := zw_at 37 (by decide +kernel)
theorem se_X9_pass : Cond.selects RX9 yX9_pass yX9_pass ∈ zt := zw_at 38 (by decide +kernel)
theorem in_X0 : ∀ w ∈ u_ws RX0 TX0 4, w ∈ zt := by
  show ∀ w ∈ [u_lay RX0 TX0 0, u_lay RX0 TX0 1, u_lay RX0 TX0 2, u_lay RX0 TX0 3], w ∈ zt
  exact List.forall_mem_cons.mpr ⟨zw_at 114 (by decide +kernel), List.forall_mem_cons.mpr ⟨zw_at 116 (by decide +kernel), List.forall_mem_cons.mpr ⟨zw_at 118 (by decide +kernel), List.forall_mem_cons.mpr ⟨zw_at 120 (by decide +kernel), fun _ h => absurd h List.not_mem_nil⟩⟩⟩⟩
theorem in_X1 : ∀ w ∈ u_ws RX1 TX1 1, w ∈ zt := by
  show ∀ w ∈ [u_lay RX1 TX1 0], w ∈ zt
  exact List.forall_mem_cons.mpr ⟨zw_at 178 (by decide +kernel), fun _ h => absurd h List.not_mem_nil⟩
theorem in_X2 : ∀ w ∈ u_ws RX2 TX2 2, w ∈ zt := by
  show ∀ w ∈ [u_lay RX2 TX2 0, u_lay RX2 TX2 1], w ∈ zt
  exact List.forall_mem_cons.mpr ⟨zw_at 144 (by decide +kernel), List.forall_mem_cons.mpr ⟨zw_at 146 (by decide +kernel), fun _ h => absurd h List.not_mem_nil⟩⟩
theorem in_X3 : ∀ w ∈ u_ws RX3 TX3 2, w ∈ zt := by
  show ∀ w ∈ [u_lay RX3 TX3 0, u_lay RX3 TX3 1], w ∈ zt
  exact List.forall_mem_cons.mpr ⟨zw_at 189 (by decide +kernel), List.forall_mem_cons.mpr ⟨zw_at 191 (by decide +kernel), fun _ h => absurd h List.not_mem_nil⟩⟩
theorem in_X4 : ∀ w ∈ u_ws RX4 TX4 2, w ∈ zt := by
  show ∀ w ∈ [u_lay RX4 TX4 0, u_lay RX4 TX4 1], w ∈ zt
  exact List.forall_mem_cons.mpr ⟨zw_at 99 (by decide +kernel), List.forall_mem_cons.mpr ⟨zw_at 101 (by decide +kernel), fun _ h => absurd h List.not_mem_nil⟩⟩
theorem in_X5 : ∀ w ∈ u_ws RX5 TX5 2, w ∈ zt := by
  show ∀ w ∈ [u_lay RX5 TX5 0, u_lay RX5 TX5 1], w ∈ zt
  exact List.forall_mem_cons.mpr ⟨zw_at 131 (by decide +kernel), List.forall_mem_cons.mpr ⟨zw_at 133 (by decide +kernel), fun _ h => absurd h List.not_mem_nil⟩⟩
theorem in_X6 : ∀ w ∈ u_ws RX6 TX6 5, w ∈ zt := by
  show ∀ w ∈ [u_lay RX6 TX6 0, u_lay RX6 TX6 1, u_lay RX6 TX6 2, u_lay RX6 TX6 3, u_lay RX6 TX6 4], w ∈ zt
  exact List.forall_mem_cons.mpr ⟨zw_at 160 (by decide +kernel), List.forall_mem_cons.mpr ⟨zw_at 162 (by decide +kernel), List.forall_mem_cons.mpr ⟨zw_at 164 (by decide +kernel), List.forall_mem_cons.mpr ⟨zw_at 166 (by decide +kernel), List.forall_mem_cons.mpr ⟨zw_at 168 (by decide +kernel), fun _ h => absurd h List.not_mem_nil⟩⟩⟩⟩⟩
theorem in_X7 : ∀ w ∈ u_ws RX7 TX7 7, w ∈ zt := by
  show ∀ w ∈ [u_lay RX7 TX7 0, u_lay RX7 TX7 1, u_lay RX7 TX7 2, u_lay RX7 TX7 3, u_lay RX7 TX7 4, u_lay RX7 TX7 5, u_lay RX7 TX7 6], w ∈ zt
  exact List.forall_mem_cons.mpr ⟨zw_at 75 (by decide +kernel), List.forall_mem_cons.mpr ⟨zw_at 77 (by decide +kernel), List.forall_mem_cons.mpr ⟨zw_at 79 (by decide +kernel), List.forall_mem_cons.mpr ⟨zw_at 81 (by decide +kernel), List.forall_mem_cons.mpr ⟨zw_at 83 (by decide +kernel), List.forall_mem_cons.mpr ⟨zw_at 85 (by decide +kernel), List.forall_mem_cons.mpr ⟨zw_at 87 (by decide +kernel), fun _ h => absurd h List.not_mem_nil⟩⟩⟩⟩⟩⟩⟩
theorem in_X8 : ∀ w ∈ u_ws RX8 TX8 11, w ∈ zt := by
  show ∀ w ∈ [u_lay RX8 TX8 0, u_lay RX8 TX8 1, u_lay RX8 TX8 2, u_lay RX8 TX8 3, u_lay RX8 TX8 4, u_lay RX8 TX8 5, u_lay RX8 TX8 6, u_lay RX8 TX8 7, u_lay RX8 TX8 8, u_lay RX8 TX8 9, u_lay RX8 TX8 10], w ∈ zt
  exact List.forall_mem_cons.mpr ⟨zw_at 205 (by decide +kernel), List.forall_mem_cons.mpr ⟨zw_at 207 (by decide +kernel), List.forall_mem_cons.mpr ⟨zw_at 209 (by decide +kernel), List.forall_mem_cons.mpr ⟨zw_at 211 (by decide +kernel), List.forall_mem_cons.mpr ⟨zw_at 213 (by decide +kernel), List.forall_mem_cons.mpr ⟨zw_at 215 (by decide +kernel), List.forall_mem_cons.mpr ⟨zw_at 217 (by decide +kernel), List.forall_mem_cons.mpr ⟨zw_at 219 (by decide +kernel), List.forall_mem_cons.mpr ⟨zw_at 221 (by decide +kernel), List.forall_mem_cons.mpr ⟨zw_at 223 (by decide +kernel), List.forall_mem_cons.mpr ⟨zw_at 225 (by decide +kernel), fun _ h => absurd h List.not_mem_nil⟩⟩⟩⟩⟩⟩⟩⟩⟩⟩⟩
theorem in_X9 : ∀ w ∈ u_ws RX9 TX9 27, w ∈ zt := by
  show ∀ w ∈ [u_lay RX9 TX9 0, u_lay RX9 TX9 1, u_lay RX9 TX9 2, u_lay RX9 TX9 3, u_lay RX9 TX9 4, u_lay RX9 TX9 5, u_lay RX9 TX9 6, u_lay RX9 TX9 7, u_lay RX9 TX9 8, u_lay RX9 TX9 9, u_lay RX9 TX9 10, u_lay RX9 TX9 11, u_lay RX9 TX9 12, u_lay RX9 TX9 13, u_lay RX9 TX9 14, u_lay RX9 TX9 15, u_lay RX9 TX9 16, u_lay RX9 TX9 17, u_lay RX9 TX9 18, u_lay RX9 TX9 19, u_lay RX9 TX9 20, u_lay RX9 TX9 21, u_lay RX9 TX9 22, u_lay RX9 TX9 23, u_lay RX9 TX9 24, u_lay RX9 TX9 25, u_lay RX9 TX9 26], w ∈ zt
  exact List.forall_mem_cons.mpr ⟨zw_at 721 (by decide +kernel), List.forall_mem_cons.mpr ⟨zw_at 723 (by decide +kernel), List.forall_mem_cons.mpr ⟨zw_at 725 (by decide +kernel), List.forall_mem_cons.mpr ⟨zw_at 727 (by decide +kernel), List.forall_mem_cons.mpr ⟨zw_at 729 (by decide +kernel), List.forall_mem_cons.mpr ⟨zw_at 731 (by decide +kernel), List.forall_mem_cons.mpr ⟨zw_at 733 (by decide +kernel), List.forall_mem_cons.mpr ⟨zw_at 735 (by decide +kernel), List.forall_mem_cons.mpr ⟨zw_at 737 (by decide +kernel), List.forall_mem_cons.mpr ⟨zw_at 739 (by decide +kernel), List.forall_mem_cons.mpr ⟨zw_at 741 (by decide +kernel), List.forall_mem_cons.mpr ⟨zw_at 743 (by decide +kernel), List.forall_mem_cons.mpr ⟨zw_at 745 (by decide +kernel), List.forall_mem_cons.mpr ⟨zw_at 747 (by decide +kernel), List.forall_mem_cons.mpr ⟨zw_at 749 (by decide +kernel), List.forall_mem_cons.mpr ⟨zw_at 751 (by decide +kernel), List.forall_mem_cons.mpr ⟨zw_at 753 (by decide +kernel), List.forall_mem_cons.mpr ⟨zw_at 755 (by decide +kernel), List.forall_mem_cons.mpr ⟨zw_at 757 (by decide +kernel), List.forall_mem_cons.mpr ⟨zw_at 759 (by decide +kernel), List.forall_mem_cons.mpr ⟨zw_at 761 (by decide +kernel), List.forall_mem_cons.mpr ⟨zw_at 763 (by decide +kernel), List.forall_mem_cons.mpr ⟨zw_at 765 (by decide +kernel), List.forall_mem_cons.mpr ⟨zw_at 767 (by decide +kernel), List.forall_mem_cons.mpr ⟨zw_at 769 (by decide +kernel), List.forall_mem_cons.mpr ⟨zw_at 771 (by decide +kernel), List.forall_mem_cons.mpr ⟨zw_at 773 (by decide +kernel), fun _ h => absurd h List.not_mem_nil⟩⟩⟩⟩⟩⟩⟩⟩⟩⟩⟩⟩⟩⟩⟩⟩⟩⟩⟩⟩⟩⟩⟩⟩⟩⟩⟩
end
section
/-! decode rows, as claim/NAMES.whole.lean.txt prints them -/
theorem dX0_init_0 : decode cX0_init 0 = .ok (.aload_n 0, 1) := by decide +kernel
theorem dX0_init_1 : decode cX0_init 1 = .ok (.invokespecial 1, 3) := by decide +kernel
theorem dX0_init_4 : decode cX0_init 4 = .ok (.return_, 1) := by decide +kernel
theorem dX0_start_0 : decode cX0_start 0 = .ok (.aload_n 0, 1) := by decide +kernel
theorem dX0_start_1 : decode cX0_start 1 = .ok (.iconst 0, 1) := by decide +kernel
theorem dX0_start_2 : decode cX0_start 2 = .ok (.putfield 7, 3) := by decide +kernel
theorem dX0_start_5 : decode cX0_start 5 = .ok (.aload_n 0, 1) := by decide +kernel
theorem dX0_start_6 : decode cX0_start 6 = .ok (.iload_n 1, 1) := by decide +kernel
theorem dX0_start_7 : decode cX0_start 7 = .ok (.putfield 13, 3) := by decide +kernel
theorem dX0_start_10 : decode cX0_start 10 = .ok (.aload_n 0, 1) := by decide +kernel
theorem dX0_start_11 : decode cX0_start 11 = .ok (.iload_n 2, 1) := by decide +kernel
theorem dX0_start_12 : decode cX0_start 12 = .ok (.putfield 16, 3) := by decide +kernel
theorem dX0_start_15 : decode cX0_start 15 = .ok (.aload_n 0, 1) := by decide +kernel
theorem dX0_start_16 : decode cX0_start 16 = .ok (.iload_n 3, 1) := by decide +kernel
theorem dX0_start_17 : decode cX0_start 17 = .ok (.putfield 19, 3) := by decide +kernel
theorem dX0_start_20 : decode cX0_start 20 = .ok (.return_, 1) := by decide +kernel
theorem dX0_fly_0 : decode cX0_fly 0 = .ok (.aload_n 0, 1) := by decide +kernel
theorem dX0_fly_1 : decode cX0_fly 1 = .ok (.dup, 1) := by decide +kernel
theorem dX0_fly_2 : decode cX0_fly 2 = .ok (.getfield 7, 3) := by decide +kernel
theorem dX0_fly_5 : decode cX0_fly 5 = .ok (.aload_n 1, 1) := by decide +kernel
theorem dX0_fly_6 : decode cX0_fly 6 = .ok (.aload_n 0, 1) := by decide +kernel
theorem dX0_fly_7 : decode cX0_fly 7 = .ok (.getfield 13, 3) := by decide +kernel
theorem dX0_fly_10 : decode cX0_fly 10 = .ok (.aload_n 0, 1) := by decide +kernel
theorem dX0_fly_11 : decode cX0_fly 11 = .ok (.getfield 16, 3) := by decide +kernel
theorem dX0_fly_14 : decode cX0_fly 14 = .ok (.aload_n 0, 1) := by decide +kernel
theorem dX0_fly_15 : decode cX0_fly 15 = .ok (.getfield 19, 3) := by decide +kernel
theorem dX0_fly_18 : decode cX0_fly 18 = .ok (.invokevirtual 22, 3) := by decide +kernel
theorem dX0_fly_21 : decode cX0_fly 21 = .ok (.iadd, 1) := by decide +kernel
theorem dX0_fly_22 : decode cX0_fly 22 = .ok (.putfield 7, 3) := by decide +kernel
theorem dX0_fly_25 : decode cX0_fly 25 = .ok (.aload_n 0, 1) := by decide +kernel
theorem dX0_fly_26 : decode cX0_fly 26 = .ok (.aload_n 1, 1) := by decide +kernel
theorem dX0_fly_27 : decode cX0_fly 27 = .ok (.aload_n 0, 1) := by decide +kernel
theorem dX0_fly_28 : decode cX0_fly 28 = .ok (.getfield 13, 3) := by decide +kernel
theorem dX0_fly_31 : decode cX0_fly 31 = .ok (.invokevirtual 28, 3) := by decide +kernel
theorem dX0_fly_34 : decode cX0_fly 34 = .ok (.putfield 13, 3) := by decide +kernel
theorem dX0_fly_37 : decode cX0_fly 37 = .ok (.aload_n 0, 1) := by decide +kernel
theorem dX0_fly_38 : decode cX0_fly 38 = .ok (.dup, 1) := by decide +kernel
theorem dX0_fly_39 : decode cX0_fly 39 = .ok (.getfield 19, 3) := by decide +kernel
theorem dX0_fly_42 : decode cX0_fly 42 = .ok (.iconst 1, 1) := by decide +kernel
theorem dX0_fly_43 : decode cX0_fly 43 = .ok (.iadd, 1) := by decide +kernel
theorem dX0_fly_44 : decode cX0_fly 44 = .ok (.putfield 19, 3) := by decide +kernel
theorem dX0_fly_47 : decode cX0_fly 47 = .ok (.return_, 1) := by decide +kernel
theorem dX0_lose_0 : decode cX0_lose 0 = .ok (.aload_n 0, 1) := by decide +kernel
theorem dX0_lose_1 : decode cX0_lose 1 = .ok (.aload_n 0, 1) := by decide +kernel
theorem dX0_lose_2 : decode cX0_lose 2 = .ok (.getfield 16, 3) := by decide +kernel
theorem dX0_lose_5 : decode cX0_lose 5 = .ok (.iload_n 1, 1) := by decide +kernel
theorem dX0_lose_6 : decode cX0_lose 6 = .ok (.invokestatic 32, 3) := by decide +kernel
theorem dX0_lose_9 : decode cX0_lose 9 = .ok (.putfield 16, 3) := by decide +kernel
theorem dX0_lose_12 : decode cX0_lose 12 = .ok (.return_, 1) := by decide +kernel
theorem dX0_place_0 : decode cX0_place 0 = .ok (.aload_n 0, 1) := by decide +kernel
theorem dX0_place_1 : decode cX0_place 1 = .ok (.getfield 7, 3) := by decide +kernel
theorem dX0_place_4 : decode cX0_place 4 = .ok (.ireturn, 1) := by decide +kernel
theorem dX0_gas_0 : decode cX0_gas 0 = .ok (.aload_n 0, 1) := by decide +kernel
theorem dX0_gas_1 : decode cX0_gas 1 = .ok (.getfield 13, 3) := by decide +kernel
theorem dX0_gas_4 : decode cX0_gas 4 = .ok (.ireturn, 1) := by decide +kernel
theorem dX0_aboard_0 : decode cX0_aboard 0 = .ok (.aload_n 0, 1) := by decide +kernel
theorem dX0_aboard_1 : decode cX0_aboard 1 = .ok (.getfield 16, 3) := by decide +kernel
theorem dX0_aboard_4 : decode cX0_aboard 4 = .ok (.ireturn, 1) := by decide +kernel
theorem dX1_init_0 : decode cX1_init 0 = .ok (.aload_n 0, 1) := by decide +kernel
theorem dX1_init_1 : decode cX1_init 1 = .ok (.invokespecial 3, 3) := by decide +kernel
theorem dX1_init_4 : decode cX1_init 4 = .ok (.aload_n 0, 1) := by decide +kernel
theorem dX1_init_5 : decode cX1_init 5 = .ok (.bipush 7, 2) := by decide +kernel
theorem dX1_init_7 : decode cX1_init 7 = .ok (.newarray .int, 2) := by decide +kernel
theorem dX1_init_9 : decode cX1_init 9 = .ok (.putfield 9, 3) := by decide +kernel
theorem dX1_init_12 : decode cX1_init 12 = .ok (.return_, 1) := by decide +kernel
theorem dX1_line_0 : decode cX1_line 0 = .ok (.aload_n 1, 1) := by decide +kernel
theorem dX1_line_1 : decode cX1_line 1 = .ok (.invokevirtual 15, 3) := by decide +kernel
theorem dX1_line_4 : decode cX1_line 4 = .ok (.istore_n 2, 1) := by decide +kernel
theorem dX1_line_5 : decode cX1_line 5 = .ok (.iconst 0, 1) := by decide +kernel
theorem dX1_line_6 : decode cX1_line 6 = .ok (.istore_n 3, 1) := by decide +kernel
theorem dX1_line_7 : decode cX1_line 7 = .ok (.iload_n 3, 1) := by decide +kernel
theorem dX1_line_8 : decode cX1_line 8 = .ok (.aload_n 0, 1) := by decide +kernel
theorem dX1_line_9 : decode cX1_line 9 = .ok (.getfield 9, 3) := by decide +kernel
theorem dX1_line_12 : decode cX1_line 12 = .ok (.arraylength, 1) := by decide +kernel
theorem dX1_line_13 : decode cX1_line 13 = .ok (.if_icmp .ge 26, 3) := by decide +kernel
theorem dX1_line_16 : decode cX1_line 16 = .ok (.aload_n 0, 1) := by decide +kernel
theorem dX1_line_17 : decode cX1_line 17 = .ok (.getfield 9, 3) := by decide +kernel
theorem dX1_line_20 : decode cX1_line 20 = .ok (.iload_n 3, 1) := by decide +kernel
theorem dX1_line_21 : decode cX1_line 21 = .ok (.iload_n 2, 1) := by decide +kernel
theorem dX1_line_22 : decode cX1_line 22 = .ok (.iastore, 1) := by decide +kernel
theorem dX1_line_23 : decode cX1_line 23 = .ok (.iload_n 2, 1) := by decide +kernel
theorem dX1_line_24 : decode cX1_line 24 = .ok (.aload_n 1, 1) := by decide +kernel
theorem dX1_line_25 : decode cX1_line 25 = .ok (.iload_n 2, 1) := by decide +kernel
theorem dX1_line_26 : decode cX1_line 26 = .ok (.invokevirtual 21, 3) := by decide +kernel
theorem dX1_line_29 : decode cX1_line 29 = .ok (.invokestatic 25, 3) := by decide +kernel
theorem dX1_line_32 : decode cX1_line 32 = .ok (.istore_n 2, 1) := by decide +kernel
theorem dX1_line_33 : decode cX1_line 33 = .ok (.iinc 3 1, 3) := by decide +kernel
theorem dX1_line_36 : decode cX1_line 36 = .ok (.goto (-29), 3) := by decide +kernel
theorem dX1_line_39 : decode cX1_line 39 = .ok (.return_, 1) := by decide +kernel
theorem dX1_all_0 : decode cX1_all 0 = .ok (.bipush 10, 2) := by decide +kernel
theorem dX1_all_2 : decode cX1_all 2 = .ok (.aload_n 1, 1) := by decide +kernel
theorem dX1_all_3 : decode cX1_all 3 = .ok (.invokevirtual 29, 3) := by decide +kernel
theorem dX1_all_6 : decode cX1_all 6 = .ok (.invokestatic 34, 3) := by decide +kernel
theorem dX1_all_9 : decode cX1_all 9 = .ok (.lreturn, 1) := by decide +kernel
theorem dX1_landing_0 : decode cX1_landing 0 = .ok (.lconst 0, 1) := by decide +kernel
theorem dX1_landing_1 : decode cX1_landing 1 = .ok (.lstore 5, 2) := by decide +kernel
theorem dX1_landing_3 : decode cX1_landing 3 = .ok (.iconst 0, 1) := by decide +kernel
theorem dX1_landing_4 : decode cX1_landing 4 = .ok (.istore 7, 2) := by decide +kernel
theorem dX1_landing_6 : decode cX1_landing 6 = .ok (.iload 7, 2) := by decide +kernel
theorem dX1_landing_8 : decode cX1_landing 8 = .ok (.sipush 4096, 3) := by decide +kernel
theorem dX1_landing_11 : decode cX1_landing 11 = .ok (.if_icmp .ge 53, 3) := by decide +kernel
theorem dX1_landing_14 : decode cX1_landing 14 = .ok (.iload 7, 2) := by decide +kernel
theorem dX1_landing_16 : decode cX1_landing 16 = .ok (.iconst 1, 1) := by decide +kernel
theorem dX1_landing_17 : decode cX1_landing 17 = .ok (.aload_n 1, 1) := by decide +kernel
theorem dX1_landing_18 : decode cX1_landing 18 = .ok (.invokevirtual 29, 3) := by decide +kernel
theorem dX1_landing_21 : decode cX1_landing 21 = .ok (.ishl, 1) := by decide +kernel
theorem dX1_landing_22 : decode cX1_landing 22 = .ok (.if_icmp .ge 42, 3) := by decide +kernel
theorem dX1_landing_25 : decode cX1_landing 25 = .ok (.lload 5, 2) := by decide +kernel
theorem dX1_landing_27 : decode cX1_landing 27 = .ok (.aload_n 0, 1) := by decide +kernel
theorem dX1_landing_28 : decode cX1_landing 28 = .ok (.aload_n 1, 1) := by decide +kernel
theorem dX1_landing_29 : decode cX1_landing 29 = .ok (.iload 7, 2) := by decide +kernel
theorem dX1_landing_31 : decode cX1_landing 31 = .ok (.invokevirtual 38, 3) := by decide +kernel
theorem dX1_landing_34 : decode cX1_landing 34 = .ok (.iload_n 3, 1) := by decide +kernel
theorem dX1_landing_35 : decode cX1_landing 35 = .ok (.iload 4, 2) := by decide +kernel
theorem dX1_landing_37 : decode cX1_landing 37 = .ok (.invokestatic 42, 3) := by decide +kernel
theorem dX1_landing_40 : decode cX1_landing 40 = .ok (.ifCond .eq 14, 3) := by decide +kernel
theorem dX1_landing_43 : decode cX1_landing 43 = .ok (.aload_n 0, 1) := by decide +kernel
theorem dX1_landing_44 : decode cX1_landing 44 = .ok (.aload_n 1, 1) := by decide +kernel
theorem dX1_landing_45 : decode cX1_landing 45 = .ok (.iload 7, 2) := by decide +kernel
theorem dX1_landing_47 : decode cX1_landing 47 = .ok (.iload_n 2, 1) := by decide +kernel
theorem dX1_landing_48 : decode cX1_landing 48 = .ok (.invokevirtual 46, 3) := by decide +kernel
theorem dX1_landing_51 : decode cX1_landing 51 = .ok (.goto 4, 3) := by decide +kernel
theorem dX1_landing_54 : decode cX1_landing 54 = .ok (.lconst 0, 1) := by decide +kernel
theorem dX1_landing_55 : decode cX1_landing 55 = .ok (.ladd, 1) := by decide +kernel
theorem dX1_landing_56 : decode cX1_landing 56 = .ok (.lstore 5, 2) := by decide +kernel
theorem dX1_landing_58 : decode cX1_landing 58 = .ok (.iinc 7 1, 3) := by decide +kernel
theorem dX1_landing_61 : decode cX1_landing 61 = .ok (.goto (-55), 3) := by decide +kernel
theorem dX1_landing_64 : decode cX1_landing 64 = .ok (.lload 5, 2) := by decide +kernel
theorem dX1_landing_66 : decode cX1_landing 66 = .ok (.lreturn, 1) := by decide +kernel
theorem dX1_places_0 : decode cX1_places 0 = .ok (.lconst 0, 1) := by decide +kernel
theorem dX1_places_1 : decode cX1_places 1 = .ok (.lstore_n 3, 1) := by decide +kernel
theorem dX1_places_2 : decode cX1_places 2 = .ok (.iconst 0, 1) := by decide +kernel
theorem dX1_places_3 : decode cX1_places 3 = .ok (.istore 5, 2) := by decide +kernel
theorem dX1_places_5 : decode cX1_places 5 = .ok (.iload 5, 2) := by decide +kernel
theorem dX1_places_7 : decode cX1_places 7 = .ok (.sipush 4096, 3) := by decide +kernel
theorem dX1_places_10 : decode cX1_places 10 = .ok (.if_icmp .ge 40, 3) := by decide +kernel
theorem dX1_places_13 : decode cX1_places 13 = .ok (.iload 5, 2) := by decide +kernel
theorem dX1_places_15 : decode cX1_places 15 = .ok (.iconst 1, 1) := by decide +kernel
theorem dX1_places_16 : decode cX1_places 16 = .ok (.aload_n 1, 1) := by decide +kernel
theorem dX1_places_17 : decode cX1_places 17 = .ok (.invokevirtual 29, 3) := by decide +kernel
theorem dX1_places_20 : decode cX1_places 20 = .ok (.ishl, 1) := by decide +kernel
theorem dX1_places_21 : decode cX1_places 21 = .ok (.if_icmp .ge 29, 3) := by decide +kernel
theorem dX1_places_24 : decode cX1_places 24 = .ok (.lload_n 3, 1) := by decide +kernel
theorem dX1_places_25 : decode cX1_places 25 = .ok (.aload_n 0, 1) := by decide +kernel
theorem dX1_places_26 : decode cX1_places 26 = .ok (.aload_n 1, 1) := by decide +kernel
theorem dX1_places_27 : decode cX1_places 27 = .ok (.iload 5, 2) := by decide +kernel
theorem dX1_places_29 : decode cX1_places 29 = .ok (.invokevirtual 38, 3) := by decide +kernel
theorem dX1_places_32 : decode cX1_places 32 = .ok (.i2l, 1) := by decide +kernel
theorem dX1_places_33 : decode cX1_places 33 = .ok (.aload_n 0, 1) := by decide +kernel
theorem dX1_places_34 : decode cX1_places 34 = .ok (.aload_n 1, 1) := by decide +kernel
theorem dX1_places_35 : decode cX1_places 35 = .ok (.iload 5, 2) := by decide +kernel
theorem dX1_places_37 : decode cX1_places 37 = .ok (.iload_n 2, 1) := by decide +kernel
theorem dX1_places_38 : decode cX1_places 38 = .ok (.invokevirtual 46, 3) := by decide +kernel
theorem dX1_places_41 : decode cX1_places 41 = .ok (.lmul, 1) := by decide +kernel
theorem dX1_places_42 : decode cX1_places 42 = .ok (.ladd, 1) := by decide +kernel
theorem dX1_places_43 : decode cX1_places 43 = .ok (.lstore_n 3, 1) := by decide +kernel
theorem dX1_places_44 : decode cX1_places 44 = .ok (.iinc 5 1, 3) := by decide +kernel
theorem dX1_places_47 : decode cX1_places 47 = .ok (.goto (-42), 3) := by decide +kernel
theorem dX1_places_50 : decode cX1_places 50 = .ok (.lload_n 3, 1) := by decide +kernel
theorem dX1_places_51 : decode cX1_places 51 = .ok (.lreturn, 1) := by decide +kernel
theorem dX1_placeBy_0 : decode cX1_placeBy 0 = .ok (.iconst 0, 1) := by decide +kernel
theorem dX1_placeBy_1 : decode cX1_placeBy 1 = .ok (.istore_n 3, 1) := by decide +kernel
theorem dX1_placeBy_2 : decode cX1_placeBy 2 = .ok (.iconst 0, 1) := by decide +kernel
theorem dX1_placeBy_3 : decode cX1_placeBy 3 = .ok (.istore 4, 2) := by decide +kernel
theorem dX1_placeBy_5 : decode cX1_placeBy 5 = .ok (.iconst 0, 1) := by decide +kernel
theorem dX1_placeBy_6 : decode cX1_placeBy 6 = .ok (.istore 5, 2) := by decide +kernel
theorem dX1_placeBy_8 : decode cX1_placeBy 8 = .ok (.iload 5, 2) := by decide +kernel
theorem dX1_placeBy_10 : decode cX1_placeBy 10 = .ok (.aload_n 1, 1) := by decide +kernel
theorem dX1_placeBy_11 : decode cX1_placeBy 11 = .ok (.invokevirtual 29, 3) := by decide +kernel
theorem dX1_placeBy_14 : decode cX1_placeBy 14 = .ok (.if_icmp .gt 42, 3) := by decide +kernel
theorem dX1_placeBy_17 : decode cX1_placeBy 17 = .ok (.iload 4, 2) := by decide +kernel
theorem dX1_placeBy_19 : decode cX1_placeBy 19 = .ok (.aload_n 1, 1) := by decide +kernel
theorem dX1_placeBy_20 : decode cX1_placeBy 20 = .ok (.iload 5, 2) := by decide +kernel
theorem dX1_placeBy_22 : decode cX1_placeBy 22 = .ok (.aload_n 0, 1) := by decide +kernel
theorem dX1_placeBy_23 : decode cX1_placeBy 23 = .ok (.getfield 9, 3) := by decide +kernel
theorem dX1_placeBy_26 : decode cX1_placeBy 26 = .ok (.iload_n 3, 1) := by decide +kernel
theorem dX1_placeBy_27 : decode cX1_placeBy 27 = .ok (.invokestatic 50, 3) := by decide +kernel
theorem dX1_placeBy_30 : decode cX1_placeBy 30 = .ok (.invokevirtual 54, 3) := by decide +kernel
theorem dX1_placeBy_33 : decode cX1_placeBy 33 = .ok (.iadd, 1) := by decide +kernel
theorem dX1_placeBy_34 : decode cX1_placeBy 34 = .ok (.istore 4, 2) := by decide +kernel
theorem dX1_placeBy_36 : decode cX1_placeBy 36 = .ok (.iload_n 3, 1) := by decide +kernel
theorem dX1_placeBy_37 : decode cX1_placeBy 37 = .ok (.iload_n 2, 1) := by decide +kernel
theorem dX1_placeBy_38 : decode cX1_placeBy 38 = .ok (.iload 5, 2) := by decide +kernel
theorem dX1_placeBy_40 : decode cX1_placeBy 40 = .ok (.ishr, 1) := by decide +kernel
theorem dX1_placeBy_41 : decode cX1_placeBy 41 = .ok (.iconst 1, 1) := by decide +kernel
theorem dX1_placeBy_42 : decode cX1_placeBy 42 = .ok (.iand, 1) := by decide +kernel
theorem dX1_placeBy_43 : decode cX1_placeBy 43 = .ok (.iadd, 1) := by decide +kernel
theorem dX1_placeBy_44 : decode cX1_placeBy 44 = .ok (.bipush 6, 2) := by decide +kernel
theorem dX1_placeBy_46 : decode cX1_placeBy 46 = .ok (.invokestatic 57, 3) := by decide +kernel
theorem dX1_placeBy_49 : decode cX1_placeBy 49 = .ok (.istore_n 3, 1) := by decide +kernel
theorem dX1_placeBy_50 : decode cX1_placeBy 50 = .ok (.iinc 5 1, 3) := by decide +kernel
theorem dX1_placeBy_53 : decode cX1_placeBy 53 = .ok (.goto (-45), 3) := by decide +kernel
theorem dX1_placeBy_56 : decode cX1_placeBy 56 = .ok (.iload 4, 2) := by decide +kernel
theorem dX1_placeBy_58 : decode cX1_placeBy 58 = .ok (.ireturn, 1) := by decide +kernel
theorem dX1_chance_0 : decode cX1_chance 0 = .ok (.iload_n 2, 1) := by decide +kernel
theorem dX1_chance_1 : decode cX1_chance 1 = .ok (.invokestatic 62, 3) := by decide +kernel
theorem dX1_chance_4 : decode cX1_chance 4 = .ok (.istore 4, 2) := by decide +kernel
theorem dX1_chance_6 : decode cX1_chance 6 = .ok (.iload_n 3, 1) := by decide +kernel
theorem dX1_chance_7 : decode cX1_chance 7 = .ok (.iload 4, 2) := by decide +kernel
theorem dX1_chance_9 : decode cX1_chance 9 = .ok (.invokestatic 34, 3) := by decide +kernel
theorem dX1_chance_12 : decode cX1_chance 12 = .ok (.bipush 10, 2) := by decide +kernel
theorem dX1_chance_14 : decode cX1_chance 14 = .ok (.iload_n 3, 1) := by decide +kernel
theorem dX1_chance_15 : decode cX1_chance 15 = .ok (.isub, 1) := by decide +kernel
theorem dX1_chance_16 : decode cX1_chance 16 = .ok (.aload_n 1, 1) := by decide +kernel
theorem dX1_chance_17 : decode cX1_chance 17 = .ok (.invokevirtual 29, 3) := by decide +kernel
theorem dX1_chance_20 : decode cX1_chance 20 = .ok (.iload 4, 2) := by decide +kernel
theorem dX1_chance_22 : decode cX1_chance 22 = .ok (.isub, 1) := by decide +kernel
theorem dX1_chance_23 : decode cX1_chance 23 = .ok (.invokestatic 34, 3) := by decide +kernel
theorem dX1_chance_26 : decode cX1_chance 26 = .ok (.lmul, 1) := by decide +kernel
theorem dX1_chance_27 : decode cX1_chance 27 = .ok (.lreturn, 1) := by decide +kernel
theorem dX1_power_0 : decode cX1_power 0 = .ok (.lconst 1, 1) := by decide +kernel
theorem dX1_power_1 : decode cX1_power 1 = .ok (.lstore_n 2, 1) := by decide +kernel
theorem dX1_power_2 : decode cX1_power 2 = .ok (.iconst 0, 1) := by decide +kernel
theorem dX1_power_3 : decode cX1_power 3 = .ok (.istore 4, 2) := by decide +kernel
theorem dX1_power_5 : decode cX1_power 5 = .ok (.iload 4, 2) := by decide +kernel
theorem dX1_power_7 : decode cX1_power 7 = .ok (.iload_n 1, 1) := by decide +kernel
theorem dX1_power_8 : decode cX1_power 8 = .ok (.if_icmp .ge 14, 3) := by decide +kernel
theorem dX1_power_11 : decode cX1_power 11 = .ok (.lload_n 2, 1) := by decide +kernel
theorem dX1_power_12 : decode cX1_power 12 = .ok (.iload_n 0, 1) := by decide +kernel
theorem dX1_power_13 : decode cX1_power 13 = .ok (.i2l, 1) := by decide +kernel
theorem dX1_power_14 : decode cX1_power 14 = .ok (.lmul, 1) := by decide +kernel
theorem dX1_power_15 : decode cX1_power 15 = .ok (.lstore_n 2, 1) := by decide +kernel
theorem dX1_power_16 : decode cX1_power 16 = .ok (.iinc 4 1, 3) := by decide +kernel
theorem dX1_power_19 : decode cX1_power 19 = .ok (.goto (-14), 3) := by decide +kernel
theorem dX1_power_22 : decode cX1_power 22 = .ok (.lload_n 2, 1) := by decide +kernel
theorem dX1_power_23 : decode cX1_power 23 = .ok (.lreturn, 1) := by decide +kernel
theorem dX2_init_0 : decode cX2_init 0 = .ok (.aload_n 0, 1) := by decide +kernel
theorem dX2_init_1 : decode cX2_init 1 = .ok (.invokespecial 3, 3) := by decide +kernel
theorem dX2_init_4 : decode cX2_init 4 = .ok (.aload_n 0, 1) := by decide +kernel
theorem dX2_init_5 : decode cX2_init 5 = .ok (.sipush 832, 3) := by decide +kernel
theorem dX2_init_8 : decode cX2_init 8 = .ok (.newarray .int, 2) := by decide +kernel
theorem dX2_init_10 : decode cX2_init 10 = .ok (.putfield 9, 3) := by decide +kernel
theorem dX2_init_13 : decode cX2_init 13 = .ok (.return_, 1) := by decide +kernel
theorem dX2_sneezes_0 : decode cX2_sneezes 0 = .ok (.aload_n 0, 1) := by decide +kernel
theorem dX2_sneezes_1 : decode cX2_sneezes 1 = .ok (.getfield 15, 3) := by decide +kernel
theorem dX2_sneezes_4 : decode cX2_sneezes 4 = .ok (.ireturn, 1) := by decide +kernel
theorem dX2_drift_0 : decode cX2_drift 0 = .ok (.aload_n 0, 1) := by decide +kernel
theorem dX2_drift_1 : decode cX2_drift 1 = .ok (.getfield 9, 3) := by decide +kernel
theorem dX2_drift_4 : decode cX2_drift 4 = .ok (.iload_n 1, 1) := by decide +kernel
theorem dX2_drift_5 : decode cX2_drift 5 = .ok (.bipush 64, 2) := by decide +kernel
theorem dX2_drift_7 : decode cX2_drift 7 = .ok (.imul, 1) := by decide +kernel
theorem dX2_drift_8 : decode cX2_drift 8 = .ok (.iload_n 2, 1) := by decide +kernel
theorem dX2_drift_9 : decode cX2_drift 9 = .ok (.iadd, 1) := by decide +kernel
theorem dX2_drift_10 : decode cX2_drift 10 = .ok (.invokestatic 19, 3) := by decide +kernel
theorem dX2_drift_13 : decode cX2_drift 13 = .ok (.ireturn, 1) := by decide +kernel
theorem dX2_draw_0 : decode cX2_draw 0 = .ok (.iconst 0, 1) := by decide +kernel
theorem dX2_draw_1 : decode cX2_draw 1 = .ok (.istore_n 3, 1) := by decide +kernel
theorem dX2_draw_2 : decode cX2_draw 2 = .ok (.iload_n 3, 1) := by decide +kernel
theorem dX2_draw_3 : decode cX2_draw 3 = .ok (.aload_n 0, 1) := by decide +kernel
theorem dX2_draw_4 : decode cX2_draw 4 = .ok (.getfield 9, 3) := by decide +kernel
theorem dX2_draw_7 : decode cX2_draw 7 = .ok (.arraylength, 1) := by decide +kernel
theorem dX2_draw_8 : decode cX2_draw 8 = .ok (.if_icmp .ge 16, 3) := by decide +kernel
theorem dX2_draw_11 : decode cX2_draw 11 = .ok (.aload_n 0, 1) := by decide +kernel
theorem dX2_draw_12 : decode cX2_draw 12 = .ok (.getfield 9, 3) := by decide +kernel
theorem dX2_draw_15 : decode cX2_draw 15 = .ok (.iload_n 3, 1) := by decide +kernel
theorem dX2_draw_16 : decode cX2_draw 16 = .ok (.iconst 0, 1) := by decide +kernel
theorem dX2_draw_17 : decode cX2_draw 17 = .ok (.iastore, 1) := by decide +kernel
theorem dX2_draw_18 : decode cX2_draw 18 = .ok (.iinc 3 1, 3) := by decide +kernel
theorem dX2_draw_21 : decode cX2_draw 21 = .ok (.goto (-19), 3) := by decide +kernel
theorem dX2_draw_24 : decode cX2_draw 24 = .ok (.aload_n 0, 1) := by decide +kernel
theorem dX2_draw_25 : decode cX2_draw 25 = .ok (.iconst 0, 1) := by decide +kernel
theorem dX2_draw_26 : decode cX2_draw 26 = .ok (.putfield 15, 3) := by decide +kernel
theorem dX2_draw_29 : decode cX2_draw 29 = .ok (.aload_n 1, 1) := by decide +kernel
theorem dX2_draw_30 : decode cX2_draw 30 = .ok (.iconst 1, 1) := by decide +kernel
theorem dX2_draw_31 : decode cX2_draw 31 = .ok (.invokevirtual 23, 3) := by decide +kernel
theorem dX2_draw_34 : decode cX2_draw 34 = .ok (.istore_n 3, 1) := by decide +kernel
theorem dX2_draw_35 : decode cX2_draw 35 = .ok (.iconst 0, 1) := by decide +kernel
theorem dX2_draw_36 : decode cX2_draw 36 = .ok (.istore 4, 2) := by decide +kernel
theorem dX2_draw_38 : decode cX2_draw 38 = .ok (.iconst 0, 1) := by decide +kernel
theorem dX2_draw_39 : decode cX2_draw 39 = .ok (.istore 5, 2) := by decide +kernel
theorem dX2_draw_41 : decode cX2_draw 41 = .ok (.iload 5, 2) := by decide +kernel
theorem dX2_draw_43 : decode cX2_draw 43 = .ok (.aload_n 2, 1) := by decide +kernel
theorem dX2_draw_44 : decode cX2_draw 44 = .ok (.invokevirtual 29, 3) := by decide +kernel
theorem dX2_draw_47 : decode cX2_draw 47 = .ok (.if_icmp .ge 63, 3) := by decide +kernel
theorem dX2_draw_50 : decode cX2_draw 50 = .ok (.aload_n 2, 1) := by decide +kernel
theorem dX2_draw_51 : decode cX2_draw 51 = .ok (.iload 5, 2) := by decide +kernel
theorem dX2_draw_53 : decode cX2_draw 53 = .ok (.invokevirtual 35, 3) := by decide +kernel
theorem dX2_draw_56 : decode cX2_draw 56 = .ok (.bipush 33, 2) := by decide +kernel
theorem dX2_draw_58 : decode cX2_draw 58 = .ok (.if_icmp .ne 18, 3) := by decide +kernel
theorem dX2_draw_61 : decode cX2_draw 61 = .ok (.aload_n 0, 1) := by decide +kernel
theorem dX2_draw_62 : decode cX2_draw 62 = .ok (.aload_n 0, 1) := by decide +kernel
theorem dX2_draw_63 : decode cX2_draw 63 = .ok (.getfield 15, 3) := by decide +kernel
theorem dX2_draw_66 : decode cX2_draw 66 = .ok (.iconst 1, 1) := by decide +kernel
theorem dX2_draw_67 : decode cX2_draw 67 = .ok (.iadd, 1) := by decide +kernel
theorem dX2_draw_68 : decode cX2_draw 68 = .ok (.bipush 12, 2) := by decide +kernel
theorem dX2_draw_70 : decode cX2_draw 70 = .ok (.invokestatic 38, 3) := by decide +kernel
theorem dX2_draw_73 : decode cX2_draw 73 = .ok (.putfield 15, 3) := by decide +kernel
theorem dX2_draw_76 : decode cX2_draw 76 = .ok (.aload_n 2, 1) := by decide +kernel
theorem dX2_draw_77 : decode cX2_draw 77 = .ok (.iload 5, 2) := by decide +kernel
theorem dX2_draw_79 : decode cX2_draw 79 = .ok (.invokevirtual 35, 3) := by decide +kernel
theorem dX2_draw_82 : decode cX2_draw 82 = .ok (.bipush 46, 2) := by decide +kernel
theorem dX2_draw_84 : decode cX2_draw 84 = .ok (.if_icmp .ne 20, 3) := by decide +kernel
theorem dX2_draw_87 : decode cX2_draw 87 = .ok (.aload_n 0, 1) := by decide +kernel
theorem dX2_draw_88 : decode cX2_draw 88 = .ok (.aload_n 1, 1) := by decide +kernel
theorem dX2_draw_89 : decode cX2_draw 89 = .ok (.iload_n 3, 1) := by decide +kernel
theorem dX2_draw_90 : decode cX2_draw 90 = .ok (.iload 4, 2) := by decide +kernel
theorem dX2_draw_92 : decode cX2_draw 92 = .ok (.invokevirtual 44, 3) := by decide +kernel
theorem dX2_draw_95 : decode cX2_draw 95 = .ok (.aload_n 1, 1) := by decide +kernel
theorem dX2_draw_96 : decode cX2_draw 96 = .ok (.iload_n 3, 1) := by decide +kernel
theorem dX2_draw_97 : decode cX2_draw 97 = .ok (.invokevirtual 48, 3) := by decide +kernel
theorem dX2_draw_100 : decode cX2_draw 100 = .ok (.istore_n 3, 1) := by decide +kernel
theorem dX2_draw_101 : decode cX2_draw 101 = .ok (.iinc 4 1, 3) := by decide +kernel
theorem dX2_draw_104 : decode cX2_draw 104 = .ok (.iinc 5 1, 3) := by decide +kernel
theorem dX2_draw_107 : decode cX2_draw 107 = .ok (.goto (-66), 3) := by decide +kernel
theorem dX2_draw_110 : decode cX2_draw 110 = .ok (.return_, 1) := by decide +kernel
theorem dX2_addMinute_0 : decode cX2_addMinute 0 = .ok (.iconst 0, 1) := by decide +kernel
theorem dX2_addMinute_1 : decode cX2_addMinute 1 = .ok (.istore 4, 2) := by decide +kernel
theorem dX2_addMinute_3 : decode cX2_addMinute 3 = .ok (.iload 4, 2) := by decide +kernel
theorem dX2_addMinute_5 : decode cX2_addMinute 5 = .ok (.bipush 64, 2) := by decide +kernel
theorem dX2_addMinute_7 : decode cX2_addMinute 7 = .ok (.if_icmp .ge 45, 3) := by decide +kernel
theorem dX2_addMinute_10 : decode cX2_addMinute 10 = .ok (.aload_n 0, 1) := by decide +kernel
theorem dX2_addMinute_11 : decode cX2_addMinute 11 = .ok (.getfield 9, 3) := by decide +kernel
theorem dX2_addMinute_14 : decode cX2_addMinute 14 = .ok (.aload_n 0, 1) := by decide +kernel
theorem dX2_addMinute_15 : decode cX2_addMinute 15 = .ok (.getfield 15, 3) := by decide +kernel
theorem dX2_addMinute_18 : decode cX2_addMinute 18 = .ok (.bipush 64, 2) := by decide +kernel
theorem dX2_addMinute_20 : decode cX2_addMinute 20 = .ok (.imul, 1) := by decide +kernel
theorem dX2_addMinute_21 : decode cX2_addMinute 21 = .ok (.iload 4, 2) := by decide +kernel
theorem dX2_addMinute_23 : decode cX2_addMinute 23 = .ok (.iadd, 1) := by decide +kernel
theorem dX2_addMinute_24 : decode cX2_addMinute 24 = .ok (.aload_n 0, 1) := by decide +kernel
theorem dX2_addMinute_25 : decode cX2_addMinute 25 = .ok (.aload_n 0, 1) := by decide +kernel
theorem dX2_addMinute_26 : decode cX2_addMinute 26 = .ok (.getfield 15, 3) := by decide +kernel
theorem dX2_addMinute_29 : decode cX2_addMinute 29 = .ok (.iload 4, 2) := by decide +kernel
theorem dX2_addMinute_31 : decode cX2_addMinute 31 = .ok (.invokevirtual 51, 3) := by decide +kernel
theorem dX2_addMinute_34 : decode cX2_addMinute 34 = .ok (.aload_n 1, 1) := by decide +kernel
theorem dX2_addMinute_35 : decode cX2_addMinute 35 = .ok (.iload_n 2, 1) := by decide +kernel
theorem dX2_addMinute_36 : decode cX2_addMinute 36 = .ok (.iload 4, 2) := by decide +kernel
theorem dX2_addMinute_38 : decode cX2_addMinute 38 = .ok (.iload_n 3, 1) := by decide +kernel
theorem dX2_addMinute_39 : decode cX2_addMinute 39 = .ok (.invokevirtual 54, 3) := by decide +kernel
theorem dX2_addMinute_42 : decode cX2_addMinute 42 = .ok (.iadd, 1) := by decide +kernel
theorem dX2_addMinute_43 : decode cX2_addMinute 43 = .ok (.invokestatic 57, 3) := by decide +kernel
theorem dX2_addMinute_46 : decode cX2_addMinute 46 = .ok (.iinc 4 1, 3) := by decide +kernel
theorem dX2_addMinute_49 : decode cX2_addMinute 49 = .ok (.goto (-46), 3) := by decide +kernel
theorem dX2_addMinute_52 : decode cX2_addMinute 52 = .ok (.return_, 1) := by decide +kernel
theorem dX3_init_0 : decode cX3_init 0 = .ok (.aload_n 0, 1) := by decide +kernel
theorem dX3_init_1 : decode cX3_init 1 = .ok (.invokespecial 3, 3) := by decide +kernel
theorem dX3_init_4 : decode cX3_init 4 = .ok (.aload_n 0, 1) := by decide +kernel
theorem dX3_init_5 : decode cX3_init 5 = .ok (.bipush 6, 2) := by decide +kernel
theorem dX3_init_7 : decode cX3_init 7 = .ok (.newarray .int, 2) := by decide +kernel
theorem dX3_init_9 : decode cX3_init 9 = .ok (.putfield 9, 3) := by decide +kernel
theorem dX3_init_12 : decode cX3_init 12 = .ok (.return_, 1) := by decide +kernel
theorem dX3_clear_0 : decode cX3_clear 0 = .ok (.aload_n 0, 1) := by decide +kernel
theorem dX3_clear_1 : decode cX3_clear 1 = .ok (.iconst 0, 1) := by decide +kernel
theorem dX3_clear_2 : decode cX3_clear 2 = .ok (.putfield 15, 3) := by decide +kernel
theorem dX3_clear_5 : decode cX3_clear 5 = .ok (.return_, 1) := by decide +kernel
theorem dX3_note_0 : decode cX3_note 0 = .ok (.iload_n 1, 1) := by decide +kernel
theorem dX3_note_1 : decode cX3_note 1 = .ok (.invokestatic 19, 3) := by decide +kernel
theorem dX3_note_4 : decode cX3_note 4 = .ok (.ifCond .eq 24, 3) := by decide +kernel
theorem dX3_note_7 : decode cX3_note 7 = .ok (.aload_n 0, 1) := by decide +kernel
theorem dX3_note_8 : decode cX3_note 8 = .ok (.getfield 9, 3) := by decide +kernel
theorem dX3_note_11 : decode cX3_note 11 = .ok (.iload_n 1, 1) := by decide +kernel
theorem dX3_note_12 : decode cX3_note 12 = .ok (.iload_n 2, 1) := by decide +kernel
theorem dX3_note_13 : decode cX3_note 13 = .ok (.invokestatic 23, 3) := by decide +kernel
theorem dX3_note_16 : decode cX3_note 16 = .ok (.aload_n 0, 1) := by decide +kernel
theorem dX3_note_17 : decode cX3_note 17 = .ok (.dup, 1) := by decide +kernel
theorem dX3_note_18 : decode cX3_note 18 = .ok (.getfield 15, 3) := by decide +kernel
theorem dX3_note_21 : decode cX3_note 21 = .ok (.iconst 1, 1) := by decide +kernel
theorem dX3_note_22 : decode cX3_note 22 = .ok (.iload_n 1, 1) := by decide +kernel
theorem dX3_note_23 : decode cX3_note 23 = .ok (.ishl, 1) := by decide +kernel
theorem dX3_note_24 : decode cX3_note 24 = .ok (.ior, 1) := by decide +kernel
theorem dX3_note_25 : decode cX3_note 25 = .ok (.putfield 15, 3) := by decide +kernel
theorem dX3_note_28 : decode cX3_note 28 = .ok (.return_, 1) := by decide +kernel
theorem dX3_saw_0 : decode cX3_saw 0 = .ok (.aload_n 0, 1) := by decide +kernel
theorem dX3_saw_1 : decode cX3_saw 1 = .ok (.getfield 15, 3) := by decide +kernel
theorem dX3_saw_4 : decode cX3_saw 4 = .ok (.iload_n 1, 1) := by decide +kernel
theorem dX3_saw_5 : decode cX3_saw 5 = .ok (.invokestatic 27, 3) := by decide +kernel
theorem dX3_saw_8 : decode cX3_saw 8 = .ok (.ifCond .eq 19, 3) := by decide +kernel
theorem dX3_saw_11 : decode cX3_saw 11 = .ok (.aload_n 0, 1) := by decide +kernel
theorem dX3_saw_12 : decode cX3_saw 12 = .ok (.getfield 9, 3) := by decide +kernel
theorem dX3_saw_15 : decode cX3_saw 15 = .ok (.iload_n 1, 1) := by decide +kernel
theorem dX3_saw_16 : decode cX3_saw 16 = .ok (.invokestatic 31, 3) := by decide +kernel
theorem dX3_saw_19 : decode cX3_saw 19 = .ok (.iload_n 2, 1) := by decide +kernel
theorem dX3_saw_20 : decode cX3_saw 20 = .ok (.if_icmp .ne 7, 3) := by decide +kernel
theorem dX3_saw_23 : decode cX3_saw 23 = .ok (.iconst 1, 1) := by decide +kernel
theorem dX3_saw_24 : decode cX3_saw 24 = .ok (.goto 4, 3) := by decide +kernel
theorem dX3_saw_27 : decode cX3_saw 27 = .ok (.iconst 0, 1) := by decide +kernel
theorem dX3_saw_28 : decode cX3_saw 28 = .ok (.ireturn, 1) := by decide +kernel
theorem dX4_init_0 : decode cX4_init 0 = .ok (.aload_n 0, 1) := by decide +kernel
theorem dX4_init_1 : decode cX4_init 1 = .ok (.invokespecial 3, 3) := by decide +kernel
theorem dX4_init_4 : decode cX4_init 4 = .ok (.aload_n 0, 1) := by decide +kernel
theorem dX4_init_5 : decode cX4_init 5 = .ok (.bipush 60, 2) := by decide +kernel
theorem dX4_init_7 : decode cX4_init 7 = .ok (.newarray .int, 2) := by decide +kernel
theorem dX4_init_9 : decode cX4_init 9 = .ok (.putfield 9, 3) := by decide +kernel
theorem dX4_init_12 : decode cX4_init 12 = .ok (.return_, 1) := by decide +kernel
theorem dX4_length_0 : decode cX4_length 0 = .ok (.aload_n 0, 1) := by decide +kernel
theorem dX4_length_1 : decode cX4_length 1 = .ok (.getfield 15, 3) := by decide +kernel
theorem dX4_length_4 : decode cX4_length 4 = .ok (.ireturn, 1) := by decide +kernel
theorem dX4_sign_0 : decode cX4_sign 0 = .ok (.aload_n 0, 1) := by decide +kernel
theorem dX4_sign_1 : decode cX4_sign 1 = .ok (.getfield 9, 3) := by decide +kernel
theorem dX4_sign_4 : decode cX4_sign 4 = .ok (.iload_n 1, 1) := by decide +kernel
theorem dX4_sign_5 : decode cX4_sign 5 = .ok (.invokestatic 19, 3) := by decide +kernel
theorem dX4_sign_8 : decode cX4_sign 8 = .ok (.ireturn, 1) := by decide +kernel
theorem dX4_write_0 : decode cX4_write 0 = .ok (.aload_n 0, 1) := by decide +kernel
theorem dX4_write_1 : decode cX4_write 1 = .ok (.getfield 9, 3) := by decide +kernel
theorem dX4_write_4 : decode cX4_write 4 = .ok (.aload_n 0, 1) := by decide +kernel
theorem dX4_write_5 : decode cX4_write 5 = .ok (.getfield 15, 3) := by decide +kernel
theorem dX4_write_8 : decode cX4_write 8 = .ok (.iload_n 1, 1) := by decide +kernel
theorem dX4_write_9 : decode cX4_write 9 = .ok (.invokestatic 23, 3) := by decide +kernel
theorem dX4_write_12 : decode cX4_write 12 = .ok (.aload_n 0, 1) := by decide +kernel
theorem dX4_write_13 : decode cX4_write 13 = .ok (.dup, 1) := by decide +kernel
theorem dX4_write_14 : decode cX4_write 14 = .ok (.getfield 15, 3) := by decide +kernel
theorem dX4_write_17 : decode cX4_write 17 = .ok (.iconst 1, 1) := by decide +kernel
theorem dX4_write_18 : decode cX4_write 18 = .ok (.iadd, 1) := by decide +kernel
theorem dX4_write_19 : decode cX4_write 19 = .ok (.putfield 15, 3) := by decide +kernel
theorem dX4_write_22 : decode cX4_write 22 = .ok (.return_, 1) := by decide +kernel
theorem dX4_clear_0 : decode cX4_clear 0 = .ok (.aload_n 0, 1) := by decide +kernel
theorem dX4_clear_1 : decode cX4_clear 1 = .ok (.iconst 0, 1) := by decide +kernel
theorem dX4_clear_2 : decode cX4_clear 2 = .ok (.putfield 15, 3) := by decide +kernel
theorem dX4_clear_5 : decode cX4_clear 5 = .ok (.return_, 1) := by decide +kernel
theorem dX4_count_0 : decode cX4_count 0 = .ok (.iconst 0, 1) := by decide +kernel
theorem dX4_count_1 : decode cX4_count 1 = .ok (.istore_n 2, 1) := by decide +kernel
theorem dX4_count_2 : decode cX4_count 2 = .ok (.iconst 0, 1) := by decide +kernel
theorem dX4_count_3 : decode cX4_count 3 = .ok (.istore_n 3, 1) := by decide +kernel
theorem dX4_count_4 : decode cX4_count 4 = .ok (.iload_n 3, 1) := by decide +kernel
theorem dX4_count_5 : decode cX4_count 5 = .ok (.aload_n 0, 1) := by decide +kernel
theorem dX4_count_6 : decode cX4_count 6 = .ok (.getfield 15, 3) := by decide +kernel
theorem dX4_count_9 : decode cX4_count 9 = .ok (.if_icmp .ge 26, 3) := by decide +kernel
theorem dX4_count_12 : decode cX4_count 12 = .ok (.iload_n 2, 1) := by decide +kernel
theorem dX4_count_13 : decode cX4_count 13 = .ok (.aload_n 0, 1) := by decide +kernel
theorem dX4_count_14 : decode cX4_count 14 = .ok (.iload_n 3, 1) := by decide +kernel
theorem dX4_count_15 : decode cX4_count 15 = .ok (.invokevirtual 27, 3) := by decide +kernel
theorem dX4_count_18 : decode cX4_count 18 = .ok (.iload_n 1, 1) := by decide +kernel
theorem dX4_count_19 : decode cX4_count 19 = .ok (.if_icmp .ne 7, 3) := by decide +kernel
theorem dX4_count_22 : decode cX4_count 22 = .ok (.iconst 1, 1) := by decide +kernel
theorem dX4_count_23 : decode cX4_count 23 = .ok (.goto 4, 3) := by decide +kernel
theorem dX4_count_26 : decode cX4_count 26 = .ok (.iconst 0, 1) := by decide +kernel
theorem dX4_count_27 : decode cX4_count 27 = .ok (.iadd, 1) := by decide +kernel
theorem dX4_count_28 : decode cX4_count 28 = .ok (.istore_n 2, 1) := by decide +kernel
theorem dX4_count_29 : decode cX4_count 29 = .ok (.iinc 3 1, 3) := by decide +kernel
theorem dX4_count_32 : decode cX4_count 32 = .ok (.goto (-28), 3) := by decide +kernel
theorem dX4_count_35 : decode cX4_count 35 = .ok (.iload_n 2, 1) := by decide +kernel
theorem dX4_count_36 : decode cX4_count 36 = .ok (.ireturn, 1) := by decide +kernel
theorem dX4_hasThrow_0 : decode cX4_hasThrow 0 = .ok (.iconst 0, 1) := by decide +kernel
theorem dX4_hasThrow_1 : decode cX4_hasThrow 1 = .ok (.istore_n 1, 1) := by decide +kernel
theorem dX4_hasThrow_2 : decode cX4_hasThrow 2 = .ok (.iload_n 1, 1) := by decide +kernel
theorem dX4_hasThrow_3 : decode cX4_hasThrow 3 = .ok (.aload_n 0, 1) := by decide +kernel
theorem dX4_hasThrow_4 : decode cX4_hasThrow 4 = .ok (.getfield 15, 3) := by decide +kernel
theorem dX4_hasThrow_7 : decode cX4_hasThrow 7 = .ok (.if_icmp .ge 24, 3) := by decide +kernel
theorem dX4_hasThrow_10 : decode cX4_hasThrow 10 = .ok (.aload_n 0, 1) := by decide +kernel
theorem dX4_hasThrow_11 : decode cX4_hasThrow 11 = .ok (.iload_n 1, 1) := by decide +kernel
theorem dX4_hasThrow_12 : decode cX4_hasThrow 12 = .ok (.invokevirtual 27, 3) := by decide +kernel
theorem dX4_hasThrow_15 : decode cX4_hasThrow 15 = .ok (.invokestatic 31, 3) := by decide +kernel
theorem dX4_hasThrow_18 : decode cX4_hasThrow 18 = .ok (.bipush (-6), 2) := by decide +kernel
theorem dX4_hasThrow_20 : decode cX4_hasThrow 20 = .ok (.if_icmp .eq 5, 3) := by decide +kernel
theorem dX4_hasThrow_23 : decode cX4_hasThrow 23 = .ok (.iconst 1, 1) := by decide +kernel
theorem dX4_hasThrow_24 : decode cX4_hasThrow 24 = .ok (.ireturn, 1) := by decide +kernel
theorem dX4_hasThrow_25 : decode cX4_hasThrow 25 = .ok (.iinc 1 1, 3) := by decide +kernel
theorem dX4_hasThrow_28 : decode cX4_hasThrow 28 = .ok (.goto (-26), 3) := by decide +kernel
theorem dX4_hasThrow_31 : decode cX4_hasThrow 31 = .ok (.iconst 0, 1) := by decide +kernel
theorem dX4_hasThrow_32 : decode cX4_hasThrow 32 = .ok (.ireturn, 1) := by decide +kernel
theorem dX4_fines_0 : decode cX4_fines 0 = .ok (.iconst 0, 1) := by decide +kernel
theorem dX4_fines_1 : decode cX4_fines 1 = .ok (.istore_n 1, 1) := by decide +kernel
theorem dX4_fines_2 : decode cX4_fines 2 = .ok (.iconst 0, 1) := by decide +kernel
theorem dX4_fines_3 : decode cX4_fines 3 = .ok (.istore_n 2, 1) := by decide +kernel
theorem dX4_fines_4 : decode cX4_fines 4 = .ok (.iload_n 2, 1) := by decide +kernel
theorem dX4_fines_5 : decode cX4_fines 5 = .ok (.aload_n 0, 1) := by decide +kernel
theorem dX4_fines_6 : decode cX4_fines 6 = .ok (.getfield 15, 3) := by decide +kernel
theorem dX4_fines_9 : decode cX4_fines 9 = .ok (.if_icmp .ge 56, 3) := by decide +kernel
theorem dX4_fines_12 : decode cX4_fines 12 = .ok (.iload_n 2, 1) := by decide +kernel
theorem dX4_fines_13 : decode cX4_fines 13 = .ok (.ifCond .le 19, 3) := by decide +kernel
theorem dX4_fines_16 : decode cX4_fines 16 = .ok (.aload_n 0, 1) := by decide +kernel
theorem dX4_fines_17 : decode cX4_fines 17 = .ok (.iload_n 2, 1) := by decide +kernel
theorem dX4_fines_18 : decode cX4_fines 18 = .ok (.iconst 1, 1) := by decide +kernel
theorem dX4_fines_19 : decode cX4_fines 19 = .ok (.isub, 1) := by decide +kernel
theorem dX4_fines_20 : decode cX4_fines 20 = .ok (.invokevirtual 27, 3) := by decide +kernel
theorem dX4_fines_23 : decode cX4_fines 23 = .ok (.bipush 33, 2) := by decide +kernel
theorem dX4_fines_25 : decode cX4_fines 25 = .ok (.if_icmp .ne 7, 3) := by decide +kernel
theorem dX4_fines_28 : decode cX4_fines 28 = .ok (.iconst 1, 1) := by decide +kernel
theorem dX4_fines_29 : decode cX4_fines 29 = .ok (.goto 4, 3) := by decide +kernel
theorem dX4_fines_32 : decode cX4_fines 32 = .ok (.iconst 0, 1) := by decide +kernel
theorem dX4_fines_33 : decode cX4_fines 33 = .ok (.istore_n 3, 1) := by decide +kernel
theorem dX4_fines_34 : decode cX4_fines 34 = .ok (.iload_n 1, 1) := by decide +kernel
theorem dX4_fines_35 : decode cX4_fines 35 = .ok (.aload_n 0, 1) := by decide +kernel
theorem dX4_fines_36 : decode cX4_fines 36 = .ok (.iload_n 2, 1) := by decide +kernel
theorem dX4_fines_37 : decode cX4_fines 37 = .ok (.invokevirtual 27, 3) := by decide +kernel
theorem dX4_fines_40 : decode cX4_fines 40 = .ok (.invokestatic 31, 3) := by decide +kernel
theorem dX4_fines_43 : decode cX4_fines 43 = .ok (.bipush (-6), 2) := by decide +kernel
theorem dX4_fines_45 : decode cX4_fines 45 = .ok (.if_icmp .eq 11, 3) := by decide +kernel
theorem dX4_fines_48 : decode cX4_fines 48 = .ok (.iload_n 3, 1) := by decide +kernel
theorem dX4_fines_49 : decode cX4_fines 49 = .ok (.ifCond .ne 7, 3) := by decide +kernel
theorem dX4_fines_52 : decode cX4_fines 52 = .ok (.iconst 1, 1) := by decide +kernel
theorem dX4_fines_53 : decode cX4_fines 53 = .ok (.goto 4, 3) := by decide +kernel
theorem dX4_fines_56 : decode cX4_fines 56 = .ok (.iconst 0, 1) := by decide +kernel
theorem dX4_fines_57 : decode cX4_fines 57 = .ok (.iadd, 1) := by decide +kernel
theorem dX4_fines_58 : decode cX4_fines 58 = .ok (.istore_n 1, 1) := by decide +kernel
theorem dX4_fines_59 : decode cX4_fines 59 = .ok (.iinc 2 1, 3) := by decide +kernel
theorem dX4_fines_62 : decode cX4_fines 62 = .ok (.goto (-58), 3) := by decide +kernel
theorem dX4_fines_65 : decode cX4_fines 65 = .ok (.iload_n 1, 1) := by decide +kernel
theorem dX4_fines_66 : decode cX4_fines 66 = .ok (.ireturn, 1) := by decide +kernel
theorem dX5_init_0 : decode cX5_init 0 = .ok (.aload_n 0, 1) := by decide +kernel
theorem dX5_init_1 : decode cX5_init 1 = .ok (.invokespecial 3, 3) := by decide +kernel
theorem dX5_init_4 : decode cX5_init 4 = .ok (.aload_n 0, 1) := by decide +kernel
theorem dX5_init_5 : decode cX5_init 5 = .ok (.bipush 24, 2) := by decide +kernel
theorem dX5_init_7 : decode cX5_init 7 = .ok (.newarray .int, 2) := by decide +kernel
theorem dX5_init_9 : decode cX5_init 9 = .ok (.putfield 9, 3) := by decide +kernel
theorem dX5_init_12 : decode cX5_init 12 = .ok (.return_, 1) := by decide +kernel
theorem dX5_gather_0 : decode cX5_gather 0 = .ok (.aload_n 0, 1) := by decide +kernel
theorem dX5_gather_1 : decode cX5_gather 1 = .ok (.iconst 0, 1) := by decide +kernel
theorem dX5_gather_2 : decode cX5_gather 2 = .ok (.putfield 15, 3) := by decide +kernel
theorem dX5_gather_5 : decode cX5_gather 5 = .ok (.iconst 0, 1) := by decide +kernel
theorem dX5_gather_6 : decode cX5_gather 6 = .ok (.istore 4, 2) := by decide +kernel
theorem dX5_gather_8 : decode cX5_gather 8 = .ok (.iconst 0, 1) := by decide +kernel
theorem dX5_gather_9 : decode cX5_gather 9 = .ok (.istore 5, 2) := by decide +kernel
theorem dX5_gather_11 : decode cX5_gather 11 = .ok (.iload 5, 2) := by decide +kernel
theorem dX5_gather_13 : decode cX5_gather 13 = .ok (.aload_n 1, 1) := by decide +kernel
theorem dX5_gather_14 : decode cX5_gather 14 = .ok (.invokevirtual 19, 3) := by decide +kernel
theorem dX5_gather_17 : decode cX5_gather 17 = .ok (.if_icmp .ge 58, 3) := by decide +kernel
theorem dX5_gather_20 : decode cX5_gather 20 = .ok (.aload_n 1, 1) := by decide +kernel
theorem dX5_gather_21 : decode cX5_gather 21 = .ok (.iload 5, 2) := by decide +kernel
theorem dX5_gather_23 : decode cX5_gather 23 = .ok (.invokevirtual 25, 3) := by decide +kernel
theorem dX5_gather_26 : decode cX5_gather 26 = .ok (.bipush 33, 2) := by decide +kernel
theorem dX5_gather_28 : decode cX5_gather 28 = .ok (.if_icmp .ne 10, 3) := by decide +kernel
theorem dX5_gather_31 : decode cX5_gather 31 = .ok (.aload_n 0, 1) := by decide +kernel
theorem dX5_gather_32 : decode cX5_gather 32 = .ok (.iload 4, 2) := by decide +kernel
theorem dX5_gather_34 : decode cX5_gather 34 = .ok (.iconst 1, 1) := by decide +kernel
theorem dX5_gather_35 : decode cX5_gather 35 = .ok (.invokevirtual 29, 3) := by decide +kernel
theorem dX5_gather_38 : decode cX5_gather 38 = .ok (.aload_n 1, 1) := by decide +kernel
theorem dX5_gather_39 : decode cX5_gather 39 = .ok (.iload 5, 2) := by decide +kernel
theorem dX5_gather_41 : decode cX5_gather 41 = .ok (.invokevirtual 25, 3) := by decide +kernel
theorem dX5_gather_44 : decode cX5_gather 44 = .ok (.bipush 46, 2) := by decide +kernel
theorem dX5_gather_46 : decode cX5_gather 46 = .ok (.if_icmp .ne 23, 3) := by decide +kernel
theorem dX5_gather_49 : decode cX5_gather 49 = .ok (.aload_n 0, 1) := by decide +kernel
theorem dX5_gather_50 : decode cX5_gather 50 = .ok (.iload 4, 2) := by decide +kernel
theorem dX5_gather_52 : decode cX5_gather 52 = .ok (.iload 4, 2) := by decide +kernel
theorem dX5_gather_54 : decode cX5_gather 54 = .ok (.iload_n 2, 1) := by decide +kernel
theorem dX5_gather_55 : decode cX5_gather 55 = .ok (.if_icmp .ne 7, 3) := by decide +kernel
theorem dX5_gather_58 : decode cX5_gather 58 = .ok (.iload_n 3, 1) := by decide +kernel
theorem dX5_gather_59 : decode cX5_gather 59 = .ok (.goto 4, 3) := by decide +kernel
theorem dX5_gather_62 : decode cX5_gather 62 = .ok (.iconst 0, 1) := by decide +kernel
theorem dX5_gather_63 : decode cX5_gather 63 = .ok (.invokevirtual 29, 3) := by decide +kernel
theorem dX5_gather_66 : decode cX5_gather 66 = .ok (.iinc 4 1, 3) := by decide +kernel
theorem dX5_gather_69 : decode cX5_gather 69 = .ok (.iinc 5 1, 3) := by decide +kernel
theorem dX5_gather_72 : decode cX5_gather 72 = .ok (.goto (-61), 3) := by decide +kernel
theorem dX5_gather_75 : decode cX5_gather 75 = .ok (.aload_n 0, 1) := by decide +kernel
theorem dX5_gather_76 : decode cX5_gather 76 = .ok (.iload 4, 2) := by decide +kernel
theorem dX5_gather_78 : decode cX5_gather 78 = .ok (.iload 4, 2) := by decide +kernel
theorem dX5_gather_80 : decode cX5_gather 80 = .ok (.iload_n 2, 1) := by decide +kernel
theorem dX5_gather_81 : decode cX5_gather 81 = .ok (.if_icmp .ne 7, 3) := by decide +kernel
theorem dX5_gather_84 : decode cX5_gather 84 = .ok (.iload_n 3, 1) := by decide +kernel
theorem dX5_gather_85 : decode cX5_gather 85 = .ok (.goto 4, 3) := by decide +kernel
theorem dX5_gather_88 : decode cX5_gather 88 = .ok (.iconst 0, 1) := by decide +kernel
theorem dX5_gather_89 : decode cX5_gather 89 = .ok (.invokevirtual 29, 3) := by decide +kernel
theorem dX5_gather_92 : decode cX5_gather 92 = .ok (.return_, 1) := by decide +kernel
theorem dX5_add_0 : decode cX5_add 0 = .ok (.iconst 0, 1) := by decide +kernel
theorem dX5_add_1 : decode cX5_add 1 = .ok (.istore_n 3, 1) := by decide +kernel
theorem dX5_add_2 : decode cX5_add 2 = .ok (.iload_n 3, 1) := by decide +kernel
theorem dX5_add_3 : decode cX5_add 3 = .ok (.iload_n 2, 1) := by decide +kernel
theorem dX5_add_4 : decode cX5_add 4 = .ok (.if_icmp .ge 31, 3) := by decide +kernel
theorem dX5_add_7 : decode cX5_add 7 = .ok (.aload_n 0, 1) := by decide +kernel
theorem dX5_add_8 : decode cX5_add 8 = .ok (.getfield 9, 3) := by decide +kernel
theorem dX5_add_11 : decode cX5_add 11 = .ok (.aload_n 0, 1) := by decide +kernel
theorem dX5_add_12 : decode cX5_add 12 = .ok (.getfield 15, 3) := by decide +kernel
theorem dX5_add_15 : decode cX5_add 15 = .ok (.iload_n 1, 1) := by decide +kernel
theorem dX5_add_16 : decode cX5_add 16 = .ok (.invokestatic 33, 3) := by decide +kernel
theorem dX5_add_19 : decode cX5_add 19 = .ok (.aload_n 0, 1) := by decide +kernel
theorem dX5_add_20 : decode cX5_add 20 = .ok (.dup, 1) := by decide +kernel
theorem dX5_add_21 : decode cX5_add 21 = .ok (.getfield 15, 3) := by decide +kernel
theorem dX5_add_24 : decode cX5_add 24 = .ok (.iconst 1, 1) := by decide +kernel
theorem dX5_add_25 : decode cX5_add 25 = .ok (.iadd, 1) := by decide +kernel
theorem dX5_add_26 : decode cX5_add 26 = .ok (.putfield 15, 3) := by decide +kernel
theorem dX5_add_29 : decode cX5_add 29 = .ok (.iinc 3 1, 3) := by decide +kernel
theorem dX5_add_32 : decode cX5_add 32 = .ok (.goto (-30), 3) := by decide +kernel
theorem dX5_add_35 : decode cX5_add 35 = .ok (.return_, 1) := by decide +kernel
theorem dX5_firstDoubt_0 : decode cX5_firstDoubt 0 = .ok (.iconst 0, 1) := by decide +kernel
theorem dX5_firstDoubt_1 : decode cX5_firstDoubt 1 = .ok (.istore_n 3, 1) := by decide +kernel
theorem dX5_firstDoubt_2 : decode cX5_firstDoubt 2 = .ok (.iload_n 3, 1) := by decide +kernel
theorem dX5_firstDoubt_3 : decode cX5_firstDoubt 3 = .ok (.aload_n 0, 1) := by decide +kernel
theorem dX5_firstDoubt_4 : decode cX5_firstDoubt 4 = .ok (.getfield 15, 3) := by decide +kernel
theorem dX5_firstDoubt_7 : decode cX5_firstDoubt 7 = .ok (.if_icmp .ge 21, 3) := by decide +kernel
theorem dX5_firstDoubt_10 : decode cX5_firstDoubt 10 = .ok (.aload_n 0, 1) := by decide +kernel
theorem dX5_firstDoubt_11 : decode cX5_firstDoubt 11 = .ok (.iload_n 3, 1) := by decide +kernel
theorem dX5_firstDoubt_12 : decode cX5_firstDoubt 12 = .ok (.iload_n 2, 1) := by decide +kernel
theorem dX5_firstDoubt_13 : decode cX5_firstDoubt 13 = .ok (.invokevirtual 37, 3) := by decide +kernel
theorem dX5_firstDoubt_16 : decode cX5_firstDoubt 16 = .ok (.iload_n 1, 1) := by decide +kernel
theorem dX5_firstDoubt_17 : decode cX5_firstDoubt 17 = .ok (.if_icmp .le 5, 3) := by decide +kernel
theorem dX5_firstDoubt_20 : decode cX5_firstDoubt 20 = .ok (.iload_n 3, 1) := by decide +kernel
theorem dX5_firstDoubt_21 : decode cX5_firstDoubt 21 = .ok (.ireturn, 1) := by decide +kernel
theorem dX5_firstDoubt_22 : decode cX5_firstDoubt 22 = .ok (.iinc 3 1, 3) := by decide +kernel
theorem dX5_firstDoubt_25 : decode cX5_firstDoubt 25 = .ok (.goto (-23), 3) := by decide +kernel
theorem dX5_firstDoubt_28 : decode cX5_firstDoubt 28 = .ok (.bipush (-6), 2) := by decide +kernel
theorem dX5_firstDoubt_30 : decode cX5_firstDoubt 30 = .ok (.ireturn, 1) := by decide +kernel
theorem dX5_near_0 : decode cX5_near 0 = .ok (.iconst 0, 1) := by decide +kernel
theorem dX5_near_1 : decode cX5_near 1 = .ok (.istore_n 3, 1) := by decide +kernel
theorem dX5_near_2 : decode cX5_near 2 = .ok (.iconst 0, 1) := by decide +kernel
theorem dX5_near_3 : decode cX5_near 3 = .ok (.istore 4, 2) := by decide +kernel
theorem dX5_near_5 : decode cX5_near 5 = .ok (.iload 4, 2) := by decide +kernel
theorem dX5_near_7 : decode cX5_near 7 = .ok (.iload_n 1, 1) := by decide +kernel
theorem dX5_near_8 : decode cX5_near 8 = .ok (.if_icmp .gt 39, 3) := by decide +kernel
theorem dX5_near_11 : decode cX5_near 11 = .ok (.iload_n 3, 1) := by decide +kernel
theorem dX5_near_12 : decode cX5_near 12 = .ok (.aload_n 0, 1) := by decide +kernel
theorem dX5_near_13 : decode cX5_near 13 = .ok (.getfield 9, 3) := by decide +kernel
theorem dX5_near_16 : decode cX5_near 16 = .ok (.iload 4, 2) := by decide +kernel
theorem dX5_near_18 : decode cX5_near 18 = .ok (.invokestatic 41, 3) := by decide +kernel
theorem dX5_near_21 : decode cX5_near 21 = .ok (.aload_n 0, 1) := by decide +kernel
theorem dX5_near_22 : decode cX5_near 22 = .ok (.getfield 9, 3) := by decide +kernel
theorem dX5_near_25 : decode cX5_near 25 = .ok (.iload_n 1, 1) := by decide +kernel
theorem dX5_near_26 : decode cX5_near 26 = .ok (.invokestatic 41, 3) := by decide +kernel
theorem dX5_near_29 : decode cX5_near 29 = .ok (.iload_n 2, 1) := by decide +kernel
theorem dX5_near_30 : decode cX5_near 30 = .ok (.isub, 1) := by decide +kernel
theorem dX5_near_31 : decode cX5_near 31 = .ok (.if_icmp .le 7, 3) := by decide +kernel
theorem dX5_near_34 : decode cX5_near 34 = .ok (.iconst 1, 1) := by decide +kernel
theorem dX5_near_35 : decode cX5_near 35 = .ok (.goto 4, 3) := by decide +kernel
theorem dX5_near_38 : decode cX5_near 38 = .ok (.iconst 0, 1) := by decide +kernel
theorem dX5_near_39 : decode cX5_near 39 = .ok (.iadd, 1) := by decide +kernel
theorem dX5_near_40 : decode cX5_near 40 = .ok (.istore_n 3, 1) := by decide +kernel
theorem dX5_near_41 : decode cX5_near 41 = .ok (.iinc 4 1, 3) := by decide +kernel
theorem dX5_near_44 : decode cX5_near 44 = .ok (.goto (-39), 3) := by decide +kernel
theorem dX5_near_47 : decode cX5_near 47 = .ok (.iload_n 3, 1) := by decide +kernel
theorem dX5_near_48 : decode cX5_near 48 = .ok (.ireturn, 1) := by decide +kernel
theorem dX6_init_0 : decode cX6_init 0 = .ok (.aload_n 0, 1) := by decide +kernel
theorem dX6_init_1 : decode cX6_init 1 = .ok (.invokespecial 3, 3) := by decide +kernel
theorem dX6_init_4 : decode cX6_init 4 = .ok (.aload_n 0, 1) := by decide +kernel
theorem dX6_init_5 : decode cX6_init 5 = .ok (.bipush 6, 2) := by decide +kernel
theorem dX6_init_7 : decode cX6_init 7 = .ok (.newarray .int, 2) := by decide +kernel
theorem dX6_init_9 : decode cX6_init 9 = .ok (.putfield 9, 3) := by decide +kernel
theorem dX6_init_12 : decode cX6_init 12 = .ok (.aload_n 0, 1) := by decide +kernel
theorem dX6_init_13 : decode cX6_init 13 = .ok (.bipush 6, 2) := by decide +kernel
theorem dX6_init_15 : decode cX6_init 15 = .ok (.newarray .int, 2) := by decide +kernel
theorem dX6_init_17 : decode cX6_init 17 = .ok (.putfield 15, 3) := by decide +kernel
theorem dX6_init_20 : decode cX6_init 20 = .ok (.return_, 1) := by decide +kernel
theorem dX6_begin_0 : decode cX6_begin 0 = .ok (.aload_n 0, 1) := by decide +kernel
theorem dX6_begin_1 : decode cX6_begin 1 = .ok (.iload_n 1, 1) := by decide +kernel
theorem dX6_begin_2 : decode cX6_begin 2 = .ok (.putfield 18, 3) := by decide +kernel
theorem dX6_begin_5 : decode cX6_begin 5 = .ok (.aload_n 0, 1) := by decide +kernel
theorem dX6_begin_6 : decode cX6_begin 6 = .ok (.ldc 24, 2) := by decide +kernel
theorem dX6_begin_8 : decode cX6_begin 8 = .ok (.putfield 25, 3) := by decide +kernel
theorem dX6_begin_11 : decode cX6_begin 11 = .ok (.aload_n 0, 1) := by decide +kernel
theorem dX6_begin_12 : decode cX6_begin 12 = .ok (.iconst 0, 1) := by decide +kernel
theorem dX6_begin_13 : decode cX6_begin 13 = .ok (.putfield 28, 3) := by decide +kernel
theorem dX6_begin_16 : decode cX6_begin 16 = .ok (.return_, 1) := by decide +kernel
theorem dX6_pick_0 : decode cX6_pick 0 = .ok (.aload_n 0, 1) := by decide +kernel
theorem dX6_pick_1 : decode cX6_pick 1 = .ok (.getfield 9, 3) := by decide +kernel
theorem dX6_pick_4 : decode cX6_pick 4 = .ok (.iload_n 1, 1) := by decide +kernel
theorem dX6_pick_5 : decode cX6_pick 5 = .ok (.iload_n 2, 1) := by decide +kernel
theorem dX6_pick_6 : decode cX6_pick 6 = .ok (.invokestatic 31, 3) := by decide +kernel
theorem dX6_pick_9 : decode cX6_pick 9 = .ok (.return_, 1) := by decide +kernel
theorem dX6_end_0 : decode cX6_end 0 = .ok (.iload_n 1, 1) := by decide +kernel
theorem dX6_end_1 : decode cX6_end 1 = .ok (.aload_n 0, 1) := by decide +kernel
theorem dX6_end_2 : decode cX6_end 2 = .ok (.getfield 18, 3) := by decide +kernel
theorem dX6_end_5 : decode cX6_end 5 = .ok (.isub, 1) := by decide +kernel
theorem dX6_end_6 : decode cX6_end 6 = .ok (.invokestatic 35, 3) := by decide +kernel
theorem dX6_end_9 : decode cX6_end 9 = .ok (.istore_n 3, 1) := by decide +kernel
theorem dX6_end_10 : decode cX6_end 10 = .ok (.iload_n 3, 1) := by decide +kernel
theorem dX6_end_11 : decode cX6_end 11 = .ok (.aload_n 0, 1) := by decide +kernel
theorem dX6_end_12 : decode cX6_end 12 = .ok (.getfield 25, 3) := by decide +kernel
theorem dX6_end_15 : decode cX6_end 15 = .ok (.if_icmp .lt 19, 3) := by decide +kernel
theorem dX6_end_18 : decode cX6_end 18 = .ok (.iload_n 3, 1) := by decide +kernel
theorem dX6_end_19 : decode cX6_end 19 = .ok (.aload_n 0, 1) := by decide +kernel
theorem dX6_end_20 : decode cX6_end 20 = .ok (.getfield 25, 3) := by decide +kernel
theorem dX6_end_23 : decode cX6_end 23 = .ok (.if_icmp .ne 32, 3) := by decide +kernel
theorem dX6_end_26 : decode cX6_end 26 = .ok (.iload_n 2, 1) := by decide +kernel
theorem dX6_end_27 : decode cX6_end 27 = .ok (.aload_n 0, 1) := by decide +kernel
theorem dX6_end_28 : decode cX6_end 28 = .ok (.getfield 28, 3) := by decide +kernel
theorem dX6_end_31 : decode cX6_end 31 = .ok (.if_icmp .ge 24, 3) := by decide +kernel
theorem dX6_end_34 : decode cX6_end 34 = .ok (.aload_n 0, 1) := by decide +kernel
theorem dX6_end_35 : decode cX6_end 35 = .ok (.iload_n 3, 1) := by decide +kernel
theorem dX6_end_36 : decode cX6_end 36 = .ok (.putfield 25, 3) := by decide +kernel
theorem dX6_end_39 : decode cX6_end 39 = .ok (.aload_n 0, 1) := by decide +kernel
theorem dX6_end_40 : decode cX6_end 40 = .ok (.iload_n 2, 1) := by decide +kernel
theorem dX6_end_41 : decode cX6_end 41 = .ok (.putfield 28, 3) := by decide +kernel
theorem dX6_end_44 : decode cX6_end 44 = .ok (.aload_n 0, 1) := by decide +kernel
theorem dX6_end_45 : decode cX6_end 45 = .ok (.getfield 9, 3) := by decide +kernel
theorem dX6_end_48 : decode cX6_end 48 = .ok (.aload_n 0, 1) := by decide +kernel
theorem dX6_end_49 : decode cX6_end 49 = .ok (.getfield 15, 3) := by decide +kernel
theorem dX6_end_52 : decode cX6_end 52 = .ok (.invokestatic 41, 3) := by decide +kernel
theorem dX6_end_55 : decode cX6_end 55 = .ok (.return_, 1) := by decide +kernel
theorem dX6_off_0 : decode cX6_off 0 = .ok (.aload_n 0, 1) := by decide +kernel
theorem dX6_off_1 : decode cX6_off 1 = .ok (.getfield 25, 3) := by decide +kernel
theorem dX6_off_4 : decode cX6_off 4 = .ok (.ireturn, 1) := by decide +kernel
theorem dX6_chosen_0 : decode cX6_chosen 0 = .ok (.aload_n 0, 1) := by decide +kernel
theorem dX6_chosen_1 : decode cX6_chosen 1 = .ok (.getfield 15, 3) := by decide +kernel
theorem dX6_chosen_4 : decode cX6_chosen 4 = .ok (.iload_n 1, 1) := by decide +kernel
theorem dX6_chosen_5 : decode cX6_chosen 5 = .ok (.invokestatic 45, 3) := by decide +kernel
theorem dX6_chosen_8 : decode cX6_chosen 8 = .ok (.ireturn, 1) := by decide +kernel
theorem dX7_init_0 : decode cX7_init 0 = .ok (.aload_n 0, 1) := by decide +kernel
theorem dX7_init_1 : decode cX7_init 1 = .ok (.invokespecial 3, 3) := by decide +kernel
theorem dX7_init_4 : decode cX7_init 4 = .ok (.aload_n 0, 1) := by decide +kernel
theorem dX7_init_5 : decode cX7_init 5 = .ok (.bipush 6, 2) := by decide +kernel
theorem dX7_init_7 : decode cX7_init 7 = .ok (.newarray .int, 2) := by decide +kernel
theorem dX7_init_9 : decode cX7_init 9 = .ok (.putfield 9, 3) := by decide +kernel
theorem dX7_init_12 : decode cX7_init 12 = .ok (.aload_n 0, 1) := by decide +kernel
theorem dX7_init_13 : decode cX7_init 13 = .ok (.bipush 10, 2) := by decide +kernel
theorem dX7_init_15 : decode cX7_init 15 = .ok (.newarray .int, 2) := by decide +kernel
theorem dX7_init_17 : decode cX7_init 17 = .ok (.putfield 15, 3) := by decide +kernel
theorem dX7_init_20 : decode cX7_init 20 = .ok (.aload_n 0, 1) := by decide +kernel
theorem dX7_init_21 : decode cX7_init 21 = .ok (.bipush 6, 2) := by decide +kernel
theorem dX7_init_23 : decode cX7_init 23 = .ok (.newarray .int, 2) := by decide +kernel
theorem dX7_init_25 : decode cX7_init 25 = .ok (.putfield 18, 3) := by decide +kernel
theorem dX7_init_28 : decode cX7_init 28 = .ok (.aload_n 0, 1) := by decide +kernel
theorem dX7_init_29 : decode cX7_init 29 = .ok (.bipush 6, 2) := by decide +kernel
theorem dX7_init_31 : decode cX7_init 31 = .ok (.newarray .int, 2) := by decide +kernel
theorem dX7_init_33 : decode cX7_init 33 = .ok (.putfield 21, 3) := by decide +kernel
theorem dX7_init_36 : decode cX7_init 36 = .ok (.aload_n 0, 1) := by decide +kernel
theorem dX7_init_37 : decode cX7_init 37 = .ok (.bipush 6, 2) := by decide +kernel
theorem dX7_init_39 : decode cX7_init 39 = .ok (.newarray .int, 2) := by decide +kernel
theorem dX7_init_41 : decode cX7_init 41 = .ok (.putfield 24, 3) := by decide +kernel
theorem dX7_init_44 : decode cX7_init 44 = .ok (.iconst 0, 1) := by decide +kernel
theorem dX7_init_45 : decode cX7_init 45 = .ok (.istore_n 1, 1) := by decide +kernel
theorem dX7_init_46 : decode cX7_init 46 = .ok (.iload_n 1, 1) := by decide +kernel
theorem dX7_init_47 : decode cX7_init 47 = .ok (.aload_n 0, 1) := by decide +kernel
theorem dX7_init_48 : decode cX7_init 48 = .ok (.getfield 9, 3) := by decide +kernel
theorem dX7_init_51 : decode cX7_init 51 = .ok (.arraylength, 1) := by decide +kernel
theorem dX7_init_52 : decode cX7_init 52 = .ok (.if_icmp .ge 28, 3) := by decide +kernel
theorem dX7_init_55 : decode cX7_init 55 = .ok (.iload_n 1, 1) := by decide +kernel
theorem dX7_init_56 : decode cX7_init 56 = .ok (.getstatic 27, 3) := by decide +kernel
theorem dX7_init_59 : decode cX7_init 59 = .ok (.arraylength, 1) := by decide +kernel
theorem dX7_init_60 : decode cX7_init 60 = .ok (.if_icmp .ge 20, 3) := by decide +kernel
theorem dX7_init_63 : decode cX7_init 63 = .ok (.aload_n 0, 1) := by decide +kernel
theorem dX7_init_64 : decode cX7_init 64 = .ok (.getfield 9, 3) := by decide +kernel
theorem dX7_init_67 : decode cX7_init 67 = .ok (.iload_n 1, 1) := by decide +kernel
theorem dX7_init_68 : decode cX7_init 68 = .ok (.getstatic 27, 3) := by decide +kernel
theorem dX7_init_71 : decode cX7_init 71 = .ok (.iload_n 1, 1) := by decide +kernel
theorem dX7_init_72 : decode cX7_init 72 = .ok (.iaload, 1) := by decide +kernel
theorem dX7_init_73 : decode cX7_init 73 = .ok (.iastore, 1) := by decide +kernel
theorem dX7_init_74 : decode cX7_init 74 = .ok (.iinc 1 1, 3) := by decide +kernel
theorem dX7_init_77 : decode cX7_init 77 = .ok (.goto (-31), 3) := by decide +kernel
theorem dX7_init_80 : decode cX7_init 80 = .ok (.iconst 0, 1) := by decide +kernel
theorem dX7_init_81 : decode cX7_init 81 = .ok (.istore_n 1, 1) := by decide +kernel
theorem dX7_init_82 : decode cX7_init 82 = .ok (.iload_n 1, 1) := by decide +kernel
theorem dX7_init_83 : decode cX7_init 83 = .ok (.iconst 5, 1) := by decide +kernel
theorem dX7_init_84 : decode cX7_init 84 = .ok (.if_icmp .ge 37, 3) := by decide +kernel
theorem dX7_init_87 : decode cX7_init 87 = .ok (.iconst 5, 1) := by decide +kernel
theorem dX7_init_88 : decode cX7_init 88 = .ok (.iload_n 1, 1) := by decide +kernel
theorem dX7_init_89 : decode cX7_init 89 = .ok (.iadd, 1) := by decide +kernel
theorem dX7_init_90 : decode cX7_init 90 = .ok (.aload_n 0, 1) := by decide +kernel
theorem dX7_init_91 : decode cX7_init 91 = .ok (.getfield 15, 3) := by decide +kernel
theorem dX7_init_94 : decode cX7_init 94 = .ok (.arraylength, 1) := by decide +kernel
theorem dX7_init_95 : decode cX7_init 95 = .ok (.if_icmp .ge 26, 3) := by decide +kernel
theorem dX7_init_98 : decode cX7_init 98 = .ok (.aload_n 0, 1) := by decide +kernel
theorem dX7_init_99 : decode cX7_init 99 = .ok (.getfield 15, 3) := by decide +kernel
theorem dX7_init_102 : decode cX7_init 102 = .ok (.iload_n 1, 1) := by decide +kernel
theorem dX7_init_103 : decode cX7_init 103 = .ok (.iload_n 1, 1) := by decide +kernel
theorem dX7_init_104 : decode cX7_init 104 = .ok (.iastore, 1) := by decide +kernel
theorem dX7_init_105 : decode cX7_init 105 = .ok (.aload_n 0, 1) := by decide +kernel
theorem dX7_init_106 : decode cX7_init 106 = .ok (.getfield 15, 3) := by decide +kernel
theorem dX7_init_109 : decode cX7_init 109 = .ok (.iconst 5, 1) := by decide +kernel
theorem dX7_init_110 : decode cX7_init 110 = .ok (.iload_n 1, 1) := by decide +kernel
theorem dX7_init_111 : decode cX7_init 111 = .ok (.iadd, 1) := by decide +kernel
theorem dX7_init_112 : decode cX7_init 112 = .ok (.iload_n 1, 1) := by decide +kernel
theorem dX7_init_113 : decode cX7_init 113 = .ok (.ineg, 1) := by decide +kernel
theorem dX7_init_114 : decode cX7_init 114 = .ok (.iastore, 1) := by decide +kernel
theorem dX7_init_115 : decode cX7_init 115 = .ok (.iinc 1 1, 3) := by decide +kernel
theorem dX7_init_118 : decode cX7_init 118 = .ok (.goto (-36), 3) := by decide +kernel
theorem dX7_init_121 : decode cX7_init 121 = .ok (.return_, 1) := by decide +kernel
theorem dX7_number_0 : decode cX7_number 0 = .ok (.aload_n 0, 1) := by decide +kernel
theorem dX7_number_1 : decode cX7_number 1 = .ok (.getfield 9, 3) := by decide +kernel
theorem dX7_number_4 : decode cX7_number 4 = .ok (.iload_n 1, 1) := by decide +kernel
theorem dX7_number_5 : decode cX7_number 5 = .ok (.invokestatic 30, 3) := by decide +kernel
theorem dX7_number_8 : decode cX7_number 8 = .ok (.ireturn, 1) := by decide +kernel
theorem dX7_changeNumber_0 : decode cX7_changeNumber 0 = .ok (.aload_n 0, 1) := by decide +kernel
theorem dX7_changeNumber_1 : decode cX7_changeNumber 1 = .ok (.getfield 9, 3) := by decide +kernel
theorem dX7_changeNumber_4 : decode cX7_changeNumber 4 = .ok (.iload_n 1, 1) := by decide +kernel
theorem dX7_changeNumber_5 : decode cX7_changeNumber 5 = .ok (.iload_n 2, 1) := by decide +kernel
theorem dX7_changeNumber_6 : decode cX7_changeNumber 6 = .ok (.invokestatic 34, 3) := by decide +kernel
theorem dX7_changeNumber_9 : decode cX7_changeNumber 9 = .ok (.return_, 1) := by decide +kernel
theorem dX7_windAt_0 : decode cX7_windAt 0 = .ok (.aload_n 0, 1) := by decide +kernel
theorem dX7_windAt_1 : decode cX7_windAt 1 = .ok (.getfield 15, 3) := by decide +kernel
theorem dX7_windAt_4 : decode cX7_windAt 4 = .ok (.iload_n 2, 1) := by decide +kernel
theorem dX7_windAt_5 : decode cX7_windAt 5 = .ok (.iconst 5, 1) := by decide +kernel
theorem dX7_windAt_6 : decode cX7_windAt 6 = .ok (.imul, 1) := by decide +kernel
theorem dX7_windAt_7 : decode cX7_windAt 7 = .ok (.iload_n 1, 1) := by decide +kernel
theorem dX7_windAt_8 : decode cX7_windAt 8 = .ok (.iadd, 1) := by decide +kernel
theorem dX7_windAt_9 : decode cX7_windAt 9 = .ok (.invokestatic 30, 3) := by decide +kernel
theorem dX7_windAt_12 : decode cX7_windAt 12 = .ok (.ireturn, 1) := by decide +kernel
theorem dX7_changeWind_0 : decode cX7_changeWind 0 = .ok (.aload_n 0, 1) := by decide +kernel
theorem dX7_changeWind_1 : decode cX7_changeWind 1 = .ok (.getfield 15, 3) := by decide +kernel
theorem dX7_changeWind_4 : decode cX7_changeWind 4 = .ok (.iload_n 2, 1) := by decide +kernel
theorem dX7_changeWind_5 : decode cX7_changeWind 5 = .ok (.iconst 5, 1) := by decide +kernel
theorem dX7_changeWind_6 : decode cX7_changeWind 6 = .ok (.imul, 1) := by decide +kernel
theorem dX7_changeWind_7 : decode cX7_changeWind 7 = .ok (.iload_n 1, 1) := by decide +kernel
theorem dX7_changeWind_8 : decode cX7_changeWind 8 = .ok (.iadd, 1) := by decide +kernel
theorem dX7_changeWind_9 : decode cX7_changeWind 9 = .ok (.iload_n 3, 1) := by decide +kernel
theorem dX7_changeWind_10 : decode cX7_changeWind 10 = .ok (.invokestatic 34, 3) := by decide +kernel
theorem dX7_changeWind_13 : decode cX7_changeWind 13 = .ok (.return_, 1) := by decide +kernel
theorem dX7_weight_0 : decode cX7_weight 0 = .ok (.aload_n 0, 1) := by decide +kernel
theorem dX7_weight_1 : decode cX7_weight 1 = .ok (.getfield 18, 3) := by decide +kernel
theorem dX7_weight_4 : decode cX7_weight 4 = .ok (.iload_n 1, 1) := by decide +kernel
theorem dX7_weight_5 : decode cX7_weight 5 = .ok (.invokestatic 30, 3) := by decide +kernel
theorem dX7_weight_8 : decode cX7_weight 8 = .ok (.ireturn, 1) := by decide +kernel
theorem dX7_changeWeight_0 : decode cX7_changeWeight 0 = .ok (.aload_n 0, 1) := by decide +kernel
theorem dX7_changeWeight_1 : decode cX7_changeWeight 1 = .ok (.getfield 18, 3) := by decide +kernel
theorem dX7_changeWeight_4 : decode cX7_changeWeight 4 = .ok (.iload_n 1, 1) := by decide +kernel
theorem dX7_changeWeight_5 : decode cX7_changeWeight 5 = .ok (.iload_n 2, 1) := by decide +kernel
theorem dX7_changeWeight_6 : decode cX7_changeWeight 6 = .ok (.invokestatic 34, 3) := by decide +kernel
theorem dX7_changeWeight_9 : decode cX7_changeWeight 9 = .ok (.return_, 1) := by decide +kernel
theorem dX7_sights_0 : decode cX7_sights 0 = .ok (.aload_n 0, 1) := by decide +kernel
theorem dX7_sights_1 : decode cX7_sights 1 = .ok (.getfield 38, 3) := by decide +kernel
theorem dX7_sights_4 : decode cX7_sights 4 = .ok (.ireturn, 1) := by decide +kernel
theorem dX7_sightThing_0 : decode cX7_sightThing 0 = .ok (.aload_n 0, 1) := by decide +kernel
theorem dX7_sightThing_1 : decode cX7_sightThing 1 = .ok (.getfield 21, 3) := by decide +kernel
theorem dX7_sightThing_4 : decode cX7_sightThing 4 = .ok (.iload_n 1, 1) := by decide +kernel
theorem dX7_sightThing_5 : decode cX7_sightThing 5 = .ok (.invokestatic 30, 3) := by decide +kernel
theorem dX7_sightThing_8 : decode cX7_sightThing 8 = .ok (.ireturn, 1) := by decide +kernel
theorem dX7_sightPlace_0 : decode cX7_sightPlace 0 = .ok (.aload_n 0, 1) := by decide +kernel
theorem dX7_sightPlace_1 : decode cX7_sightPlace 1 = .ok (.getfield 24, 3) := by decide +kernel
theorem dX7_sightPlace_4 : decode cX7_sightPlace 4 = .ok (.iload_n 1, 1) := by decide +kernel
theorem dX7_sightPlace_5 : decode cX7_sightPlace 5 = .ok (.invokestatic 30, 3) := by decide +kernel
theorem dX7_sightPlace_8 : decode cX7_sightPlace 8 = .ok (.ireturn, 1) := by decide +kernel
theorem dX7_addSight_0 : decode cX7_addSight 0 = .ok (.aload_n 0, 1) := by decide +kernel
theorem dX7_addSight_1 : decode cX7_addSight 1 = .ok (.getfield 21, 3) := by decide +kernel
theorem dX7_addSight_4 : decode cX7_addSight 4 = .ok (.aload_n 0, 1) := by decide +kernel
theorem dX7_addSight_5 : decode cX7_addSight 5 = .ok (.getfield 38, 3) := by decide +kernel
theorem dX7_addSight_8 : decode cX7_addSight 8 = .ok (.iload_n 1, 1) := by decide +kernel
theorem dX7_addSight_9 : decode cX7_addSight 9 = .ok (.invokestatic 34, 3) := by decide +kernel
theorem dX7_addSight_12 : decode cX7_addSight 12 = .ok (.aload_n 0, 1) := by decide +kernel
theorem dX7_addSight_13 : decode cX7_addSight 13 = .ok (.getfield 24, 3) := by decide +kernel
theorem dX7_addSight_16 : decode cX7_addSight 16 = .ok (.aload_n 0, 1) := by decide +kernel
theorem dX7_addSight_17 : decode cX7_addSight 17 = .ok (.getfield 38, 3) := by decide +kernel
theorem dX7_addSight_20 : decode cX7_addSight 20 = .ok (.iload_n 2, 1) := by decide +kernel
theorem dX7_addSight_21 : decode cX7_addSight 21 = .ok (.invokestatic 34, 3) := by decide +kernel
theorem dX7_addSight_24 : decode cX7_addSight 24 = .ok (.aload_n 0, 1) := by decide +kernel
theorem dX7_addSight_25 : decode cX7_addSight 25 = .ok (.dup, 1) := by decide +kernel
theorem dX7_addSight_26 : decode cX7_addSight 26 = .ok (.getfield 38, 3) := by decide +kernel
theorem dX7_addSight_29 : decode cX7_addSight 29 = .ok (.iconst 1, 1) := by decide +kernel
theorem dX7_addSight_30 : decode cX7_addSight 30 = .ok (.iadd, 1) := by decide +kernel
theorem dX7_addSight_31 : decode cX7_addSight 31 = .ok (.putfield 38, 3) := by decide +kernel
theorem dX7_addSight_34 : decode cX7_addSight 34 = .ok (.return_, 1) := by decide +kernel
theorem dX7_forgetSights_0 : decode cX7_forgetSights 0 = .ok (.aload_n 0, 1) := by decide +kernel
theorem dX7_forgetSights_1 : decode cX7_forgetSights 1 = .ok (.iconst 0, 1) := by decide +kernel
theorem dX7_forgetSights_2 : decode cX7_forgetSights 2 = .ok (.putfield 38, 3) := by decide +kernel
theorem dX7_forgetSights_5 : decode cX7_forgetSights 5 = .ok (.return_, 1) := by decide +kernel
theorem dX7_loaded_0 : decode cX7_loaded 0 = .ok (.iconst 0, 1) := by decide +kernel
theorem dX7_loaded_1 : decode cX7_loaded 1 = .ok (.istore_n 1, 1) := by decide +kernel
theorem dX7_loaded_2 : decode cX7_loaded 2 = .ok (.iconst 0, 1) := by decide +kernel
theorem dX7_loaded_3 : decode cX7_loaded 3 = .ok (.istore_n 2, 1) := by decide +kernel
theorem dX7_loaded_4 : decode cX7_loaded 4 = .ok (.iload_n 2, 1) := by decide +kernel
theorem dX7_loaded_5 : decode cX7_loaded 5 = .ok (.bipush 6, 2) := by decide +kernel
theorem dX7_loaded_7 : decode cX7_loaded 7 = .ok (.if_icmp .ge 27, 3) := by decide +kernel
theorem dX7_loaded_10 : decode cX7_loaded 10 = .ok (.iload_n 1, 1) := by decide +kernel
theorem dX7_loaded_11 : decode cX7_loaded 11 = .ok (.aload_n 0, 1) := by decide +kernel
theorem dX7_loaded_12 : decode cX7_loaded 12 = .ok (.iload_n 2, 1) := by decide +kernel
theorem dX7_loaded_13 : decode cX7_loaded 13 = .ok (.invokevirtual 42, 3) := by decide +kernel
theorem dX7_loaded_16 : decode cX7_loaded 16 = .ok (.ifCond .le 9, 3) := by decide +kernel
theorem dX7_loaded_19 : decode cX7_loaded 19 = .ok (.iconst 1, 1) := by decide +kernel
theorem dX7_loaded_20 : decode cX7_loaded 20 = .ok (.iload_n 2, 1) := by decide +kernel
theorem dX7_loaded_21 : decode cX7_loaded 21 = .ok (.ishl, 1) := by decide +kernel
theorem dX7_loaded_22 : decode cX7_loaded 22 = .ok (.goto 4, 3) := by decide +kernel
theorem dX7_loaded_25 : decode cX7_loaded 25 = .ok (.iconst 0, 1) := by decide +kernel
theorem dX7_loaded_26 : decode cX7_loaded 26 = .ok (.ior, 1) := by decide +kernel
theorem dX7_loaded_27 : decode cX7_loaded 27 = .ok (.istore_n 1, 1) := by decide +kernel
theorem dX7_loaded_28 : decode cX7_loaded 28 = .ok (.iinc 2 1, 3) := by decide +kernel
theorem dX7_loaded_31 : decode cX7_loaded 31 = .ok (.goto (-27), 3) := by decide +kernel
theorem dX7_loaded_34 : decode cX7_loaded 34 = .ok (.iload_n 1, 1) := by decide +kernel
theorem dX7_loaded_35 : decode cX7_loaded 35 = .ok (.ireturn, 1) := by decide +kernel
theorem dX7_heaviest_0 : decode cX7_heaviest 0 = .ok (.bipush (-6), 2) := by decide +kernel
theorem dX7_heaviest_2 : decode cX7_heaviest 2 = .ok (.istore_n 2, 1) := by decide +kernel
theorem dX7_heaviest_3 : decode cX7_heaviest 3 = .ok (.iconst 0, 1) := by decide +kernel
theorem dX7_heaviest_4 : decode cX7_heaviest 4 = .ok (.istore_n 3, 1) := by decide +kernel
theorem dX7_heaviest_5 : decode cX7_heaviest 5 = .ok (.iload_n 3, 1) := by decide +kernel
theorem dX7_heaviest_6 : decode cX7_heaviest 6 = .ok (.bipush 6, 2) := by decide +kernel
theorem dX7_heaviest_8 : decode cX7_heaviest 8 = .ok (.if_icmp .ge 38, 3) := by decide +kernel
theorem dX7_heaviest_11 : decode cX7_heaviest 11 = .ok (.iload_n 1, 1) := by decide +kernel
theorem dX7_heaviest_12 : decode cX7_heaviest 12 = .ok (.iload_n 3, 1) := by decide +kernel
theorem dX7_heaviest_13 : decode cX7_heaviest 13 = .ok (.invokestatic 46, 3) := by decide +kernel
theorem dX7_heaviest_16 : decode cX7_heaviest 16 = .ok (.ifCond .eq 24, 3) := by decide +kernel
theorem dX7_heaviest_19 : decode cX7_heaviest 19 = .ok (.iload_n 2, 1) := by decide +kernel
theorem dX7_heaviest_20 : decode cX7_heaviest 20 = .ok (.bipush (-6), 2) := by decide +kernel
theorem dX7_heaviest_22 : decode cX7_heaviest 22 = .ok (.if_icmp .eq 16, 3) := by decide +kernel
theorem dX7_heaviest_25 : decode cX7_heaviest 25 = .ok (.aload_n 0, 1) := by decide +kernel
theorem dX7_heaviest_26 : decode cX7_heaviest 26 = .ok (.iload_n 3, 1) := by decide +kernel
theorem dX7_heaviest_27 : decode cX7_heaviest 27 = .ok (.invokevirtual 42, 3) := by decide +kernel
theorem dX7_heaviest_30 : decode cX7_heaviest 30 = .ok (.aload_n 0, 1) := by decide +kernel
theorem dX7_heaviest_31 : decode cX7_heaviest 31 = .ok (.iload_n 2, 1) := by decide +kernel
theorem dX7_heaviest_32 : decode cX7_heaviest 32 = .ok (.invokevirtual 42, 3) := by decide +kernel
theorem dX7_heaviest_35 : decode cX7_heaviest 35 = .ok (.if_icmp .le 5, 3) := by decide +kernel
theorem dX7_heaviest_38 : decode cX7_heaviest 38 = .ok (.iload_n 3, 1) := by decide +kernel
theorem dX7_heaviest_39 : decode cX7_heaviest 39 = .ok (.istore_n 2, 1) := by decide +kernel
theorem dX7_heaviest_40 : decode cX7_heaviest 40 = .ok (.iinc 3 1, 3) := by decide +kernel
theorem dX7_heaviest_43 : decode cX7_heaviest 43 = .ok (.goto (-38), 3) := by decide +kernel
theorem dX7_heaviest_46 : decode cX7_heaviest 46 = .ok (.iload_n 2, 1) := by decide +kernel
theorem dX7_heaviest_47 : decode cX7_heaviest 47 = .ok (.ireturn, 1) := by decide +kernel
theorem dX7_height_0 : decode cX7_height 0 = .ok (.iload_n 1, 1) := by decide +kernel
theorem dX7_height_1 : decode cX7_height 1 = .ok (.istore_n 3, 1) := by decide +kernel
theorem dX7_height_2 : decode cX7_height 2 = .ok (.iconst 0, 1) := by decide +kernel
theorem dX7_height_3 : decode cX7_height 3 = .ok (.istore 4, 2) := by decide +kernel
theorem dX7_height_5 : decode cX7_height 5 = .ok (.iload 4, 2) := by decide +kernel
theorem dX7_height_7 : decode cX7_height 7 = .ok (.bipush 6, 2) := by decide +kernel
theorem dX7_height_9 : decode cX7_height 9 = .ok (.if_icmp .ge 31, 3) := by decide +kernel
theorem dX7_height_12 : decode cX7_height 12 = .ok (.iload_n 3, 1) := by decide +kernel
theorem dX7_height_13 : decode cX7_height 13 = .ok (.iload_n 2, 1) := by decide +kernel
theorem dX7_height_14 : decode cX7_height 14 = .ok (.iload 4, 2) := by decide +kernel
theorem dX7_height_16 : decode cX7_height 16 = .ok (.invokestatic 46, 3) := by decide +kernel
theorem dX7_height_19 : decode cX7_height 19 = .ok (.ifCond .eq 12, 3) := by decide +kernel
theorem dX7_height_22 : decode cX7_height 22 = .ok (.aload_n 0, 1) := by decide +kernel
theorem dX7_height_23 : decode cX7_height 23 = .ok (.iload 4, 2) := by decide +kernel
theorem dX7_height_25 : decode cX7_height 25 = .ok (.invokevirtual 42, 3) := by decide +kernel
theorem dX7_height_28 : decode cX7_height 28 = .ok (.goto 4, 3) := by decide +kernel
theorem dX7_height_31 : decode cX7_height 31 = .ok (.iconst 0, 1) := by decide +kernel
theorem dX7_height_32 : decode cX7_height 32 = .ok (.isub, 1) := by decide +kernel
theorem dX7_height_33 : decode cX7_height 33 = .ok (.istore_n 3, 1) := by decide +kernel
theorem dX7_height_34 : decode cX7_height 34 = .ok (.iinc 4 1, 3) := by decide +kernel
theorem dX7_height_37 : decode cX7_height 37 = .ok (.goto (-32), 3) := by decide +kernel
theorem dX7_height_40 : decode cX7_height 40 = .ok (.aload_n 0, 1) := by decide +kernel
theorem dX7_height_41 : decode cX7_height 41 = .ok (.iconst 3, 1) := by decide +kernel
theorem dX7_height_42 : decode cX7_height 42 = .ok (.invokevirtual 50, 3) := by decide +kernel
theorem dX7_height_45 : decode cX7_height 45 = .ok (.istore 4, 2) := by decide +kernel
theorem dX7_height_47 : decode cX7_height 47 = .ok (.iload 4, 2) := by decide +kernel
theorem dX7_height_49 : decode cX7_height 49 = .ok (.iconst 1, 1) := by decide +kernel
theorem dX7_height_50 : decode cX7_height 50 = .ok (.if_icmp .lt 7, 3) := by decide +kernel
theorem dX7_height_53 : decode cX7_height 53 = .ok (.iload_n 3, 1) := by decide +kernel
theorem dX7_height_54 : decode cX7_height 54 = .ok (.ifCond .ge 5, 3) := by decide +kernel
theorem dX7_height_57 : decode cX7_height 57 = .ok (.iconst 0, 1) := by decide +kernel
theorem dX7_height_58 : decode cX7_height 58 = .ok (.ireturn, 1) := by decide +kernel
theorem dX7_height_59 : decode cX7_height 59 = .ok (.iload_n 3, 1) := by decide +kernel
theorem dX7_height_60 : decode cX7_height 60 = .ok (.iload 4, 2) := by decide +kernel
theorem dX7_height_62 : decode cX7_height 62 = .ok (.idiv, 1) := by decide +kernel
theorem dX7_height_63 : decode cX7_height 63 = .ok (.iconst 4, 1) := by decide +kernel
theorem dX7_height_64 : decode cX7_height 64 = .ok (.invokestatic 53, 3) := by decide +kernel
theorem dX7_height_67 : decode cX7_height 67 = .ok (.ireturn, 1) := by decide +kernel
theorem dX7_drift_0 : decode cX7_drift 0 = .ok (.aload_n 0, 1) := by decide +kernel
theorem dX7_drift_1 : decode cX7_drift 1 = .ok (.aload_n 0, 1) := by decide +kernel
theorem dX7_drift_2 : decode cX7_drift 2 = .ok (.iload_n 1, 1) := by decide +kernel
theorem dX7_drift_3 : decode cX7_drift 3 = .ok (.iload_n 2, 1) := by decide +kernel
theorem dX7_drift_4 : decode cX7_drift 4 = .ok (.invokevirtual 59, 3) := by decide +kernel
theorem dX7_drift_7 : decode cX7_drift 7 = .ok (.iload_n 3, 1) := by decide +kernel
theorem dX7_drift_8 : decode cX7_drift 8 = .ok (.aload_n 0, 1) := by decide +kernel
theorem dX7_drift_9 : decode cX7_drift 9 = .ok (.iconst 0, 1) := by decide +kernel
theorem dX7_drift_10 : decode cX7_drift 10 = .ok (.invokevirtual 50, 3) := by decide +kernel
theorem dX7_drift_13 : decode cX7_drift 13 = .ok (.if_icmp .lt 7, 3) := by decide +kernel
theorem dX7_drift_16 : decode cX7_drift 16 = .ok (.iconst 1, 1) := by decide +kernel
theorem dX7_drift_17 : decode cX7_drift 17 = .ok (.goto 4, 3) := by decide +kernel
theorem dX7_drift_20 : decode cX7_drift 20 = .ok (.iconst 0, 1) := by decide +kernel
theorem dX7_drift_21 : decode cX7_drift 21 = .ok (.invokevirtual 62, 3) := by decide +kernel
theorem dX7_drift_24 : decode cX7_drift 24 = .ok (.ireturn, 1) := by decide +kernel
theorem dX7_leaked_0 : decode cX7_leaked 0 = .ok (.iload_n 1, 1) := by decide +kernel
theorem dX7_leaked_1 : decode cX7_leaked 1 = .ok (.aload_n 0, 1) := by decide +kernel
theorem dX7_leaked_2 : decode cX7_leaked 2 = .ok (.iconst 2, 1) := by decide +kernel
theorem dX7_leaked_3 : decode cX7_leaked 3 = .ok (.invokevirtual 50, 3) := by decide +kernel
theorem dX7_leaked_6 : decode cX7_leaked 6 = .ok (.isub, 1) := by decide +kernel
theorem dX7_leaked_7 : decode cX7_leaked 7 = .ok (.iconst 0, 1) := by decide +kernel
theorem dX7_leaked_8 : decode cX7_leaked 8 = .ok (.invokestatic 65, 3) := by decide +kernel
theorem dX7_leaked_11 : decode cX7_leaked 11 = .ok (.ireturn, 1) := by decide +kernel
theorem dX7_become_0 : decode cX7_become 0 = .ok (.aload_n 1, 1) := by decide +kernel
theorem dX7_become_1 : decode cX7_become 1 = .ok (.getfield 9, 3) := by decide +kernel
theorem dX7_become_4 : decode cX7_become 4 = .ok (.aload_n 0, 1) := by decide +kernel
theorem dX7_become_5 : decode cX7_become 5 = .ok (.getfield 9, 3) := by decide +kernel
theorem dX7_become_8 : decode cX7_become 8 = .ok (.invokestatic 68, 3) := by decide +kernel
theorem dX7_become_11 : decode cX7_become 11 = .ok (.aload_n 1, 1) := by decide +kernel
theorem dX7_become_12 : decode cX7_become 12 = .ok (.getfield 15, 3) := by decide +kernel
theorem dX7_become_15 : decode cX7_become 15 = .ok (.aload_n 0, 1) := by decide +kernel
theorem dX7_become_16 : decode cX7_become 16 = .ok (.getfield 15, 3) := by decide +kernel
theorem dX7_become_19 : decode cX7_become 19 = .ok (.invokestatic 68, 3) := by decide +kernel
theorem dX7_become_22 : decode cX7_become 22 = .ok (.aload_n 1, 1) := by decide +kernel
theorem dX7_become_23 : decode cX7_become 23 = .ok (.getfield 18, 3) := by decide +kernel
theorem dX7_become_26 : decode cX7_become 26 = .ok (.aload_n 0, 1) := by decide +kernel
theorem dX7_become_27 : decode cX7_become 27 = .ok (.getfield 18, 3) := by decide +kernel
theorem dX7_become_30 : decode cX7_become 30 = .ok (.invokestatic 68, 3) := by decide +kernel
theorem dX7_become_33 : decode cX7_become 33 = .ok (.aload_n 1, 1) := by decide +kernel
theorem dX7_become_34 : decode cX7_become 34 = .ok (.getfield 21, 3) := by decide +kernel
theorem dX7_become_37 : decode cX7_become 37 = .ok (.aload_n 0, 1) := by decide +kernel
theorem dX7_become_38 : decode cX7_become 38 = .ok (.getfield 21, 3) := by decide +kernel
theorem dX7_become_41 : decode cX7_become 41 = .ok (.invokestatic 68, 3) := by decide +kernel
theorem dX7_become_44 : decode cX7_become 44 = .ok (.aload_n 1, 1) := by decide +kernel
theorem dX7_become_45 : decode cX7_become 45 = .ok (.getfield 24, 3) := by decide +kernel
theorem dX7_become_48 : decode cX7_become 48 = .ok (.aload_n 0, 1) := by decide +kernel
theorem dX7_become_49 : decode cX7_become 49 = .ok (.getfield 24, 3) := by decide +kernel
theorem dX7_become_52 : decode cX7_become 52 = .ok (.invokestatic 68, 3) := by decide +kernel
theorem dX7_become_55 : decode cX7_become 55 = .ok (.aload_n 0, 1) := by decide +kernel
theorem dX7_become_56 : decode cX7_become 56 = .ok (.aload_n 1, 1) := by decide +kernel
theorem dX7_become_57 : decode cX7_become 57 = .ok (.getfield 38, 3) := by decide +kernel
theorem dX7_become_60 : decode cX7_become 60 = .ok (.putfield 38, 3) := by decide +kernel
theorem dX7_become_63 : decode cX7_become 63 = .ok (.return_, 1) := by decide +kernel
theorem dX7_keep_0 : decode cX7_keep 0 = .ok (.aload_n 0, 1) := by decide +kernel
theorem dX7_keep_1 : decode cX7_keep 1 = .ok (.aload_n 1, 1) := by decide +kernel
theorem dX7_keep_2 : decode cX7_keep 2 = .ok (.invokevirtual 72, 3) := by decide +kernel
theorem dX7_keep_5 : decode cX7_keep 5 = .ok (.aload_n 0, 1) := by decide +kernel
theorem dX7_keep_6 : decode cX7_keep 6 = .ok (.iconst 1, 1) := by decide +kernel
theorem dX7_keep_7 : decode cX7_keep 7 = .ok (.putfield 76, 3) := by decide +kernel
theorem dX7_keep_10 : decode cX7_keep 10 = .ok (.return_, 1) := by decide +kernel
theorem dX7_isKept_0 : decode cX7_isKept 0 = .ok (.aload_n 0, 1) := by decide +kernel
theorem dX7_isKept_1 : decode cX7_isKept 1 = .ok (.getfield 76, 3) := by decide +kernel
theorem dX7_isKept_4 : decode cX7_isKept 4 = .ok (.ireturn, 1) := by decide +kernel
theorem dJ6_bitCount_0f7a4_0 : decode cJ6_bitCount_0f7a4 0 = .ok (.iload_n 0, 1) := by decide +kernel
theorem dJ6_bitCount_0f7a4_1 : decode cJ6_bitCount_0f7a4 1 = .ok (.iload_n 0, 1) := by decide +kernel
theorem dJ6_bitCount_0f7a4_2 : decode cJ6_bitCount_0f7a4 2 = .ok (.iconst 1, 1) := by decide +kernel
theorem dJ6_bitCount_0f7a4_3 : decode cJ6_bitCount_0f7a4 3 = .ok (.iushr, 1) := by decide +kernel
theorem dJ6_bitCount_0f7a4_4 : decode cJ6_bitCount_0f7a4 4 = .ok (.ldc_w 265, 3) := by decide +kernel
theorem dJ6_bitCount_0f7a4_7 : decode cJ6_bitCount_0f7a4 7 = .ok (.iand, 1) := by decide +kernel
theorem dJ6_bitCount_0f7a4_8 : decode cJ6_bitCount_0f7a4 8 = .ok (.isub, 1) := by decide +kernel
theorem dJ6_bitCount_0f7a4_9 : decode cJ6_bitCount_0f7a4 9 = .ok (.istore_n 0, 1) := by decide +kernel
theorem dJ6_bitCount_0f7a4_10 : decode cJ6_bitCount_0f7a4 10 = .ok (.iload_n 0, 1) := by decide +kernel
theorem dJ6_bitCount_0f7a4_11 : decode cJ6_bitCount_0f7a4 11 = .ok (.ldc_w 266, 3) := by decide +kernel
theorem dJ6_bitCount_0f7a4_14 : decode cJ6_bitCount_0f7a4 14 = .ok (.iand, 1) := by decide +kernel
theorem dJ6_bitCount_0f7a4_15 : decode cJ6_bitCount_0f7a4 15 = .ok (.iload_n 0, 1) := by decide +kernel
theorem dJ6_bitCount_0f7a4_16 : decode cJ6_bitCount_0f7a4 16 = .ok (.iconst 2, 1) := by decide +kernel
theorem dJ6_bitCount_0f7a4_17 : decode cJ6_bitCount_0f7a4 17 = .ok (.iushr, 1) := by decide +kernel
theorem dJ6_bitCount_0f7a4_18 : decode cJ6_bitCount_0f7a4 18 = .ok (.ldc_w 266, 3) := by decide +kernel
theorem dJ6_bitCount_0f7a4_21 : decode cJ6_bitCount_0f7a4 21 = .ok (.iand, 1) := by decide +kernel
theorem dJ6_bitCount_0f7a4_22 : decode cJ6_bitCount_0f7a4 22 = .ok (.iadd, 1) := by decide +kernel
theorem dJ6_bitCount_0f7a4_23 : decode cJ6_bitCount_0f7a4 23 = .ok (.istore_n 0, 1) := by decide +kernel
theorem dJ6_bitCount_0f7a4_24 : decode cJ6_bitCount_0f7a4 24 = .ok (.iload_n 0, 1) := by decide +kernel
theorem dJ6_bitCount_0f7a4_25 : decode cJ6_bitCount_0f7a4 25 = .ok (.iload_n 0, 1) := by decide +kernel
theorem dJ6_bitCount_0f7a4_26 : decode cJ6_bitCount_0f7a4 26 = .ok (.iconst 4, 1) := by decide +kernel
theorem dJ6_bitCount_0f7a4_27 : decode cJ6_bitCount_0f7a4 27 = .ok (.iushr, 1) := by decide +kernel
theorem dJ6_bitCount_0f7a4_28 : decode cJ6_bitCount_0f7a4 28 = .ok (.iadd, 1) := by decide +kernel
theorem dJ6_bitCount_0f7a4_29 : decode cJ6_bitCount_0f7a4 29 = .ok (.ldc_w 267, 3) := by decide +kernel
theorem dJ6_bitCount_0f7a4_32 : decode cJ6_bitCount_0f7a4 32 = .ok (.iand, 1) := by decide +kernel
theorem dJ6_bitCount_0f7a4_33 : decode cJ6_bitCount_0f7a4 33 = .ok (.istore_n 0, 1) := by decide +kernel
theorem dJ6_bitCount_0f7a4_34 : decode cJ6_bitCount_0f7a4 34 = .ok (.iload_n 0, 1) := by decide +kernel
theorem dJ6_bitCount_0f7a4_35 : decode cJ6_bitCount_0f7a4 35 = .ok (.iload_n 0, 1) := by decide +kernel
theorem dJ6_bitCount_0f7a4_36 : decode cJ6_bitCount_0f7a4 36 = .ok (.bipush 8, 2) := by decide +kernel
theorem dJ6_bitCount_0f7a4_38 : decode cJ6_bitCount_0f7a4 38 = .ok (.iushr, 1) := by decide +kernel
theorem dJ6_bitCount_0f7a4_39 : decode cJ6_bitCount_0f7a4 39 = .ok (.iadd, 1) := by decide +kernel
theorem dJ6_bitCount_0f7a4_40 : decode cJ6_bitCount_0f7a4 40 = .ok (.istore_n 0, 1) := by decide +kernel
theorem dJ6_bitCount_0f7a4_41 : decode cJ6_bitCount_0f7a4 41 = .ok (.iload_n 0, 1) := by decide +kernel
theorem dJ6_bitCount_0f7a4_42 : decode cJ6_bitCount_0f7a4 42 = .ok (.iload_n 0, 1) := by decide +kernel
theorem dJ6_bitCount_0f7a4_43 : decode cJ6_bitCount_0f7a4 43 = .ok (.bipush 16, 2) := by decide +kernel
theorem dJ6_bitCount_0f7a4_45 : decode cJ6_bitCount_0f7a4 45 = .ok (.iushr, 1) := by decide +kernel
theorem dJ6_bitCount_0f7a4_46 : decode cJ6_bitCount_0f7a4 46 = .ok (.iadd, 1) := by decide +kernel
theorem dJ6_bitCount_0f7a4_47 : decode cJ6_bitCount_0f7a4 47 = .ok (.istore_n 0, 1) := by decide +kernel
theorem dJ6_bitCount_0f7a4_48 : decode cJ6_bitCount_0f7a4 48 = .ok (.iload_n 0, 1) := by decide +kernel
theorem dJ6_bitCount_0f7a4_49 : decode cJ6_bitCount_0f7a4 49 = .ok (.bipush 63, 2) := by decide +kernel
theorem dJ6_bitCount_0f7a4_51 : decode cJ6_bitCount_0f7a4 51 = .ok (.iand, 1) := by decide +kernel
theorem dJ6_bitCount_0f7a4_52 : decode cJ6_bitCount_0f7a4 52 = .ok (.ireturn, 1) := by decide +kernel
end
section
/-! decode rows, as claim/NAMES.whole.lean.txt prints them -/
theorem dX8_init_0 : decode cX8_init 0 = .ok (.aload_n 0, 1) := by decide +kernel
theorem dX8_init_1 : decode cX8_init 1 = .ok (.invokespecial 1, 3) := by decide +kernel
theorem dX8_init_4 : decode cX8_init 4 = .ok (.aload_n 0, 1) := by decide +kernel
theorem dX8_init_5 : decode cX8_init 5 = .ok (.new 7, 3) := by decide +kernel
theorem dX8_init_8 : decode cX8_init 8 = .ok (.dup, 1) := by decide +kernel
theorem dX8_init_9 : decode cX8_init 9 = .ok (.invokespecial 9, 3) := by decide +kernel
theorem dX8_init_12 : decode cX8_init 12 = .ok (.putfield 10, 3) := by decide +kernel
theorem dX8_init_15 : decode cX8_init 15 = .ok (.aload_n 0, 1) := by decide +kernel
theorem dX8_init_16 : decode cX8_init 16 = .ok (.new 7, 3) := by decide +kernel
theorem dX8_init_19 : decode cX8_init 19 = .ok (.dup, 1) := by decide +kernel
theorem dX8_init_20 : decode cX8_init 20 = .ok (.invokespecial 9, 3) := by decide +kernel
theorem dX8_init_23 : decode cX8_init 23 = .ok (.putfield 16, 3) := by decide +kernel
theorem dX8_init_26 : decode cX8_init 26 = .ok (.aload_n 0, 1) := by decide +kernel
theorem dX8_init_27 : decode cX8_init 27 = .ok (.new 7, 3) := by decide +kernel
theorem dX8_init_30 : decode cX8_init 30 = .ok (.dup, 1) := by decide +kernel
theorem dX8_init_31 : decode cX8_init 31 = .ok (.invokespecial 9, 3) := by decide +kernel
theorem dX8_init_34 : decode cX8_init 34 = .ok (.putfield 19, 3) := by decide +kernel
theorem dX8_init_37 : decode cX8_init 37 = .ok (.aload_n 0, 1) := by decide +kernel
theorem dX8_init_38 : decode cX8_init 38 = .ok (.new 22, 3) := by decide +kernel
theorem dX8_init_41 : decode cX8_init 41 = .ok (.dup, 1) := by decide +kernel
theorem dX8_init_42 : decode cX8_init 42 = .ok (.invokespecial 24, 3) := by decide +kernel
theorem dX8_init_45 : decode cX8_init 45 = .ok (.putfield 25, 3) := by decide +kernel
theorem dX8_init_48 : decode cX8_init 48 = .ok (.aload_n 0, 1) := by decide +kernel
theorem dX8_init_49 : decode cX8_init 49 = .ok (.new 29, 3) := by decide +kernel
theorem dX8_init_52 : decode cX8_init 52 = .ok (.dup, 1) := by decide +kernel
theorem dX8_init_53 : decode cX8_init 53 = .ok (.invokespecial 31, 3) := by decide +kernel
theorem dX8_init_56 : decode cX8_init 56 = .ok (.putfield 32, 3) := by decide +kernel
theorem dX8_init_59 : decode cX8_init 59 = .ok (.aload_n 0, 1) := by decide +kernel
theorem dX8_init_60 : decode cX8_init 60 = .ok (.new 29, 3) := by decide +kernel
theorem dX8_init_63 : decode cX8_init 63 = .ok (.dup, 1) := by decide +kernel
theorem dX8_init_64 : decode cX8_init 64 = .ok (.invokespecial 31, 3) := by decide +kernel
theorem dX8_init_67 : decode cX8_init 67 = .ok (.putfield 36, 3) := by decide +kernel
theorem dX8_init_70 : decode cX8_init 70 = .ok (.aload_n 0, 1) := by decide +kernel
theorem dX8_init_71 : decode cX8_init 71 = .ok (.new 39, 3) := by decide +kernel
theorem dX8_init_74 : decode cX8_init 74 = .ok (.dup, 1) := by decide +kernel
theorem dX8_init_75 : decode cX8_init 75 = .ok (.invokespecial 41, 3) := by decide +kernel
theorem dX8_init_78 : decode cX8_init 78 = .ok (.putfield 42, 3) := by decide +kernel
theorem dX8_init_81 : decode cX8_init 81 = .ok (.aload_n 0, 1) := by decide +kernel
theorem dX8_init_82 : decode cX8_init 82 = .ok (.new 46, 3) := by decide +kernel
theorem dX8_init_85 : decode cX8_init 85 = .ok (.dup, 1) := by decide +kernel
theorem dX8_init_86 : decode cX8_init 86 = .ok (.invokespecial 48, 3) := by decide +kernel
theorem dX8_init_89 : decode cX8_init 89 = .ok (.putfield 49, 3) := by decide +kernel
theorem dX8_init_92 : decode cX8_init 92 = .ok (.aload_n 0, 1) := by decide +kernel
theorem dX8_init_93 : decode cX8_init 93 = .ok (.new 53, 3) := by decide +kernel
theorem dX8_init_96 : decode cX8_init 96 = .ok (.dup, 1) := by decide +kernel
theorem dX8_init_97 : decode cX8_init 97 = .ok (.invokespecial 55, 3) := by decide +kernel
theorem dX8_init_100 : decode cX8_init 100 = .ok (.putfield 56, 3) := by decide +kernel
theorem dX8_init_103 : decode cX8_init 103 = .ok (.aload_n 0, 1) := by decide +kernel
theorem dX8_init_104 : decode cX8_init 104 = .ok (.new 60, 3) := by decide +kernel
theorem dX8_init_107 : decode cX8_init 107 = .ok (.dup, 1) := by decide +kernel
theorem dX8_init_108 : decode cX8_init 108 = .ok (.invokespecial 62, 3) := by decide +kernel
theorem dX8_init_111 : decode cX8_init 111 = .ok (.putfield 63, 3) := by decide +kernel
theorem dX8_init_114 : decode cX8_init 114 = .ok (.aload_n 0, 1) := by decide +kernel
theorem dX8_init_115 : decode cX8_init 115 = .ok (.new 67, 3) := by decide +kernel
theorem dX8_init_118 : decode cX8_init 118 = .ok (.dup, 1) := by decide +kernel
theorem dX8_init_119 : decode cX8_init 119 = .ok (.invokespecial 69, 3) := by decide +kernel
theorem dX8_init_122 : decode cX8_init 122 = .ok (.putfield 70, 3) := by decide +kernel
theorem dX8_init_125 : decode cX8_init 125 = .ok (.return_, 1) := by decide +kernel
theorem dX8_wind_0 : decode cX8_wind 0 = .ok (.iload_n 1, 1) := by decide +kernel
theorem dX8_wind_1 : decode cX8_wind 1 = .ok (.iconst 0, 1) := by decide +kernel
theorem dX8_wind_2 : decode cX8_wind 2 = .ok (.iconst 4, 1) := by decide +kernel
theorem dX8_wind_3 : decode cX8_wind 3 = .ok (.invokestatic 74, 3) := by decide +kernel
theorem dX8_wind_6 : decode cX8_wind 6 = .ok (.ifCond .ne 5, 3) := by decide +kernel
theorem dX8_wind_9 : decode cX8_wind 9 = .ok (.iconst (-1), 1) := by decide +kernel
theorem dX8_wind_10 : decode cX8_wind 10 = .ok (.ireturn, 1) := by decide +kernel
theorem dX8_wind_11 : decode cX8_wind 11 = .ok (.iload_n 2, 1) := by decide +kernel
theorem dX8_wind_12 : decode cX8_wind 12 = .ok (.iconst 0, 1) := by decide +kernel
theorem dX8_wind_13 : decode cX8_wind 13 = .ok (.iconst 1, 1) := by decide +kernel
theorem dX8_wind_14 : decode cX8_wind 14 = .ok (.invokestatic 74, 3) := by decide +kernel
theorem dX8_wind_17 : decode cX8_wind 17 = .ok (.ifCond .eq 14, 3) := by decide +kernel
theorem dX8_wind_20 : decode cX8_wind 20 = .ok (.iload_n 3, 1) := by decide +kernel
theorem dX8_wind_21 : decode cX8_wind 21 = .ok (.bipush (-9), 2) := by decide +kernel
theorem dX8_wind_23 : decode cX8_wind 23 = .ok (.bipush 9, 2) := by decide +kernel
theorem dX8_wind_25 : decode cX8_wind 25 = .ok (.invokestatic 74, 3) := by decide +kernel
theorem dX8_wind_28 : decode cX8_wind 28 = .ok (.ifCond .ne 6, 3) := by decide +kernel
theorem dX8_wind_31 : decode cX8_wind 31 = .ok (.bipush (-2), 2) := by decide +kernel
theorem dX8_wind_33 : decode cX8_wind 33 = .ok (.ireturn, 1) := by decide +kernel
theorem dX8_wind_34 : decode cX8_wind 34 = .ok (.aload_n 0, 1) := by decide +kernel
theorem dX8_wind_35 : decode cX8_wind 35 = .ok (.getfield 10, 3) := by decide +kernel
theorem dX8_wind_38 : decode cX8_wind 38 = .ok (.iload_n 1, 1) := by decide +kernel
theorem dX8_wind_39 : decode cX8_wind 39 = .ok (.iload_n 2, 1) := by decide +kernel
theorem dX8_wind_40 : decode cX8_wind 40 = .ok (.invokevirtual 78, 3) := by decide +kernel
theorem dX8_wind_43 : decode cX8_wind 43 = .ok (.istore 4, 2) := by decide +kernel
theorem dX8_wind_45 : decode cX8_wind 45 = .ok (.aload_n 0, 1) := by decide +kernel
theorem dX8_wind_46 : decode cX8_wind 46 = .ok (.getfield 10, 3) := by decide +kernel
theorem dX8_wind_49 : decode cX8_wind 49 = .ok (.iload_n 1, 1) := by decide +kernel
theorem dX8_wind_50 : decode cX8_wind 50 = .ok (.iload_n 2, 1) := by decide +kernel
theorem dX8_wind_51 : decode cX8_wind 51 = .ok (.iload_n 3, 1) := by decide +kernel
theorem dX8_wind_52 : decode cX8_wind 52 = .ok (.invokevirtual 82, 3) := by decide +kernel
theorem dX8_wind_55 : decode cX8_wind 55 = .ok (.iload 4, 2) := by decide +kernel
theorem dX8_wind_57 : decode cX8_wind 57 = .ok (.bipush 100, 2) := by decide +kernel
theorem dX8_wind_59 : decode cX8_wind 59 = .ok (.iadd, 1) := by decide +kernel
theorem dX8_wind_60 : decode cX8_wind 60 = .ok (.ireturn, 1) := by decide +kernel
theorem dX8_set_0 : decode cX8_set 0 = .ok (.iload_n 1, 1) := by decide +kernel
theorem dX8_set_1 : decode cX8_set 1 = .ok (.iconst 0, 1) := by decide +kernel
theorem dX8_set_2 : decode cX8_set 2 = .ok (.iconst 5, 1) := by decide +kernel
theorem dX8_set_3 : decode cX8_set 3 = .ok (.invokestatic 74, 3) := by decide +kernel
theorem dX8_set_6 : decode cX8_set 6 = .ok (.ifCond .eq 24, 3) := by decide +kernel
theorem dX8_set_9 : decode cX8_set 9 = .ok (.iload_n 2, 1) := by decide +kernel
theorem dX8_set_10 : decode cX8_set 10 = .ok (.getstatic 86, 3) := by decide +kernel
theorem dX8_set_13 : decode cX8_set 13 = .ok (.iload_n 1, 1) := by decide +kernel
theorem dX8_set_14 : decode cX8_set 14 = .ok (.invokestatic 90, 3) := by decide +kernel
theorem dX8_set_17 : decode cX8_set 17 = .ok (.getstatic 94, 3) := by decide +kernel
theorem dX8_set_20 : decode cX8_set 20 = .ok (.iload_n 1, 1) := by decide +kernel
theorem dX8_set_21 : decode cX8_set 21 = .ok (.invokestatic 90, 3) := by decide +kernel
theorem dX8_set_24 : decode cX8_set 24 = .ok (.invokestatic 74, 3) := by decide +kernel
theorem dX8_set_27 : decode cX8_set 27 = .ok (.ifCond .ne 6, 3) := by decide +kernel
theorem dX8_set_30 : decode cX8_set 30 = .ok (.bipush (-2), 2) := by decide +kernel
theorem dX8_set_32 : decode cX8_set 32 = .ok (.ireturn, 1) := by decide +kernel
theorem dX8_set_33 : decode cX8_set 33 = .ok (.aload_n 0, 1) := by decide +kernel
theorem dX8_set_34 : decode cX8_set 34 = .ok (.getfield 10, 3) := by decide +kernel
theorem dX8_set_37 : decode cX8_set 37 = .ok (.iload_n 1, 1) := by decide +kernel
theorem dX8_set_38 : decode cX8_set 38 = .ok (.invokevirtual 97, 3) := by decide +kernel
theorem dX8_set_41 : decode cX8_set 41 = .ok (.istore_n 3, 1) := by decide +kernel
theorem dX8_set_42 : decode cX8_set 42 = .ok (.aload_n 0, 1) := by decide +kernel
theorem dX8_set_43 : decode cX8_set 43 = .ok (.getfield 10, 3) := by decide +kernel
theorem dX8_set_46 : decode cX8_set 46 = .ok (.iload_n 1, 1) := by decide +kernel
theorem dX8_set_47 : decode cX8_set 47 = .ok (.iload_n 2, 1) := by decide +kernel
theorem dX8_set_48 : decode cX8_set 48 = .ok (.invokevirtual 101, 3) := by decide +kernel
theorem dX8_set_51 : decode cX8_set 51 = .ok (.iload_n 3, 1) := by decide +kernel
theorem dX8_set_52 : decode cX8_set 52 = .ok (.ireturn, 1) := by decide +kernel
theorem dX8_load_0 : decode cX8_load 0 = .ok (.iload_n 1, 1) := by decide +kernel
theorem dX8_load_1 : decode cX8_load 1 = .ok (.invokestatic 105, 3) := by decide +kernel
theorem dX8_load_4 : decode cX8_load 4 = .ok (.ifCond .ne 5, 3) := by decide +kernel
theorem dX8_load_7 : decode cX8_load 7 = .ok (.iconst (-1), 1) := by decide +kernel
theorem dX8_load_8 : decode cX8_load 8 = .ok (.ireturn, 1) := by decide +kernel
theorem dX8_load_9 : decode cX8_load 9 = .ok (.iload_n 2, 1) := by decide +kernel
theorem dX8_load_10 : decode cX8_load 10 = .ok (.iconst 0, 1) := by decide +kernel
theorem dX8_load_11 : decode cX8_load 11 = .ok (.bipush 20, 2) := by decide +kernel
theorem dX8_load_13 : decode cX8_load 13 = .ok (.invokestatic 74, 3) := by decide +kernel
theorem dX8_load_16 : decode cX8_load 16 = .ok (.ifCond .ne 6, 3) := by decide +kernel
theorem dX8_load_19 : decode cX8_load 19 = .ok (.bipush (-2), 2) := by decide +kernel
theorem dX8_load_21 : decode cX8_load 21 = .ok (.ireturn, 1) := by decide +kernel
theorem dX8_load_22 : decode cX8_load 22 = .ok (.aload_n 0, 1) := by decide +kernel
theorem dX8_load_23 : decode cX8_load 23 = .ok (.getfield 10, 3) := by decide +kernel
theorem dX8_load_26 : decode cX8_load 26 = .ok (.iload_n 1, 1) := by decide +kernel
theorem dX8_load_27 : decode cX8_load 27 = .ok (.invokevirtual 109, 3) := by decide +kernel
theorem dX8_load_30 : decode cX8_load 30 = .ok (.istore_n 3, 1) := by decide +kernel
theorem dX8_load_31 : decode cX8_load 31 = .ok (.aload_n 0, 1) := by decide +kernel
theorem dX8_load_32 : decode cX8_load 32 = .ok (.getfield 10, 3) := by decide +kernel
theorem dX8_load_35 : decode cX8_load 35 = .ok (.iload_n 1, 1) := by decide +kernel
theorem dX8_load_36 : decode cX8_load 36 = .ok (.iload_n 2, 1) := by decide +kernel
theorem dX8_load_37 : decode cX8_load 37 = .ok (.invokevirtual 112, 3) := by decide +kernel
theorem dX8_load_40 : decode cX8_load 40 = .ok (.iload_n 3, 1) := by decide +kernel
theorem dX8_load_41 : decode cX8_load 41 = .ok (.ireturn, 1) := by decide +kernel
theorem dX8_say_0 : decode cX8_say 0 = .ok (.iload_n 1, 1) := by decide +kernel
theorem dX8_say_1 : decode cX8_say 1 = .ok (.bipush 33, 2) := by decide +kernel
theorem dX8_say_3 : decode cX8_say 3 = .ok (.bipush 126, 2) := by decide +kernel
theorem dX8_say_5 : decode cX8_say 5 = .ok (.invokestatic 74, 3) := by decide +kernel
theorem dX8_say_8 : decode cX8_say 8 = .ok (.ifCond .ne 6, 3) := by decide +kernel
theorem dX8_say_11 : decode cX8_say 11 = .ok (.bipush (-2), 2) := by decide +kernel
theorem dX8_say_13 : decode cX8_say 13 = .ok (.ireturn, 1) := by decide +kernel
theorem dX8_say_14 : decode cX8_say 14 = .ok (.aload_n 0, 1) := by decide +kernel
theorem dX8_say_15 : decode cX8_say 15 = .ok (.getfield 25, 3) := by decide +kernel
theorem dX8_say_18 : decode cX8_say 18 = .ok (.invokevirtual 115, 3) := by decide +kernel
theorem dX8_say_21 : decode cX8_say 21 = .ok (.bipush 60, 2) := by decide +kernel
theorem dX8_say_23 : decode cX8_say 23 = .ok (.if_icmp .lt 6, 3) := by decide +kernel
theorem dX8_say_26 : decode cX8_say 26 = .ok (.bipush (-4), 2) := by decide +kernel
theorem dX8_say_28 : decode cX8_say 28 = .ok (.ireturn, 1) := by decide +kernel
theorem dX8_say_29 : decode cX8_say 29 = .ok (.aload_n 0, 1) := by decide +kernel
theorem dX8_say_30 : decode cX8_say 30 = .ok (.getfield 25, 3) := by decide +kernel
theorem dX8_say_33 : decode cX8_say 33 = .ok (.iload_n 1, 1) := by decide +kernel
theorem dX8_say_34 : decode cX8_say 34 = .ok (.invokevirtual 119, 3) := by decide +kernel
theorem dX8_say_37 : decode cX8_say 37 = .ok (.aload_n 0, 1) := by decide +kernel
theorem dX8_say_38 : decode cX8_say 38 = .ok (.getfield 25, 3) := by decide +kernel
theorem dX8_say_41 : decode cX8_say 41 = .ok (.invokevirtual 115, 3) := by decide +kernel
theorem dX8_say_44 : decode cX8_say 44 = .ok (.ireturn, 1) := by decide +kernel
theorem dX8_wipe_0 : decode cX8_wipe 0 = .ok (.aload_n 0, 1) := by decide +kernel
theorem dX8_wipe_1 : decode cX8_wipe 1 = .ok (.getfield 25, 3) := by decide +kernel
theorem dX8_wipe_4 : decode cX8_wipe 4 = .ok (.invokevirtual 115, 3) := by decide +kernel
theorem dX8_wipe_7 : decode cX8_wipe 7 = .ok (.istore_n 1, 1) := by decide +kernel
theorem dX8_wipe_8 : decode cX8_wipe 8 = .ok (.aload_n 0, 1) := by decide +kernel
theorem dX8_wipe_9 : decode cX8_wipe 9 = .ok (.getfield 25, 3) := by decide +kernel
theorem dX8_wipe_12 : decode cX8_wipe 12 = .ok (.invokevirtual 123, 3) := by decide +kernel
theorem dX8_wipe_15 : decode cX8_wipe 15 = .ok (.iload_n 1, 1) := by decide +kernel
theorem dX8_wipe_16 : decode cX8_wipe 16 = .ok (.ireturn, 1) := by decide +kernel
theorem dX8_fault_0 : decode cX8_fault 0 = .ok (.aload_n 0, 1) := by decide +kernel
theorem dX8_fault_1 : decode cX8_fault 1 = .ok (.invokevirtual 126, 3) := by decide +kernel
theorem dX8_fault_4 : decode cX8_fault 4 = .ok (.ireturn, 1) := by decide +kernel
theorem dX8_at_0 : decode cX8_at 0 = .ok (.aload_n 0, 1) := by decide +kernel
theorem dX8_at_1 : decode cX8_at 1 = .ok (.invokevirtual 126, 3) := by decide +kernel
theorem dX8_at_4 : decode cX8_at 4 = .ok (.bipush (-6), 2) := by decide +kernel
theorem dX8_at_6 : decode cX8_at 6 = .ok (.if_icmp .eq 6, 3) := by decide +kernel
theorem dX8_at_9 : decode cX8_at 9 = .ok (.bipush (-5), 2) := by decide +kernel
theorem dX8_at_11 : decode cX8_at 11 = .ok (.ireturn, 1) := by decide +kernel
theorem dX8_at_12 : decode cX8_at 12 = .ok (.iload_n 1, 1) := by decide +kernel
theorem dX8_at_13 : decode cX8_at 13 = .ok (.iconst (-1), 1) := by decide +kernel
theorem dX8_at_14 : decode cX8_at 14 = .ok (.aload_n 0, 1) := by decide +kernel
theorem dX8_at_15 : decode cX8_at 15 = .ok (.getfield 25, 3) := by decide +kernel
theorem dX8_at_18 : decode cX8_at 18 = .ok (.bipush 46, 2) := by decide +kernel
theorem dX8_at_20 : decode cX8_at 20 = .ok (.invokevirtual 129, 3) := by decide +kernel
theorem dX8_at_23 : decode cX8_at 23 = .ok (.invokestatic 74, 3) := by decide +kernel
theorem dX8_at_26 : decode cX8_at 26 = .ok (.ifCond .eq 12, 3) := by decide +kernel
theorem dX8_at_29 : decode cX8_at 29 = .ok (.iload_n 2, 1) := by decide +kernel
theorem dX8_at_30 : decode cX8_at 30 = .ok (.iconst 0, 1) := by decide +kernel
theorem dX8_at_31 : decode cX8_at 31 = .ok (.iconst 3, 1) := by decide +kernel
theorem dX8_at_32 : decode cX8_at 32 = .ok (.invokestatic 74, 3) := by decide +kernel
theorem dX8_at_35 : decode cX8_at 35 = .ok (.ifCond .ne 6, 3) := by decide +kernel
theorem dX8_at_38 : decode cX8_at 38 = .ok (.bipush (-2), 2) := by decide +kernel
theorem dX8_at_40 : decode cX8_at 40 = .ok (.ireturn, 1) := by decide +kernel
theorem dX8_at_41 : decode cX8_at 41 = .ok (.aload_n 0, 1) := by decide +kernel
theorem dX8_at_42 : decode cX8_at 42 = .ok (.iload_n 1, 1) := by decide +kernel
theorem dX8_at_43 : decode cX8_at 43 = .ok (.invokevirtual 132, 3) := by decide +kernel
theorem dX8_at_46 : decode cX8_at 46 = .ok (.iload_n 2, 1) := by decide +kernel
theorem dX8_at_47 : decode cX8_at 47 = .ok (.tableswitch 67 0 2 #[25, 37, 59], 25) := by decide +kernel
theorem dX8_at_72 : decode cX8_at 72 = .ok (.aload_n 0, 1) := by decide +kernel
theorem dX8_at_73 : decode cX8_at 73 = .ok (.getfield 32, 3) := by decide +kernel
theorem dX8_at_76 : decode cX8_at 76 = .ok (.invokevirtual 135, 3) := by decide +kernel
theorem dX8_at_79 : decode cX8_at 79 = .ok (.sipush 1000, 3) := by decide +kernel
theorem dX8_at_82 : decode cX8_at 82 = .ok (.iadd, 1) := by decide +kernel
theorem dX8_at_83 : decode cX8_at 83 = .ok (.ireturn, 1) := by decide +kernel
theorem dX8_at_84 : decode cX8_at 84 = .ok (.aload_n 0, 1) := by decide +kernel
theorem dX8_at_85 : decode cX8_at 85 = .ok (.getfield 10, 3) := by decide +kernel
theorem dX8_at_88 : decode cX8_at 88 = .ok (.aload_n 0, 1) := by decide +kernel
theorem dX8_at_89 : decode cX8_at 89 = .ok (.getfield 32, 3) := by decide +kernel
theorem dX8_at_92 : decode cX8_at 92 = .ok (.invokevirtual 138, 3) := by decide +kernel
theorem dX8_at_95 : decode cX8_at 95 = .ok (.aload_n 0, 1) := by decide +kernel
theorem dX8_at_96 : decode cX8_at 96 = .ok (.getfield 32, 3) := by decide +kernel
theorem dX8_at_99 : decode cX8_at 99 = .ok (.invokevirtual 141, 3) := by decide +kernel
theorem dX8_at_102 : decode cX8_at 102 = .ok (.invokevirtual 144, 3) := by decide +kernel
theorem dX8_at_105 : decode cX8_at 105 = .ok (.ireturn, 1) := by decide +kernel
theorem dX8_at_106 : decode cX8_at 106 = .ok (.aload_n 0, 1) := by decide +kernel
theorem dX8_at_107 : decode cX8_at 107 = .ok (.getfield 32, 3) := by decide +kernel
theorem dX8_at_110 : decode cX8_at 110 = .ok (.invokevirtual 138, 3) := by decide +kernel
theorem dX8_at_113 : decode cX8_at 113 = .ok (.ireturn, 1) := by decide +kernel
theorem dX8_at_114 : decode cX8_at 114 = .ok (.aload_n 0, 1) := by decide +kernel
theorem dX8_at_115 : decode cX8_at 115 = .ok (.getfield 32, 3) := by decide +kernel
theorem dX8_at_118 : decode cX8_at 118 = .ok (.invokevirtual 141, 3) := by decide +kernel
theorem dX8_at_121 : decode cX8_at 121 = .ok (.invokestatic 147, 3) := by decide +kernel
theorem dX8_at_124 : decode cX8_at 124 = .ok (.ireturn, 1) := by decide +kernel
theorem dX8_judge_0 : decode cX8_judge 0 = .ok (.aload_n 0, 1) := by decide +kernel
theorem dX8_judge_1 : decode cX8_judge 1 = .ok (.invokevirtual 126, 3) := by decide +kernel
theorem dX8_judge_4 : decode cX8_judge 4 = .ok (.bipush (-6), 2) := by decide +kernel
theorem dX8_judge_6 : decode cX8_judge 6 = .ok (.if_icmp .eq 6, 3) := by decide +kernel
theorem dX8_judge_9 : decode cX8_judge 9 = .ok (.bipush (-5), 2) := by decide +kernel
theorem dX8_judge_11 : decode cX8_judge 11 = .ok (.ireturn, 1) := by decide +kernel
theorem dX8_judge_12 : decode cX8_judge 12 = .ok (.iload_n 1, 1) := by decide +kernel
theorem dX8_judge_13 : decode cX8_judge 13 = .ok (.iconst 0, 1) := by decide +kernel
theorem dX8_judge_14 : decode cX8_judge 14 = .ok (.iconst 3, 1) := by decide +kernel
theorem dX8_judge_15 : decode cX8_judge 15 = .ok (.invokestatic 74, 3) := by decide +kernel
theorem dX8_judge_18 : decode cX8_judge 18 = .ok (.ifCond .ne 6, 3) := by decide +kernel
theorem dX8_judge_21 : decode cX8_judge 21 = .ok (.bipush (-2), 2) := by decide +kernel
theorem dX8_judge_23 : decode cX8_judge 23 = .ok (.ireturn, 1) := by decide +kernel
theorem dX8_judge_24 : decode cX8_judge 24 = .ok (.iload_n 1, 1) := by decide +kernel
theorem dX8_judge_25 : decode cX8_judge 25 = .ok (.tableswitch 55 0 2 #[27, 35, 45], 27) := by decide +kernel
theorem dX8_judge_52 : decode cX8_judge 52 = .ok (.aload_n 0, 1) := by decide +kernel
theorem dX8_judge_53 : decode cX8_judge 53 = .ok (.getfield 25, 3) := by decide +kernel
theorem dX8_judge_56 : decode cX8_judge 56 = .ok (.invokevirtual 152, 3) := by decide +kernel
theorem dX8_judge_59 : decode cX8_judge 59 = .ok (.ireturn, 1) := by decide +kernel
theorem dX8_judge_60 : decode cX8_judge 60 = .ok (.aload_n 0, 1) := by decide +kernel
theorem dX8_judge_61 : decode cX8_judge 61 = .ok (.getfield 25, 3) := by decide +kernel
theorem dX8_judge_64 : decode cX8_judge 64 = .ok (.bipush 46, 2) := by decide +kernel
theorem dX8_judge_66 : decode cX8_judge 66 = .ok (.invokevirtual 129, 3) := by decide +kernel
theorem dX8_judge_69 : decode cX8_judge 69 = .ok (.ireturn, 1) := by decide +kernel
theorem dX8_judge_70 : decode cX8_judge 70 = .ok (.aload_n 0, 1) := by decide +kernel
theorem dX8_judge_71 : decode cX8_judge 71 = .ok (.getfield 25, 3) := by decide +kernel
theorem dX8_judge_74 : decode cX8_judge 74 = .ok (.bipush 33, 2) := by decide +kernel
theorem dX8_judge_76 : decode cX8_judge 76 = .ok (.invokevirtual 129, 3) := by decide +kernel
theorem dX8_judge_79 : decode cX8_judge 79 = .ok (.ireturn, 1) := by decide +kernel
theorem dX8_judge_80 : decode cX8_judge 80 = .ok (.aload_n 0, 1) := by decide +kernel
theorem dX8_judge_81 : decode cX8_judge 81 = .ok (.iconst 0, 1) := by decide +kernel
theorem dX8_judge_82 : decode cX8_judge 82 = .ok (.iconst 0, 1) := by decide +kernel
theorem dX8_judge_83 : decode cX8_judge 83 = .ok (.invokevirtual 155, 3) := by decide +kernel
theorem dX8_judge_86 : decode cX8_judge 86 = .ok (.ireturn, 1) := by decide +kernel
theorem dX8_pepper_0 : decode cX8_pepper 0 = .ok (.aload_n 0, 1) := by decide +kernel
theorem dX8_pepper_1 : decode cX8_pepper 1 = .ok (.invokevirtual 126, 3) := by decide +kernel
theorem dX8_pepper_4 : decode cX8_pepper 4 = .ok (.bipush (-6), 2) := by decide +kernel
theorem dX8_pepper_6 : decode cX8_pepper 6 = .ok (.if_icmp .eq 6, 3) := by decide +kernel
theorem dX8_pepper_9 : decode cX8_pepper 9 = .ok (.bipush (-5), 2) := by decide +kernel
theorem dX8_pepper_11 : decode cX8_pepper 11 = .ok (.ireturn, 1) := by decide +kernel
theorem dX8_pepper_12 : decode cX8_pepper 12 = .ok (.iload_n 1, 1) := by decide +kernel
theorem dX8_pepper_13 : decode cX8_pepper 13 = .ok (.iconst 0, 1) := by decide +kernel
theorem dX8_pepper_14 : decode cX8_pepper 14 = .ok (.aload_n 0, 1) := by decide +kernel
theorem dX8_pepper_15 : decode cX8_pepper 15 = .ok (.getfield 25, 3) := by decide +kernel
theorem dX8_pepper_18 : decode cX8_pepper 18 = .ok (.bipush 46, 2) := by decide +kernel
theorem dX8_pepper_20 : decode cX8_pepper 20 = .ok (.invokevirtual 129, 3) := by decide +kernel
theorem dX8_pepper_23 : decode cX8_pepper 23 = .ok (.invokestatic 74, 3) := by decide +kernel
theorem dX8_pepper_26 : decode cX8_pepper 26 = .ok (.ifCond .ne 6, 3) := by decide +kernel
theorem dX8_pepper_29 : decode cX8_pepper 29 = .ok (.bipush (-2), 2) := by decide +kernel
theorem dX8_pepper_31 : decode cX8_pepper 31 = .ok (.ireturn, 1) := by decide +kernel
theorem dX8_pepper_32 : decode cX8_pepper 32 = .ok (.aload_n 0, 1) := by decide +kernel
theorem dX8_pepper_33 : decode cX8_pepper 33 = .ok (.iload_n 1, 1) := by decide +kernel
theorem dX8_pepper_34 : decode cX8_pepper 34 = .ok (.iconst 0, 1) := by decide +kernel
theorem dX8_pepper_35 : decode cX8_pepper 35 = .ok (.invokevirtual 155, 3) := by decide +kernel
theorem dX8_pepper_38 : decode cX8_pepper 38 = .ok (.bipush (-6), 2) := by decide +kernel
theorem dX8_pepper_40 : decode cX8_pepper 40 = .ok (.if_icmp .eq 6, 3) := by decide +kernel
theorem dX8_pepper_43 : decode cX8_pepper 43 = .ok (.bipush (-6), 2) := by decide +kernel
theorem dX8_pepper_45 : decode cX8_pepper 45 = .ok (.ireturn, 1) := by decide +kernel
theorem dX8_pepper_46 : decode cX8_pepper 46 = .ok (.iconst 0, 1) := by decide +kernel
theorem dX8_pepper_47 : decode cX8_pepper 47 = .ok (.istore_n 2, 1) := by decide +kernel
theorem dX8_pepper_48 : decode cX8_pepper 48 = .ok (.iload_n 2, 1) := by decide +kernel
theorem dX8_pepper_49 : decode cX8_pepper 49 = .ok (.bipush 12, 2) := by decide +kernel
theorem dX8_pepper_51 : decode cX8_pepper 51 = .ok (.if_icmp .ge 22, 3) := by decide +kernel
theorem dX8_pepper_54 : decode cX8_pepper 54 = .ok (.aload_n 0, 1) := by decide +kernel
theorem dX8_pepper_55 : decode cX8_pepper 55 = .ok (.iload_n 1, 1) := by decide +kernel
theorem dX8_pepper_56 : decode cX8_pepper 56 = .ok (.iload_n 2, 1) := by decide +kernel
theorem dX8_pepper_57 : decode cX8_pepper 57 = .ok (.iconst 1, 1) := by decide +kernel
theorem dX8_pepper_58 : decode cX8_pepper 58 = .ok (.iadd, 1) := by decide +kernel
theorem dX8_pepper_59 : decode cX8_pepper 59 = .ok (.invokevirtual 155, 3) := by decide +kernel
theorem dX8_pepper_62 : decode cX8_pepper 62 = .ok (.bipush (-6), 2) := by decide +kernel
theorem dX8_pepper_64 : decode cX8_pepper 64 = .ok (.if_icmp .ne 9, 3) := by decide +kernel
theorem dX8_pepper_67 : decode cX8_pepper 67 = .ok (.iinc 2 1, 3) := by decide +kernel
theorem dX8_pepper_70 : decode cX8_pepper 70 = .ok (.goto (-22), 3) := by decide +kernel
theorem dX8_pepper_73 : decode cX8_pepper 73 = .ok (.iload_n 2, 1) := by decide +kernel
theorem dX8_pepper_74 : decode cX8_pepper 74 = .ok (.ireturn, 1) := by decide +kernel
theorem dX8_nearest_0 : decode cX8_nearest 0 = .ok (.aload_n 0, 1) := by decide +kernel
theorem dX8_nearest_1 : decode cX8_nearest 1 = .ok (.iload_n 1, 1) := by decide +kernel
theorem dX8_nearest_2 : decode cX8_nearest 2 = .ok (.invokestatic 158, 3) := by decide +kernel
theorem dX8_nearest_5 : decode cX8_nearest 5 = .ok (.invokevirtual 161, 3) := by decide +kernel
theorem dX8_nearest_8 : decode cX8_nearest 8 = .ok (.istore_n 3, 1) := by decide +kernel
theorem dX8_nearest_9 : decode cX8_nearest 9 = .ok (.iload_n 3, 1) := by decide +kernel
theorem dX8_nearest_10 : decode cX8_nearest 10 = .ok (.ifCond .eq 5, 3) := by decide +kernel
theorem dX8_nearest_13 : decode cX8_nearest 13 = .ok (.iload_n 3, 1) := by decide +kernel
theorem dX8_nearest_14 : decode cX8_nearest 14 = .ok (.ireturn, 1) := by decide +kernel
theorem dX8_nearest_15 : decode cX8_nearest 15 = .ok (.aload_n 0, 1) := by decide +kernel
theorem dX8_nearest_16 : decode cX8_nearest 16 = .ok (.getfield 49, 3) := by decide +kernel
theorem dX8_nearest_19 : decode cX8_nearest 19 = .ok (.aload_n 0, 1) := by decide +kernel
theorem dX8_nearest_20 : decode cX8_nearest 20 = .ok (.getfield 10, 3) := by decide +kernel
theorem dX8_nearest_23 : decode cX8_nearest 23 = .ok (.aload_n 0, 1) := by decide +kernel
theorem dX8_nearest_24 : decode cX8_nearest 24 = .ok (.getfield 25, 3) := by decide +kernel
theorem dX8_nearest_27 : decode cX8_nearest 27 = .ok (.invokevirtual 165, 3) := by decide +kernel
theorem dX8_nearest_30 : decode cX8_nearest 30 = .ok (.aload_n 0, 1) := by decide +kernel
theorem dX8_nearest_31 : decode cX8_nearest 31 = .ok (.getfield 56, 3) := by decide +kernel
theorem dX8_nearest_34 : decode cX8_nearest 34 = .ok (.iload_n 1, 1) := by decide +kernel
theorem dX8_nearest_35 : decode cX8_nearest 35 = .ok (.invokevirtual 169, 3) := by decide +kernel
theorem dX8_nearest_38 : decode cX8_nearest 38 = .ok (.aload_n 0, 1) := by decide +kernel
theorem dX8_nearest_39 : decode cX8_nearest 39 = .ok (.getfield 49, 3) := by decide +kernel
theorem dX8_nearest_42 : decode cX8_nearest 42 = .ok (.aload_n 0, 1) := by decide +kernel
theorem dX8_nearest_43 : decode cX8_nearest 43 = .ok (.getfield 56, 3) := by decide +kernel
theorem dX8_nearest_46 : decode cX8_nearest 46 = .ok (.iconst 0, 1) := by decide +kernel
theorem dX8_nearest_47 : decode cX8_nearest 47 = .ok (.aload_n 0, 1) := by decide +kernel
theorem dX8_nearest_48 : decode cX8_nearest 48 = .ok (.getfield 10, 3) := by decide +kernel
theorem dX8_nearest_51 : decode cX8_nearest 51 = .ok (.invokevirtual 172, 3) := by decide +kernel
theorem dX8_nearest_54 : decode cX8_nearest 54 = .ok (.iconst 0, 1) := by decide +kernel
theorem dX8_nearest_55 : decode cX8_nearest 55 = .ok (.iconst 0, 1) := by decide +kernel
theorem dX8_nearest_56 : decode cX8_nearest 56 = .ok (.invokestatic 175, 3) := by decide +kernel
theorem dX8_nearest_59 : decode cX8_nearest 59 = .ok (.iload_n 2, 1) := by decide +kernel
theorem dX8_nearest_60 : decode cX8_nearest 60 = .ok (.iconst (-1), 1) := by decide +kernel
theorem dX8_nearest_61 : decode cX8_nearest 61 = .ok (.if_icmp .ne 11, 3) := by decide +kernel
theorem dX8_nearest_64 : decode cX8_nearest 64 = .ok (.aload_n 0, 1) := by decide +kernel
theorem dX8_nearest_65 : decode cX8_nearest 65 = .ok (.getfield 56, 3) := by decide +kernel
theorem dX8_nearest_68 : decode cX8_nearest 68 = .ok (.invokevirtual 179, 3) := by decide +kernel
theorem dX8_nearest_71 : decode cX8_nearest 71 = .ok (.ireturn, 1) := by decide +kernel
theorem dX8_nearest_72 : decode cX8_nearest 72 = .ok (.iload_n 2, 1) := by decide +kernel
theorem dX8_nearest_73 : decode cX8_nearest 73 = .ok (.iconst 0, 1) := by decide +kernel
theorem dX8_nearest_74 : decode cX8_nearest 74 = .ok (.aload_n 0, 1) := by decide +kernel
theorem dX8_nearest_75 : decode cX8_nearest 75 = .ok (.getfield 49, 3) := by decide +kernel
theorem dX8_nearest_78 : decode cX8_nearest 78 = .ok (.invokevirtual 182, 3) := by decide +kernel
theorem dX8_nearest_81 : decode cX8_nearest 81 = .ok (.iconst 1, 1) := by decide +kernel
theorem dX8_nearest_82 : decode cX8_nearest 82 = .ok (.isub, 1) := by decide +kernel
theorem dX8_nearest_83 : decode cX8_nearest 83 = .ok (.invokestatic 74, 3) := by decide +kernel
theorem dX8_nearest_86 : decode cX8_nearest 86 = .ok (.ifCond .eq 14, 3) := by decide +kernel
theorem dX8_nearest_89 : decode cX8_nearest 89 = .ok (.aload_n 0, 1) := by decide +kernel
theorem dX8_nearest_90 : decode cX8_nearest 90 = .ok (.getfield 56, 3) := by decide +kernel
theorem dX8_nearest_93 : decode cX8_nearest 93 = .ok (.iload_n 2, 1) := by decide +kernel
theorem dX8_nearest_94 : decode cX8_nearest 94 = .ok (.invokevirtual 184, 3) := by decide +kernel
theorem dX8_nearest_97 : decode cX8_nearest 97 = .ok (.goto 5, 3) := by decide +kernel
theorem dX8_nearest_100 : decode cX8_nearest 100 = .ok (.bipush (-6), 2) := by decide +kernel
theorem dX8_nearest_102 : decode cX8_nearest 102 = .ok (.ireturn, 1) := by decide +kernel
theorem dX8_field_0 : decode cX8_field 0 = .ok (.aload_n 0, 1) := by decide +kernel
theorem dX8_field_1 : decode cX8_field 1 = .ok (.iload_n 1, 1) := by decide +kernel
theorem dX8_field_2 : decode cX8_field 2 = .ok (.iload_n 2, 1) := by decide +kernel
theorem dX8_field_3 : decode cX8_field 3 = .ok (.invokestatic 187, 3) := by decide +kernel
theorem dX8_field_6 : decode cX8_field 6 = .ok (.invokevirtual 161, 3) := by decide +kernel
theorem dX8_field_9 : decode cX8_field 9 = .ok (.istore_n 3, 1) := by decide +kernel
theorem dX8_field_10 : decode cX8_field 10 = .ok (.iload_n 3, 1) := by decide +kernel
theorem dX8_field_11 : decode cX8_field 11 = .ok (.ifCond .eq 5, 3) := by decide +kernel
theorem dX8_field_14 : decode cX8_field 14 = .ok (.iload_n 3, 1) := by decide +kernel
theorem dX8_field_15 : decode cX8_field 15 = .ok (.ireturn, 1) := by decide +kernel
theorem dX8_field_16 : decode cX8_field 16 = .ok (.aload_n 0, 1) := by decide +kernel
theorem dX8_field_17 : decode cX8_field 17 = .ok (.getfield 49, 3) := by decide +kernel
theorem dX8_field_20 : decode cX8_field 20 = .ok (.aload_n 0, 1) := by decide +kernel
theorem dX8_field_21 : decode cX8_field 21 = .ok (.getfield 10, 3) := by decide +kernel
theorem dX8_field_24 : decode cX8_field 24 = .ok (.aload_n 0, 1) := by decide +kernel
theorem dX8_field_25 : decode cX8_field 25 = .ok (.getfield 25, 3) := by decide +kernel
theorem dX8_field_28 : decode cX8_field 28 = .ok (.invokevirtual 165, 3) := by decide +kernel
theorem dX8_field_31 : decode cX8_field 31 = .ok (.aload_n 0, 1) := by decide +kernel
theorem dX8_field_32 : decode cX8_field 32 = .ok (.getfield 49, 3) := by decide +kernel
theorem dX8_field_35 : decode cX8_field 35 = .ok (.iconst 0, 1) := by decide +kernel
theorem dX8_field_36 : decode cX8_field 36 = .ok (.aload_n 0, 1) := by decide +kernel
theorem dX8_field_37 : decode cX8_field 37 = .ok (.getfield 10, 3) := by decide +kernel
theorem dX8_field_40 : decode cX8_field 40 = .ok (.invokevirtual 172, 3) := by decide +kernel
theorem dX8_field_43 : decode cX8_field 43 = .ok (.iconst 0, 1) := by decide +kernel
theorem dX8_field_44 : decode cX8_field 44 = .ok (.iload_n 1, 1) := by decide +kernel
theorem dX8_field_45 : decode cX8_field 45 = .ok (.iload_n 2, 1) := by decide +kernel
theorem dX8_field_46 : decode cX8_field 46 = .ok (.invokestatic 191, 3) := by decide +kernel
theorem dX8_field_49 : decode cX8_field 49 = .ok (.ireturn, 1) := by decide +kernel
theorem dX8_take_0 : decode cX8_take 0 = .ok (.aload_n 0, 1) := by decide +kernel
theorem dX8_take_1 : decode cX8_take 1 = .ok (.iload_n 1, 1) := by decide +kernel
theorem dX8_take_2 : decode cX8_take 2 = .ok (.invokestatic 158, 3) := by decide +kernel
theorem dX8_take_5 : decode cX8_take 5 = .ok (.ifCond .eq 16, 3) := by decide +kernel
theorem dX8_take_8 : decode cX8_take 8 = .ok (.iload_n 2, 1) := by decide +kernel
theorem dX8_take_9 : decode cX8_take 9 = .ok (.iconst 0, 1) := by decide +kernel
theorem dX8_take_10 : decode cX8_take 10 = .ok (.iconst 1, 1) := by decide +kernel
theorem dX8_take_11 : decode cX8_take 11 = .ok (.invokestatic 74, 3) := by decide +kernel
theorem dX8_take_14 : decode cX8_take 14 = .ok (.ifCond .eq 7, 3) := by decide +kernel
theorem dX8_take_17 : decode cX8_take 17 = .ok (.iconst 1, 1) := by decide +kernel
theorem dX8_take_18 : decode cX8_take 18 = .ok (.goto 4, 3) := by decide +kernel
theorem dX8_take_21 : decode cX8_take 21 = .ok (.iconst 0, 1) := by decide +kernel
theorem dX8_take_22 : decode cX8_take 22 = .ok (.invokevirtual 195, 3) := by decide +kernel
theorem dX8_take_25 : decode cX8_take 25 = .ok (.istore_n 3, 1) := by decide +kernel
theorem dX8_take_26 : decode cX8_take 26 = .ok (.iload_n 3, 1) := by decide +kernel
theorem dX8_take_27 : decode cX8_take 27 = .ok (.ifCond .eq 5, 3) := by decide +kernel
theorem dX8_take_30 : decode cX8_take 30 = .ok (.iload_n 3, 1) := by decide +kernel
theorem dX8_take_31 : decode cX8_take 31 = .ok (.ireturn, 1) := by decide +kernel
theorem dX8_take_32 : decode cX8_take 32 = .ok (.iconst 0, 1) := by decide +kernel
theorem dX8_take_33 : decode cX8_take 33 = .ok (.istore 4, 2) := by decide +kernel
theorem dX8_take_35 : decode cX8_take 35 = .ok (.aload_n 0, 1) := by decide +kernel
theorem dX8_take_36 : decode cX8_take 36 = .ok (.iload_n 1, 1) := by decide +kernel
theorem dX8_take_37 : decode cX8_take 37 = .ok (.iconst 0, 1) := by decide +kernel
theorem dX8_take_38 : decode cX8_take 38 = .ok (.iconst 0, 1) := by decide +kernel
theorem dX8_take_39 : decode cX8_take 39 = .ok (.invokevirtual 198, 3) := by decide +kernel
theorem dX8_take_42 : decode cX8_take 42 = .ok (.istore 5, 2) := by decide +kernel
theorem dX8_take_44 : decode cX8_take 44 = .ok (.aload_n 0, 1) := by decide +kernel
theorem dX8_take_45 : decode cX8_take 45 = .ok (.getfield 10, 3) := by decide +kernel
theorem dX8_take_48 : decode cX8_take 48 = .ok (.invokevirtual 172, 3) := by decide +kernel
theorem dX8_take_51 : decode cX8_take 51 = .ok (.istore 6, 2) := by decide +kernel
theorem dX8_take_53 : decode cX8_take 53 = .ok (.iconst 1, 1) := by decide +kernel
theorem dX8_take_54 : decode cX8_take 54 = .ok (.istore 7, 2) := by decide +kernel
theorem dX8_take_56 : decode cX8_take 56 = .ok (.iload 7, 2) := by decide +kernel
theorem dX8_take_58 : decode cX8_take 58 = .ok (.bipush 64, 2) := by decide +kernel
theorem dX8_take_60 : decode cX8_take 60 = .ok (.if_icmp .ge 49, 3) := by decide +kernel
theorem dX8_take_63 : decode cX8_take 63 = .ok (.iload 7, 2) := by decide +kernel
theorem dX8_take_65 : decode cX8_take 65 = .ok (.iload 6, 2) := by decide +kernel
theorem dX8_take_67 : decode cX8_take 67 = .ok (.iand, 1) := by decide +kernel
theorem dX8_take_68 : decode cX8_take 68 = .ok (.iload 7, 2) := by decide +kernel
theorem dX8_take_70 : decode cX8_take 70 = .ok (.if_icmp .ne 14, 3) := by decide +kernel
theorem dX8_take_73 : decode cX8_take 73 = .ok (.aload_n 0, 1) := by decide +kernel
theorem dX8_take_74 : decode cX8_take 74 = .ok (.iload_n 1, 1) := by decide +kernel
theorem dX8_take_75 : decode cX8_take 75 = .ok (.iload 7, 2) := by decide +kernel
theorem dX8_take_77 : decode cX8_take 77 = .ok (.iconst 0, 1) := by decide +kernel
theorem dX8_take_78 : decode cX8_take 78 = .ok (.invokevirtual 198, 3) := by decide +kernel
theorem dX8_take_81 : decode cX8_take 81 = .ok (.goto 5, 3) := by decide +kernel
theorem dX8_take_84 : decode cX8_take 84 = .ok (.iload 5, 2) := by decide +kernel
theorem dX8_take_86 : decode cX8_take 86 = .ok (.istore 8, 2) := by decide +kernel
theorem dX8_take_88 : decode cX8_take 88 = .ok (.iload 8, 2) := by decide +kernel
theorem dX8_take_90 : decode cX8_take 90 = .ok (.iload 5, 2) := by decide +kernel
theorem dX8_take_92 : decode cX8_take 92 = .ok (.if_icmp .ge 11, 3) := by decide +kernel
theorem dX8_take_95 : decode cX8_take 95 = .ok (.iload 7, 2) := by decide +kernel
theorem dX8_take_97 : decode cX8_take 97 = .ok (.istore 4, 2) := by decide +kernel
theorem dX8_take_99 : decode cX8_take 99 = .ok (.iload 8, 2) := by decide +kernel
theorem dX8_take_101 : decode cX8_take 101 = .ok (.istore 5, 2) := by decide +kernel
theorem dX8_take_103 : decode cX8_take 103 = .ok (.iinc 7 1, 3) := by decide +kernel
theorem dX8_take_106 : decode cX8_take 106 = .ok (.goto (-50), 3) := by decide +kernel
theorem dX8_take_109 : decode cX8_take 109 = .ok (.iload_n 2, 1) := by decide +kernel
theorem dX8_take_110 : decode cX8_take 110 = .ok (.ifCond .ne 8, 3) := by decide +kernel
theorem dX8_take_113 : decode cX8_take 113 = .ok (.iload 4, 2) := by decide +kernel
theorem dX8_take_115 : decode cX8_take 115 = .ok (.goto 5, 3) := by decide +kernel
theorem dX8_take_118 : decode cX8_take 118 = .ok (.iload 5, 2) := by decide +kernel
theorem dX8_take_120 : decode cX8_take 120 = .ok (.ireturn, 1) := by decide +kernel
theorem dX8_stay_0 : decode cX8_stay 0 = .ok (.aload_n 0, 1) := by decide +kernel
theorem dX8_stay_1 : decode cX8_stay 1 = .ok (.iload_n 1, 1) := by decide +kernel
theorem dX8_stay_2 : decode cX8_stay 2 = .ok (.invokestatic 158, 3) := by decide +kernel
theorem dX8_stay_5 : decode cX8_stay 5 = .ok (.ifCond .eq 16, 3) := by decide +kernel
theorem dX8_stay_8 : decode cX8_stay 8 = .ok (.iload_n 2, 1) := by decide +kernel
theorem dX8_stay_9 : decode cX8_stay 9 = .ok (.iconst 0, 1) := by decide +kernel
theorem dX8_stay_10 : decode cX8_stay 10 = .ok (.iconst 1, 1) := by decide +kernel
theorem dX8_stay_11 : decode cX8_stay 11 = .ok (.invokestatic 74, 3) := by decide +kernel
theorem dX8_stay_14 : decode cX8_stay 14 = .ok (.ifCond .eq 7, 3) := by decide +kernel
theorem dX8_stay_17 : decode cX8_stay 17 = .ok (.iconst 1, 1) := by decide +kernel
theorem dX8_stay_18 : decode cX8_stay 18 = .ok (.goto 4, 3) := by decide +kernel
theorem dX8_stay_21 : decode cX8_stay 21 = .ok (.iconst 0, 1) := by decide +kernel
theorem dX8_stay_22 : decode cX8_stay 22 = .ok (.invokevirtual 195, 3) := by decide +kernel
theorem dX8_stay_25 : decode cX8_stay 25 = .ok (.istore_n 3, 1) := by decide +kernel
theorem dX8_stay_26 : decode cX8_stay 26 = .ok (.iload_n 3, 1) := by decide +kernel
theorem dX8_stay_27 : decode cX8_stay 27 = .ok (.ifCond .eq 5, 3) := by decide +kernel
theorem dX8_stay_30 : decode cX8_stay 30 = .ok (.iload_n 3, 1) := by decide +kernel
theorem dX8_stay_31 : decode cX8_stay 31 = .ok (.ireturn, 1) := by decide +kernel
theorem dX8_stay_32 : decode cX8_stay 32 = .ok (.iconst 0, 1) := by decide +kernel
theorem dX8_stay_33 : decode cX8_stay 33 = .ok (.istore 4, 2) := by decide +kernel
theorem dX8_stay_35 : decode cX8_stay 35 = .ok (.aload_n 0, 1) := by decide +kernel
theorem dX8_stay_36 : decode cX8_stay 36 = .ok (.getfield 10, 3) := by decide +kernel
theorem dX8_stay_39 : decode cX8_stay 39 = .ok (.invokevirtual 172, 3) := by decide +kernel
theorem dX8_stay_42 : decode cX8_stay 42 = .ok (.istore 5, 2) := by decide +kernel
theorem dX8_stay_44 : decode cX8_stay 44 = .ok (.aload_n 0, 1) := by decide +kernel
theorem dX8_stay_45 : decode cX8_stay 45 = .ok (.iload_n 1, 1) := by decide +kernel
theorem dX8_stay_46 : decode cX8_stay 46 = .ok (.iload 5, 2) := by decide +kernel
theorem dX8_stay_48 : decode cX8_stay 48 = .ok (.iconst 0, 1) := by decide +kernel
theorem dX8_stay_49 : decode cX8_stay 49 = .ok (.invokevirtual 198, 3) := by decide +kernel
theorem dX8_stay_52 : decode cX8_stay 52 = .ok (.istore 6, 2) := by decide +kernel
theorem dX8_stay_54 : decode cX8_stay 54 = .ok (.iconst 1, 1) := by decide +kernel
theorem dX8_stay_55 : decode cX8_stay 55 = .ok (.istore 7, 2) := by decide +kernel
theorem dX8_stay_57 : decode cX8_stay 57 = .ok (.iload 7, 2) := by decide +kernel
theorem dX8_stay_59 : decode cX8_stay 59 = .ok (.bipush 20, 2) := by decide +kernel
theorem dX8_stay_61 : decode cX8_stay 61 = .ok (.if_icmp .gt 35, 3) := by decide +kernel
theorem dX8_stay_64 : decode cX8_stay 64 = .ok (.aload_n 0, 1) := by decide +kernel
theorem dX8_stay_65 : decode cX8_stay 65 = .ok (.iload_n 1, 1) := by decide +kernel
theorem dX8_stay_66 : decode cX8_stay 66 = .ok (.iload 5, 2) := by decide +kernel
theorem dX8_stay_68 : decode cX8_stay 68 = .ok (.iload 7, 2) := by decide +kernel
theorem dX8_stay_70 : decode cX8_stay 70 = .ok (.invokevirtual 198, 3) := by decide +kernel
theorem dX8_stay_73 : decode cX8_stay 73 = .ok (.istore 8, 2) := by decide +kernel
theorem dX8_stay_75 : decode cX8_stay 75 = .ok (.iload 8, 2) := by decide +kernel
theorem dX8_stay_77 : decode cX8_stay 77 = .ok (.iload 6, 2) := by decide +kernel
theorem dX8_stay_79 : decode cX8_stay 79 = .ok (.if_icmp .ge 11, 3) := by decide +kernel
theorem dX8_stay_82 : decode cX8_stay 82 = .ok (.iload 7, 2) := by decide +kernel
theorem dX8_stay_84 : decode cX8_stay 84 = .ok (.istore 4, 2) := by decide +kernel
theorem dX8_stay_86 : decode cX8_stay 86 = .ok (.iload 8, 2) := by decide +kernel
theorem dX8_stay_88 : decode cX8_stay 88 = .ok (.istore 6, 2) := by decide +kernel
theorem dX8_stay_90 : decode cX8_stay 90 = .ok (.iinc 7 1, 3) := by decide +kernel
theorem dX8_stay_93 : decode cX8_stay 93 = .ok (.goto (-36), 3) := by decide +kernel
theorem dX8_stay_96 : decode cX8_stay 96 = .ok (.iload_n 2, 1) := by decide +kernel
theorem dX8_stay_97 : decode cX8_stay 97 = .ok (.ifCond .ne 8, 3) := by decide +kernel
theorem dX8_stay_100 : decode cX8_stay 100 = .ok (.iload 4, 2) := by decide +kernel
theorem dX8_stay_102 : decode cX8_stay 102 = .ok (.goto 5, 3) := by decide +kernel
theorem dX8_stay_105 : decode cX8_stay 105 = .ok (.iload 6, 2) := by decide +kernel
theorem dX8_stay_107 : decode cX8_stay 107 = .ok (.ireturn, 1) := by decide +kernel
theorem dX8_likely_0 : decode cX8_likely 0 = .ok (.aload_n 0, 1) := by decide +kernel
theorem dX8_likely_1 : decode cX8_likely 1 = .ok (.iload_n 1, 1) := by decide +kernel
theorem dX8_likely_2 : decode cX8_likely 2 = .ok (.iload_n 2, 1) := by decide +kernel
theorem dX8_likely_3 : decode cX8_likely 3 = .ok (.invokestatic 187, 3) := by decide +kernel
theorem dX8_likely_6 : decode cX8_likely 6 = .ok (.ifCond .eq 27, 3) := by decide +kernel
theorem dX8_likely_9 : decode cX8_likely 9 = .ok (.iload_n 3, 1) := by decide +kernel
theorem dX8_likely_10 : decode cX8_likely 10 = .ok (.iconst 0, 1) := by decide +kernel
theorem dX8_likely_11 : decode cX8_likely 11 = .ok (.bipush 10, 2) := by decide +kernel
theorem dX8_likely_13 : decode cX8_likely 13 = .ok (.invokestatic 74, 3) := by decide +kernel
theorem dX8_likely_16 : decode cX8_likely 16 = .ok (.ifCond .eq 17, 3) := by decide +kernel
theorem dX8_likely_19 : decode cX8_likely 19 = .ok (.iload 4, 2) := by decide +kernel
theorem dX8_likely_21 : decode cX8_likely 21 = .ok (.iconst 0, 1) := by decide +kernel
theorem dX8_likely_22 : decode cX8_likely 22 = .ok (.iconst 1, 1) := by decide +kernel
theorem dX8_likely_23 : decode cX8_likely 23 = .ok (.invokestatic 74, 3) := by decide +kernel
theorem dX8_likely_26 : decode cX8_likely 26 = .ok (.ifCond .eq 7, 3) := by decide +kernel
theorem dX8_likely_29 : decode cX8_likely 29 = .ok (.iconst 1, 1) := by decide +kernel
theorem dX8_likely_30 : decode cX8_likely 30 = .ok (.goto 4, 3) := by decide +kernel
theorem dX8_likely_33 : decode cX8_likely 33 = .ok (.iconst 0, 1) := by decide +kernel
theorem dX8_likely_34 : decode cX8_likely 34 = .ok (.invokevirtual 195, 3) := by decide +kernel
theorem dX8_likely_37 : decode cX8_likely 37 = .ok (.istore 5, 2) := by decide +kernel
theorem dX8_likely_39 : decode cX8_likely 39 = .ok (.iload 5, 2) := by decide +kernel
theorem dX8_likely_41 : decode cX8_likely 41 = .ok (.ifCond .eq 11, 3) := by decide +kernel
theorem dX8_likely_44 : decode cX8_likely 44 = .ok (.ldc2_w 202, 3) := by decide +kernel
theorem dX8_likely_47 : decode cX8_likely 47 = .ok (.iload 5, 2) := by decide +kernel
theorem dX8_likely_49 : decode cX8_likely 49 = .ok (.i2l, 1) := by decide +kernel
theorem dX8_likely_50 : decode cX8_likely 50 = .ok (.ladd, 1) := by decide +kernel
theorem dX8_likely_51 : decode cX8_likely 51 = .ok (.lreturn, 1) := by decide +kernel
theorem dX8_likely_52 : decode cX8_likely 52 = .ok (.aload_n 0, 1) := by decide +kernel
theorem dX8_likely_53 : decode cX8_likely 53 = .ok (.getfield 49, 3) := by decide +kernel
theorem dX8_likely_56 : decode cX8_likely 56 = .ok (.aload_n 0, 1) := by decide +kernel
theorem dX8_likely_57 : decode cX8_likely 57 = .ok (.getfield 10, 3) := by decide +kernel
theorem dX8_likely_60 : decode cX8_likely 60 = .ok (.aload_n 0, 1) := by decide +kernel
theorem dX8_likely_61 : decode cX8_likely 61 = .ok (.getfield 25, 3) := by decide +kernel
theorem dX8_likely_64 : decode cX8_likely 64 = .ok (.invokevirtual 165, 3) := by decide +kernel
theorem dX8_likely_67 : decode cX8_likely 67 = .ok (.aload_n 0, 1) := by decide +kernel
theorem dX8_likely_68 : decode cX8_likely 68 = .ok (.getfield 63, 3) := by decide +kernel
theorem dX8_likely_71 : decode cX8_likely 71 = .ok (.aload_n 0, 1) := by decide +kernel
theorem dX8_likely_72 : decode cX8_likely 72 = .ok (.getfield 10, 3) := by decide +kernel
theorem dX8_likely_75 : decode cX8_likely 75 = .ok (.invokevirtual 204, 3) := by decide +kernel
theorem dX8_likely_78 : decode cX8_likely 78 = .ok (.aload_n 0, 1) := by decide +kernel
theorem dX8_likely_79 : decode cX8_likely 79 = .ok (.getfield 63, 3) := by decide +kernel
theorem dX8_likely_82 : decode cX8_likely 82 = .ok (.aload_n 0, 1) := by decide +kernel
theorem dX8_likely_83 : decode cX8_likely 83 = .ok (.getfield 49, 3) := by decide +kernel
theorem dX8_likely_86 : decode cX8_likely 86 = .ok (.iload_n 3, 1) := by decide +kernel
theorem dX8_likely_87 : decode cX8_likely 87 = .ok (.iload_n 1, 1) := by decide +kernel
theorem dX8_likely_88 : decode cX8_likely 88 = .ok (.iload_n 2, 1) := by decide +kernel
theorem dX8_likely_89 : decode cX8_likely 89 = .ok (.invokevirtual 208, 3) := by decide +kernel
theorem dX8_likely_92 : decode cX8_likely 92 = .ok (.aload_n 0, 1) := by decide +kernel
theorem dX8_likely_93 : decode cX8_likely 93 = .ok (.getfield 63, 3) := by decide +kernel
theorem dX8_likely_96 : decode cX8_likely 96 = .ok (.aload_n 0, 1) := by decide +kernel
theorem dX8_likely_97 : decode cX8_likely 97 = .ok (.getfield 49, 3) := by decide +kernel
theorem dX8_likely_100 : decode cX8_likely 100 = .ok (.invokevirtual 212, 3) := by decide +kernel
theorem dX8_likely_103 : decode cX8_likely 103 = .ok (.iload 4, 2) := by decide +kernel
theorem dX8_likely_105 : decode cX8_likely 105 = .ok (.invokestatic 216, 3) := by decide +kernel
theorem dX8_likely_108 : decode cX8_likely 108 = .ok (.lreturn, 1) := by decide +kernel
theorem dX8_mean_0 : decode cX8_mean 0 = .ok (.aload_n 0, 1) := by decide +kernel
theorem dX8_mean_1 : decode cX8_mean 1 = .ok (.iload_n 1, 1) := by decide +kernel
theorem dX8_mean_2 : decode cX8_mean 2 = .ok (.iconst 0, 1) := by decide +kernel
theorem dX8_mean_3 : decode cX8_mean 3 = .ok (.bipush 10, 2) := by decide +kernel
theorem dX8_mean_5 : decode cX8_mean 5 = .ok (.invokestatic 74, 3) := by decide +kernel
theorem dX8_mean_8 : decode cX8_mean 8 = .ok (.ifCond .eq 16, 3) := by decide +kernel
theorem dX8_mean_11 : decode cX8_mean 11 = .ok (.iload_n 2, 1) := by decide +kernel
theorem dX8_mean_12 : decode cX8_mean 12 = .ok (.iconst 0, 1) := by decide +kernel
theorem dX8_mean_13 : decode cX8_mean 13 = .ok (.iconst 1, 1) := by decide +kernel
theorem dX8_mean_14 : decode cX8_mean 14 = .ok (.invokestatic 74, 3) := by decide +kernel
theorem dX8_mean_17 : decode cX8_mean 17 = .ok (.ifCond .eq 7, 3) := by decide +kernel
theorem dX8_mean_20 : decode cX8_mean 20 = .ok (.iconst 1, 1) := by decide +kernel
theorem dX8_mean_21 : decode cX8_mean 21 = .ok (.goto 4, 3) := by decide +kernel
theorem dX8_mean_24 : decode cX8_mean 24 = .ok (.iconst 0, 1) := by decide +kernel
theorem dX8_mean_25 : decode cX8_mean 25 = .ok (.invokevirtual 195, 3) := by decide +kernel
theorem dX8_mean_28 : decode cX8_mean 28 = .ok (.istore_n 3, 1) := by decide +kernel
theorem dX8_mean_29 : decode cX8_mean 29 = .ok (.iload_n 3, 1) := by decide +kernel
theorem dX8_mean_30 : decode cX8_mean 30 = .ok (.ifCond .eq 10, 3) := by decide +kernel
theorem dX8_mean_33 : decode cX8_mean 33 = .ok (.ldc2_w 202, 3) := by decide +kernel
theorem dX8_mean_36 : decode cX8_mean 36 = .ok (.iload_n 3, 1) := by decide +kernel
theorem dX8_mean_37 : decode cX8_mean 37 = .ok (.i2l, 1) := by decide +kernel
theorem dX8_mean_38 : decode cX8_mean 38 = .ok (.ladd, 1) := by decide +kernel
theorem dX8_mean_39 : decode cX8_mean 39 = .ok (.lreturn, 1) := by decide +kernel
theorem dX8_mean_40 : decode cX8_mean 40 = .ok (.aload_n 0, 1) := by decide +kernel
theorem dX8_mean_41 : decode cX8_mean 41 = .ok (.getfield 49, 3) := by decide +kernel
theorem dX8_mean_44 : decode cX8_mean 44 = .ok (.aload_n 0, 1) := by decide +kernel
theorem dX8_mean_45 : decode cX8_mean 45 = .ok (.getfield 10, 3) := by decide +kernel
theorem dX8_mean_48 : decode cX8_mean 48 = .ok (.aload_n 0, 1) := by decide +kernel
theorem dX8_mean_49 : decode cX8_mean 49 = .ok (.getfield 25, 3) := by decide +kernel
theorem dX8_mean_52 : decode cX8_mean 52 = .ok (.invokevirtual 165, 3) := by decide +kernel
theorem dX8_mean_55 : decode cX8_mean 55 = .ok (.aload_n 0, 1) := by decide +kernel
theorem dX8_mean_56 : decode cX8_mean 56 = .ok (.getfield 63, 3) := by decide +kernel
theorem dX8_mean_59 : decode cX8_mean 59 = .ok (.aload_n 0, 1) := by decide +kernel
theorem dX8_mean_60 : decode cX8_mean 60 = .ok (.getfield 10, 3) := by decide +kernel
theorem dX8_mean_63 : decode cX8_mean 63 = .ok (.invokevirtual 204, 3) := by decide +kernel
theorem dX8_mean_66 : decode cX8_mean 66 = .ok (.aload_n 0, 1) := by decide +kernel
theorem dX8_mean_67 : decode cX8_mean 67 = .ok (.getfield 63, 3) := by decide +kernel
theorem dX8_mean_70 : decode cX8_mean 70 = .ok (.aload_n 0, 1) := by decide +kernel
theorem dX8_mean_71 : decode cX8_mean 71 = .ok (.getfield 49, 3) := by decide +kernel
theorem dX8_mean_74 : decode cX8_mean 74 = .ok (.invokevirtual 212, 3) := by decide +kernel
theorem dX8_mean_77 : decode cX8_mean 77 = .ok (.lstore 4, 2) := by decide +kernel
theorem dX8_mean_79 : decode cX8_mean 79 = .ok (.aload_n 0, 1) := by decide +kernel
theorem dX8_mean_80 : decode cX8_mean 80 = .ok (.getfield 63, 3) := by decide +kernel
theorem dX8_mean_83 : decode cX8_mean 83 = .ok (.aload_n 0, 1) := by decide +kernel
theorem dX8_mean_84 : decode cX8_mean 84 = .ok (.getfield 49, 3) := by decide +kernel
theorem dX8_mean_87 : decode cX8_mean 87 = .ok (.iload_n 1, 1) := by decide +kernel
theorem dX8_mean_88 : decode cX8_mean 88 = .ok (.invokevirtual 220, 3) := by decide +kernel
theorem dX8_mean_91 : decode cX8_mean 91 = .ok (.ldc2_w 224, 3) := by decide +kernel
theorem dX8_mean_94 : decode cX8_mean 94 = .ok (.lload 4, 2) := by decide +kernel
theorem dX8_mean_96 : decode cX8_mean 96 = .ok (.lmul, 1) := by decide +kernel
theorem dX8_mean_97 : decode cX8_mean 97 = .ok (.ladd, 1) := by decide +kernel
theorem dX8_mean_98 : decode cX8_mean 98 = .ok (.lload 4, 2) := by decide +kernel
theorem dX8_mean_100 : decode cX8_mean 100 = .ok (.iload_n 2, 1) := by decide +kernel
theorem dX8_mean_101 : decode cX8_mean 101 = .ok (.invokestatic 216, 3) := by decide +kernel
theorem dX8_mean_104 : decode cX8_mean 104 = .ok (.lreturn, 1) := by decide +kernel
theorem dX8_fell_0 : decode cX8_fell 0 = .ok (.iload_n 1, 1) := by decide +kernel
theorem dX8_fell_1 : decode cX8_fell 1 = .ok (.invokestatic 105, 3) := by decide +kernel
theorem dX8_fell_4 : decode cX8_fell 4 = .ok (.ifCond .ne 5, 3) := by decide +kernel
theorem dX8_fell_7 : decode cX8_fell 7 = .ok (.iconst (-1), 1) := by decide +kernel
theorem dX8_fell_8 : decode cX8_fell 8 = .ok (.ireturn, 1) := by decide +kernel
theorem dX8_fell_9 : decode cX8_fell 9 = .ok (.iload_n 2, 1) := by decide +kernel
theorem dX8_fell_10 : decode cX8_fell 10 = .ok (.invokestatic 158, 3) := by decide +kernel
theorem dX8_fell_13 : decode cX8_fell 13 = .ok (.ifCond .ne 6, 3) := by decide +kernel
theorem dX8_fell_16 : decode cX8_fell 16 = .ok (.bipush (-2), 2) := by decide +kernel
theorem dX8_fell_18 : decode cX8_fell 18 = .ok (.ireturn, 1) := by decide +kernel
theorem dX8_fell_19 : decode cX8_fell 19 = .ok (.aload_n 0, 1) := by decide +kernel
theorem dX8_fell_20 : decode cX8_fell 20 = .ok (.getfield 10, 3) := by decide +kernel
theorem dX8_fell_23 : decode cX8_fell 23 = .ok (.invokevirtual 226, 3) := by decide +kernel
theorem dX8_fell_26 : decode cX8_fell 26 = .ok (.bipush 6, 2) := by decide +kernel
theorem dX8_fell_28 : decode cX8_fell 28 = .ok (.if_icmp .lt 6, 3) := by decide +kernel
theorem dX8_fell_31 : decode cX8_fell 31 = .ok (.bipush (-4), 2) := by decide +kernel
theorem dX8_fell_33 : decode cX8_fell 33 = .ok (.ireturn, 1) := by decide +kernel
theorem dX8_fell_34 : decode cX8_fell 34 = .ok (.aload_n 0, 1) := by decide +kernel
theorem dX8_fell_35 : decode cX8_fell 35 = .ok (.getfield 10, 3) := by decide +kernel
theorem dX8_fell_38 : decode cX8_fell 38 = .ok (.iload_n 1, 1) := by decide +kernel
theorem dX8_fell_39 : decode cX8_fell 39 = .ok (.iload_n 2, 1) := by decide +kernel
theorem dX8_fell_40 : decode cX8_fell 40 = .ok (.invokevirtual 229, 3) := by decide +kernel
theorem dX8_fell_43 : decode cX8_fell 43 = .ok (.aload_n 0, 1) := by decide +kernel
theorem dX8_fell_44 : decode cX8_fell 44 = .ok (.getfield 10, 3) := by decide +kernel
theorem dX8_fell_47 : decode cX8_fell 47 = .ok (.invokevirtual 226, 3) := by decide +kernel
theorem dX8_fell_50 : decode cX8_fell 50 = .ok (.ireturn, 1) := by decide +kernel
theorem dX8_forget_0 : decode cX8_forget 0 = .ok (.aload_n 0, 1) := by decide +kernel
theorem dX8_forget_1 : decode cX8_forget 1 = .ok (.getfield 10, 3) := by decide +kernel
theorem dX8_forget_4 : decode cX8_forget 4 = .ok (.invokevirtual 226, 3) := by decide +kernel
theorem dX8_forget_7 : decode cX8_forget 7 = .ok (.istore_n 1, 1) := by decide +kernel
theorem dX8_forget_8 : decode cX8_forget 8 = .ok (.aload_n 0, 1) := by decide +kernel
theorem dX8_forget_9 : decode cX8_forget 9 = .ok (.getfield 10, 3) := by decide +kernel
theorem dX8_forget_12 : decode cX8_forget 12 = .ok (.invokevirtual 232, 3) := by decide +kernel
theorem dX8_forget_15 : decode cX8_forget 15 = .ok (.iload_n 1, 1) := by decide +kernel
theorem dX8_forget_16 : decode cX8_forget 16 = .ok (.ireturn, 1) := by decide +kernel
theorem dX8_starts_0 : decode cX8_starts 0 = .ok (.iload_n 1, 1) := by decide +kernel
theorem dX8_starts_1 : decode cX8_starts 1 = .ok (.iconst 0, 1) := by decide +kernel
theorem dX8_starts_2 : decode cX8_starts 2 = .ok (.iconst 2, 1) := by decide +kernel
theorem dX8_starts_3 : decode cX8_starts 3 = .ok (.invokestatic 74, 3) := by decide +kernel
theorem dX8_starts_6 : decode cX8_starts 6 = .ok (.ifCond .ne 6, 3) := by decide +kernel
theorem dX8_starts_9 : decode cX8_starts 9 = .ok (.bipush (-2), 2) := by decide +kernel
theorem dX8_starts_11 : decode cX8_starts 11 = .ok (.ireturn, 1) := by decide +kernel
theorem dX8_starts_12 : decode cX8_starts 12 = .ok (.aload_n 0, 1) := by decide +kernel
theorem dX8_starts_13 : decode cX8_starts 13 = .ok (.invokevirtual 126, 3) := by decide +kernel
theorem dX8_starts_16 : decode cX8_starts 16 = .ok (.bipush (-6), 2) := by decide +kernel
theorem dX8_starts_18 : decode cX8_starts 18 = .ok (.if_icmp .eq 6, 3) := by decide +kernel
theorem dX8_starts_21 : decode cX8_starts 21 = .ok (.bipush (-5), 2) := by decide +kernel
theorem dX8_starts_23 : decode cX8_starts 23 = .ok (.ireturn, 1) := by decide +kernel
theorem dX8_starts_24 : decode cX8_starts 24 = .ok (.iconst 0, 1) := by decide +kernel
theorem dX8_starts_25 : decode cX8_starts 25 = .ok (.istore_n 2, 1) := by decide +kernel
theorem dX8_starts_26 : decode cX8_starts 26 = .ok (.bipush (-6), 2) := by decide +kernel
theorem dX8_starts_28 : decode cX8_starts 28 = .ok (.istore_n 3, 1) := by decide +kernel
theorem dX8_starts_29 : decode cX8_starts 29 = .ok (.bipush (-6), 2) := by decide +kernel
theorem dX8_starts_31 : decode cX8_starts 31 = .ok (.istore 4, 2) := by decide +kernel
theorem dX8_starts_33 : decode cX8_starts 33 = .ok (.iconst 0, 1) := by decide +kernel
theorem dX8_starts_34 : decode cX8_starts 34 = .ok (.istore 5, 2) := by decide +kernel
theorem dX8_starts_36 : decode cX8_starts 36 = .ok (.iload 5, 2) := by decide +kernel
theorem dX8_starts_38 : decode cX8_starts 38 = .ok (.bipush 100, 2) := by decide +kernel
theorem dX8_starts_40 : decode cX8_starts 40 = .ok (.if_icmp .ge 38, 3) := by decide +kernel
theorem dX8_starts_43 : decode cX8_starts 43 = .ok (.aload_n 0, 1) := by decide +kernel
theorem dX8_starts_44 : decode cX8_starts 44 = .ok (.iload 5, 2) := by decide +kernel
theorem dX8_starts_46 : decode cX8_starts 46 = .ok (.invokevirtual 235, 3) := by decide +kernel
theorem dX8_starts_49 : decode cX8_starts 49 = .ok (.ifCond .eq 23, 3) := by decide +kernel
theorem dX8_starts_52 : decode cX8_starts 52 = .ok (.iinc 2 1, 3) := by decide +kernel
theorem dX8_starts_55 : decode cX8_starts 55 = .ok (.iload_n 3, 1) := by decide +kernel
theorem dX8_starts_56 : decode cX8_starts 56 = .ok (.bipush (-6), 2) := by decide +kernel
theorem dX8_starts_58 : decode cX8_starts 58 = .ok (.if_icmp .ne 8, 3) := by decide +kernel
theorem dX8_starts_61 : decode cX8_starts 61 = .ok (.iload 5, 2) := by decide +kernel
theorem dX8_starts_63 : decode cX8_starts 63 = .ok (.goto 4, 3) := by decide +kernel
theorem dX8_starts_66 : decode cX8_starts 66 = .ok (.iload_n 3, 1) := by decide +kernel
theorem dX8_starts_67 : decode cX8_starts 67 = .ok (.istore_n 3, 1) := by decide +kernel
theorem dX8_starts_68 : decode cX8_starts 68 = .ok (.iload 5, 2) := by decide +kernel
theorem dX8_starts_70 : decode cX8_starts 70 = .ok (.istore 4, 2) := by decide +kernel
theorem dX8_starts_72 : decode cX8_starts 72 = .ok (.iinc 5 1, 3) := by decide +kernel
theorem dX8_starts_75 : decode cX8_starts 75 = .ok (.goto (-39), 3) := by decide +kernel
theorem dX8_starts_78 : decode cX8_starts 78 = .ok (.iload_n 1, 1) := by decide +kernel
theorem dX8_starts_79 : decode cX8_starts 79 = .ok (.iload_n 2, 1) := by decide +kernel
theorem dX8_starts_80 : decode cX8_starts 80 = .ok (.iload_n 3, 1) := by decide +kernel
theorem dX8_starts_81 : decode cX8_starts 81 = .ok (.iload 4, 2) := by decide +kernel
theorem dX8_starts_83 : decode cX8_starts 83 = .ok (.invokestatic 238, 3) := by decide +kernel
theorem dX8_starts_86 : decode cX8_starts 86 = .ok (.ireturn, 1) := by decide +kernel
theorem dX8_ahead_0 : decode cX8_ahead 0 = .ok (.aload_n 0, 1) := by decide +kernel
theorem dX8_ahead_1 : decode cX8_ahead 1 = .ok (.iload_n 1, 1) := by decide +kernel
theorem dX8_ahead_2 : decode cX8_ahead 2 = .ok (.iconst 0, 1) := by decide +kernel
theorem dX8_ahead_3 : decode cX8_ahead 3 = .ok (.bipush 63, 2) := by decide +kernel
theorem dX8_ahead_5 : decode cX8_ahead 5 = .ok (.invokestatic 74, 3) := by decide +kernel
theorem dX8_ahead_8 : decode cX8_ahead 8 = .ok (.ifCond .eq 16, 3) := by decide +kernel
theorem dX8_ahead_11 : decode cX8_ahead 11 = .ok (.iload_n 2, 1) := by decide +kernel
theorem dX8_ahead_12 : decode cX8_ahead 12 = .ok (.iconst 0, 1) := by decide +kernel
theorem dX8_ahead_13 : decode cX8_ahead 13 = .ok (.iconst 1, 1) := by decide +kernel
theorem dX8_ahead_14 : decode cX8_ahead 14 = .ok (.invokestatic 74, 3) := by decide +kernel
theorem dX8_ahead_17 : decode cX8_ahead 17 = .ok (.ifCond .eq 7, 3) := by decide +kernel
theorem dX8_ahead_20 : decode cX8_ahead 20 = .ok (.iconst 1, 1) := by decide +kernel
theorem dX8_ahead_21 : decode cX8_ahead 21 = .ok (.goto 4, 3) := by decide +kernel
theorem dX8_ahead_24 : decode cX8_ahead 24 = .ok (.iconst 0, 1) := by decide +kernel
theorem dX8_ahead_25 : decode cX8_ahead 25 = .ok (.invokevirtual 195, 3) := by decide +kernel
theorem dX8_ahead_28 : decode cX8_ahead 28 = .ok (.istore_n 3, 1) := by decide +kernel
theorem dX8_ahead_29 : decode cX8_ahead 29 = .ok (.iload_n 3, 1) := by decide +kernel
theorem dX8_ahead_30 : decode cX8_ahead 30 = .ok (.ifCond .eq 5, 3) := by decide +kernel
theorem dX8_ahead_33 : decode cX8_ahead 33 = .ok (.iload_n 3, 1) := by decide +kernel
theorem dX8_ahead_34 : decode cX8_ahead 34 = .ok (.ireturn, 1) := by decide +kernel
theorem dX8_ahead_35 : decode cX8_ahead 35 = .ok (.aload_n 0, 1) := by decide +kernel
theorem dX8_ahead_36 : decode cX8_ahead 36 = .ok (.getfield 10, 3) := by decide +kernel
theorem dX8_ahead_39 : decode cX8_ahead 39 = .ok (.invokevirtual 172, 3) := by decide +kernel
theorem dX8_ahead_42 : decode cX8_ahead 42 = .ok (.istore 4, 2) := by decide +kernel
theorem dX8_ahead_44 : decode cX8_ahead 44 = .ok (.aload_n 0, 1) := by decide +kernel
theorem dX8_ahead_45 : decode cX8_ahead 45 = .ok (.getfield 32, 3) := by decide +kernel
theorem dX8_ahead_48 : decode cX8_ahead 48 = .ok (.aload_n 0, 1) := by decide +kernel
theorem dX8_ahead_49 : decode cX8_ahead 49 = .ok (.getfield 10, 3) := by decide +kernel
theorem dX8_ahead_52 : decode cX8_ahead 52 = .ok (.iconst 1, 1) := by decide +kernel
theorem dX8_ahead_53 : decode cX8_ahead 53 = .ok (.invokevirtual 97, 3) := by decide +kernel
theorem dX8_ahead_56 : decode cX8_ahead 56 = .ok (.iload 4, 2) := by decide +kernel
theorem dX8_ahead_58 : decode cX8_ahead 58 = .ok (.iconst 0, 1) := by decide +kernel
theorem dX8_ahead_59 : decode cX8_ahead 59 = .ok (.invokevirtual 242, 3) := by decide +kernel
theorem dX8_ahead_62 : decode cX8_ahead 62 = .ok (.aload_n 0, 1) := by decide +kernel
theorem dX8_ahead_63 : decode cX8_ahead 63 = .ok (.getfield 36, 3) := by decide +kernel
theorem dX8_ahead_66 : decode cX8_ahead 66 = .ok (.aload_n 0, 1) := by decide +kernel
theorem dX8_ahead_67 : decode cX8_ahead 67 = .ok (.getfield 10, 3) := by decide +kernel
theorem dX8_ahead_70 : decode cX8_ahead 70 = .ok (.iconst 1, 1) := by decide +kernel
theorem dX8_ahead_71 : decode cX8_ahead 71 = .ok (.invokevirtual 97, 3) := by decide +kernel
theorem dX8_ahead_74 : decode cX8_ahead 74 = .ok (.iload 4, 2) := by decide +kernel
theorem dX8_ahead_76 : decode cX8_ahead 76 = .ok (.iload_n 1, 1) := by decide +kernel
theorem dX8_ahead_77 : decode cX8_ahead 77 = .ok (.iand, 1) := by decide +kernel
theorem dX8_ahead_78 : decode cX8_ahead 78 = .ok (.iconst 0, 1) := by decide +kernel
theorem dX8_ahead_79 : decode cX8_ahead 79 = .ok (.invokevirtual 242, 3) := by decide +kernel
theorem dX8_ahead_82 : decode cX8_ahead 82 = .ok (.iconst 0, 1) := by decide +kernel
theorem dX8_ahead_83 : decode cX8_ahead 83 = .ok (.istore 5, 2) := by decide +kernel
theorem dX8_ahead_85 : decode cX8_ahead 85 = .ok (.iconst 0, 1) := by decide +kernel
theorem dX8_ahead_86 : decode cX8_ahead 86 = .ok (.istore 6, 2) := by decide +kernel
theorem dX8_ahead_88 : decode cX8_ahead 88 = .ok (.aload_n 0, 1) := by decide +kernel
theorem dX8_ahead_89 : decode cX8_ahead 89 = .ok (.getfield 25, 3) := by decide +kernel
theorem dX8_ahead_92 : decode cX8_ahead 92 = .ok (.bipush 46, 2) := by decide +kernel
theorem dX8_ahead_94 : decode cX8_ahead 94 = .ok (.invokevirtual 129, 3) := by decide +kernel
theorem dX8_ahead_97 : decode cX8_ahead 97 = .ok (.istore 7, 2) := by decide +kernel
theorem dX8_ahead_99 : decode cX8_ahead 99 = .ok (.iload 7, 2) := by decide +kernel
theorem dX8_ahead_101 : decode cX8_ahead 101 = .ok (.ifCond .le 85, 3) := by decide +kernel
theorem dX8_ahead_104 : decode cX8_ahead 104 = .ok (.aload_n 0, 1) := by decide +kernel
theorem dX8_ahead_105 : decode cX8_ahead 105 = .ok (.getfield 32, 3) := by decide +kernel
theorem dX8_ahead_108 : decode cX8_ahead 108 = .ok (.aload_n 0, 1) := by decide +kernel
theorem dX8_ahead_109 : decode cX8_ahead 109 = .ok (.getfield 10, 3) := by decide +kernel
theorem dX8_ahead_112 : decode cX8_ahead 112 = .ok (.invokevirtual 245, 3) := by decide +kernel
theorem dX8_ahead_115 : decode cX8_ahead 115 = .ok (.aload_n 0, 1) := by decide +kernel
theorem dX8_ahead_116 : decode cX8_ahead 116 = .ok (.getfield 36, 3) := by decide +kernel
theorem dX8_ahead_119 : decode cX8_ahead 119 = .ok (.aload_n 0, 1) := by decide +kernel
theorem dX8_ahead_120 : decode cX8_ahead 120 = .ok (.getfield 10, 3) := by decide +kernel
theorem dX8_ahead_123 : decode cX8_ahead 123 = .ok (.invokevirtual 245, 3) := by decide +kernel
theorem dX8_ahead_126 : decode cX8_ahead 126 = .ok (.iload 5, 2) := by decide +kernel
theorem dX8_ahead_128 : decode cX8_ahead 128 = .ok (.aload_n 0, 1) := by decide +kernel
theorem dX8_ahead_129 : decode cX8_ahead 129 = .ok (.getfield 32, 3) := by decide +kernel
theorem dX8_ahead_132 : decode cX8_ahead 132 = .ok (.invokevirtual 135, 3) := by decide +kernel
theorem dX8_ahead_135 : decode cX8_ahead 135 = .ok (.aload_n 0, 1) := by decide +kernel
theorem dX8_ahead_136 : decode cX8_ahead 136 = .ok (.getfield 36, 3) := by decide +kernel
theorem dX8_ahead_139 : decode cX8_ahead 139 = .ok (.invokevirtual 135, 3) := by decide +kernel
theorem dX8_ahead_142 : decode cX8_ahead 142 = .ok (.if_icmp .le 7, 3) := by decide +kernel
theorem dX8_ahead_145 : decode cX8_ahead 145 = .ok (.iconst 1, 1) := by decide +kernel
theorem dX8_ahead_146 : decode cX8_ahead 146 = .ok (.goto 4, 3) := by decide +kernel
theorem dX8_ahead_149 : decode cX8_ahead 149 = .ok (.iconst 0, 1) := by decide +kernel
theorem dX8_ahead_150 : decode cX8_ahead 150 = .ok (.iadd, 1) := by decide +kernel
theorem dX8_ahead_151 : decode cX8_ahead 151 = .ok (.istore 5, 2) := by decide +kernel
theorem dX8_ahead_153 : decode cX8_ahead 153 = .ok (.iload 6, 2) := by decide +kernel
theorem dX8_ahead_155 : decode cX8_ahead 155 = .ok (.aload_n 0, 1) := by decide +kernel
theorem dX8_ahead_156 : decode cX8_ahead 156 = .ok (.getfield 36, 3) := by decide +kernel
theorem dX8_ahead_159 : decode cX8_ahead 159 = .ok (.invokevirtual 135, 3) := by decide +kernel
theorem dX8_ahead_162 : decode cX8_ahead 162 = .ok (.aload_n 0, 1) := by decide +kernel
theorem dX8_ahead_163 : decode cX8_ahead 163 = .ok (.getfield 32, 3) := by decide +kernel
theorem dX8_ahead_166 : decode cX8_ahead 166 = .ok (.invokevirtual 135, 3) := by decide +kernel
theorem dX8_ahead_169 : decode cX8_ahead 169 = .ok (.if_icmp .le 7, 3) := by decide +kernel
theorem dX8_ahead_172 : decode cX8_ahead 172 = .ok (.iconst 1, 1) := by decide +kernel
theorem dX8_ahead_173 : decode cX8_ahead 173 = .ok (.goto 4, 3) := by decide +kernel
theorem dX8_ahead_176 : decode cX8_ahead 176 = .ok (.iconst 0, 1) := by decide +kernel
theorem dX8_ahead_177 : decode cX8_ahead 177 = .ok (.iadd, 1) := by decide +kernel
theorem dX8_ahead_178 : decode cX8_ahead 178 = .ok (.istore 6, 2) := by decide +kernel
theorem dX8_ahead_180 : decode cX8_ahead 180 = .ok (.iinc 7 (-1), 3) := by decide +kernel
theorem dX8_ahead_183 : decode cX8_ahead 183 = .ok (.goto (-84), 3) := by decide +kernel
theorem dX8_ahead_186 : decode cX8_ahead 186 = .ok (.iload_n 2, 1) := by decide +kernel
theorem dX8_ahead_187 : decode cX8_ahead 187 = .ok (.ifCond .ne 8, 3) := by decide +kernel
theorem dX8_ahead_190 : decode cX8_ahead 190 = .ok (.iload 5, 2) := by decide +kernel
theorem dX8_ahead_192 : decode cX8_ahead 192 = .ok (.goto 5, 3) := by decide +kernel
theorem dX8_ahead_195 : decode cX8_ahead 195 = .ok (.iload 6, 2) := by decide +kernel
theorem dX8_ahead_197 : decode cX8_ahead 197 = .ok (.ireturn, 1) := by decide +kernel
theorem dX8_year_0 : decode cX8_year 0 = .ok (.iload_n 1, 1) := by decide +kernel
theorem dX8_year_1 : decode cX8_year 1 = .ok (.iconst 0, 1) := by decide +kernel
theorem dX8_year_2 : decode cX8_year 2 = .ok (.sipush 9999, 3) := by decide +kernel
theorem dX8_year_5 : decode cX8_year 5 = .ok (.invokestatic 74, 3) := by decide +kernel
theorem dX8_year_8 : decode cX8_year 8 = .ok (.ifCond .eq 22, 3) := by decide +kernel
theorem dX8_year_11 : decode cX8_year 11 = .ok (.iload_n 2, 1) := by decide +kernel
theorem dX8_year_12 : decode cX8_year 12 = .ok (.iconst 1, 1) := by decide +kernel
theorem dX8_year_13 : decode cX8_year 13 = .ok (.bipush 60, 2) := by decide +kernel
theorem dX8_year_15 : decode cX8_year 15 = .ok (.invokestatic 74, 3) := by decide +kernel
theorem dX8_year_18 : decode cX8_year 18 = .ok (.ifCond .eq 12, 3) := by decide +kernel
theorem dX8_year_21 : decode cX8_year 21 = .ok (.iload_n 3, 1) := by decide +kernel
theorem dX8_year_22 : decode cX8_year 22 = .ok (.iconst 0, 1) := by decide +kernel
theorem dX8_year_23 : decode cX8_year 23 = .ok (.iconst 2, 1) := by decide +kernel
theorem dX8_year_24 : decode cX8_year 24 = .ok (.invokestatic 74, 3) := by decide +kernel
theorem dX8_year_27 : decode cX8_year 27 = .ok (.ifCond .ne 6, 3) := by decide +kernel
theorem dX8_year_30 : decode cX8_year 30 = .ok (.bipush (-2), 2) := by decide +kernel
theorem dX8_year_32 : decode cX8_year 32 = .ok (.ireturn, 1) := by decide +kernel
theorem dX8_year_33 : decode cX8_year 33 = .ok (.iconst 0, 1) := by decide +kernel
theorem dX8_year_34 : decode cX8_year 34 = .ok (.istore 4, 2) := by decide +kernel
theorem dX8_year_36 : decode cX8_year 36 = .ok (.sipush 600, 3) := by decide +kernel
theorem dX8_year_39 : decode cX8_year 39 = .ok (.istore 5, 2) := by decide +kernel
theorem dX8_year_41 : decode cX8_year 41 = .ok (.sipush (-600), 3) := by decide +kernel
theorem dX8_year_44 : decode cX8_year 44 = .ok (.istore 6, 2) := by decide +kernel
theorem dX8_year_46 : decode cX8_year 46 = .ok (.iload_n 1, 1) := by decide +kernel
theorem dX8_year_47 : decode cX8_year 47 = .ok (.istore 7, 2) := by decide +kernel
theorem dX8_year_49 : decode cX8_year 49 = .ok (.iconst 0, 1) := by decide +kernel
theorem dX8_year_50 : decode cX8_year 50 = .ok (.istore 8, 2) := by decide +kernel
theorem dX8_year_52 : decode cX8_year 52 = .ok (.iload 8, 2) := by decide +kernel
theorem dX8_year_54 : decode cX8_year 54 = .ok (.iload_n 2, 1) := by decide +kernel
theorem dX8_year_55 : decode cX8_year 55 = .ok (.if_icmp .ge 57, 3) := by decide +kernel
theorem dX8_year_58 : decode cX8_year 58 = .ok (.aload_n 0, 1) := by decide +kernel
theorem dX8_year_59 : decode cX8_year 59 = .ok (.iload 7, 2) := by decide +kernel
theorem dX8_year_61 : decode cX8_year 61 = .ok (.invokevirtual 248, 3) := by decide +kernel
theorem dX8_year_64 : decode cX8_year 64 = .ok (.istore 7, 2) := by decide +kernel
theorem dX8_year_66 : decode cX8_year 66 = .ok (.iload 4, 2) := by decide +kernel
theorem dX8_year_68 : decode cX8_year 68 = .ok (.aload_n 0, 1) := by decide +kernel
theorem dX8_year_69 : decode cX8_year 69 = .ok (.getfield 32, 3) := by decide +kernel
theorem dX8_year_72 : decode cX8_year 72 = .ok (.invokevirtual 135, 3) := by decide +kernel
theorem dX8_year_75 : decode cX8_year 75 = .ok (.iadd, 1) := by decide +kernel
theorem dX8_year_76 : decode cX8_year 76 = .ok (.istore 4, 2) := by decide +kernel
theorem dX8_year_78 : decode cX8_year 78 = .ok (.iload 5, 2) := by decide +kernel
theorem dX8_year_80 : decode cX8_year 80 = .ok (.aload_n 0, 1) := by decide +kernel
theorem dX8_year_81 : decode cX8_year 81 = .ok (.getfield 32, 3) := by decide +kernel
theorem dX8_year_84 : decode cX8_year 84 = .ok (.invokevirtual 135, 3) := by decide +kernel
theorem dX8_year_87 : decode cX8_year 87 = .ok (.invokestatic 251, 3) := by decide +kernel
theorem dX8_year_90 : decode cX8_year 90 = .ok (.istore 5, 2) := by decide +kernel
theorem dX8_year_92 : decode cX8_year 92 = .ok (.iload 6, 2) := by decide +kernel
theorem dX8_year_94 : decode cX8_year 94 = .ok (.aload_n 0, 1) := by decide +kernel
theorem dX8_year_95 : decode cX8_year 95 = .ok (.getfield 32, 3) := by decide +kernel
theorem dX8_year_98 : decode cX8_year 98 = .ok (.invokevirtual 135, 3) := by decide +kernel
theorem dX8_year_101 : decode cX8_year 101 = .ok (.invokestatic 256, 3) := by decide +kernel
theorem dX8_year_104 : decode cX8_year 104 = .ok (.istore 6, 2) := by decide +kernel
theorem dX8_year_106 : decode cX8_year 106 = .ok (.iinc 8 1, 3) := by decide +kernel
theorem dX8_year_109 : decode cX8_year 109 = .ok (.goto (-57), 3) := by decide +kernel
theorem dX8_year_112 : decode cX8_year 112 = .ok (.iload_n 3, 1) := by decide +kernel
theorem dX8_year_113 : decode cX8_year 113 = .ok (.iload 4, 2) := by decide +kernel
theorem dX8_year_115 : decode cX8_year 115 = .ok (.ldc_w 259, 3) := by decide +kernel
theorem dX8_year_118 : decode cX8_year 118 = .ok (.iadd, 1) := by decide +kernel
theorem dX8_year_119 : decode cX8_year 119 = .ok (.iload 5, 2) := by decide +kernel
theorem dX8_year_121 : decode cX8_year 121 = .ok (.sipush 1000, 3) := by decide +kernel
theorem dX8_year_124 : decode cX8_year 124 = .ok (.iadd, 1) := by decide +kernel
theorem dX8_year_125 : decode cX8_year 125 = .ok (.iload 6, 2) := by decide +kernel
theorem dX8_year_127 : decode cX8_year 127 = .ok (.sipush 1000, 3) := by decide +kernel
theorem dX8_year_130 : decode cX8_year 130 = .ok (.iadd, 1) := by decide +kernel
theorem dX8_year_131 : decode cX8_year 131 = .ok (.invokestatic 238, 3) := by decide +kernel
theorem dX8_year_134 : decode cX8_year 134 = .ok (.ireturn, 1) := by decide +kernel
theorem dX8_image_0 : decode cX8_image 0 = .ok (.iload_n 1, 1) := by decide +kernel
theorem dX8_image_1 : decode cX8_image 1 = .ok (.iconst 0, 1) := by decide +kernel
theorem dX8_image_2 : decode cX8_image 2 = .ok (.iconst 1, 1) := by decide +kernel
theorem dX8_image_3 : decode cX8_image 3 = .ok (.invokestatic 74, 3) := by decide +kernel
theorem dX8_image_6 : decode cX8_image 6 = .ok (.ifCond .ne 6, 3) := by decide +kernel
theorem dX8_image_9 : decode cX8_image 9 = .ok (.bipush (-2), 2) := by decide +kernel
theorem dX8_image_11 : decode cX8_image 11 = .ok (.ireturn, 1) := by decide +kernel
theorem dX8_image_12 : decode cX8_image 12 = .ok (.aload_n 0, 1) := by decide +kernel
theorem dX8_image_13 : decode cX8_image 13 = .ok (.iload_n 1, 1) := by decide +kernel
theorem dX8_image_14 : decode cX8_image 14 = .ok (.invokevirtual 260, 3) := by decide +kernel
theorem dX8_image_17 : decode cX8_image 17 = .ok (.aload_n 0, 1) := by decide +kernel
theorem dX8_image_18 : decode cX8_image 18 = .ok (.getfield 10, 3) := by decide +kernel
theorem dX8_image_21 : decode cX8_image 21 = .ok (.invokevirtual 264, 3) := by decide +kernel
theorem dX8_image_24 : decode cX8_image 24 = .ok (.iconst 1, 1) := by decide +kernel
theorem dX8_image_25 : decode cX8_image 25 = .ok (.ireturn, 1) := by decide +kernel
theorem dX8_restore_0 : decode cX8_restore 0 = .ok (.iload_n 1, 1) := by decide +kernel
theorem dX8_restore_1 : decode cX8_restore 1 = .ok (.iconst 0, 1) := by decide +kernel
theorem dX8_restore_2 : decode cX8_restore 2 = .ok (.iconst 1, 1) := by decide +kernel
theorem dX8_restore_3 : decode cX8_restore 3 = .ok (.invokestatic 74, 3) := by decide +kernel
theorem dX8_restore_6 : decode cX8_restore 6 = .ok (.ifCond .ne 6, 3) := by decide +kernel
theorem dX8_restore_9 : decode cX8_restore 9 = .ok (.bipush (-2), 2) := by decide +kernel
theorem dX8_restore_11 : decode cX8_restore 11 = .ok (.ireturn, 1) := by decide +kernel
theorem dX8_restore_12 : decode cX8_restore 12 = .ok (.aload_n 0, 1) := by decide +kernel
theorem dX8_restore_13 : decode cX8_restore 13 = .ok (.iload_n 1, 1) := by decide +kernel
theorem dX8_restore_14 : decode cX8_restore 14 = .ok (.invokevirtual 260, 3) := by decide +kernel
theorem dX8_restore_17 : decode cX8_restore 17 = .ok (.invokevirtual 267, 3) := by decide +kernel
theorem dX8_restore_20 : decode cX8_restore 20 = .ok (.ifCond .ne 6, 3) := by decide +kernel
theorem dX8_restore_23 : decode cX8_restore 23 = .ok (.bipush (-3), 2) := by decide +kernel
theorem dX8_restore_25 : decode cX8_restore 25 = .ok (.ireturn, 1) := by decide +kernel
theorem dX8_restore_26 : decode cX8_restore 26 = .ok (.aload_n 0, 1) := by decide +kernel
theorem dX8_restore_27 : decode cX8_restore 27 = .ok (.getfield 10, 3) := by decide +kernel
theorem dX8_restore_30 : decode cX8_restore 30 = .ok (.aload_n 0, 1) := by decide +kernel
theorem dX8_restore_31 : decode cX8_restore 31 = .ok (.iload_n 1, 1) := by decide +kernel
theorem dX8_restore_32 : decode cX8_restore 32 = .ok (.invokevirtual 260, 3) := by decide +kernel
theorem dX8_restore_35 : decode cX8_restore 35 = .ok (.invokevirtual 271, 3) := by decide +kernel
theorem dX8_restore_38 : decode cX8_restore 38 = .ok (.iconst 1, 1) := by decide +kernel
theorem dX8_restore_39 : decode cX8_restore 39 = .ok (.ireturn, 1) := by decide +kernel
theorem dX8_told_0 : decode cX8_told 0 = .ok (.iload_n 1, 1) := by decide +kernel
theorem dX8_told_1 : decode cX8_told 1 = .ok (.ifCond .ne 11, 3) := by decide +kernel
theorem dX8_told_4 : decode cX8_told 4 = .ok (.aload_n 0, 1) := by decide +kernel
theorem dX8_told_5 : decode cX8_told 5 = .ok (.getfield 25, 3) := by decide +kernel
theorem dX8_told_8 : decode cX8_told 8 = .ok (.invokevirtual 115, 3) := by decide +kernel
theorem dX8_told_11 : decode cX8_told 11 = .ok (.ireturn, 1) := by decide +kernel
theorem dX8_told_12 : decode cX8_told 12 = .ok (.iload_n 1, 1) := by decide +kernel
theorem dX8_told_13 : decode cX8_told 13 = .ok (.iconst 1, 1) := by decide +kernel
theorem dX8_told_14 : decode cX8_told 14 = .ok (.bipush 6, 2) := by decide +kernel
theorem dX8_told_16 : decode cX8_told 16 = .ok (.invokestatic 74, 3) := by decide +kernel
theorem dX8_told_19 : decode cX8_told 19 = .ok (.ifCond .eq 14, 3) := by decide +kernel
theorem dX8_told_22 : decode cX8_told 22 = .ok (.aload_n 0, 1) := by decide +kernel
theorem dX8_told_23 : decode cX8_told 23 = .ok (.getfield 10, 3) := by decide +kernel
theorem dX8_told_26 : decode cX8_told 26 = .ok (.iload_n 1, 1) := by decide +kernel
theorem dX8_told_27 : decode cX8_told 27 = .ok (.iconst 1, 1) := by decide +kernel
theorem dX8_told_28 : decode cX8_told 28 = .ok (.isub, 1) := by decide +kernel
theorem dX8_told_29 : decode cX8_told 29 = .ok (.invokevirtual 97, 3) := by decide +kernel
theorem dX8_told_32 : decode cX8_told 32 = .ok (.ireturn, 1) := by decide +kernel
theorem dX8_told_33 : decode cX8_told 33 = .ok (.iload_n 1, 1) := by decide +kernel
theorem dX8_told_34 : decode cX8_told 34 = .ok (.bipush 7, 2) := by decide +kernel
theorem dX8_told_36 : decode cX8_told 36 = .ok (.if_icmp .ne 11, 3) := by decide +kernel
theorem dX8_told_39 : decode cX8_told 39 = .ok (.aload_n 0, 1) := by decide +kernel
theorem dX8_told_40 : decode cX8_told 40 = .ok (.getfield 10, 3) := by decide +kernel
theorem dX8_told_43 : decode cX8_told 43 = .ok (.invokevirtual 226, 3) := by decide +kernel
theorem dX8_told_46 : decode cX8_told 46 = .ok (.ireturn, 1) := by decide +kernel
theorem dX8_told_47 : decode cX8_told 47 = .ok (.iload_n 1, 1) := by decide +kernel
theorem dX8_told_48 : decode cX8_told 48 = .ok (.bipush 10, 2) := by decide +kernel
theorem dX8_told_50 : decode cX8_told 50 = .ok (.bipush 15, 2) := by decide +kernel
theorem dX8_told_52 : decode cX8_told 52 = .ok (.invokestatic 74, 3) := by decide +kernel
theorem dX8_told_55 : decode cX8_told 55 = .ok (.ifCond .eq 15, 3) := by decide +kernel
theorem dX8_told_58 : decode cX8_told 58 = .ok (.aload_n 0, 1) := by decide +kernel
theorem dX8_told_59 : decode cX8_told 59 = .ok (.getfield 10, 3) := by decide +kernel
theorem dX8_told_62 : decode cX8_told 62 = .ok (.iload_n 1, 1) := by decide +kernel
theorem dX8_told_63 : decode cX8_told 63 = .ok (.bipush 10, 2) := by decide +kernel
theorem dX8_told_65 : decode cX8_told 65 = .ok (.isub, 1) := by decide +kernel
theorem dX8_told_66 : decode cX8_told 66 = .ok (.invokevirtual 109, 3) := by decide +kernel
theorem dX8_told_69 : decode cX8_told 69 = .ok (.ireturn, 1) := by decide +kernel
theorem dX8_told_70 : decode cX8_told 70 = .ok (.iload_n 1, 1) := by decide +kernel
theorem dX8_told_71 : decode cX8_told 71 = .ok (.bipush 20, 2) := by decide +kernel
theorem dX8_told_73 : decode cX8_told 73 = .ok (.bipush 24, 2) := by decide +kernel
theorem dX8_told_75 : decode cX8_told 75 = .ok (.invokestatic 74, 3) := by decide +kernel
theorem dX8_told_78 : decode cX8_told 78 = .ok (.ifCond .eq 19, 3) := by decide +kernel
theorem dX8_told_81 : decode cX8_told 81 = .ok (.aload_n 0, 1) := by decide +kernel
theorem dX8_told_82 : decode cX8_told 82 = .ok (.getfield 10, 3) := by decide +kernel
theorem dX8_told_85 : decode cX8_told 85 = .ok (.iload_n 1, 1) := by decide +kernel
theorem dX8_told_86 : decode cX8_told 86 = .ok (.bipush 20, 2) := by decide +kernel
theorem dX8_told_88 : decode cX8_told 88 = .ok (.isub, 1) := by decide +kernel
theorem dX8_told_89 : decode cX8_told 89 = .ok (.iconst 0, 1) := by decide +kernel
theorem dX8_told_90 : decode cX8_told 90 = .ok (.invokevirtual 78, 3) := by decide +kernel
theorem dX8_told_93 : decode cX8_told 93 = .ok (.bipush 100, 2) := by decide +kernel
theorem dX8_told_95 : decode cX8_told 95 = .ok (.iadd, 1) := by decide +kernel
theorem dX8_told_96 : decode cX8_told 96 = .ok (.ireturn, 1) := by decide +kernel
theorem dX8_told_97 : decode cX8_told 97 = .ok (.iload_n 1, 1) := by decide +kernel
theorem dX8_told_98 : decode cX8_told 98 = .ok (.bipush 30, 2) := by decide +kernel
theorem dX8_told_100 : decode cX8_told 100 = .ok (.bipush 34, 2) := by decide +kernel
theorem dX8_told_102 : decode cX8_told 102 = .ok (.invokestatic 74, 3) := by decide +kernel
theorem dX8_told_105 : decode cX8_told 105 = .ok (.ifCond .eq 19, 3) := by decide +kernel
theorem dX8_told_108 : decode cX8_told 108 = .ok (.aload_n 0, 1) := by decide +kernel
theorem dX8_told_109 : decode cX8_told 109 = .ok (.getfield 10, 3) := by decide +kernel
theorem dX8_told_112 : decode cX8_told 112 = .ok (.iload_n 1, 1) := by decide +kernel
theorem dX8_told_113 : decode cX8_told 113 = .ok (.bipush 30, 2) := by decide +kernel
theorem dX8_told_115 : decode cX8_told 115 = .ok (.isub, 1) := by decide +kernel
theorem dX8_told_116 : decode cX8_told 116 = .ok (.iconst 1, 1) := by decide +kernel
theorem dX8_told_117 : decode cX8_told 117 = .ok (.invokevirtual 78, 3) := by decide +kernel
theorem dX8_told_120 : decode cX8_told 120 = .ok (.bipush 100, 2) := by decide +kernel
theorem dX8_told_122 : decode cX8_told 122 = .ok (.iadd, 1) := by decide +kernel
theorem dX8_told_123 : decode cX8_told 123 = .ok (.ireturn, 1) := by decide +kernel
theorem dX8_told_124 : decode cX8_told 124 = .ok (.bipush (-2), 2) := by decide +kernel
theorem dX8_told_126 : decode cX8_told 126 = .ok (.ireturn, 1) := by decide +kernel
theorem dX8_within_0 : decode cX8_within 0 = .ok (.iload_n 0, 1) := by decide +kernel
theorem dX8_within_1 : decode cX8_within 1 = .ok (.iload_n 1, 1) := by decide +kernel
theorem dX8_within_2 : decode cX8_within 2 = .ok (.if_icmp .lt 12, 3) := by decide +kernel
theorem dX8_within_5 : decode cX8_within 5 = .ok (.iload_n 0, 1) := by decide +kernel
theorem dX8_within_6 : decode cX8_within 6 = .ok (.iload_n 2, 1) := by decide +kernel
theorem dX8_within_7 : decode cX8_within 7 = .ok (.if_icmp .gt 7, 3) := by decide +kernel
theorem dX8_within_10 : decode cX8_within 10 = .ok (.iconst 1, 1) := by decide +kernel
theorem dX8_within_11 : decode cX8_within 11 = .ok (.goto 4, 3) := by decide +kernel
theorem dX8_within_14 : decode cX8_within 14 = .ok (.iconst 0, 1) := by decide +kernel
theorem dX8_within_15 : decode cX8_within 15 = .ok (.ireturn, 1) := by decide +kernel
theorem dX8_isThing_0 : decode cX8_isThing 0 = .ok (.iload_n 0, 1) := by decide +kernel
theorem dX8_isThing_1 : decode cX8_isThing 1 = .ok (.iconst 0, 1) := by decide +kernel
theorem dX8_isThing_2 : decode cX8_isThing 2 = .ok (.iconst 5, 1) := by decide +kernel
theorem dX8_isThing_3 : decode cX8_isThing 3 = .ok (.invokestatic 74, 3) := by decide +kernel
theorem dX8_isThing_6 : decode cX8_isThing 6 = .ok (.ireturn, 1) := by decide +kernel
theorem dX8_isPlace_0 : decode cX8_isPlace 0 = .ok (.iload_n 0, 1) := by decide +kernel
theorem dX8_isPlace_1 : decode cX8_isPlace 1 = .ok (.sipush (-600), 3) := by decide +kernel
theorem dX8_isPlace_4 : decode cX8_isPlace 4 = .ok (.sipush 600, 3) := by decide +kernel
theorem dX8_isPlace_7 : decode cX8_isPlace 7 = .ok (.invokestatic 74, 3) := by decide +kernel
theorem dX8_isPlace_10 : decode cX8_isPlace 10 = .ok (.ireturn, 1) := by decide +kernel
theorem dX8_isStretch_0 : decode cX8_isStretch 0 = .ok (.iload_n 0, 1) := by decide +kernel
theorem dX8_isStretch_1 : decode cX8_isStretch 1 = .ok (.invokestatic 158, 3) := by decide +kernel
theorem dX8_isStretch_4 : decode cX8_isStretch 4 = .ok (.ifCond .eq 19, 3) := by decide +kernel
theorem dX8_isStretch_7 : decode cX8_isStretch 7 = .ok (.iload_n 1, 1) := by decide +kernel
theorem dX8_isStretch_8 : decode cX8_isStretch 8 = .ok (.invokestatic 158, 3) := by decide +kernel
theorem dX8_isStretch_11 : decode cX8_isStretch 11 = .ok (.ifCond .eq 12, 3) := by decide +kernel
theorem dX8_isStretch_14 : decode cX8_isStretch 14 = .ok (.iload_n 1, 1) := by decide +kernel
theorem dX8_isStretch_15 : decode cX8_isStretch 15 = .ok (.iload_n 0, 1) := by decide +kernel
theorem dX8_isStretch_16 : decode cX8_isStretch 16 = .ok (.if_icmp .lt 7, 3) := by decide +kernel
theorem dX8_isStretch_19 : decode cX8_isStretch 19 = .ok (.iconst 1, 1) := by decide +kernel
theorem dX8_isStretch_20 : decode cX8_isStretch 20 = .ok (.goto 4, 3) := by decide +kernel
theorem dX8_isStretch_23 : decode cX8_isStretch 23 = .ok (.iconst 0, 1) := by decide +kernel
theorem dX8_isStretch_24 : decode cX8_isStretch 24 = .ok (.ireturn, 1) := by decide +kernel
theorem dX8_courseRefusal_0 : decode cX8_courseRefusal 0 = .ok (.iload_n 1, 1) := by decide +kernel
theorem dX8_courseRefusal_1 : decode cX8_courseRefusal 1 = .ok (.ifCond .ne 6, 3) := by decide +kernel
theorem dX8_courseRefusal_4 : decode cX8_courseRefusal 4 = .ok (.bipush (-2), 2) := by decide +kernel
theorem dX8_courseRefusal_6 : decode cX8_courseRefusal 6 = .ok (.ireturn, 1) := by decide +kernel
theorem dX8_courseRefusal_7 : decode cX8_courseRefusal 7 = .ok (.aload_n 0, 1) := by decide +kernel
theorem dX8_courseRefusal_8 : decode cX8_courseRefusal 8 = .ok (.invokevirtual 126, 3) := by decide +kernel
theorem dX8_courseRefusal_11 : decode cX8_courseRefusal 11 = .ok (.bipush (-6), 2) := by decide +kernel
theorem dX8_courseRefusal_13 : decode cX8_courseRefusal 13 = .ok (.if_icmp .eq 6, 3) := by decide +kernel
theorem dX8_courseRefusal_16 : decode cX8_courseRefusal 16 = .ok (.bipush (-5), 2) := by decide +kernel
theorem dX8_courseRefusal_18 : decode cX8_courseRefusal 18 = .ok (.ireturn, 1) := by decide +kernel
theorem dX8_courseRefusal_19 : decode cX8_courseRefusal 19 = .ok (.aload_n 0, 1) := by decide +kernel
theorem dX8_courseRefusal_20 : decode cX8_courseRefusal 20 = .ok (.getfield 25, 3) := by decide +kernel
theorem dX8_courseRefusal_23 : decode cX8_courseRefusal 23 = .ok (.invokevirtual 274, 3) := by decide +kernel
theorem dX8_courseRefusal_26 : decode cX8_courseRefusal 26 = .ok (.ifCond .eq 8, 3) := by decide +kernel
theorem dX8_courseRefusal_29 : decode cX8_courseRefusal 29 = .ok (.bipush (-3), 2) := by decide +kernel
theorem dX8_courseRefusal_31 : decode cX8_courseRefusal 31 = .ok (.goto 4, 3) := by decide +kernel
theorem dX8_courseRefusal_34 : decode cX8_courseRefusal 34 = .ok (.iconst 0, 1) := by decide +kernel
theorem dX8_courseRefusal_35 : decode cX8_courseRefusal 35 = .ok (.ireturn, 1) := by decide +kernel
theorem dX8_choiceRefusal_0 : decode cX8_choiceRefusal 0 = .ok (.aload_n 0, 1) := by decide +kernel
theorem dX8_choiceRefusal_1 : decode cX8_choiceRefusal 1 = .ok (.iload_n 1, 1) := by decide +kernel
theorem dX8_choiceRefusal_2 : decode cX8_choiceRefusal 2 = .ok (.invokevirtual 195, 3) := by decide +kernel
theorem dX8_choiceRefusal_5 : decode cX8_choiceRefusal 5 = .ok (.istore_n 2, 1) := by decide +kernel
theorem dX8_choiceRefusal_6 : decode cX8_choiceRefusal 6 = .ok (.iload_n 2, 1) := by decide +kernel
theorem dX8_choiceRefusal_7 : decode cX8_choiceRefusal 7 = .ok (.ifCond .eq 5, 3) := by decide +kernel
theorem dX8_choiceRefusal_10 : decode cX8_choiceRefusal 10 = .ok (.iload_n 2, 1) := by decide +kernel
theorem dX8_choiceRefusal_11 : decode cX8_choiceRefusal 11 = .ok (.ireturn, 1) := by decide +kernel
theorem dX8_choiceRefusal_12 : decode cX8_choiceRefusal 12 = .ok (.aload_n 0, 1) := by decide +kernel
theorem dX8_choiceRefusal_13 : decode cX8_choiceRefusal 13 = .ok (.getfield 25, 3) := by decide +kernel
theorem dX8_choiceRefusal_16 : decode cX8_choiceRefusal 16 = .ok (.bipush 33, 2) := by decide +kernel
theorem dX8_choiceRefusal_18 : decode cX8_choiceRefusal 18 = .ok (.invokevirtual 129, 3) := by decide +kernel
theorem dX8_choiceRefusal_21 : decode cX8_choiceRefusal 21 = .ok (.bipush 6, 2) := by decide +kernel
theorem dX8_choiceRefusal_23 : decode cX8_choiceRefusal 23 = .ok (.if_icmp .le 8, 3) := by decide +kernel
theorem dX8_choiceRefusal_26 : decode cX8_choiceRefusal 26 = .ok (.bipush (-4), 2) := by decide +kernel
theorem dX8_choiceRefusal_28 : decode cX8_choiceRefusal 28 = .ok (.goto 4, 3) := by decide +kernel
theorem dX8_choiceRefusal_31 : decode cX8_choiceRefusal 31 = .ok (.iconst 0, 1) := by decide +kernel
theorem dX8_choiceRefusal_32 : decode cX8_choiceRefusal 32 = .ok (.ireturn, 1) := by decide +kernel
theorem dX8_thingOf_0 : decode cX8_thingOf 0 = .ok (.iload_n 0, 1) := by decide +kernel
theorem dX8_thingOf_1 : decode cX8_thingOf 1 = .ok (.bipush 97, 2) := by decide +kernel
theorem dX8_thingOf_3 : decode cX8_thingOf 3 = .ok (.isub, 1) := by decide +kernel
theorem dX8_thingOf_4 : decode cX8_thingOf 4 = .ok (.invokestatic 105, 3) := by decide +kernel
theorem dX8_thingOf_7 : decode cX8_thingOf 7 = .ok (.ifCond .eq 10, 3) := by decide +kernel
theorem dX8_thingOf_10 : decode cX8_thingOf 10 = .ok (.iload_n 0, 1) := by decide +kernel
theorem dX8_thingOf_11 : decode cX8_thingOf 11 = .ok (.bipush 97, 2) := by decide +kernel
theorem dX8_thingOf_13 : decode cX8_thingOf 13 = .ok (.isub, 1) := by decide +kernel
theorem dX8_thingOf_14 : decode cX8_thingOf 14 = .ok (.goto 5, 3) := by decide +kernel
theorem dX8_thingOf_17 : decode cX8_thingOf 17 = .ok (.bipush (-6), 2) := by decide +kernel
theorem dX8_thingOf_19 : decode cX8_thingOf 19 = .ok (.ireturn, 1) := by decide +kernel
theorem dX8_firstFault_0 : decode cX8_firstFault 0 = .ok (.aload_n 0, 1) := by decide +kernel
theorem dX8_firstFault_1 : decode cX8_firstFault 1 = .ok (.getfield 10, 3) := by decide +kernel
theorem dX8_firstFault_4 : decode cX8_firstFault 4 = .ok (.invokevirtual 172, 3) := by decide +kernel
theorem dX8_firstFault_7 : decode cX8_firstFault 7 = .ok (.istore_n 1, 1) := by decide +kernel
theorem dX8_firstFault_8 : decode cX8_firstFault 8 = .ok (.iconst 0, 1) := by decide +kernel
theorem dX8_firstFault_9 : decode cX8_firstFault 9 = .ok (.istore_n 2, 1) := by decide +kernel
theorem dX8_firstFault_10 : decode cX8_firstFault 10 = .ok (.iconst 0, 1) := by decide +kernel
theorem dX8_firstFault_11 : decode cX8_firstFault 11 = .ok (.istore_n 3, 1) := by decide +kernel
theorem dX8_firstFault_12 : decode cX8_firstFault 12 = .ok (.iload_n 3, 1) := by decide +kernel
theorem dX8_firstFault_13 : decode cX8_firstFault 13 = .ok (.aload_n 0, 1) := by decide +kernel
theorem dX8_firstFault_14 : decode cX8_firstFault 14 = .ok (.getfield 25, 3) := by decide +kernel
theorem dX8_firstFault_17 : decode cX8_firstFault 17 = .ok (.invokevirtual 115, 3) := by decide +kernel
theorem dX8_firstFault_20 : decode cX8_firstFault 20 = .ok (.if_icmp .ge 93, 3) := by decide +kernel
theorem dX8_firstFault_23 : decode cX8_firstFault 23 = .ok (.aload_n 0, 1) := by decide +kernel
theorem dX8_firstFault_24 : decode cX8_firstFault 24 = .ok (.getfield 25, 3) := by decide +kernel
theorem dX8_firstFault_27 : decode cX8_firstFault 27 = .ok (.iload_n 3, 1) := by decide +kernel
theorem dX8_firstFault_28 : decode cX8_firstFault 28 = .ok (.invokevirtual 277, 3) := by decide +kernel
theorem dX8_firstFault_31 : decode cX8_firstFault 31 = .ok (.istore 4, 2) := by decide +kernel
theorem dX8_firstFault_33 : decode cX8_firstFault 33 = .ok (.iload 4, 2) := by decide +kernel
theorem dX8_firstFault_35 : decode cX8_firstFault 35 = .ok (.invokestatic 280, 3) := by decide +kernel
theorem dX8_firstFault_38 : decode cX8_firstFault 38 = .ok (.istore 5, 2) := by decide +kernel
theorem dX8_firstFault_40 : decode cX8_firstFault 40 = .ok (.iload 4, 2) := by decide +kernel
theorem dX8_firstFault_42 : decode cX8_firstFault 42 = .ok (.bipush 33, 2) := by decide +kernel
theorem dX8_firstFault_44 : decode cX8_firstFault 44 = .ok (.if_icmp .ne 6, 3) := by decide +kernel
theorem dX8_firstFault_47 : decode cX8_firstFault 47 = .ok (.iinc 2 1, 3) := by decide +kernel
theorem dX8_firstFault_50 : decode cX8_firstFault 50 = .ok (.iload 4, 2) := by decide +kernel
theorem dX8_firstFault_52 : decode cX8_firstFault 52 = .ok (.bipush 46, 2) := by decide +kernel
theorem dX8_firstFault_54 : decode cX8_firstFault 54 = .ok (.if_icmp .eq 32, 3) := by decide +kernel
theorem dX8_firstFault_57 : decode cX8_firstFault 57 = .ok (.iload 4, 2) := by decide +kernel
theorem dX8_firstFault_59 : decode cX8_firstFault 59 = .ok (.bipush 33, 2) := by decide +kernel
theorem dX8_firstFault_61 : decode cX8_firstFault 61 = .ok (.if_icmp .ne 9, 3) := by decide +kernel
theorem dX8_firstFault_64 : decode cX8_firstFault 64 = .ok (.iload_n 2, 1) := by decide +kernel
theorem dX8_firstFault_65 : decode cX8_firstFault 65 = .ok (.bipush 12, 2) := by decide +kernel
theorem dX8_firstFault_67 : decode cX8_firstFault 67 = .ok (.if_icmp .le 19, 3) := by decide +kernel
theorem dX8_firstFault_70 : decode cX8_firstFault 70 = .ok (.iload 5, 2) := by decide +kernel
theorem dX8_firstFault_72 : decode cX8_firstFault 72 = .ok (.bipush (-6), 2) := by decide +kernel
theorem dX8_firstFault_74 : decode cX8_firstFault 74 = .ok (.if_icmp .eq 16, 3) := by decide +kernel
theorem dX8_firstFault_77 : decode cX8_firstFault 77 = .ok (.iload_n 1, 1) := by decide +kernel
theorem dX8_firstFault_78 : decode cX8_firstFault 78 = .ok (.iload 5, 2) := by decide +kernel
theorem dX8_firstFault_80 : decode cX8_firstFault 80 = .ok (.invokestatic 283, 3) := by decide +kernel
theorem dX8_firstFault_83 : decode cX8_firstFault 83 = .ok (.ifCond .eq 7, 3) := by decide +kernel
theorem dX8_firstFault_86 : decode cX8_firstFault 86 = .ok (.iconst 1, 1) := by decide +kernel
theorem dX8_firstFault_87 : decode cX8_firstFault 87 = .ok (.goto 4, 3) := by decide +kernel
theorem dX8_firstFault_90 : decode cX8_firstFault 90 = .ok (.iconst 0, 1) := by decide +kernel
theorem dX8_firstFault_91 : decode cX8_firstFault 91 = .ok (.istore 6, 2) := by decide +kernel
theorem dX8_firstFault_93 : decode cX8_firstFault 93 = .ok (.iload 6, 2) := by decide +kernel
theorem dX8_firstFault_95 : decode cX8_firstFault 95 = .ok (.ifCond .ne 5, 3) := by decide +kernel
theorem dX8_firstFault_98 : decode cX8_firstFault 98 = .ok (.iload_n 3, 1) := by decide +kernel
theorem dX8_firstFault_99 : decode cX8_firstFault 99 = .ok (.ireturn, 1) := by decide +kernel
theorem dX8_firstFault_100 : decode cX8_firstFault 100 = .ok (.iload_n 1, 1) := by decide +kernel
theorem dX8_firstFault_101 : decode cX8_firstFault 101 = .ok (.iload 5, 2) := by decide +kernel
theorem dX8_firstFault_103 : decode cX8_firstFault 103 = .ok (.invokestatic 286, 3) := by decide +kernel
theorem dX8_firstFault_106 : decode cX8_firstFault 106 = .ok (.istore_n 1, 1) := by decide +kernel
theorem dX8_firstFault_107 : decode cX8_firstFault 107 = .ok (.iinc 3 1, 3) := by decide +kernel
theorem dX8_firstFault_110 : decode cX8_firstFault 110 = .ok (.goto (-98), 3) := by decide +kernel
theorem dX8_firstFault_113 : decode cX8_firstFault 113 = .ok (.bipush (-6), 2) := by decide +kernel
theorem dX8_firstFault_115 : decode cX8_firstFault 115 = .ok (.ireturn, 1) := by decide +kernel
theorem dX8_has_0 : decode cX8_has 0 = .ok (.iload_n 1, 1) := by decide +kernel
theorem dX8_has_1 : decode cX8_has 1 = .ok (.ifCond .lt 21, 3) := by decide +kernel
theorem dX8_has_4 : decode cX8_has 4 = .ok (.iload_n 1, 1) := by decide +kernel
theorem dX8_has_5 : decode cX8_has 5 = .ok (.bipush 6, 2) := by decide +kernel
theorem dX8_has_7 : decode cX8_has 7 = .ok (.if_icmp .ge 15, 3) := by decide +kernel
theorem dX8_has_10 : decode cX8_has 10 = .ok (.iload_n 0, 1) := by decide +kernel
theorem dX8_has_11 : decode cX8_has 11 = .ok (.iload_n 1, 1) := by decide +kernel
theorem dX8_has_12 : decode cX8_has 12 = .ok (.ishr, 1) := by decide +kernel
theorem dX8_has_13 : decode cX8_has 13 = .ok (.iconst 1, 1) := by decide +kernel
theorem dX8_has_14 : decode cX8_has 14 = .ok (.iand, 1) := by decide +kernel
theorem dX8_has_15 : decode cX8_has 15 = .ok (.ifCond .eq 7, 3) := by decide +kernel
theorem dX8_has_18 : decode cX8_has 18 = .ok (.iconst 1, 1) := by decide +kernel
theorem dX8_has_19 : decode cX8_has 19 = .ok (.goto 4, 3) := by decide +kernel
theorem dX8_has_22 : decode cX8_has 22 = .ok (.iconst 0, 1) := by decide +kernel
theorem dX8_has_23 : decode cX8_has 23 = .ok (.ireturn, 1) := by decide +kernel
theorem dX8_without_0 : decode cX8_without 0 = .ok (.iload_n 1, 1) := by decide +kernel
theorem dX8_without_1 : decode cX8_without 1 = .ok (.invokestatic 105, 3) := by decide +kernel
theorem dX8_without_4 : decode cX8_without 4 = .ok (.ifCond .eq 13, 3) := by decide +kernel
theorem dX8_without_7 : decode cX8_without 7 = .ok (.iload_n 0, 1) := by decide +kernel
theorem dX8_without_8 : decode cX8_without 8 = .ok (.iconst 1, 1) := by decide +kernel
theorem dX8_without_9 : decode cX8_without 9 = .ok (.iload_n 1, 1) := by decide +kernel
theorem dX8_without_10 : decode cX8_without 10 = .ok (.ishl, 1) := by decide +kernel
theorem dX8_without_11 : decode cX8_without 11 = .ok (.iconst (-1), 1) := by decide +kernel
theorem dX8_without_12 : decode cX8_without 12 = .ok (.ixor, 1) := by decide +kernel
theorem dX8_without_13 : decode cX8_without 13 = .ok (.iand, 1) := by decide +kernel
theorem dX8_without_14 : decode cX8_without 14 = .ok (.goto 4, 3) := by decide +kernel
theorem dX8_without_17 : decode cX8_without 17 = .ok (.iload_n 0, 1) := by decide +kernel
theorem dX8_without_18 : decode cX8_without 18 = .ok (.ireturn, 1) := by decide +kernel
theorem dX8_flyBehind_0 : decode cX8_flyBehind 0 = .ok (.aload_n 0, 1) := by decide +kernel
theorem dX8_flyBehind_1 : decode cX8_flyBehind 1 = .ok (.getfield 32, 3) := by decide +kernel
theorem dX8_flyBehind_4 : decode cX8_flyBehind 4 = .ok (.aload_n 0, 1) := by decide +kernel
theorem dX8_flyBehind_5 : decode cX8_flyBehind 5 = .ok (.getfield 10, 3) := by decide +kernel
theorem dX8_flyBehind_8 : decode cX8_flyBehind 8 = .ok (.iconst 1, 1) := by decide +kernel
theorem dX8_flyBehind_9 : decode cX8_flyBehind 9 = .ok (.invokevirtual 97, 3) := by decide +kernel
theorem dX8_flyBehind_12 : decode cX8_flyBehind 12 = .ok (.aload_n 0, 1) := by decide +kernel
theorem dX8_flyBehind_13 : decode cX8_flyBehind 13 = .ok (.getfield 10, 3) := by decide +kernel
theorem dX8_flyBehind_16 : decode cX8_flyBehind 16 = .ok (.invokevirtual 172, 3) := by decide +kernel
theorem dX8_flyBehind_19 : decode cX8_flyBehind 19 = .ok (.iconst 0, 1) := by decide +kernel
theorem dX8_flyBehind_20 : decode cX8_flyBehind 20 = .ok (.invokevirtual 242, 3) := by decide +kernel
theorem dX8_flyBehind_23 : decode cX8_flyBehind 23 = .ok (.iconst 0, 1) := by decide +kernel
theorem dX8_flyBehind_24 : decode cX8_flyBehind 24 = .ok (.istore_n 2, 1) := by decide +kernel
theorem dX8_flyBehind_25 : decode cX8_flyBehind 25 = .ok (.iconst 0, 1) := by decide +kernel
theorem dX8_flyBehind_26 : decode cX8_flyBehind 26 = .ok (.istore_n 3, 1) := by decide +kernel
theorem dX8_flyBehind_27 : decode cX8_flyBehind 27 = .ok (.iload_n 3, 1) := by decide +kernel
theorem dX8_flyBehind_28 : decode cX8_flyBehind 28 = .ok (.aload_n 0, 1) := by decide +kernel
theorem dX8_flyBehind_29 : decode cX8_flyBehind 29 = .ok (.getfield 25, 3) := by decide +kernel
theorem dX8_flyBehind_32 : decode cX8_flyBehind 32 = .ok (.invokevirtual 115, 3) := by decide +kernel
theorem dX8_flyBehind_35 : decode cX8_flyBehind 35 = .ok (.if_icmp .ge 62, 3) := by decide +kernel
theorem dX8_flyBehind_38 : decode cX8_flyBehind 38 = .ok (.iload_n 2, 1) := by decide +kernel
theorem dX8_flyBehind_39 : decode cX8_flyBehind 39 = .ok (.iload_n 1, 1) := by decide +kernel
theorem dX8_flyBehind_40 : decode cX8_flyBehind 40 = .ok (.if_icmp .eq 57, 3) := by decide +kernel
theorem dX8_flyBehind_43 : decode cX8_flyBehind 43 = .ok (.aload_n 0, 1) := by decide +kernel
theorem dX8_flyBehind_44 : decode cX8_flyBehind 44 = .ok (.getfield 25, 3) := by decide +kernel
theorem dX8_flyBehind_47 : decode cX8_flyBehind 47 = .ok (.iload_n 3, 1) := by decide +kernel
theorem dX8_flyBehind_48 : decode cX8_flyBehind 48 = .ok (.invokevirtual 277, 3) := by decide +kernel
theorem dX8_flyBehind_51 : decode cX8_flyBehind 51 = .ok (.bipush 46, 2) := by decide +kernel
theorem dX8_flyBehind_53 : decode cX8_flyBehind 53 = .ok (.if_icmp .ne 20, 3) := by decide +kernel
theorem dX8_flyBehind_56 : decode cX8_flyBehind 56 = .ok (.aload_n 0, 1) := by decide +kernel
theorem dX8_flyBehind_57 : decode cX8_flyBehind 57 = .ok (.getfield 32, 3) := by decide +kernel
theorem dX8_flyBehind_60 : decode cX8_flyBehind 60 = .ok (.aload_n 0, 1) := by decide +kernel
theorem dX8_flyBehind_61 : decode cX8_flyBehind 61 = .ok (.getfield 10, 3) := by decide +kernel
theorem dX8_flyBehind_64 : decode cX8_flyBehind 64 = .ok (.invokevirtual 245, 3) := by decide +kernel
theorem dX8_flyBehind_67 : decode cX8_flyBehind 67 = .ok (.iinc 2 1, 3) := by decide +kernel
theorem dX8_flyBehind_70 : decode cX8_flyBehind 70 = .ok (.goto 21, 3) := by decide +kernel
theorem dX8_flyBehind_73 : decode cX8_flyBehind 73 = .ok (.aload_n 0, 1) := by decide +kernel
theorem dX8_flyBehind_74 : decode cX8_flyBehind 74 = .ok (.getfield 32, 3) := by decide +kernel
theorem dX8_flyBehind_77 : decode cX8_flyBehind 77 = .ok (.aload_n 0, 1) := by decide +kernel
theorem dX8_flyBehind_78 : decode cX8_flyBehind 78 = .ok (.getfield 25, 3) := by decide +kernel
theorem dX8_flyBehind_81 : decode cX8_flyBehind 81 = .ok (.iload_n 3, 1) := by decide +kernel
theorem dX8_flyBehind_82 : decode cX8_flyBehind 82 = .ok (.invokevirtual 277, 3) := by decide +kernel
theorem dX8_flyBehind_85 : decode cX8_flyBehind 85 = .ok (.invokestatic 280, 3) := by decide +kernel
theorem dX8_flyBehind_88 : decode cX8_flyBehind 88 = .ok (.invokevirtual 289, 3) := by decide +kernel
theorem dX8_flyBehind_91 : decode cX8_flyBehind 91 = .ok (.iinc 3 1, 3) := by decide +kernel
theorem dX8_flyBehind_94 : decode cX8_flyBehind 94 = .ok (.goto (-67), 3) := by decide +kernel
theorem dX8_flyBehind_97 : decode cX8_flyBehind 97 = .ok (.return_, 1) := by decide +kernel
theorem dX8_offWith_0 : decode cX8_offWith 0 = .ok (.aload_n 0, 1) := by decide +kernel
theorem dX8_offWith_1 : decode cX8_offWith 1 = .ok (.getfield 32, 3) := by decide +kernel
theorem dX8_offWith_4 : decode cX8_offWith 4 = .ok (.aload_n 0, 1) := by decide +kernel
theorem dX8_offWith_5 : decode cX8_offWith 5 = .ok (.getfield 10, 3) := by decide +kernel
theorem dX8_offWith_8 : decode cX8_offWith 8 = .ok (.iconst 1, 1) := by decide +kernel
theorem dX8_offWith_9 : decode cX8_offWith 9 = .ok (.invokevirtual 97, 3) := by decide +kernel
theorem dX8_offWith_12 : decode cX8_offWith 12 = .ok (.iload_n 2, 1) := by decide +kernel
theorem dX8_offWith_13 : decode cX8_offWith 13 = .ok (.iload_n 3, 1) := by decide +kernel
theorem dX8_offWith_14 : decode cX8_offWith 14 = .ok (.invokevirtual 242, 3) := by decide +kernel
theorem dX8_offWith_17 : decode cX8_offWith 17 = .ok (.aload_n 0, 1) := by decide +kernel
theorem dX8_offWith_18 : decode cX8_offWith 18 = .ok (.getfield 25, 3) := by decide +kernel
theorem dX8_offWith_21 : decode cX8_offWith 21 = .ok (.bipush 46, 2) := by decide +kernel
theorem dX8_offWith_23 : decode cX8_offWith 23 = .ok (.invokevirtual 129, 3) := by decide +kernel
theorem dX8_offWith_26 : decode cX8_offWith 26 = .ok (.istore 4, 2) := by decide +kernel
theorem dX8_offWith_28 : decode cX8_offWith 28 = .ok (.iload 4, 2) := by decide +kernel
theorem dX8_offWith_30 : decode cX8_offWith 30 = .ok (.ifCond .le 20, 3) := by decide +kernel
theorem dX8_offWith_33 : decode cX8_offWith 33 = .ok (.aload_n 0, 1) := by decide +kernel
theorem dX8_offWith_34 : decode cX8_offWith 34 = .ok (.getfield 32, 3) := by decide +kernel
theorem dX8_offWith_37 : decode cX8_offWith 37 = .ok (.aload_n 0, 1) := by decide +kernel
theorem dX8_offWith_38 : decode cX8_offWith 38 = .ok (.getfield 10, 3) := by decide +kernel
theorem dX8_offWith_41 : decode cX8_offWith 41 = .ok (.invokevirtual 245, 3) := by decide +kernel
theorem dX8_offWith_44 : decode cX8_offWith 44 = .ok (.iinc 4 (-1), 3) := by decide +kernel
theorem dX8_offWith_47 : decode cX8_offWith 47 = .ok (.goto (-19), 3) := by decide +kernel
theorem dX8_offWith_50 : decode cX8_offWith 50 = .ok (.aload_n 0, 1) := by decide +kernel
theorem dX8_offWith_51 : decode cX8_offWith 51 = .ok (.getfield 32, 3) := by decide +kernel
theorem dX8_offWith_54 : decode cX8_offWith 54 = .ok (.invokevirtual 135, 3) := by decide +kernel
theorem dX8_offWith_57 : decode cX8_offWith 57 = .ok (.iload_n 1, 1) := by decide +kernel
theorem dX8_offWith_58 : decode cX8_offWith 58 = .ok (.isub, 1) := by decide +kernel
theorem dX8_offWith_59 : decode cX8_offWith 59 = .ok (.invokestatic 292, 3) := by decide +kernel
theorem dX8_offWith_62 : decode cX8_offWith 62 = .ok (.ireturn, 1) := by decide +kernel
theorem dX8_sightsHold_0 : decode cX8_sightsHold 0 = .ok (.aload_n 0, 1) := by decide +kernel
theorem dX8_sightsHold_1 : decode cX8_sightsHold 1 = .ok (.getfield 32, 3) := by decide +kernel
theorem dX8_sightsHold_4 : decode cX8_sightsHold 4 = .ok (.iload_n 1, 1) := by decide +kernel
theorem dX8_sightsHold_5 : decode cX8_sightsHold 5 = .ok (.aload_n 0, 1) := by decide +kernel
theorem dX8_sightsHold_6 : decode cX8_sightsHold 6 = .ok (.getfield 10, 3) := by decide +kernel
theorem dX8_sightsHold_9 : decode cX8_sightsHold 9 = .ok (.invokevirtual 172, 3) := by decide +kernel
theorem dX8_sightsHold_12 : decode cX8_sightsHold 12 = .ok (.iconst 0, 1) := by decide +kernel
theorem dX8_sightsHold_13 : decode cX8_sightsHold 13 = .ok (.invokevirtual 242, 3) := by decide +kernel
theorem dX8_sightsHold_16 : decode cX8_sightsHold 16 = .ok (.aload_n 0, 1) := by decide +kernel
theorem dX8_sightsHold_17 : decode cX8_sightsHold 17 = .ok (.getfield 70, 3) := by decide +kernel
theorem dX8_sightsHold_20 : decode cX8_sightsHold 20 = .ok (.invokevirtual 295, 3) := by decide +kernel
theorem dX8_sightsHold_23 : decode cX8_sightsHold 23 = .ok (.iconst 0, 1) := by decide +kernel
theorem dX8_sightsHold_24 : decode cX8_sightsHold 24 = .ok (.istore_n 2, 1) := by decide +kernel
theorem dX8_sightsHold_25 : decode cX8_sightsHold 25 = .ok (.iload_n 2, 1) := by decide +kernel
theorem dX8_sightsHold_26 : decode cX8_sightsHold 26 = .ok (.aload_n 0, 1) := by decide +kernel
theorem dX8_sightsHold_27 : decode cX8_sightsHold 27 = .ok (.getfield 25, 3) := by decide +kernel
theorem dX8_sightsHold_30 : decode cX8_sightsHold 30 = .ok (.invokevirtual 115, 3) := by decide +kernel
theorem dX8_sightsHold_33 : decode cX8_sightsHold 33 = .ok (.if_icmp .ge 79, 3) := by decide +kernel
theorem dX8_sightsHold_36 : decode cX8_sightsHold 36 = .ok (.aload_n 0, 1) := by decide +kernel
theorem dX8_sightsHold_37 : decode cX8_sightsHold 37 = .ok (.getfield 25, 3) := by decide +kernel
theorem dX8_sightsHold_40 : decode cX8_sightsHold 40 = .ok (.iload_n 2, 1) := by decide +kernel
theorem dX8_sightsHold_41 : decode cX8_sightsHold 41 = .ok (.invokevirtual 277, 3) := by decide +kernel
theorem dX8_sightsHold_44 : decode cX8_sightsHold 44 = .ok (.bipush 46, 2) := by decide +kernel
theorem dX8_sightsHold_46 : decode cX8_sightsHold 46 = .ok (.if_icmp .ne 17, 3) := by decide +kernel
theorem dX8_sightsHold_49 : decode cX8_sightsHold 49 = .ok (.aload_n 0, 1) := by decide +kernel
theorem dX8_sightsHold_50 : decode cX8_sightsHold 50 = .ok (.getfield 32, 3) := by decide +kernel
theorem dX8_sightsHold_53 : decode cX8_sightsHold 53 = .ok (.aload_n 0, 1) := by decide +kernel
theorem dX8_sightsHold_54 : decode cX8_sightsHold 54 = .ok (.getfield 10, 3) := by decide +kernel
theorem dX8_sightsHold_57 : decode cX8_sightsHold 57 = .ok (.invokevirtual 245, 3) := by decide +kernel
theorem dX8_sightsHold_60 : decode cX8_sightsHold 60 = .ok (.goto 46, 3) := by decide +kernel
theorem dX8_sightsHold_63 : decode cX8_sightsHold 63 = .ok (.aload_n 0, 1) := by decide +kernel
theorem dX8_sightsHold_64 : decode cX8_sightsHold 64 = .ok (.getfield 70, 3) := by decide +kernel
theorem dX8_sightsHold_67 : decode cX8_sightsHold 67 = .ok (.aload_n 0, 1) := by decide +kernel
theorem dX8_sightsHold_68 : decode cX8_sightsHold 68 = .ok (.getfield 25, 3) := by decide +kernel
theorem dX8_sightsHold_71 : decode cX8_sightsHold 71 = .ok (.iload_n 2, 1) := by decide +kernel
theorem dX8_sightsHold_72 : decode cX8_sightsHold 72 = .ok (.invokevirtual 277, 3) := by decide +kernel
theorem dX8_sightsHold_75 : decode cX8_sightsHold 75 = .ok (.invokestatic 280, 3) := by decide +kernel
theorem dX8_sightsHold_78 : decode cX8_sightsHold 78 = .ok (.aload_n 0, 1) := by decide +kernel
theorem dX8_sightsHold_79 : decode cX8_sightsHold 79 = .ok (.getfield 32, 3) := by decide +kernel
theorem dX8_sightsHold_82 : decode cX8_sightsHold 82 = .ok (.invokevirtual 135, 3) := by decide +kernel
theorem dX8_sightsHold_85 : decode cX8_sightsHold 85 = .ok (.invokevirtual 296, 3) := by decide +kernel
theorem dX8_sightsHold_88 : decode cX8_sightsHold 88 = .ok (.aload_n 0, 1) := by decide +kernel
theorem dX8_sightsHold_89 : decode cX8_sightsHold 89 = .ok (.getfield 32, 3) := by decide +kernel
theorem dX8_sightsHold_92 : decode cX8_sightsHold 92 = .ok (.aload_n 0, 1) := by decide +kernel
theorem dX8_sightsHold_93 : decode cX8_sightsHold 93 = .ok (.getfield 25, 3) := by decide +kernel
theorem dX8_sightsHold_96 : decode cX8_sightsHold 96 = .ok (.iload_n 2, 1) := by decide +kernel
theorem dX8_sightsHold_97 : decode cX8_sightsHold 97 = .ok (.invokevirtual 277, 3) := by decide +kernel
theorem dX8_sightsHold_100 : decode cX8_sightsHold 100 = .ok (.invokestatic 280, 3) := by decide +kernel
theorem dX8_sightsHold_103 : decode cX8_sightsHold 103 = .ok (.invokevirtual 289, 3) := by decide +kernel
theorem dX8_sightsHold_106 : decode cX8_sightsHold 106 = .ok (.iinc 2 1, 3) := by decide +kernel
theorem dX8_sightsHold_109 : decode cX8_sightsHold 109 = .ok (.goto (-84), 3) := by decide +kernel
theorem dX8_sightsHold_112 : decode cX8_sightsHold 112 = .ok (.iconst 0, 1) := by decide +kernel
theorem dX8_sightsHold_113 : decode cX8_sightsHold 113 = .ok (.istore_n 2, 1) := by decide +kernel
theorem dX8_sightsHold_114 : decode cX8_sightsHold 114 = .ok (.iload_n 2, 1) := by decide +kernel
theorem dX8_sightsHold_115 : decode cX8_sightsHold 115 = .ok (.aload_n 0, 1) := by decide +kernel
theorem dX8_sightsHold_116 : decode cX8_sightsHold 116 = .ok (.getfield 10, 3) := by decide +kernel
theorem dX8_sightsHold_119 : decode cX8_sightsHold 119 = .ok (.invokevirtual 226, 3) := by decide +kernel
theorem dX8_sightsHold_122 : decode cX8_sightsHold 122 = .ok (.if_icmp .ge 37, 3) := by decide +kernel
theorem dX8_sightsHold_125 : decode cX8_sightsHold 125 = .ok (.aload_n 0, 1) := by decide +kernel
theorem dX8_sightsHold_126 : decode cX8_sightsHold 126 = .ok (.getfield 70, 3) := by decide +kernel
theorem dX8_sightsHold_129 : decode cX8_sightsHold 129 = .ok (.aload_n 0, 1) := by decide +kernel
theorem dX8_sightsHold_130 : decode cX8_sightsHold 130 = .ok (.getfield 10, 3) := by decide +kernel
theorem dX8_sightsHold_133 : decode cX8_sightsHold 133 = .ok (.iload_n 2, 1) := by decide +kernel
theorem dX8_sightsHold_134 : decode cX8_sightsHold 134 = .ok (.invokevirtual 299, 3) := by decide +kernel
theorem dX8_sightsHold_137 : decode cX8_sightsHold 137 = .ok (.aload_n 0, 1) := by decide +kernel
theorem dX8_sightsHold_138 : decode cX8_sightsHold 138 = .ok (.getfield 10, 3) := by decide +kernel
theorem dX8_sightsHold_141 : decode cX8_sightsHold 141 = .ok (.iload_n 2, 1) := by decide +kernel
theorem dX8_sightsHold_142 : decode cX8_sightsHold 142 = .ok (.invokevirtual 302, 3) := by decide +kernel
theorem dX8_sightsHold_145 : decode cX8_sightsHold 145 = .ok (.invokevirtual 305, 3) := by decide +kernel
theorem dX8_sightsHold_148 : decode cX8_sightsHold 148 = .ok (.ifCond .ne 5, 3) := by decide +kernel
theorem dX8_sightsHold_151 : decode cX8_sightsHold 151 = .ok (.iconst 0, 1) := by decide +kernel
theorem dX8_sightsHold_152 : decode cX8_sightsHold 152 = .ok (.ireturn, 1) := by decide +kernel
theorem dX8_sightsHold_153 : decode cX8_sightsHold 153 = .ok (.iinc 2 1, 3) := by decide +kernel
theorem dX8_sightsHold_156 : decode cX8_sightsHold 156 = .ok (.goto (-42), 3) := by decide +kernel
theorem dX8_sightsHold_159 : decode cX8_sightsHold 159 = .ok (.iconst 1, 1) := by decide +kernel
theorem dX8_sightsHold_160 : decode cX8_sightsHold 160 = .ok (.ireturn, 1) := by decide +kernel
theorem dX8_flyByDraws_0 : decode cX8_flyByDraws 0 = .ok (.iload_n 1, 1) := by decide +kernel
theorem dX8_flyByDraws_1 : decode cX8_flyByDraws 1 = .ok (.istore_n 2, 1) := by decide +kernel
theorem dX8_flyByDraws_2 : decode cX8_flyByDraws 2 = .ok (.aload_n 0, 1) := by decide +kernel
theorem dX8_flyByDraws_3 : decode cX8_flyByDraws 3 = .ok (.getfield 32, 3) := by decide +kernel
theorem dX8_flyByDraws_6 : decode cX8_flyByDraws 6 = .ok (.aload_n 0, 1) := by decide +kernel
theorem dX8_flyByDraws_7 : decode cX8_flyByDraws 7 = .ok (.getfield 10, 3) := by decide +kernel
theorem dX8_flyByDraws_10 : decode cX8_flyByDraws 10 = .ok (.iconst 1, 1) := by decide +kernel
theorem dX8_flyByDraws_11 : decode cX8_flyByDraws 11 = .ok (.invokevirtual 97, 3) := by decide +kernel
theorem dX8_flyByDraws_14 : decode cX8_flyByDraws 14 = .ok (.aload_n 0, 1) := by decide +kernel
theorem dX8_flyByDraws_15 : decode cX8_flyByDraws 15 = .ok (.getfield 10, 3) := by decide +kernel
theorem dX8_flyByDraws_18 : decode cX8_flyByDraws 18 = .ok (.invokevirtual 172, 3) := by decide +kernel
theorem dX8_flyByDraws_21 : decode cX8_flyByDraws 21 = .ok (.iconst 0, 1) := by decide +kernel
theorem dX8_flyByDraws_22 : decode cX8_flyByDraws 22 = .ok (.invokevirtual 242, 3) := by decide +kernel
theorem dX8_flyByDraws_25 : decode cX8_flyByDraws 25 = .ok (.iconst 0, 1) := by decide +kernel
theorem dX8_flyByDraws_26 : decode cX8_flyByDraws 26 = .ok (.istore_n 3, 1) := by decide +kernel
theorem dX8_flyByDraws_27 : decode cX8_flyByDraws 27 = .ok (.iload_n 3, 1) := by decide +kernel
theorem dX8_flyByDraws_28 : decode cX8_flyByDraws 28 = .ok (.bipush 10, 2) := by decide +kernel
theorem dX8_flyByDraws_30 : decode cX8_flyByDraws 30 = .ok (.if_icmp .ge 59, 3) := by decide +kernel
theorem dX8_flyByDraws_33 : decode cX8_flyByDraws 33 = .ok (.bipush 75, 2) := by decide +kernel
theorem dX8_flyByDraws_35 : decode cX8_flyByDraws 35 = .ok (.iload_n 2, 1) := by decide +kernel
theorem dX8_flyByDraws_36 : decode cX8_flyByDraws 36 = .ok (.imul, 1) := by decide +kernel
theorem dX8_flyByDraws_37 : decode cX8_flyByDraws 37 = .ok (.bipush 74, 2) := by decide +kernel
theorem dX8_flyByDraws_39 : decode cX8_flyByDraws 39 = .ok (.iadd, 1) := by decide +kernel
theorem dX8_flyByDraws_40 : decode cX8_flyByDraws 40 = .ok (.ldc_w 308, 3) := by decide +kernel
theorem dX8_flyByDraws_43 : decode cX8_flyByDraws 43 = .ok (.irem, 1) := by decide +kernel
theorem dX8_flyByDraws_44 : decode cX8_flyByDraws 44 = .ok (.istore_n 2, 1) := by decide +kernel
theorem dX8_flyByDraws_45 : decode cX8_flyByDraws 45 = .ok (.iload_n 2, 1) := by decide +kernel
theorem dX8_flyByDraws_46 : decode cX8_flyByDraws 46 = .ok (.iconst 4, 1) := by decide +kernel
theorem dX8_flyByDraws_47 : decode cX8_flyByDraws 47 = .ok (.irem, 1) := by decide +kernel
theorem dX8_flyByDraws_48 : decode cX8_flyByDraws 48 = .ok (.ifCond .ne 24, 3) := by decide +kernel
theorem dX8_flyByDraws_51 : decode cX8_flyByDraws 51 = .ok (.aload_n 0, 1) := by decide +kernel
theorem dX8_flyByDraws_52 : decode cX8_flyByDraws 52 = .ok (.getfield 32, 3) := by decide +kernel
theorem dX8_flyByDraws_55 : decode cX8_flyByDraws 55 = .ok (.aload_n 0, 1) := by decide +kernel
theorem dX8_flyByDraws_56 : decode cX8_flyByDraws 56 = .ok (.getfield 10, 3) := by decide +kernel
theorem dX8_flyByDraws_59 : decode cX8_flyByDraws 59 = .ok (.aload_n 0, 1) := by decide +kernel
theorem dX8_flyByDraws_60 : decode cX8_flyByDraws 60 = .ok (.getfield 32, 3) := by decide +kernel
theorem dX8_flyByDraws_63 : decode cX8_flyByDraws 63 = .ok (.invokevirtual 141, 3) := by decide +kernel
theorem dX8_flyByDraws_66 : decode cX8_flyByDraws 66 = .ok (.invokevirtual 309, 3) := by decide +kernel
theorem dX8_flyByDraws_69 : decode cX8_flyByDraws 69 = .ok (.invokevirtual 289, 3) := by decide +kernel
theorem dX8_flyByDraws_72 : decode cX8_flyByDraws 72 = .ok (.aload_n 0, 1) := by decide +kernel
theorem dX8_flyByDraws_73 : decode cX8_flyByDraws 73 = .ok (.getfield 32, 3) := by decide +kernel
theorem dX8_flyByDraws_76 : decode cX8_flyByDraws 76 = .ok (.aload_n 0, 1) := by decide +kernel
theorem dX8_flyByDraws_77 : decode cX8_flyByDraws 77 = .ok (.getfield 10, 3) := by decide +kernel
theorem dX8_flyByDraws_80 : decode cX8_flyByDraws 80 = .ok (.invokevirtual 245, 3) := by decide +kernel
theorem dX8_flyByDraws_83 : decode cX8_flyByDraws 83 = .ok (.iinc 3 1, 3) := by decide +kernel
theorem dX8_flyByDraws_86 : decode cX8_flyByDraws 86 = .ok (.goto (-59), 3) := by decide +kernel
theorem dX8_flyByDraws_89 : decode cX8_flyByDraws 89 = .ok (.iload_n 2, 1) := by decide +kernel
theorem dX8_flyByDraws_90 : decode cX8_flyByDraws 90 = .ok (.ireturn, 1) := by decide +kernel
theorem dX8_doubtWith_0 : decode cX8_doubtWith 0 = .ok (.aload_n 0, 1) := by decide +kernel
theorem dX8_doubtWith_1 : decode cX8_doubtWith 1 = .ok (.getfield 42, 3) := by decide +kernel
theorem dX8_doubtWith_4 : decode cX8_doubtWith 4 = .ok (.aload_n 0, 1) := by decide +kernel
theorem dX8_doubtWith_5 : decode cX8_doubtWith 5 = .ok (.getfield 25, 3) := by decide +kernel
theorem dX8_doubtWith_8 : decode cX8_doubtWith 8 = .ok (.iload_n 1, 1) := by decide +kernel
theorem dX8_doubtWith_9 : decode cX8_doubtWith 9 = .ok (.iload_n 2, 1) := by decide +kernel
theorem dX8_doubtWith_10 : decode cX8_doubtWith 10 = .ok (.invokevirtual 312, 3) := by decide +kernel
theorem dX8_doubtWith_13 : decode cX8_doubtWith 13 = .ok (.aload_n 0, 1) := by decide +kernel
theorem dX8_doubtWith_14 : decode cX8_doubtWith 14 = .ok (.getfield 42, 3) := by decide +kernel
theorem dX8_doubtWith_17 : decode cX8_doubtWith 17 = .ok (.aload_n 0, 1) := by decide +kernel
theorem dX8_doubtWith_18 : decode cX8_doubtWith 18 = .ok (.getfield 10, 3) := by decide +kernel
theorem dX8_doubtWith_21 : decode cX8_doubtWith 21 = .ok (.iconst 4, 1) := by decide +kernel
theorem dX8_doubtWith_22 : decode cX8_doubtWith 22 = .ok (.invokevirtual 97, 3) := by decide +kernel
theorem dX8_doubtWith_25 : decode cX8_doubtWith 25 = .ok (.aload_n 0, 1) := by decide +kernel
theorem dX8_doubtWith_26 : decode cX8_doubtWith 26 = .ok (.getfield 10, 3) := by decide +kernel
theorem dX8_doubtWith_29 : decode cX8_doubtWith 29 = .ok (.iconst 5, 1) := by decide +kernel
theorem dX8_doubtWith_30 : decode cX8_doubtWith 30 = .ok (.invokevirtual 97, 3) := by decide +kernel
theorem dX8_doubtWith_33 : decode cX8_doubtWith 33 = .ok (.invokevirtual 316, 3) := by decide +kernel
theorem dX8_doubtWith_36 : decode cX8_doubtWith 36 = .ok (.ireturn, 1) := by decide +kernel
theorem dX8_seek_0 : decode cX8_seek 0 = .ok (.iload 4, 2) := by decide +kernel
theorem dX8_seek_2 : decode cX8_seek 2 = .ok (.aload_n 0, 1) := by decide +kernel
theorem dX8_seek_3 : decode cX8_seek 3 = .ok (.iload_n 2, 1) := by decide +kernel
theorem dX8_seek_4 : decode cX8_seek 4 = .ok (.iload_n 3, 1) := by decide +kernel
theorem dX8_seek_5 : decode cX8_seek 5 = .ok (.invokevirtual 319, 3) := by decide +kernel
theorem dX8_seek_8 : decode cX8_seek 8 = .ok (.iadd, 1) := by decide +kernel
theorem dX8_seek_9 : decode cX8_seek 9 = .ok (.istore 6, 2) := by decide +kernel
theorem dX8_seek_11 : decode cX8_seek 11 = .ok (.iload_n 2, 1) := by decide +kernel
theorem dX8_seek_12 : decode cX8_seek 12 = .ok (.aload_n 0, 1) := by decide +kernel
theorem dX8_seek_13 : decode cX8_seek 13 = .ok (.invokevirtual 182, 3) := by decide +kernel
theorem dX8_seek_16 : decode cX8_seek 16 = .ok (.if_icmp .ge 9, 3) := by decide +kernel
theorem dX8_seek_19 : decode cX8_seek 19 = .ok (.iload_n 2, 1) := by decide +kernel
theorem dX8_seek_20 : decode cX8_seek 20 = .ok (.bipush 6, 2) := by decide +kernel
theorem dX8_seek_22 : decode cX8_seek 22 = .ok (.if_icmp .lt 12, 3) := by decide +kernel
theorem dX8_seek_25 : decode cX8_seek 25 = .ok (.aload_n 1, 1) := by decide +kernel
theorem dX8_seek_26 : decode cX8_seek 26 = .ok (.iload 6, 2) := by decide +kernel
theorem dX8_seek_28 : decode cX8_seek 28 = .ok (.iload 5, 2) := by decide +kernel
theorem dX8_seek_30 : decode cX8_seek 30 = .ok (.invokevirtual 322, 3) := by decide +kernel
theorem dX8_seek_33 : decode cX8_seek 33 = .ok (.return_, 1) := by decide +kernel
theorem dX8_seek_34 : decode cX8_seek 34 = .ok (.iconst 0, 1) := by decide +kernel
theorem dX8_seek_35 : decode cX8_seek 35 = .ok (.istore 7, 2) := by decide +kernel
theorem dX8_seek_37 : decode cX8_seek 37 = .ok (.iload 7, 2) := by decide +kernel
theorem dX8_seek_39 : decode cX8_seek 39 = .ok (.bipush 6, 2) := by decide +kernel
theorem dX8_seek_41 : decode cX8_seek 41 = .ok (.if_icmp .ge 45, 3) := by decide +kernel
theorem dX8_seek_44 : decode cX8_seek 44 = .ok (.iload_n 3, 1) := by decide +kernel
theorem dX8_seek_45 : decode cX8_seek 45 = .ok (.iload 7, 2) := by decide +kernel
theorem dX8_seek_47 : decode cX8_seek 47 = .ok (.invokestatic 283, 3) := by decide +kernel
theorem dX8_seek_50 : decode cX8_seek 50 = .ok (.ifCond .eq 30, 3) := by decide +kernel
theorem dX8_seek_53 : decode cX8_seek 53 = .ok (.aload_n 1, 1) := by decide +kernel
theorem dX8_seek_54 : decode cX8_seek 54 = .ok (.iload_n 2, 1) := by decide +kernel
theorem dX8_seek_55 : decode cX8_seek 55 = .ok (.iload 7, 2) := by decide +kernel
theorem dX8_seek_57 : decode cX8_seek 57 = .ok (.invokevirtual 325, 3) := by decide +kernel
theorem dX8_seek_60 : decode cX8_seek 60 = .ok (.aload_n 0, 1) := by decide +kernel
theorem dX8_seek_61 : decode cX8_seek 61 = .ok (.aload_n 1, 1) := by decide +kernel
theorem dX8_seek_62 : decode cX8_seek 62 = .ok (.iload_n 2, 1) := by decide +kernel
theorem dX8_seek_63 : decode cX8_seek 63 = .ok (.iconst 1, 1) := by decide +kernel
theorem dX8_seek_64 : decode cX8_seek 64 = .ok (.iadd, 1) := by decide +kernel
theorem dX8_seek_65 : decode cX8_seek 65 = .ok (.iload_n 3, 1) := by decide +kernel
theorem dX8_seek_66 : decode cX8_seek 66 = .ok (.iload 7, 2) := by decide +kernel
theorem dX8_seek_68 : decode cX8_seek 68 = .ok (.invokestatic 286, 3) := by decide +kernel
theorem dX8_seek_71 : decode cX8_seek 71 = .ok (.iload 6, 2) := by decide +kernel
theorem dX8_seek_73 : decode cX8_seek 73 = .ok (.iload 5, 2) := by decide +kernel
theorem dX8_seek_75 : decode cX8_seek 75 = .ok (.iconst 1, 1) := by decide +kernel
theorem dX8_seek_76 : decode cX8_seek 76 = .ok (.iadd, 1) := by decide +kernel
theorem dX8_seek_77 : decode cX8_seek 77 = .ok (.invokestatic 175, 3) := by decide +kernel
theorem dX8_seek_80 : decode cX8_seek 80 = .ok (.iinc 7 1, 3) := by decide +kernel
theorem dX8_seek_83 : decode cX8_seek 83 = .ok (.goto (-46), 3) := by decide +kernel
theorem dX8_seek_86 : decode cX8_seek 86 = .ok (.aload_n 1, 1) := by decide +kernel
theorem dX8_seek_87 : decode cX8_seek 87 = .ok (.iload_n 2, 1) := by decide +kernel
theorem dX8_seek_88 : decode cX8_seek 88 = .ok (.bipush (-6), 2) := by decide +kernel
theorem dX8_seek_90 : decode cX8_seek 90 = .ok (.invokevirtual 325, 3) := by decide +kernel
theorem dX8_seek_93 : decode cX8_seek 93 = .ok (.aload_n 0, 1) := by decide +kernel
theorem dX8_seek_94 : decode cX8_seek 94 = .ok (.aload_n 1, 1) := by decide +kernel
theorem dX8_seek_95 : decode cX8_seek 95 = .ok (.iload_n 2, 1) := by decide +kernel
theorem dX8_seek_96 : decode cX8_seek 96 = .ok (.iconst 1, 1) := by decide +kernel
theorem dX8_seek_97 : decode cX8_seek 97 = .ok (.iadd, 1) := by decide +kernel
theorem dX8_seek_98 : decode cX8_seek 98 = .ok (.iload_n 3, 1) := by decide +kernel
theorem dX8_seek_99 : decode cX8_seek 99 = .ok (.iload 6, 2) := by decide +kernel
theorem dX8_seek_101 : decode cX8_seek 101 = .ok (.iload 5, 2) := by decide +kernel
theorem dX8_seek_103 : decode cX8_seek 103 = .ok (.invokestatic 175, 3) := by decide +kernel
theorem dX8_seek_106 : decode cX8_seek 106 = .ok (.return_, 1) := by decide +kernel
theorem dX8_ways_0 : decode cX8_ways 0 = .ok (.iload_n 3, 1) := by decide +kernel
theorem dX8_ways_1 : decode cX8_ways 1 = .ok (.aload_n 0, 1) := by decide +kernel
theorem dX8_ways_2 : decode cX8_ways 2 = .ok (.iload_n 1, 1) := by decide +kernel
theorem dX8_ways_3 : decode cX8_ways 3 = .ok (.iload_n 2, 1) := by decide +kernel
theorem dX8_ways_4 : decode cX8_ways 4 = .ok (.invokevirtual 319, 3) := by decide +kernel
theorem dX8_ways_7 : decode cX8_ways 7 = .ok (.iadd, 1) := by decide +kernel
theorem dX8_ways_8 : decode cX8_ways 8 = .ok (.istore 6, 2) := by decide +kernel
theorem dX8_ways_10 : decode cX8_ways 10 = .ok (.iload_n 1, 1) := by decide +kernel
theorem dX8_ways_11 : decode cX8_ways 11 = .ok (.aload_n 0, 1) := by decide +kernel
theorem dX8_ways_12 : decode cX8_ways 12 = .ok (.invokevirtual 182, 3) := by decide +kernel
theorem dX8_ways_15 : decode cX8_ways 15 = .ok (.if_icmp .ge 9, 3) := by decide +kernel
theorem dX8_ways_18 : decode cX8_ways 18 = .ok (.iload_n 1, 1) := by decide +kernel
theorem dX8_ways_19 : decode cX8_ways 19 = .ok (.bipush 6, 2) := by decide +kernel
theorem dX8_ways_21 : decode cX8_ways 21 = .ok (.if_icmp .lt 21, 3) := by decide +kernel
theorem dX8_ways_24 : decode cX8_ways 24 = .ok (.iload 6, 2) := by decide +kernel
theorem dX8_ways_26 : decode cX8_ways 26 = .ok (.iload 4, 2) := by decide +kernel
theorem dX8_ways_28 : decode cX8_ways 28 = .ok (.iload 5, 2) := by decide +kernel
theorem dX8_ways_30 : decode cX8_ways 30 = .ok (.invokestatic 74, 3) := by decide +kernel
theorem dX8_ways_33 : decode cX8_ways 33 = .ok (.ifCond .eq 7, 3) := by decide +kernel
theorem dX8_ways_36 : decode cX8_ways 36 = .ok (.iconst 1, 1) := by decide +kernel
theorem dX8_ways_37 : decode cX8_ways 37 = .ok (.goto 4, 3) := by decide +kernel
theorem dX8_ways_40 : decode cX8_ways 40 = .ok (.iconst 0, 1) := by decide +kernel
theorem dX8_ways_41 : decode cX8_ways 41 = .ok (.ireturn, 1) := by decide +kernel
theorem dX8_ways_42 : decode cX8_ways 42 = .ok (.aload_n 0, 1) := by decide +kernel
theorem dX8_ways_43 : decode cX8_ways 43 = .ok (.iload_n 1, 1) := by decide +kernel
theorem dX8_ways_44 : decode cX8_ways 44 = .ok (.iconst 1, 1) := by decide +kernel
theorem dX8_ways_45 : decode cX8_ways 45 = .ok (.iadd, 1) := by decide +kernel
theorem dX8_ways_46 : decode cX8_ways 46 = .ok (.iload_n 2, 1) := by decide +kernel
theorem dX8_ways_47 : decode cX8_ways 47 = .ok (.iload 6, 2) := by decide +kernel
theorem dX8_ways_49 : decode cX8_ways 49 = .ok (.iload 4, 2) := by decide +kernel
theorem dX8_ways_51 : decode cX8_ways 51 = .ok (.iload 5, 2) := by decide +kernel
theorem dX8_ways_53 : decode cX8_ways 53 = .ok (.invokestatic 191, 3) := by decide +kernel
theorem dX8_ways_56 : decode cX8_ways 56 = .ok (.istore 7, 2) := by decide +kernel
theorem dX8_ways_58 : decode cX8_ways 58 = .ok (.iconst 0, 1) := by decide +kernel
theorem dX8_ways_59 : decode cX8_ways 59 = .ok (.istore 8, 2) := by decide +kernel
theorem dX8_ways_61 : decode cX8_ways 61 = .ok (.iload 8, 2) := by decide +kernel
theorem dX8_ways_63 : decode cX8_ways 63 = .ok (.bipush 6, 2) := by decide +kernel
theorem dX8_ways_65 : decode cX8_ways 65 = .ok (.if_icmp .ge 42, 3) := by decide +kernel
theorem dX8_ways_68 : decode cX8_ways 68 = .ok (.iload_n 2, 1) := by decide +kernel
theorem dX8_ways_69 : decode cX8_ways 69 = .ok (.iload 8, 2) := by decide +kernel
theorem dX8_ways_71 : decode cX8_ways 71 = .ok (.invokestatic 283, 3) := by decide +kernel
theorem dX8_ways_74 : decode cX8_ways 74 = .ok (.ifCond .eq 27, 3) := by decide +kernel
theorem dX8_ways_77 : decode cX8_ways 77 = .ok (.iload 7, 2) := by decide +kernel
theorem dX8_ways_79 : decode cX8_ways 79 = .ok (.aload_n 0, 1) := by decide +kernel
theorem dX8_ways_80 : decode cX8_ways 80 = .ok (.iload_n 1, 1) := by decide +kernel
theorem dX8_ways_81 : decode cX8_ways 81 = .ok (.iconst 1, 1) := by decide +kernel
theorem dX8_ways_82 : decode cX8_ways 82 = .ok (.iadd, 1) := by decide +kernel
theorem dX8_ways_83 : decode cX8_ways 83 = .ok (.iload_n 2, 1) := by decide +kernel
theorem dX8_ways_84 : decode cX8_ways 84 = .ok (.iload 8, 2) := by decide +kernel
theorem dX8_ways_86 : decode cX8_ways 86 = .ok (.invokestatic 286, 3) := by decide +kernel
theorem dX8_ways_89 : decode cX8_ways 89 = .ok (.iload 6, 2) := by decide +kernel
theorem dX8_ways_91 : decode cX8_ways 91 = .ok (.iload 4, 2) := by decide +kernel
theorem dX8_ways_93 : decode cX8_ways 93 = .ok (.iload 5, 2) := by decide +kernel
theorem dX8_ways_95 : decode cX8_ways 95 = .ok (.invokestatic 191, 3) := by decide +kernel
theorem dX8_ways_98 : decode cX8_ways 98 = .ok (.iadd, 1) := by decide +kernel
theorem dX8_ways_99 : decode cX8_ways 99 = .ok (.istore 7, 2) := by decide +kernel
theorem dX8_ways_101 : decode cX8_ways 101 = .ok (.iinc 8 1, 3) := by decide +kernel
theorem dX8_ways_104 : decode cX8_ways 104 = .ok (.goto (-43), 3) := by decide +kernel
theorem dX8_ways_107 : decode cX8_ways 107 = .ok (.iload 7, 2) := by decide +kernel
theorem dX8_ways_109 : decode cX8_ways 109 = .ok (.ireturn, 1) := by decide +kernel
theorem dX8_oneOf_0 : decode cX8_oneOf 0 = .ok (.iload_n 0, 1) := by decide +kernel
theorem dX8_oneOf_1 : decode cX8_oneOf 1 = .ok (.ifCond .ne 5, 3) := by decide +kernel
theorem dX8_oneOf_4 : decode cX8_oneOf 4 = .ok (.iload_n 1, 1) := by decide +kernel
theorem dX8_oneOf_5 : decode cX8_oneOf 5 = .ok (.ireturn, 1) := by decide +kernel
theorem dX8_oneOf_6 : decode cX8_oneOf 6 = .ok (.iload_n 0, 1) := by decide +kernel
theorem dX8_oneOf_7 : decode cX8_oneOf 7 = .ok (.iconst 1, 1) := by decide +kernel
theorem dX8_oneOf_8 : decode cX8_oneOf 8 = .ok (.if_icmp .ne 7, 3) := by decide +kernel
theorem dX8_oneOf_11 : decode cX8_oneOf 11 = .ok (.iload_n 2, 1) := by decide +kernel
theorem dX8_oneOf_12 : decode cX8_oneOf 12 = .ok (.goto 4, 3) := by decide +kernel
theorem dX8_oneOf_15 : decode cX8_oneOf 15 = .ok (.iload_n 3, 1) := by decide +kernel
theorem dX8_oneOf_16 : decode cX8_oneOf 16 = .ok (.ireturn, 1) := by decide +kernel
theorem dX8_inLowestTerms_0 : decode cX8_inLowestTerms 0 = .ok (.lload_n 0, 1) := by decide +kernel
theorem dX8_inLowestTerms_1 : decode cX8_inLowestTerms 1 = .ok (.lload_n 2, 1) := by decide +kernel
theorem dX8_inLowestTerms_2 : decode cX8_inLowestTerms 2 = .ok (.invokestatic 328, 3) := by decide +kernel
theorem dX8_inLowestTerms_5 : decode cX8_inLowestTerms 5 = .ok (.lstore 5, 2) := by decide +kernel
theorem dX8_inLowestTerms_7 : decode cX8_inLowestTerms 7 = .ok (.lload 5, 2) := by decide +kernel
theorem dX8_inLowestTerms_9 : decode cX8_inLowestTerms 9 = .ok (.lconst 1, 1) := by decide +kernel
theorem dX8_inLowestTerms_10 : decode cX8_inLowestTerms 10 = .ok (.lcmp, 1) := by decide +kernel
theorem dX8_inLowestTerms_11 : decode cX8_inLowestTerms 11 = .ok (.ifCond .ge 7, 3) := by decide +kernel
theorem dX8_inLowestTerms_14 : decode cX8_inLowestTerms 14 = .ok (.ldc2_w 202, 3) := by decide +kernel
theorem dX8_inLowestTerms_17 : decode cX8_inLowestTerms 17 = .ok (.lreturn, 1) := by decide +kernel
theorem dX8_inLowestTerms_18 : decode cX8_inLowestTerms 18 = .ok (.iload 4, 2) := by decide +kernel
theorem dX8_inLowestTerms_20 : decode cX8_inLowestTerms 20 = .ok (.ifCond .ne 10, 3) := by decide +kernel
theorem dX8_inLowestTerms_23 : decode cX8_inLowestTerms 23 = .ok (.lload_n 0, 1) := by decide +kernel
theorem dX8_inLowestTerms_24 : decode cX8_inLowestTerms 24 = .ok (.lload 5, 2) := by decide +kernel
theorem dX8_inLowestTerms_26 : decode cX8_inLowestTerms 26 = .ok (.ldiv, 1) := by decide +kernel
theorem dX8_inLowestTerms_27 : decode cX8_inLowestTerms 27 = .ok (.goto 7, 3) := by decide +kernel
theorem dX8_inLowestTerms_30 : decode cX8_inLowestTerms 30 = .ok (.lload_n 2, 1) := by decide +kernel
theorem dX8_inLowestTerms_31 : decode cX8_inLowestTerms 31 = .ok (.lload 5, 2) := by decide +kernel
theorem dX8_inLowestTerms_33 : decode cX8_inLowestTerms 33 = .ok (.ldiv, 1) := by decide +kernel
theorem dX8_inLowestTerms_34 : decode cX8_inLowestTerms 34 = .ok (.lreturn, 1) := by decide +kernel
theorem dX8_commonDivisor_0 : decode cX8_commonDivisor 0 = .ok (.lload_n 0, 1) := by decide +kernel
theorem dX8_commonDivisor_1 : decode cX8_commonDivisor 1 = .ok (.lstore 4, 2) := by decide +kernel
theorem dX8_commonDivisor_3 : decode cX8_commonDivisor 3 = .ok (.lload_n 2, 1) := by decide +kernel
theorem dX8_commonDivisor_4 : decode cX8_commonDivisor 4 = .ok (.lstore 6, 2) := by decide +kernel
theorem dX8_commonDivisor_6 : decode cX8_commonDivisor 6 = .ok (.iconst 0, 1) := by decide +kernel
theorem dX8_commonDivisor_7 : decode cX8_commonDivisor 7 = .ok (.istore 8, 2) := by decide +kernel
theorem dX8_commonDivisor_9 : decode cX8_commonDivisor 9 = .ok (.iload 8, 2) := by decide +kernel
theorem dX8_commonDivisor_11 : decode cX8_commonDivisor 11 = .ok (.sipush 200, 3) := by decide +kernel
theorem dX8_commonDivisor_14 : decode cX8_commonDivisor 14 = .ok (.if_icmp .ge 31, 3) := by decide +kernel
theorem dX8_commonDivisor_17 : decode cX8_commonDivisor 17 = .ok (.lload 6, 2) := by decide +kernel
theorem dX8_commonDivisor_19 : decode cX8_commonDivisor 19 = .ok (.lconst 0, 1) := by decide +kernel
theorem dX8_commonDivisor_20 : decode cX8_commonDivisor 20 = .ok (.lcmp, 1) := by decide +kernel
theorem dX8_commonDivisor_21 : decode cX8_commonDivisor 21 = .ok (.ifCond .eq 24, 3) := by decide +kernel
theorem dX8_commonDivisor_24 : decode cX8_commonDivisor 24 = .ok (.lload 4, 2) := by decide +kernel
theorem dX8_commonDivisor_26 : decode cX8_commonDivisor 26 = .ok (.lload 6, 2) := by decide +kernel
theorem dX8_commonDivisor_28 : decode cX8_commonDivisor 28 = .ok (.lrem, 1) := by decide +kernel
theorem dX8_commonDivisor_29 : decode cX8_commonDivisor 29 = .ok (.lstore 9, 2) := by decide +kernel
theorem dX8_commonDivisor_31 : decode cX8_commonDivisor 31 = .ok (.lload 6, 2) := by decide +kernel
theorem dX8_commonDivisor_33 : decode cX8_commonDivisor 33 = .ok (.lstore 4, 2) := by decide +kernel
theorem dX8_commonDivisor_35 : decode cX8_commonDivisor 35 = .ok (.lload 9, 2) := by decide +kernel
theorem dX8_commonDivisor_37 : decode cX8_commonDivisor 37 = .ok (.lstore 6, 2) := by decide +kernel
theorem dX8_commonDivisor_39 : decode cX8_commonDivisor 39 = .ok (.iinc 8 1, 3) := by decide +kernel
theorem dX8_commonDivisor_42 : decode cX8_commonDivisor 42 = .ok (.goto (-33), 3) := by decide +kernel
theorem dX8_commonDivisor_45 : decode cX8_commonDivisor 45 = .ok (.lload 4, 2) := by decide +kernel
theorem dX8_commonDivisor_47 : decode cX8_commonDivisor 47 = .ok (.lreturn, 1) := by decide +kernel
theorem dX8_cell_0 : decode cX8_cell 0 = .ok (.aload_n 0, 1) := by decide +kernel
theorem dX8_cell_1 : decode cX8_cell 1 = .ok (.ifnull 19, 3) := by decide +kernel
theorem dX8_cell_4 : decode cX8_cell 4 = .ok (.iload_n 1, 1) := by decide +kernel
theorem dX8_cell_5 : decode cX8_cell 5 = .ok (.ifCond .lt 15, 3) := by decide +kernel
theorem dX8_cell_8 : decode cX8_cell 8 = .ok (.iload_n 1, 1) := by decide +kernel
theorem dX8_cell_9 : decode cX8_cell 9 = .ok (.aload_n 0, 1) := by decide +kernel
theorem dX8_cell_10 : decode cX8_cell 10 = .ok (.arraylength, 1) := by decide +kernel
theorem dX8_cell_11 : decode cX8_cell 11 = .ok (.if_icmp .ge 9, 3) := by decide +kernel
theorem dX8_cell_14 : decode cX8_cell 14 = .ok (.aload_n 0, 1) := by decide +kernel
theorem dX8_cell_15 : decode cX8_cell 15 = .ok (.iload_n 1, 1) := by decide +kernel
theorem dX8_cell_16 : decode cX8_cell 16 = .ok (.iaload, 1) := by decide +kernel
theorem dX8_cell_17 : decode cX8_cell 17 = .ok (.goto 4, 3) := by decide +kernel
theorem dX8_cell_20 : decode cX8_cell 20 = .ok (.iconst 0, 1) := by decide +kernel
theorem dX8_cell_21 : decode cX8_cell 21 = .ok (.ireturn, 1) := by decide +kernel
theorem dX8_put_0 : decode cX8_put 0 = .ok (.aload_n 0, 1) := by decide +kernel
theorem dX8_put_1 : decode cX8_put 1 = .ok (.ifnull 17, 3) := by decide +kernel
theorem dX8_put_4 : decode cX8_put 4 = .ok (.iload_n 1, 1) := by decide +kernel
theorem dX8_put_5 : decode cX8_put 5 = .ok (.ifCond .lt 13, 3) := by decide +kernel
theorem dX8_put_8 : decode cX8_put 8 = .ok (.iload_n 1, 1) := by decide +kernel
theorem dX8_put_9 : decode cX8_put 9 = .ok (.aload_n 0, 1) := by decide +kernel
theorem dX8_put_10 : decode cX8_put 10 = .ok (.arraylength, 1) := by decide +kernel
theorem dX8_put_11 : decode cX8_put 11 = .ok (.if_icmp .ge 7, 3) := by decide +kernel
theorem dX8_put_14 : decode cX8_put 14 = .ok (.aload_n 0, 1) := by decide +kernel
theorem dX8_put_15 : decode cX8_put 15 = .ok (.iload_n 1, 1) := by decide +kernel
theorem dX8_put_16 : decode cX8_put 16 = .ok (.iload_n 2, 1) := by decide +kernel
theorem dX8_put_17 : decode cX8_put 17 = .ok (.iastore, 1) := by decide +kernel
theorem dX8_put_18 : decode cX8_put 18 = .ok (.return_, 1) := by decide +kernel
theorem dX8_copy_0 : decode cX8_copy 0 = .ok (.iconst 0, 1) := by decide +kernel
theorem dX8_copy_1 : decode cX8_copy 1 = .ok (.istore_n 2, 1) := by decide +kernel
theorem dX8_copy_2 : decode cX8_copy 2 = .ok (.aload_n 0, 1) := by decide +kernel
theorem dX8_copy_3 : decode cX8_copy 3 = .ok (.ifnull 31, 3) := by decide +kernel
theorem dX8_copy_6 : decode cX8_copy 6 = .ok (.aload_n 1, 1) := by decide +kernel
theorem dX8_copy_7 : decode cX8_copy 7 = .ok (.ifnull 27, 3) := by decide +kernel
theorem dX8_copy_10 : decode cX8_copy 10 = .ok (.iload_n 2, 1) := by decide +kernel
theorem dX8_copy_11 : decode cX8_copy 11 = .ok (.aload_n 0, 1) := by decide +kernel
theorem dX8_copy_12 : decode cX8_copy 12 = .ok (.arraylength, 1) := by decide +kernel
theorem dX8_copy_13 : decode cX8_copy 13 = .ok (.if_icmp .ge 21, 3) := by decide +kernel
theorem dX8_copy_16 : decode cX8_copy 16 = .ok (.iload_n 2, 1) := by decide +kernel
theorem dX8_copy_17 : decode cX8_copy 17 = .ok (.aload_n 1, 1) := by decide +kernel
theorem dX8_copy_18 : decode cX8_copy 18 = .ok (.arraylength, 1) := by decide +kernel
theorem dX8_copy_19 : decode cX8_copy 19 = .ok (.if_icmp .ge 15, 3) := by decide +kernel
theorem dX8_copy_22 : decode cX8_copy 22 = .ok (.aload_n 1, 1) := by decide +kernel
theorem dX8_copy_23 : decode cX8_copy 23 = .ok (.iload_n 2, 1) := by decide +kernel
theorem dX8_copy_24 : decode cX8_copy 24 = .ok (.aload_n 0, 1) := by decide +kernel
theorem dX8_copy_25 : decode cX8_copy 25 = .ok (.iload_n 2, 1) := by decide +kernel
theorem dX8_copy_26 : decode cX8_copy 26 = .ok (.iaload, 1) := by decide +kernel
theorem dX8_copy_27 : decode cX8_copy 27 = .ok (.iastore, 1) := by decide +kernel
theorem dX8_copy_28 : decode cX8_copy 28 = .ok (.iinc 2 1, 3) := by decide +kernel
theorem dX8_copy_31 : decode cX8_copy 31 = .ok (.goto (-29), 3) := by decide +kernel
theorem dX8_copy_34 : decode cX8_copy 34 = .ok (.return_, 1) := by decide +kernel
theorem dX8_imageOf_0 : decode cX8_imageOf 0 = .ok (.iload_n 1, 1) := by decide +kernel
theorem dX8_imageOf_1 : decode cX8_imageOf 1 = .ok (.ifCond .ne 10, 3) := by decide +kernel
theorem dX8_imageOf_4 : decode cX8_imageOf 4 = .ok (.aload_n 0, 1) := by decide +kernel
theorem dX8_imageOf_5 : decode cX8_imageOf 5 = .ok (.getfield 16, 3) := by decide +kernel
theorem dX8_imageOf_8 : decode cX8_imageOf 8 = .ok (.goto 7, 3) := by decide +kernel
theorem dX8_imageOf_11 : decode cX8_imageOf 11 = .ok (.aload_n 0, 1) := by decide +kernel
theorem dX8_imageOf_12 : decode cX8_imageOf 12 = .ok (.getfield 19, 3) := by decide +kernel
theorem dX8_imageOf_15 : decode cX8_imageOf 15 = .ok (.areturn, 1) := by decide +kernel
end
section
/-! decode rows, as claim/NAMES.whole.lean.txt prints them -/
theorem dX9_init_0 : decode cX9_init 0 = .ok (.aload_n 0, 1) := by decide +kernel
theorem dX9_init_1 : decode cX9_init 1 = .ok (.invokespecial 1, 3) := by decide +kernel
theorem dX9_init_4 : decode cX9_init 4 = .ok (.aload_n 0, 1) := by decide +kernel
theorem dX9_init_5 : decode cX9_init 5 = .ok (.iconst 5, 1) := by decide +kernel
theorem dX9_init_6 : decode cX9_init 6 = .ok (.newarray .int, 2) := by decide +kernel
theorem dX9_init_8 : decode cX9_init 8 = .ok (.putfield 7, 3) := by decide +kernel
theorem dX9_init_11 : decode cX9_init 11 = .ok (.aload_n 0, 1) := by decide +kernel
theorem dX9_init_12 : decode cX9_init 12 = .ok (.iconst 5, 1) := by decide +kernel
theorem dX9_init_13 : decode cX9_init 13 = .ok (.newarray .int, 2) := by decide +kernel
theorem dX9_init_15 : decode cX9_init 15 = .ok (.putfield 13, 3) := by decide +kernel
theorem dX9_init_18 : decode cX9_init 18 = .ok (.aload_n 0, 1) := by decide +kernel
theorem dX9_init_19 : decode cX9_init 19 = .ok (.bipush 6, 2) := by decide +kernel
theorem dX9_init_21 : decode cX9_init 21 = .ok (.newarray .int, 2) := by decide +kernel
theorem dX9_init_23 : decode cX9_init 23 = .ok (.putfield 16, 3) := by decide +kernel
theorem dX9_init_26 : decode cX9_init 26 = .ok (.aload_n 0, 1) := by decide +kernel
theorem dX9_init_27 : decode cX9_init 27 = .ok (.bipush 6, 2) := by decide +kernel
theorem dX9_init_29 : decode cX9_init 29 = .ok (.newarray .int, 2) := by decide +kernel
theorem dX9_init_31 : decode cX9_init 31 = .ok (.putfield 19, 3) := by decide +kernel
theorem dX9_init_34 : decode cX9_init 34 = .ok (.aload_n 0, 1) := by decide +kernel
theorem dX9_init_35 : decode cX9_init 35 = .ok (.bipush 6, 2) := by decide +kernel
theorem dX9_init_37 : decode cX9_init 37 = .ok (.newarray .int, 2) := by decide +kernel
theorem dX9_init_39 : decode cX9_init 39 = .ok (.putfield 22, 3) := by decide +kernel
theorem dX9_init_42 : decode cX9_init 42 = .ok (.aload_n 0, 1) := by decide +kernel
theorem dX9_init_43 : decode cX9_init 43 = .ok (.bipush 60, 2) := by decide +kernel
theorem dX9_init_45 : decode cX9_init 45 = .ok (.newarray .int, 2) := by decide +kernel
theorem dX9_init_47 : decode cX9_init 47 = .ok (.putfield 25, 3) := by decide +kernel
theorem dX9_init_50 : decode cX9_init 50 = .ok (.aload_n 0, 1) := by decide +kernel
theorem dX9_init_51 : decode cX9_init 51 = .ok (.bipush 61, 2) := by decide +kernel
theorem dX9_init_53 : decode cX9_init 53 = .ok (.newarray .int, 2) := by decide +kernel
theorem dX9_init_55 : decode cX9_init 55 = .ok (.putfield 28, 3) := by decide +kernel
theorem dX9_init_58 : decode cX9_init 58 = .ok (.aload_n 0, 1) := by decide +kernel
theorem dX9_init_59 : decode cX9_init 59 = .ok (.bipush 12, 2) := by decide +kernel
theorem dX9_init_61 : decode cX9_init 61 = .ok (.newarray .int, 2) := by decide +kernel
theorem dX9_init_63 : decode cX9_init 63 = .ok (.putfield 31, 3) := by decide +kernel
theorem dX9_init_66 : decode cX9_init 66 = .ok (.aload_n 0, 1) := by decide +kernel
theorem dX9_init_67 : decode cX9_init 67 = .ok (.bipush 12, 2) := by decide +kernel
theorem dX9_init_69 : decode cX9_init 69 = .ok (.newarray .int, 2) := by decide +kernel
theorem dX9_init_71 : decode cX9_init 71 = .ok (.putfield 34, 3) := by decide +kernel
theorem dX9_init_74 : decode cX9_init 74 = .ok (.aload_n 0, 1) := by decide +kernel
theorem dX9_init_75 : decode cX9_init 75 = .ok (.bipush 6, 2) := by decide +kernel
theorem dX9_init_77 : decode cX9_init 77 = .ok (.newarray .int, 2) := by decide +kernel
theorem dX9_init_79 : decode cX9_init 79 = .ok (.putfield 37, 3) := by decide +kernel
theorem dX9_init_82 : decode cX9_init 82 = .ok (.aload_n 0, 1) := by decide +kernel
theorem dX9_init_83 : decode cX9_init 83 = .ok (.bipush 60, 2) := by decide +kernel
theorem dX9_init_85 : decode cX9_init 85 = .ok (.newarray .int, 2) := by decide +kernel
theorem dX9_init_87 : decode cX9_init 87 = .ok (.putfield 40, 3) := by decide +kernel
theorem dX9_init_90 : decode cX9_init 90 = .ok (.aload_n 0, 1) := by decide +kernel
theorem dX9_init_91 : decode cX9_init 91 = .ok (.bipush 100, 2) := by decide +kernel
theorem dX9_init_93 : decode cX9_init 93 = .ok (.newarray .int, 2) := by decide +kernel
theorem dX9_init_95 : decode cX9_init 95 = .ok (.putfield 43, 3) := by decide +kernel
theorem dX9_init_98 : decode cX9_init 98 = .ok (.aload_n 0, 1) := by decide +kernel
theorem dX9_init_99 : decode cX9_init 99 = .ok (.iconst 2, 1) := by decide +kernel
theorem dX9_init_100 : decode cX9_init 100 = .ok (.newarray .boolean, 2) := by decide +kernel
theorem dX9_init_102 : decode cX9_init 102 = .ok (.putfield 46, 3) := by decide +kernel
theorem dX9_init_105 : decode cX9_init 105 = .ok (.aload_n 0, 1) := by decide +kernel
theorem dX9_init_106 : decode cX9_init 106 = .ok (.bipush 10, 2) := by decide +kernel
theorem dX9_init_108 : decode cX9_init 108 = .ok (.putfield 50, 3) := by decide +kernel
theorem dX9_init_111 : decode cX9_init 111 = .ok (.aload_n 0, 1) := by decide +kernel
theorem dX9_init_112 : decode cX9_init 112 = .ok (.bipush 50, 2) := by decide +kernel
theorem dX9_init_114 : decode cX9_init 114 = .ok (.putfield 54, 3) := by decide +kernel
theorem dX9_init_117 : decode cX9_init 117 = .ok (.aload_n 0, 1) := by decide +kernel
theorem dX9_init_118 : decode cX9_init 118 = .ok (.iconst 1, 1) := by decide +kernel
theorem dX9_init_119 : decode cX9_init 119 = .ok (.putfield 57, 3) := by decide +kernel
theorem dX9_init_122 : decode cX9_init 122 = .ok (.aload_n 0, 1) := by decide +kernel
theorem dX9_init_123 : decode cX9_init 123 = .ok (.bipush 10, 2) := by decide +kernel
theorem dX9_init_125 : decode cX9_init 125 = .ok (.putfield 60, 3) := by decide +kernel
theorem dX9_init_128 : decode cX9_init 128 = .ok (.aload_n 0, 1) := by decide +kernel
theorem dX9_init_129 : decode cX9_init 129 = .ok (.iconst 3, 1) := by decide +kernel
theorem dX9_init_130 : decode cX9_init 130 = .ok (.putfield 63, 3) := by decide +kernel
theorem dX9_init_133 : decode cX9_init 133 = .ok (.aload_n 0, 1) := by decide +kernel
theorem dX9_init_134 : decode cX9_init 134 = .ok (.iconst 5, 1) := by decide +kernel
theorem dX9_init_135 : decode cX9_init 135 = .ok (.putfield 66, 3) := by decide +kernel
theorem dX9_init_138 : decode cX9_init 138 = .ok (.iconst 0, 1) := by decide +kernel
theorem dX9_init_139 : decode cX9_init 139 = .ok (.istore_n 1, 1) := by decide +kernel
theorem dX9_init_140 : decode cX9_init 140 = .ok (.iload_n 1, 1) := by decide +kernel
theorem dX9_init_141 : decode cX9_init 141 = .ok (.iconst 5, 1) := by decide +kernel
theorem dX9_init_142 : decode cX9_init 142 = .ok (.if_icmp .ge 24, 3) := by decide +kernel
theorem dX9_init_145 : decode cX9_init 145 = .ok (.aload_n 0, 1) := by decide +kernel
theorem dX9_init_146 : decode cX9_init 146 = .ok (.getfield 7, 3) := by decide +kernel
theorem dX9_init_149 : decode cX9_init 149 = .ok (.iload_n 1, 1) := by decide +kernel
theorem dX9_init_150 : decode cX9_init 150 = .ok (.iload_n 1, 1) := by decide +kernel
theorem dX9_init_151 : decode cX9_init 151 = .ok (.iastore, 1) := by decide +kernel
theorem dX9_init_152 : decode cX9_init 152 = .ok (.aload_n 0, 1) := by decide +kernel
theorem dX9_init_153 : decode cX9_init 153 = .ok (.getfield 13, 3) := by decide +kernel
theorem dX9_init_156 : decode cX9_init 156 = .ok (.iload_n 1, 1) := by decide +kernel
theorem dX9_init_157 : decode cX9_init 157 = .ok (.iload_n 1, 1) := by decide +kernel
theorem dX9_init_158 : decode cX9_init 158 = .ok (.ineg, 1) := by decide +kernel
theorem dX9_init_159 : decode cX9_init 159 = .ok (.iastore, 1) := by decide +kernel
theorem dX9_init_160 : decode cX9_init 160 = .ok (.iinc 1 1, 3) := by decide +kernel
theorem dX9_init_163 : decode cX9_init 163 = .ok (.goto (-23), 3) := by decide +kernel
theorem dX9_init_166 : decode cX9_init 166 = .ok (.return_, 1) := by decide +kernel
theorem dX9_in_0 : decode cX9_in 0 = .ok (.lload_n 0, 1) := by decide +kernel
theorem dX9_in_1 : decode cX9_in 1 = .ok (.lload_n 2, 1) := by decide +kernel
theorem dX9_in_2 : decode cX9_in 2 = .ok (.lcmp, 1) := by decide +kernel
theorem dX9_in_3 : decode cX9_in 3 = .ok (.ifCond .lt 14, 3) := by decide +kernel
theorem dX9_in_6 : decode cX9_in 6 = .ok (.lload_n 0, 1) := by decide +kernel
theorem dX9_in_7 : decode cX9_in 7 = .ok (.lload 4, 2) := by decide +kernel
theorem dX9_in_9 : decode cX9_in 9 = .ok (.lcmp, 1) := by decide +kernel
theorem dX9_in_10 : decode cX9_in 10 = .ok (.ifCond .gt 7, 3) := by decide +kernel
theorem dX9_in_13 : decode cX9_in 13 = .ok (.iconst 1, 1) := by decide +kernel
theorem dX9_in_14 : decode cX9_in 14 = .ok (.goto 4, 3) := by decide +kernel
theorem dX9_in_17 : decode cX9_in 17 = .ok (.iconst 0, 1) := by decide +kernel
theorem dX9_in_18 : decode cX9_in 18 = .ok (.ireturn, 1) := by decide +kernel
theorem dX9_wind_0 : decode cX9_wind 0 = .ok (.iload_n 1, 1) := by decide +kernel
theorem dX9_wind_1 : decode cX9_wind 1 = .ok (.i2l, 1) := by decide +kernel
theorem dX9_wind_2 : decode cX9_wind 2 = .ok (.lconst 0, 1) := by decide +kernel
theorem dX9_wind_3 : decode cX9_wind 3 = .ok (.ldc2_w 69, 3) := by decide +kernel
theorem dX9_wind_6 : decode cX9_wind 6 = .ok (.invokestatic 71, 3) := by decide +kernel
theorem dX9_wind_9 : decode cX9_wind 9 = .ok (.ifCond .ne 5, 3) := by decide +kernel
theorem dX9_wind_12 : decode cX9_wind 12 = .ok (.iconst (-1), 1) := by decide +kernel
theorem dX9_wind_13 : decode cX9_wind 13 = .ok (.ireturn, 1) := by decide +kernel
theorem dX9_wind_14 : decode cX9_wind 14 = .ok (.iload_n 2, 1) := by decide +kernel
theorem dX9_wind_15 : decode cX9_wind 15 = .ok (.i2l, 1) := by decide +kernel
theorem dX9_wind_16 : decode cX9_wind 16 = .ok (.lconst 0, 1) := by decide +kernel
theorem dX9_wind_17 : decode cX9_wind 17 = .ok (.lconst 1, 1) := by decide +kernel
theorem dX9_wind_18 : decode cX9_wind 18 = .ok (.invokestatic 71, 3) := by decide +kernel
theorem dX9_wind_21 : decode cX9_wind 21 = .ok (.ifCond .eq 17, 3) := by decide +kernel
theorem dX9_wind_24 : decode cX9_wind 24 = .ok (.iload_n 3, 1) := by decide +kernel
theorem dX9_wind_25 : decode cX9_wind 25 = .ok (.i2l, 1) := by decide +kernel
theorem dX9_wind_26 : decode cX9_wind 26 = .ok (.ldc2_w 75, 3) := by decide +kernel
theorem dX9_wind_29 : decode cX9_wind 29 = .ok (.ldc2_w 77, 3) := by decide +kernel
theorem dX9_wind_32 : decode cX9_wind 32 = .ok (.invokestatic 71, 3) := by decide +kernel
theorem dX9_wind_35 : decode cX9_wind 35 = .ok (.ifCond .ne 6, 3) := by decide +kernel
theorem dX9_wind_38 : decode cX9_wind 38 = .ok (.bipush (-2), 2) := by decide +kernel
theorem dX9_wind_40 : decode cX9_wind 40 = .ok (.ireturn, 1) := by decide +kernel
theorem dX9_wind_41 : decode cX9_wind 41 = .ok (.iload_n 2, 1) := by decide +kernel
theorem dX9_wind_42 : decode cX9_wind 42 = .ok (.ifCond .ne 12, 3) := by decide +kernel
theorem dX9_wind_45 : decode cX9_wind 45 = .ok (.aload_n 0, 1) := by decide +kernel
theorem dX9_wind_46 : decode cX9_wind 46 = .ok (.getfield 7, 3) := by decide +kernel
theorem dX9_wind_49 : decode cX9_wind 49 = .ok (.iload_n 1, 1) := by decide +kernel
theorem dX9_wind_50 : decode cX9_wind 50 = .ok (.iaload, 1) := by decide +kernel
theorem dX9_wind_51 : decode cX9_wind 51 = .ok (.goto 9, 3) := by decide +kernel
theorem dX9_wind_54 : decode cX9_wind 54 = .ok (.aload_n 0, 1) := by decide +kernel
theorem dX9_wind_55 : decode cX9_wind 55 = .ok (.getfield 13, 3) := by decide +kernel
theorem dX9_wind_58 : decode cX9_wind 58 = .ok (.iload_n 1, 1) := by decide +kernel
theorem dX9_wind_59 : decode cX9_wind 59 = .ok (.iaload, 1) := by decide +kernel
theorem dX9_wind_60 : decode cX9_wind 60 = .ok (.istore 4, 2) := by decide +kernel
theorem dX9_wind_62 : decode cX9_wind 62 = .ok (.aload_n 0, 1) := by decide +kernel
theorem dX9_wind_63 : decode cX9_wind 63 = .ok (.getfield 7, 3) := by decide +kernel
theorem dX9_wind_66 : decode cX9_wind 66 = .ok (.iload_n 1, 1) := by decide +kernel
theorem dX9_wind_67 : decode cX9_wind 67 = .ok (.iload_n 2, 1) := by decide +kernel
theorem dX9_wind_68 : decode cX9_wind 68 = .ok (.ifCond .ne 7, 3) := by decide +kernel
theorem dX9_wind_71 : decode cX9_wind 71 = .ok (.iload_n 3, 1) := by decide +kernel
theorem dX9_wind_72 : decode cX9_wind 72 = .ok (.goto 9, 3) := by decide +kernel
theorem dX9_wind_75 : decode cX9_wind 75 = .ok (.aload_n 0, 1) := by decide +kernel
theorem dX9_wind_76 : decode cX9_wind 76 = .ok (.getfield 7, 3) := by decide +kernel
theorem dX9_wind_79 : decode cX9_wind 79 = .ok (.iload_n 1, 1) := by decide +kernel
theorem dX9_wind_80 : decode cX9_wind 80 = .ok (.iaload, 1) := by decide +kernel
theorem dX9_wind_81 : decode cX9_wind 81 = .ok (.iastore, 1) := by decide +kernel
theorem dX9_wind_82 : decode cX9_wind 82 = .ok (.aload_n 0, 1) := by decide +kernel
theorem dX9_wind_83 : decode cX9_wind 83 = .ok (.getfield 13, 3) := by decide +kernel
theorem dX9_wind_86 : decode cX9_wind 86 = .ok (.iload_n 1, 1) := by decide +kernel
theorem dX9_wind_87 : decode cX9_wind 87 = .ok (.iload_n 2, 1) := by decide +kernel
theorem dX9_wind_88 : decode cX9_wind 88 = .ok (.iconst 1, 1) := by decide +kernel
theorem dX9_wind_89 : decode cX9_wind 89 = .ok (.if_icmp .ne 7, 3) := by decide +kernel
theorem dX9_wind_92 : decode cX9_wind 92 = .ok (.iload_n 3, 1) := by decide +kernel
theorem dX9_wind_93 : decode cX9_wind 93 = .ok (.goto 9, 3) := by decide +kernel
theorem dX9_wind_96 : decode cX9_wind 96 = .ok (.aload_n 0, 1) := by decide +kernel
theorem dX9_wind_97 : decode cX9_wind 97 = .ok (.getfield 13, 3) := by decide +kernel
theorem dX9_wind_100 : decode cX9_wind 100 = .ok (.iload_n 1, 1) := by decide +kernel
theorem dX9_wind_101 : decode cX9_wind 101 = .ok (.iaload, 1) := by decide +kernel
theorem dX9_wind_102 : decode cX9_wind 102 = .ok (.iastore, 1) := by decide +kernel
theorem dX9_wind_103 : decode cX9_wind 103 = .ok (.iload 4, 2) := by decide +kernel
theorem dX9_wind_105 : decode cX9_wind 105 = .ok (.bipush 100, 2) := by decide +kernel
theorem dX9_wind_107 : decode cX9_wind 107 = .ok (.iadd, 1) := by decide +kernel
theorem dX9_wind_108 : decode cX9_wind 108 = .ok (.ireturn, 1) := by decide +kernel
theorem dX9_set_0 : decode cX9_set 0 = .ok (.iload_n 1, 1) := by decide +kernel
theorem dX9_set_1 : decode cX9_set 1 = .ok (.iconst 3, 1) := by decide +kernel
theorem dX9_set_2 : decode cX9_set 2 = .ok (.if_icmp .eq 8, 3) := by decide +kernel
theorem dX9_set_5 : decode cX9_set 5 = .ok (.iload_n 1, 1) := by decide +kernel
theorem dX9_set_6 : decode cX9_set 6 = .ok (.iconst 5, 1) := by decide +kernel
theorem dX9_set_7 : decode cX9_set 7 = .ok (.if_icmp .ne 7, 3) := by decide +kernel
theorem dX9_set_10 : decode cX9_set 10 = .ok (.iconst 1, 1) := by decide +kernel
theorem dX9_set_11 : decode cX9_set 11 = .ok (.goto 4, 3) := by decide +kernel
theorem dX9_set_14 : decode cX9_set 14 = .ok (.iconst 0, 1) := by decide +kernel
theorem dX9_set_15 : decode cX9_set 15 = .ok (.istore_n 3, 1) := by decide +kernel
theorem dX9_set_16 : decode cX9_set 16 = .ok (.iload_n 1, 1) := by decide +kernel
theorem dX9_set_17 : decode cX9_set 17 = .ok (.ifCond .ne 8, 3) := by decide +kernel
theorem dX9_set_20 : decode cX9_set 20 = .ok (.bipush 40, 2) := by decide +kernel
theorem dX9_set_22 : decode cX9_set 22 = .ok (.goto 30, 3) := by decide +kernel
theorem dX9_set_25 : decode cX9_set 25 = .ok (.iload_n 1, 1) := by decide +kernel
theorem dX9_set_26 : decode cX9_set 26 = .ok (.iconst 1, 1) := by decide +kernel
theorem dX9_set_27 : decode cX9_set 27 = .ok (.if_icmp .ne 8, 3) := by decide +kernel
theorem dX9_set_30 : decode cX9_set 30 = .ok (.bipush 99, 2) := by decide +kernel
theorem dX9_set_32 : decode cX9_set 32 = .ok (.goto 20, 3) := by decide +kernel
theorem dX9_set_35 : decode cX9_set 35 = .ok (.iload_n 1, 1) := by decide +kernel
theorem dX9_set_36 : decode cX9_set 36 = .ok (.iconst 2, 1) := by decide +kernel
theorem dX9_set_37 : decode cX9_set 37 = .ok (.if_icmp .eq 8, 3) := by decide +kernel
theorem dX9_set_40 : decode cX9_set 40 = .ok (.iload_n 1, 1) := by decide +kernel
theorem dX9_set_41 : decode cX9_set 41 = .ok (.iconst 4, 1) := by decide +kernel
theorem dX9_set_42 : decode cX9_set 42 = .ok (.if_icmp .ne 8, 3) := by decide +kernel
theorem dX9_set_45 : decode cX9_set 45 = .ok (.bipush 9, 2) := by decide +kernel
theorem dX9_set_47 : decode cX9_set 47 = .ok (.goto 5, 3) := by decide +kernel
theorem dX9_set_50 : decode cX9_set 50 = .ok (.bipush 20, 2) := by decide +kernel
theorem dX9_set_52 : decode cX9_set 52 = .ok (.istore 4, 2) := by decide +kernel
theorem dX9_set_54 : decode cX9_set 54 = .ok (.iload_n 1, 1) := by decide +kernel
theorem dX9_set_55 : decode cX9_set 55 = .ok (.i2l, 1) := by decide +kernel
theorem dX9_set_56 : decode cX9_set 56 = .ok (.lconst 0, 1) := by decide +kernel
theorem dX9_set_57 : decode cX9_set 57 = .ok (.ldc2_w 79, 3) := by decide +kernel
theorem dX9_set_60 : decode cX9_set 60 = .ok (.invokestatic 71, 3) := by decide +kernel
theorem dX9_set_63 : decode cX9_set 63 = .ok (.ifCond .eq 16, 3) := by decide +kernel
theorem dX9_set_66 : decode cX9_set 66 = .ok (.iload_n 2, 1) := by decide +kernel
theorem dX9_set_67 : decode cX9_set 67 = .ok (.i2l, 1) := by decide +kernel
theorem dX9_set_68 : decode cX9_set 68 = .ok (.iload_n 3, 1) := by decide +kernel
theorem dX9_set_69 : decode cX9_set 69 = .ok (.i2l, 1) := by decide +kernel
theorem dX9_set_70 : decode cX9_set 70 = .ok (.iload 4, 2) := by decide +kernel
theorem dX9_set_72 : decode cX9_set 72 = .ok (.i2l, 1) := by decide +kernel
theorem dX9_set_73 : decode cX9_set 73 = .ok (.invokestatic 71, 3) := by decide +kernel
theorem dX9_set_76 : decode cX9_set 76 = .ok (.ifCond .ne 6, 3) := by decide +kernel
theorem dX9_set_79 : decode cX9_set 79 = .ok (.bipush (-2), 2) := by decide +kernel
theorem dX9_set_81 : decode cX9_set 81 = .ok (.ireturn, 1) := by decide +kernel
theorem dX9_set_82 : decode cX9_set 82 = .ok (.aload_n 0, 1) := by decide +kernel
theorem dX9_set_83 : decode cX9_set 83 = .ok (.iload_n 1, 1) := by decide +kernel
theorem dX9_set_84 : decode cX9_set 84 = .ok (.iconst 1, 1) := by decide +kernel
theorem dX9_set_85 : decode cX9_set 85 = .ok (.iadd, 1) := by decide +kernel
theorem dX9_set_86 : decode cX9_set 86 = .ok (.invokevirtual 81, 3) := by decide +kernel
theorem dX9_set_89 : decode cX9_set 89 = .ok (.istore 5, 2) := by decide +kernel
theorem dX9_set_91 : decode cX9_set 91 = .ok (.aload_n 0, 1) := by decide +kernel
theorem dX9_set_92 : decode cX9_set 92 = .ok (.iload_n 1, 1) := by decide +kernel
theorem dX9_set_93 : decode cX9_set 93 = .ok (.ifCond .ne 7, 3) := by decide +kernel
theorem dX9_set_96 : decode cX9_set 96 = .ok (.iload_n 2, 1) := by decide +kernel
theorem dX9_set_97 : decode cX9_set 97 = .ok (.goto 7, 3) := by decide +kernel
theorem dX9_set_100 : decode cX9_set 100 = .ok (.aload_n 0, 1) := by decide +kernel
theorem dX9_set_101 : decode cX9_set 101 = .ok (.getfield 50, 3) := by decide +kernel
theorem dX9_set_104 : decode cX9_set 104 = .ok (.putfield 50, 3) := by decide +kernel
theorem dX9_set_107 : decode cX9_set 107 = .ok (.aload_n 0, 1) := by decide +kernel
theorem dX9_set_108 : decode cX9_set 108 = .ok (.iload_n 1, 1) := by decide +kernel
theorem dX9_set_109 : decode cX9_set 109 = .ok (.iconst 1, 1) := by decide +kernel
theorem dX9_set_110 : decode cX9_set 110 = .ok (.if_icmp .ne 7, 3) := by decide +kernel
theorem dX9_set_113 : decode cX9_set 113 = .ok (.iload_n 2, 1) := by decide +kernel
theorem dX9_set_114 : decode cX9_set 114 = .ok (.goto 7, 3) := by decide +kernel
theorem dX9_set_117 : decode cX9_set 117 = .ok (.aload_n 0, 1) := by decide +kernel
theorem dX9_set_118 : decode cX9_set 118 = .ok (.getfield 54, 3) := by decide +kernel
theorem dX9_set_121 : decode cX9_set 121 = .ok (.putfield 54, 3) := by decide +kernel
theorem dX9_set_124 : decode cX9_set 124 = .ok (.aload_n 0, 1) := by decide +kernel
theorem dX9_set_125 : decode cX9_set 125 = .ok (.iload_n 1, 1) := by decide +kernel
theorem dX9_set_126 : decode cX9_set 126 = .ok (.iconst 2, 1) := by decide +kernel
theorem dX9_set_127 : decode cX9_set 127 = .ok (.if_icmp .ne 7, 3) := by decide +kernel
theorem dX9_set_130 : decode cX9_set 130 = .ok (.iload_n 2, 1) := by decide +kernel
theorem dX9_set_131 : decode cX9_set 131 = .ok (.goto 7, 3) := by decide +kernel
theorem dX9_set_134 : decode cX9_set 134 = .ok (.aload_n 0, 1) := by decide +kernel
theorem dX9_set_135 : decode cX9_set 135 = .ok (.getfield 57, 3) := by decide +kernel
theorem dX9_set_138 : decode cX9_set 138 = .ok (.putfield 57, 3) := by decide +kernel
theorem dX9_set_141 : decode cX9_set 141 = .ok (.aload_n 0, 1) := by decide +kernel
theorem dX9_set_142 : decode cX9_set 142 = .ok (.iload_n 1, 1) := by decide +kernel
theorem dX9_set_143 : decode cX9_set 143 = .ok (.iconst 3, 1) := by decide +kernel
theorem dX9_set_144 : decode cX9_set 144 = .ok (.if_icmp .ne 7, 3) := by decide +kernel
theorem dX9_set_147 : decode cX9_set 147 = .ok (.iload_n 2, 1) := by decide +kernel
theorem dX9_set_148 : decode cX9_set 148 = .ok (.goto 7, 3) := by decide +kernel
theorem dX9_set_151 : decode cX9_set 151 = .ok (.aload_n 0, 1) := by decide +kernel
theorem dX9_set_152 : decode cX9_set 152 = .ok (.getfield 60, 3) := by decide +kernel
theorem dX9_set_155 : decode cX9_set 155 = .ok (.putfield 60, 3) := by decide +kernel
theorem dX9_set_158 : decode cX9_set 158 = .ok (.aload_n 0, 1) := by decide +kernel
theorem dX9_set_159 : decode cX9_set 159 = .ok (.iload_n 1, 1) := by decide +kernel
theorem dX9_set_160 : decode cX9_set 160 = .ok (.iconst 4, 1) := by decide +kernel
theorem dX9_set_161 : decode cX9_set 161 = .ok (.if_icmp .ne 7, 3) := by decide +kernel
theorem dX9_set_164 : decode cX9_set 164 = .ok (.iload_n 2, 1) := by decide +kernel
theorem dX9_set_165 : decode cX9_set 165 = .ok (.goto 7, 3) := by decide +kernel
theorem dX9_set_168 : decode cX9_set 168 = .ok (.aload_n 0, 1) := by decide +kernel
theorem dX9_set_169 : decode cX9_set 169 = .ok (.getfield 63, 3) := by decide +kernel
theorem dX9_set_172 : decode cX9_set 172 = .ok (.putfield 63, 3) := by decide +kernel
theorem dX9_set_175 : decode cX9_set 175 = .ok (.aload_n 0, 1) := by decide +kernel
theorem dX9_set_176 : decode cX9_set 176 = .ok (.iload_n 1, 1) := by decide +kernel
theorem dX9_set_177 : decode cX9_set 177 = .ok (.iconst 5, 1) := by decide +kernel
theorem dX9_set_178 : decode cX9_set 178 = .ok (.if_icmp .ne 7, 3) := by decide +kernel
theorem dX9_set_181 : decode cX9_set 181 = .ok (.iload_n 2, 1) := by decide +kernel
theorem dX9_set_182 : decode cX9_set 182 = .ok (.goto 7, 3) := by decide +kernel
theorem dX9_set_185 : decode cX9_set 185 = .ok (.aload_n 0, 1) := by decide +kernel
theorem dX9_set_186 : decode cX9_set 186 = .ok (.getfield 66, 3) := by decide +kernel
theorem dX9_set_189 : decode cX9_set 189 = .ok (.putfield 66, 3) := by decide +kernel
theorem dX9_set_192 : decode cX9_set 192 = .ok (.iload 5, 2) := by decide +kernel
theorem dX9_set_194 : decode cX9_set 194 = .ok (.ireturn, 1) := by decide +kernel
theorem dX9_isThing_0 : decode cX9_isThing 0 = .ok (.iload_n 0, 1) := by decide +kernel
theorem dX9_isThing_1 : decode cX9_isThing 1 = .ok (.i2l, 1) := by decide +kernel
theorem dX9_isThing_2 : decode cX9_isThing 2 = .ok (.lconst 0, 1) := by decide +kernel
theorem dX9_isThing_3 : decode cX9_isThing 3 = .ok (.ldc2_w 79, 3) := by decide +kernel
theorem dX9_isThing_6 : decode cX9_isThing 6 = .ok (.invokestatic 71, 3) := by decide +kernel
theorem dX9_isThing_9 : decode cX9_isThing 9 = .ok (.ireturn, 1) := by decide +kernel
theorem dX9_load_0 : decode cX9_load 0 = .ok (.iload_n 1, 1) := by decide +kernel
theorem dX9_load_1 : decode cX9_load 1 = .ok (.invokestatic 85, 3) := by decide +kernel
theorem dX9_load_4 : decode cX9_load 4 = .ok (.ifCond .ne 5, 3) := by decide +kernel
theorem dX9_load_7 : decode cX9_load 7 = .ok (.iconst (-1), 1) := by decide +kernel
theorem dX9_load_8 : decode cX9_load 8 = .ok (.ireturn, 1) := by decide +kernel
theorem dX9_load_9 : decode cX9_load 9 = .ok (.iload_n 2, 1) := by decide +kernel
theorem dX9_load_10 : decode cX9_load 10 = .ok (.i2l, 1) := by decide +kernel
theorem dX9_load_11 : decode cX9_load 11 = .ok (.lconst 0, 1) := by decide +kernel
theorem dX9_load_12 : decode cX9_load 12 = .ok (.ldc2_w 89, 3) := by decide +kernel
theorem dX9_load_15 : decode cX9_load 15 = .ok (.invokestatic 71, 3) := by decide +kernel
theorem dX9_load_18 : decode cX9_load 18 = .ok (.ifCond .ne 6, 3) := by decide +kernel
theorem dX9_load_21 : decode cX9_load 21 = .ok (.bipush (-2), 2) := by decide +kernel
theorem dX9_load_23 : decode cX9_load 23 = .ok (.ireturn, 1) := by decide +kernel
theorem dX9_load_24 : decode cX9_load 24 = .ok (.aload_n 0, 1) := by decide +kernel
theorem dX9_load_25 : decode cX9_load 25 = .ok (.getfield 16, 3) := by decide +kernel
theorem dX9_load_28 : decode cX9_load 28 = .ok (.iload_n 1, 1) := by decide +kernel
theorem dX9_load_29 : decode cX9_load 29 = .ok (.iaload, 1) := by decide +kernel
theorem dX9_load_30 : decode cX9_load 30 = .ok (.istore_n 3, 1) := by decide +kernel
theorem dX9_load_31 : decode cX9_load 31 = .ok (.aload_n 0, 1) := by decide +kernel
theorem dX9_load_32 : decode cX9_load 32 = .ok (.getfield 16, 3) := by decide +kernel
theorem dX9_load_35 : decode cX9_load 35 = .ok (.iload_n 1, 1) := by decide +kernel
theorem dX9_load_36 : decode cX9_load 36 = .ok (.iload_n 2, 1) := by decide +kernel
theorem dX9_load_37 : decode cX9_load 37 = .ok (.iastore, 1) := by decide +kernel
theorem dX9_load_38 : decode cX9_load 38 = .ok (.iload_n 3, 1) := by decide +kernel
theorem dX9_load_39 : decode cX9_load 39 = .ok (.ireturn, 1) := by decide +kernel
theorem dX9_loaded_0 : decode cX9_loaded 0 = .ok (.iconst 0, 1) := by decide +kernel
theorem dX9_loaded_1 : decode cX9_loaded 1 = .ok (.istore_n 1, 1) := by decide +kernel
theorem dX9_loaded_2 : decode cX9_loaded 2 = .ok (.iconst 0, 1) := by decide +kernel
theorem dX9_loaded_3 : decode cX9_loaded 3 = .ok (.istore_n 2, 1) := by decide +kernel
theorem dX9_loaded_4 : decode cX9_loaded 4 = .ok (.iload_n 2, 1) := by decide +kernel
theorem dX9_loaded_5 : decode cX9_loaded 5 = .ok (.bipush 6, 2) := by decide +kernel
theorem dX9_loaded_7 : decode cX9_loaded 7 = .ok (.if_icmp .ge 28, 3) := by decide +kernel
theorem dX9_loaded_10 : decode cX9_loaded 10 = .ok (.iload_n 1, 1) := by decide +kernel
theorem dX9_loaded_11 : decode cX9_loaded 11 = .ok (.aload_n 0, 1) := by decide +kernel
theorem dX9_loaded_12 : decode cX9_loaded 12 = .ok (.getfield 16, 3) := by decide +kernel
theorem dX9_loaded_15 : decode cX9_loaded 15 = .ok (.iload_n 2, 1) := by decide +kernel
theorem dX9_loaded_16 : decode cX9_loaded 16 = .ok (.iaload, 1) := by decide +kernel
theorem dX9_loaded_17 : decode cX9_loaded 17 = .ok (.ifCond .le 9, 3) := by decide +kernel
theorem dX9_loaded_20 : decode cX9_loaded 20 = .ok (.iconst 1, 1) := by decide +kernel
theorem dX9_loaded_21 : decode cX9_loaded 21 = .ok (.iload_n 2, 1) := by decide +kernel
theorem dX9_loaded_22 : decode cX9_loaded 22 = .ok (.ishl, 1) := by decide +kernel
theorem dX9_loaded_23 : decode cX9_loaded 23 = .ok (.goto 4, 3) := by decide +kernel
theorem dX9_loaded_26 : decode cX9_loaded 26 = .ok (.iconst 0, 1) := by decide +kernel
theorem dX9_loaded_27 : decode cX9_loaded 27 = .ok (.ior, 1) := by decide +kernel
theorem dX9_loaded_28 : decode cX9_loaded 28 = .ok (.istore_n 1, 1) := by decide +kernel
theorem dX9_loaded_29 : decode cX9_loaded 29 = .ok (.iinc 2 1, 3) := by decide +kernel
theorem dX9_loaded_32 : decode cX9_loaded 32 = .ok (.goto (-28), 3) := by decide +kernel
theorem dX9_loaded_35 : decode cX9_loaded 35 = .ok (.iload_n 1, 1) := by decide +kernel
theorem dX9_loaded_36 : decode cX9_loaded 36 = .ok (.ireturn, 1) := by decide +kernel
theorem dX9_say_0 : decode cX9_say 0 = .ok (.iload_n 1, 1) := by decide +kernel
theorem dX9_say_1 : decode cX9_say 1 = .ok (.i2l, 1) := by decide +kernel
theorem dX9_say_2 : decode cX9_say 2 = .ok (.ldc2_w 91, 3) := by decide +kernel
theorem dX9_say_5 : decode cX9_say 5 = .ok (.ldc2_w 93, 3) := by decide +kernel
theorem dX9_say_8 : decode cX9_say 8 = .ok (.invokestatic 71, 3) := by decide +kernel
theorem dX9_say_11 : decode cX9_say 11 = .ok (.ifCond .ne 6, 3) := by decide +kernel
theorem dX9_say_14 : decode cX9_say 14 = .ok (.bipush (-2), 2) := by decide +kernel
theorem dX9_say_16 : decode cX9_say 16 = .ok (.ireturn, 1) := by decide +kernel
theorem dX9_say_17 : decode cX9_say 17 = .ok (.aload_n 0, 1) := by decide +kernel
theorem dX9_say_18 : decode cX9_say 18 = .ok (.getfield 95, 3) := by decide +kernel
theorem dX9_say_21 : decode cX9_say 21 = .ok (.bipush 60, 2) := by decide +kernel
theorem dX9_say_23 : decode cX9_say 23 = .ok (.if_icmp .ne 6, 3) := by decide +kernel
theorem dX9_say_26 : decode cX9_say 26 = .ok (.bipush (-4), 2) := by decide +kernel
theorem dX9_say_28 : decode cX9_say 28 = .ok (.ireturn, 1) := by decide +kernel
theorem dX9_say_29 : decode cX9_say 29 = .ok (.aload_n 0, 1) := by decide +kernel
theorem dX9_say_30 : decode cX9_say 30 = .ok (.getfield 25, 3) := by decide +kernel
theorem dX9_say_33 : decode cX9_say 33 = .ok (.aload_n 0, 1) := by decide +kernel
theorem dX9_say_34 : decode cX9_say 34 = .ok (.getfield 95, 3) := by decide +kernel
theorem dX9_say_37 : decode cX9_say 37 = .ok (.iload_n 1, 1) := by decide +kernel
theorem dX9_say_38 : decode cX9_say 38 = .ok (.iastore, 1) := by decide +kernel
theorem dX9_say_39 : decode cX9_say 39 = .ok (.aload_n 0, 1) := by decide +kernel
theorem dX9_say_40 : decode cX9_say 40 = .ok (.dup, 1) := by decide +kernel
theorem dX9_say_41 : decode cX9_say 41 = .ok (.getfield 95, 3) := by decide +kernel
theorem dX9_say_44 : decode cX9_say 44 = .ok (.iconst 1, 1) := by decide +kernel
theorem dX9_say_45 : decode cX9_say 45 = .ok (.iadd, 1) := by decide +kernel
theorem dX9_say_46 : decode cX9_say 46 = .ok (.putfield 95, 3) := by decide +kernel
theorem dX9_say_49 : decode cX9_say 49 = .ok (.aload_n 0, 1) := by decide +kernel
theorem dX9_say_50 : decode cX9_say 50 = .ok (.getfield 95, 3) := by decide +kernel
theorem dX9_say_53 : decode cX9_say 53 = .ok (.ireturn, 1) := by decide +kernel
theorem dX9_wipe_0 : decode cX9_wipe 0 = .ok (.aload_n 0, 1) := by decide +kernel
theorem dX9_wipe_1 : decode cX9_wipe 1 = .ok (.getfield 95, 3) := by decide +kernel
theorem dX9_wipe_4 : decode cX9_wipe 4 = .ok (.istore_n 1, 1) := by decide +kernel
theorem dX9_wipe_5 : decode cX9_wipe 5 = .ok (.aload_n 0, 1) := by decide +kernel
theorem dX9_wipe_6 : decode cX9_wipe 6 = .ok (.iconst 0, 1) := by decide +kernel
theorem dX9_wipe_7 : decode cX9_wipe 7 = .ok (.putfield 95, 3) := by decide +kernel
theorem dX9_wipe_10 : decode cX9_wipe 10 = .ok (.iload_n 1, 1) := by decide +kernel
theorem dX9_wipe_11 : decode cX9_wipe 11 = .ok (.ireturn, 1) := by decide +kernel
theorem dX9_fault_0 : decode cX9_fault 0 = .ok (.aload_n 0, 1) := by decide +kernel
theorem dX9_fault_1 : decode cX9_fault 1 = .ok (.invokevirtual 98, 3) := by decide +kernel
theorem dX9_fault_4 : decode cX9_fault 4 = .ok (.istore_n 1, 1) := by decide +kernel
theorem dX9_fault_5 : decode cX9_fault 5 = .ok (.iconst 0, 1) := by decide +kernel
theorem dX9_fault_6 : decode cX9_fault 6 = .ok (.istore_n 2, 1) := by decide +kernel
theorem dX9_fault_7 : decode cX9_fault 7 = .ok (.iconst 0, 1) := by decide +kernel
theorem dX9_fault_8 : decode cX9_fault 8 = .ok (.istore_n 3, 1) := by decide +kernel
theorem dX9_fault_9 : decode cX9_fault 9 = .ok (.iload_n 3, 1) := by decide +kernel
theorem dX9_fault_10 : decode cX9_fault 10 = .ok (.aload_n 0, 1) := by decide +kernel
theorem dX9_fault_11 : decode cX9_fault 11 = .ok (.getfield 95, 3) := by decide +kernel
theorem dX9_fault_14 : decode cX9_fault 14 = .ok (.if_icmp .ge 129, 3) := by decide +kernel
theorem dX9_fault_17 : decode cX9_fault 17 = .ok (.aload_n 0, 1) := by decide +kernel
theorem dX9_fault_18 : decode cX9_fault 18 = .ok (.getfield 25, 3) := by decide +kernel
theorem dX9_fault_21 : decode cX9_fault 21 = .ok (.iload_n 3, 1) := by decide +kernel
theorem dX9_fault_22 : decode cX9_fault 22 = .ok (.iaload, 1) := by decide +kernel
theorem dX9_fault_23 : decode cX9_fault 23 = .ok (.bipush 97, 2) := by decide +kernel
theorem dX9_fault_25 : decode cX9_fault 25 = .ok (.isub, 1) := by decide +kernel
theorem dX9_fault_26 : decode cX9_fault 26 = .ok (.istore 4, 2) := by decide +kernel
theorem dX9_fault_28 : decode cX9_fault 28 = .ok (.iload 4, 2) := by decide +kernel
theorem dX9_fault_30 : decode cX9_fault 30 = .ok (.invokestatic 85, 3) := by decide +kernel
theorem dX9_fault_33 : decode cX9_fault 33 = .ok (.ifCond .eq 17, 3) := by decide +kernel
theorem dX9_fault_36 : decode cX9_fault 36 = .ok (.iload_n 1, 1) := by decide +kernel
theorem dX9_fault_37 : decode cX9_fault 37 = .ok (.iload 4, 2) := by decide +kernel
theorem dX9_fault_39 : decode cX9_fault 39 = .ok (.ishr, 1) := by decide +kernel
theorem dX9_fault_40 : decode cX9_fault 40 = .ok (.iconst 1, 1) := by decide +kernel
theorem dX9_fault_41 : decode cX9_fault 41 = .ok (.iand, 1) := by decide +kernel
theorem dX9_fault_42 : decode cX9_fault 42 = .ok (.iconst 1, 1) := by decide +kernel
theorem dX9_fault_43 : decode cX9_fault 43 = .ok (.if_icmp .ne 7, 3) := by decide +kernel
theorem dX9_fault_46 : decode cX9_fault 46 = .ok (.iconst 1, 1) := by decide +kernel
theorem dX9_fault_47 : decode cX9_fault 47 = .ok (.goto 4, 3) := by decide +kernel
theorem dX9_fault_50 : decode cX9_fault 50 = .ok (.iconst 0, 1) := by decide +kernel
theorem dX9_fault_51 : decode cX9_fault 51 = .ok (.istore 5, 2) := by decide +kernel
theorem dX9_fault_53 : decode cX9_fault 53 = .ok (.iload_n 2, 1) := by decide +kernel
theorem dX9_fault_54 : decode cX9_fault 54 = .ok (.aload_n 0, 1) := by decide +kernel
theorem dX9_fault_55 : decode cX9_fault 55 = .ok (.getfield 25, 3) := by decide +kernel
theorem dX9_fault_58 : decode cX9_fault 58 = .ok (.iload_n 3, 1) := by decide +kernel
theorem dX9_fault_59 : decode cX9_fault 59 = .ok (.iaload, 1) := by decide +kernel
theorem dX9_fault_60 : decode cX9_fault 60 = .ok (.bipush 33, 2) := by decide +kernel
theorem dX9_fault_62 : decode cX9_fault 62 = .ok (.if_icmp .ne 7, 3) := by decide +kernel
theorem dX9_fault_65 : decode cX9_fault 65 = .ok (.iconst 1, 1) := by decide +kernel
theorem dX9_fault_66 : decode cX9_fault 66 = .ok (.goto 4, 3) := by decide +kernel
theorem dX9_fault_69 : decode cX9_fault 69 = .ok (.iconst 0, 1) := by decide +kernel
theorem dX9_fault_70 : decode cX9_fault 70 = .ok (.iadd, 1) := by decide +kernel
theorem dX9_fault_71 : decode cX9_fault 71 = .ok (.istore_n 2, 1) := by decide +kernel
theorem dX9_fault_72 : decode cX9_fault 72 = .ok (.aload_n 0, 1) := by decide +kernel
theorem dX9_fault_73 : decode cX9_fault 73 = .ok (.getfield 25, 3) := by decide +kernel
theorem dX9_fault_76 : decode cX9_fault 76 = .ok (.iload_n 3, 1) := by decide +kernel
theorem dX9_fault_77 : decode cX9_fault 77 = .ok (.iaload, 1) := by decide +kernel
theorem dX9_fault_78 : decode cX9_fault 78 = .ok (.bipush 46, 2) := by decide +kernel
theorem dX9_fault_80 : decode cX9_fault 80 = .ok (.if_icmp .eq 25, 3) := by decide +kernel
theorem dX9_fault_83 : decode cX9_fault 83 = .ok (.aload_n 0, 1) := by decide +kernel
theorem dX9_fault_84 : decode cX9_fault 84 = .ok (.getfield 25, 3) := by decide +kernel
theorem dX9_fault_87 : decode cX9_fault 87 = .ok (.iload_n 3, 1) := by decide +kernel
theorem dX9_fault_88 : decode cX9_fault 88 = .ok (.iaload, 1) := by decide +kernel
theorem dX9_fault_89 : decode cX9_fault 89 = .ok (.bipush 33, 2) := by decide +kernel
theorem dX9_fault_91 : decode cX9_fault 91 = .ok (.if_icmp .ne 9, 3) := by decide +kernel
theorem dX9_fault_94 : decode cX9_fault 94 = .ok (.iload_n 2, 1) := by decide +kernel
theorem dX9_fault_95 : decode cX9_fault 95 = .ok (.bipush 12, 2) := by decide +kernel
theorem dX9_fault_97 : decode cX9_fault 97 = .ok (.if_icmp .le 8, 3) := by decide +kernel
theorem dX9_fault_100 : decode cX9_fault 100 = .ok (.iload 5, 2) := by decide +kernel
theorem dX9_fault_102 : decode cX9_fault 102 = .ok (.ifCond .eq 7, 3) := by decide +kernel
theorem dX9_fault_105 : decode cX9_fault 105 = .ok (.iconst 1, 1) := by decide +kernel
theorem dX9_fault_106 : decode cX9_fault 106 = .ok (.goto 4, 3) := by decide +kernel
theorem dX9_fault_109 : decode cX9_fault 109 = .ok (.iconst 0, 1) := by decide +kernel
theorem dX9_fault_110 : decode cX9_fault 110 = .ok (.istore 6, 2) := by decide +kernel
theorem dX9_fault_112 : decode cX9_fault 112 = .ok (.iload 6, 2) := by decide +kernel
theorem dX9_fault_114 : decode cX9_fault 114 = .ok (.ifCond .ne 5, 3) := by decide +kernel
theorem dX9_fault_117 : decode cX9_fault 117 = .ok (.iload_n 3, 1) := by decide +kernel
theorem dX9_fault_118 : decode cX9_fault 118 = .ok (.ireturn, 1) := by decide +kernel
theorem dX9_fault_119 : decode cX9_fault 119 = .ok (.iload_n 1, 1) := by decide +kernel
theorem dX9_fault_120 : decode cX9_fault 120 = .ok (.iload 5, 2) := by decide +kernel
theorem dX9_fault_122 : decode cX9_fault 122 = .ok (.ifCond .eq 12, 3) := by decide +kernel
theorem dX9_fault_125 : decode cX9_fault 125 = .ok (.iconst 1, 1) := by decide +kernel
theorem dX9_fault_126 : decode cX9_fault 126 = .ok (.iload 4, 2) := by decide +kernel
theorem dX9_fault_128 : decode cX9_fault 128 = .ok (.ishl, 1) := by decide +kernel
theorem dX9_fault_129 : decode cX9_fault 129 = .ok (.iconst (-1), 1) := by decide +kernel
theorem dX9_fault_130 : decode cX9_fault 130 = .ok (.ixor, 1) := by decide +kernel
theorem dX9_fault_131 : decode cX9_fault 131 = .ok (.goto 4, 3) := by decide +kernel
theorem dX9_fault_134 : decode cX9_fault 134 = .ok (.iconst (-1), 1) := by decide +kernel
theorem dX9_fault_135 : decode cX9_fault 135 = .ok (.iand, 1) := by decide +kernel
theorem dX9_fault_136 : decode cX9_fault 136 = .ok (.istore_n 1, 1) := by decide +kernel
theorem dX9_fault_137 : decode cX9_fault 137 = .ok (.iinc 3 1, 3) := by decide +kernel
theorem dX9_fault_140 : decode cX9_fault 140 = .ok (.goto (-131), 3) := by decide +kernel
theorem dX9_fault_143 : decode cX9_fault 143 = .ok (.bipush (-6), 2) := by decide +kernel
theorem dX9_fault_145 : decode cX9_fault 145 = .ok (.ireturn, 1) := by decide +kernel
theorem dX9_start_0 : decode cX9_start 0 = .ok (.aload_n 0, 1) := by decide +kernel
theorem dX9_start_1 : decode cX9_start 1 = .ok (.iconst 0, 1) := by decide +kernel
theorem dX9_start_2 : decode cX9_start 2 = .ok (.putfield 102, 3) := by decide +kernel
theorem dX9_start_5 : decode cX9_start 5 = .ok (.aload_n 0, 1) := by decide +kernel
theorem dX9_start_6 : decode cX9_start 6 = .ok (.iconst 0, 1) := by decide +kernel
theorem dX9_start_7 : decode cX9_start 7 = .ok (.putfield 105, 3) := by decide +kernel
theorem dX9_start_10 : decode cX9_start 10 = .ok (.aload_n 0, 1) := by decide +kernel
theorem dX9_start_11 : decode cX9_start 11 = .ok (.iload_n 1, 1) := by decide +kernel
theorem dX9_start_12 : decode cX9_start 12 = .ok (.putfield 108, 3) := by decide +kernel
theorem dX9_start_15 : decode cX9_start 15 = .ok (.aload_n 0, 1) := by decide +kernel
theorem dX9_start_16 : decode cX9_start 16 = .ok (.iload_n 2, 1) := by decide +kernel
theorem dX9_start_17 : decode cX9_start 17 = .ok (.putfield 111, 3) := by decide +kernel
theorem dX9_start_20 : decode cX9_start 20 = .ok (.return_, 1) := by decide +kernel
theorem dX9_startNow_0 : decode cX9_startNow 0 = .ok (.aload_n 0, 1) := by decide +kernel
theorem dX9_startNow_1 : decode cX9_startNow 1 = .ok (.aload_n 0, 1) := by decide +kernel
theorem dX9_startNow_2 : decode cX9_startNow 2 = .ok (.getfield 54, 3) := by decide +kernel
theorem dX9_startNow_5 : decode cX9_startNow 5 = .ok (.aload_n 0, 1) := by decide +kernel
theorem dX9_startNow_6 : decode cX9_startNow 6 = .ok (.invokevirtual 98, 3) := by decide +kernel
theorem dX9_startNow_9 : decode cX9_startNow 9 = .ok (.invokevirtual 114, 3) := by decide +kernel
theorem dX9_startNow_12 : decode cX9_startNow 12 = .ok (.return_, 1) := by decide +kernel
theorem dX9_height_0 : decode cX9_height 0 = .ok (.aload_n 0, 1) := by decide +kernel
theorem dX9_height_1 : decode cX9_height 1 = .ok (.getfield 108, 3) := by decide +kernel
theorem dX9_height_4 : decode cX9_height 4 = .ok (.istore_n 1, 1) := by decide +kernel
theorem dX9_height_5 : decode cX9_height 5 = .ok (.iconst 0, 1) := by decide +kernel
theorem dX9_height_6 : decode cX9_height 6 = .ok (.istore_n 2, 1) := by decide +kernel
theorem dX9_height_7 : decode cX9_height 7 = .ok (.iload_n 2, 1) := by decide +kernel
theorem dX9_height_8 : decode cX9_height 8 = .ok (.bipush 6, 2) := by decide +kernel
theorem dX9_height_10 : decode cX9_height 10 = .ok (.if_icmp .ge 34, 3) := by decide +kernel
theorem dX9_height_13 : decode cX9_height 13 = .ok (.iload_n 1, 1) := by decide +kernel
theorem dX9_height_14 : decode cX9_height 14 = .ok (.aload_n 0, 1) := by decide +kernel
theorem dX9_height_15 : decode cX9_height 15 = .ok (.getfield 111, 3) := by decide +kernel
theorem dX9_height_18 : decode cX9_height 18 = .ok (.iload_n 2, 1) := by decide +kernel
theorem dX9_height_19 : decode cX9_height 19 = .ok (.ishr, 1) := by decide +kernel
theorem dX9_height_20 : decode cX9_height 20 = .ok (.iconst 1, 1) := by decide +kernel
theorem dX9_height_21 : decode cX9_height 21 = .ok (.iand, 1) := by decide +kernel
theorem dX9_height_22 : decode cX9_height 22 = .ok (.iconst 1, 1) := by decide +kernel
theorem dX9_height_23 : decode cX9_height 23 = .ok (.if_icmp .ne 12, 3) := by decide +kernel
theorem dX9_height_26 : decode cX9_height 26 = .ok (.aload_n 0, 1) := by decide +kernel
theorem dX9_height_27 : decode cX9_height 27 = .ok (.getfield 16, 3) := by decide +kernel
theorem dX9_height_30 : decode cX9_height 30 = .ok (.iload_n 2, 1) := by decide +kernel
theorem dX9_height_31 : decode cX9_height 31 = .ok (.iaload, 1) := by decide +kernel
theorem dX9_height_32 : decode cX9_height 32 = .ok (.goto 4, 3) := by decide +kernel
theorem dX9_height_35 : decode cX9_height 35 = .ok (.iconst 0, 1) := by decide +kernel
theorem dX9_height_36 : decode cX9_height 36 = .ok (.isub, 1) := by decide +kernel
theorem dX9_height_37 : decode cX9_height 37 = .ok (.istore_n 1, 1) := by decide +kernel
theorem dX9_height_38 : decode cX9_height 38 = .ok (.iinc 2 1, 3) := by decide +kernel
theorem dX9_height_41 : decode cX9_height 41 = .ok (.goto (-34), 3) := by decide +kernel
theorem dX9_height_44 : decode cX9_height 44 = .ok (.iload_n 1, 1) := by decide +kernel
theorem dX9_height_45 : decode cX9_height 45 = .ok (.ifCond .ge 7, 3) := by decide +kernel
theorem dX9_height_48 : decode cX9_height 48 = .ok (.iconst 0, 1) := by decide +kernel
theorem dX9_height_49 : decode cX9_height 49 = .ok (.goto 9, 3) := by decide +kernel
theorem dX9_height_52 : decode cX9_height 52 = .ok (.iload_n 1, 1) := by decide +kernel
theorem dX9_height_53 : decode cX9_height 53 = .ok (.aload_n 0, 1) := by decide +kernel
theorem dX9_height_54 : decode cX9_height 54 = .ok (.getfield 60, 3) := by decide +kernel
theorem dX9_height_57 : decode cX9_height 57 = .ok (.idiv, 1) := by decide +kernel
theorem dX9_height_58 : decode cX9_height 58 = .ok (.istore_n 2, 1) := by decide +kernel
theorem dX9_height_59 : decode cX9_height 59 = .ok (.iload_n 2, 1) := by decide +kernel
theorem dX9_height_60 : decode cX9_height 60 = .ok (.iconst 5, 1) := by decide +kernel
theorem dX9_height_61 : decode cX9_height 61 = .ok (.if_icmp .ge 7, 3) := by decide +kernel
theorem dX9_height_64 : decode cX9_height 64 = .ok (.iload_n 2, 1) := by decide +kernel
theorem dX9_height_65 : decode cX9_height 65 = .ok (.goto 4, 3) := by decide +kernel
theorem dX9_height_68 : decode cX9_height 68 = .ok (.iconst 4, 1) := by decide +kernel
theorem dX9_height_69 : decode cX9_height 69 = .ok (.ireturn, 1) := by decide +kernel
theorem dX9_drift_0 : decode cX9_drift 0 = .ok (.aload_n 0, 1) := by decide +kernel
theorem dX9_drift_1 : decode cX9_drift 1 = .ok (.dup, 1) := by decide +kernel
theorem dX9_drift_2 : decode cX9_drift 2 = .ok (.getfield 102, 3) := by decide +kernel
theorem dX9_drift_5 : decode cX9_drift 5 = .ok (.aload_n 0, 1) := by decide +kernel
theorem dX9_drift_6 : decode cX9_drift 6 = .ok (.getfield 105, 3) := by decide +kernel
theorem dX9_drift_9 : decode cX9_drift 9 = .ok (.aload_n 0, 1) := by decide +kernel
theorem dX9_drift_10 : decode cX9_drift 10 = .ok (.getfield 50, 3) := by decide +kernel
theorem dX9_drift_13 : decode cX9_drift 13 = .ok (.if_icmp .ge 15, 3) := by decide +kernel
theorem dX9_drift_16 : decode cX9_drift 16 = .ok (.aload_n 0, 1) := by decide +kernel
theorem dX9_drift_17 : decode cX9_drift 17 = .ok (.getfield 7, 3) := by decide +kernel
theorem dX9_drift_20 : decode cX9_drift 20 = .ok (.aload_n 0, 1) := by decide +kernel
theorem dX9_drift_21 : decode cX9_drift 21 = .ok (.invokevirtual 118, 3) := by decide +kernel
theorem dX9_drift_24 : decode cX9_drift 24 = .ok (.iaload, 1) := by decide +kernel
theorem dX9_drift_25 : decode cX9_drift 25 = .ok (.goto 12, 3) := by decide +kernel
theorem dX9_drift_28 : decode cX9_drift 28 = .ok (.aload_n 0, 1) := by decide +kernel
theorem dX9_drift_29 : decode cX9_drift 29 = .ok (.getfield 13, 3) := by decide +kernel
theorem dX9_drift_32 : decode cX9_drift 32 = .ok (.aload_n 0, 1) := by decide +kernel
theorem dX9_drift_33 : decode cX9_drift 33 = .ok (.invokevirtual 118, 3) := by decide +kernel
theorem dX9_drift_36 : decode cX9_drift 36 = .ok (.iaload, 1) := by decide +kernel
theorem dX9_drift_37 : decode cX9_drift 37 = .ok (.iadd, 1) := by decide +kernel
theorem dX9_drift_38 : decode cX9_drift 38 = .ok (.putfield 102, 3) := by decide +kernel
theorem dX9_drift_41 : decode cX9_drift 41 = .ok (.aload_n 0, 1) := by decide +kernel
theorem dX9_drift_42 : decode cX9_drift 42 = .ok (.aload_n 0, 1) := by decide +kernel
theorem dX9_drift_43 : decode cX9_drift 43 = .ok (.getfield 108, 3) := by decide +kernel
theorem dX9_drift_46 : decode cX9_drift 46 = .ok (.aload_n 0, 1) := by decide +kernel
theorem dX9_drift_47 : decode cX9_drift 47 = .ok (.getfield 57, 3) := by decide +kernel
theorem dX9_drift_50 : decode cX9_drift 50 = .ok (.if_icmp .le 15, 3) := by decide +kernel
theorem dX9_drift_53 : decode cX9_drift 53 = .ok (.aload_n 0, 1) := by decide +kernel
theorem dX9_drift_54 : decode cX9_drift 54 = .ok (.getfield 108, 3) := by decide +kernel
theorem dX9_drift_57 : decode cX9_drift 57 = .ok (.aload_n 0, 1) := by decide +kernel
theorem dX9_drift_58 : decode cX9_drift 58 = .ok (.getfield 57, 3) := by decide +kernel
theorem dX9_drift_61 : decode cX9_drift 61 = .ok (.isub, 1) := by decide +kernel
theorem dX9_drift_62 : decode cX9_drift 62 = .ok (.goto 4, 3) := by decide +kernel
theorem dX9_drift_65 : decode cX9_drift 65 = .ok (.iconst 0, 1) := by decide +kernel
theorem dX9_drift_66 : decode cX9_drift 66 = .ok (.putfield 108, 3) := by decide +kernel
theorem dX9_drift_69 : decode cX9_drift 69 = .ok (.aload_n 0, 1) := by decide +kernel
theorem dX9_drift_70 : decode cX9_drift 70 = .ok (.dup, 1) := by decide +kernel
theorem dX9_drift_71 : decode cX9_drift 71 = .ok (.getfield 105, 3) := by decide +kernel
theorem dX9_drift_74 : decode cX9_drift 74 = .ok (.iconst 1, 1) := by decide +kernel
theorem dX9_drift_75 : decode cX9_drift 75 = .ok (.iadd, 1) := by decide +kernel
theorem dX9_drift_76 : decode cX9_drift 76 = .ok (.putfield 105, 3) := by decide +kernel
theorem dX9_drift_79 : decode cX9_drift 79 = .ok (.return_, 1) := by decide +kernel
theorem dX9_heaviest_0 : decode cX9_heaviest 0 = .ok (.bipush (-6), 2) := by decide +kernel
theorem dX9_heaviest_2 : decode cX9_heaviest 2 = .ok (.istore_n 1, 1) := by decide +kernel
theorem dX9_heaviest_3 : decode cX9_heaviest 3 = .ok (.iconst 0, 1) := by decide +kernel
theorem dX9_heaviest_4 : decode cX9_heaviest 4 = .ok (.istore_n 2, 1) := by decide +kernel
theorem dX9_heaviest_5 : decode cX9_heaviest 5 = .ok (.iload_n 2, 1) := by decide +kernel
theorem dX9_heaviest_6 : decode cX9_heaviest 6 = .ok (.bipush 6, 2) := by decide +kernel
theorem dX9_heaviest_8 : decode cX9_heaviest 8 = .ok (.if_icmp .ge 56, 3) := by decide +kernel
theorem dX9_heaviest_11 : decode cX9_heaviest 11 = .ok (.aload_n 0, 1) := by decide +kernel
theorem dX9_heaviest_12 : decode cX9_heaviest 12 = .ok (.getfield 111, 3) := by decide +kernel
theorem dX9_heaviest_15 : decode cX9_heaviest 15 = .ok (.iload_n 2, 1) := by decide +kernel
theorem dX9_heaviest_16 : decode cX9_heaviest 16 = .ok (.ishr, 1) := by decide +kernel
theorem dX9_heaviest_17 : decode cX9_heaviest 17 = .ok (.iconst 1, 1) := by decide +kernel
theorem dX9_heaviest_18 : decode cX9_heaviest 18 = .ok (.iand, 1) := by decide +kernel
theorem dX9_heaviest_19 : decode cX9_heaviest 19 = .ok (.iconst 1, 1) := by decide +kernel
theorem dX9_heaviest_20 : decode cX9_heaviest 20 = .ok (.if_icmp .ne 26, 3) := by decide +kernel
theorem dX9_heaviest_23 : decode cX9_heaviest 23 = .ok (.iload_n 1, 1) := by decide +kernel
theorem dX9_heaviest_24 : decode cX9_heaviest 24 = .ok (.ifCond .lt 18, 3) := by decide +kernel
theorem dX9_heaviest_27 : decode cX9_heaviest 27 = .ok (.aload_n 0, 1) := by decide +kernel
theorem dX9_heaviest_28 : decode cX9_heaviest 28 = .ok (.getfield 16, 3) := by decide +kernel
theorem dX9_heaviest_31 : decode cX9_heaviest 31 = .ok (.iload_n 2, 1) := by decide +kernel
theorem dX9_heaviest_32 : decode cX9_heaviest 32 = .ok (.iaload, 1) := by decide +kernel
theorem dX9_heaviest_33 : decode cX9_heaviest 33 = .ok (.aload_n 0, 1) := by decide +kernel
theorem dX9_heaviest_34 : decode cX9_heaviest 34 = .ok (.getfield 16, 3) := by decide +kernel
theorem dX9_heaviest_37 : decode cX9_heaviest 37 = .ok (.iload_n 1, 1) := by decide +kernel
theorem dX9_heaviest_38 : decode cX9_heaviest 38 = .ok (.iaload, 1) := by decide +kernel
theorem dX9_heaviest_39 : decode cX9_heaviest 39 = .ok (.if_icmp .le 7, 3) := by decide +kernel
theorem dX9_heaviest_42 : decode cX9_heaviest 42 = .ok (.iconst 1, 1) := by decide +kernel
theorem dX9_heaviest_43 : decode cX9_heaviest 43 = .ok (.goto 4, 3) := by decide +kernel
theorem dX9_heaviest_46 : decode cX9_heaviest 46 = .ok (.iconst 0, 1) := by decide +kernel
theorem dX9_heaviest_47 : decode cX9_heaviest 47 = .ok (.istore_n 3, 1) := by decide +kernel
theorem dX9_heaviest_48 : decode cX9_heaviest 48 = .ok (.iload_n 3, 1) := by decide +kernel
theorem dX9_heaviest_49 : decode cX9_heaviest 49 = .ok (.ifCond .eq 7, 3) := by decide +kernel
theorem dX9_heaviest_52 : decode cX9_heaviest 52 = .ok (.iload_n 2, 1) := by decide +kernel
theorem dX9_heaviest_53 : decode cX9_heaviest 53 = .ok (.goto 4, 3) := by decide +kernel
theorem dX9_heaviest_56 : decode cX9_heaviest 56 = .ok (.iload_n 1, 1) := by decide +kernel
theorem dX9_heaviest_57 : decode cX9_heaviest 57 = .ok (.istore_n 1, 1) := by decide +kernel
theorem dX9_heaviest_58 : decode cX9_heaviest 58 = .ok (.iinc 2 1, 3) := by decide +kernel
theorem dX9_heaviest_61 : decode cX9_heaviest 61 = .ok (.goto (-56), 3) := by decide +kernel
theorem dX9_heaviest_64 : decode cX9_heaviest 64 = .ok (.iload_n 1, 1) := by decide +kernel
theorem dX9_heaviest_65 : decode cX9_heaviest 65 = .ok (.ireturn, 1) := by decide +kernel
theorem dX9_throwOut_0 : decode cX9_throwOut 0 = .ok (.aload_n 0, 1) := by decide +kernel
theorem dX9_throwOut_1 : decode cX9_throwOut 1 = .ok (.dup, 1) := by decide +kernel
theorem dX9_throwOut_2 : decode cX9_throwOut 2 = .ok (.getfield 111, 3) := by decide +kernel
theorem dX9_throwOut_5 : decode cX9_throwOut 5 = .ok (.iload_n 1, 1) := by decide +kernel
theorem dX9_throwOut_6 : decode cX9_throwOut 6 = .ok (.ifCond .ge 7, 3) := by decide +kernel
theorem dX9_throwOut_9 : decode cX9_throwOut 9 = .ok (.iconst (-1), 1) := by decide +kernel
theorem dX9_throwOut_10 : decode cX9_throwOut 10 = .ok (.goto 8, 3) := by decide +kernel
theorem dX9_throwOut_13 : decode cX9_throwOut 13 = .ok (.iconst 1, 1) := by decide +kernel
theorem dX9_throwOut_14 : decode cX9_throwOut 14 = .ok (.iload_n 1, 1) := by decide +kernel
theorem dX9_throwOut_15 : decode cX9_throwOut 15 = .ok (.ishl, 1) := by decide +kernel
theorem dX9_throwOut_16 : decode cX9_throwOut 16 = .ok (.iconst (-1), 1) := by decide +kernel
theorem dX9_throwOut_17 : decode cX9_throwOut 17 = .ok (.ixor, 1) := by decide +kernel
theorem dX9_throwOut_18 : decode cX9_throwOut 18 = .ok (.iand, 1) := by decide +kernel
theorem dX9_throwOut_19 : decode cX9_throwOut 19 = .ok (.putfield 111, 3) := by decide +kernel
theorem dX9_throwOut_22 : decode cX9_throwOut 22 = .ok (.return_, 1) := by decide +kernel
theorem dX9_countOf_0 : decode cX9_countOf 0 = .ok (.iconst 0, 1) := by decide +kernel
theorem dX9_countOf_1 : decode cX9_countOf 1 = .ok (.istore_n 2, 1) := by decide +kernel
theorem dX9_countOf_2 : decode cX9_countOf 2 = .ok (.iconst 0, 1) := by decide +kernel
theorem dX9_countOf_3 : decode cX9_countOf 3 = .ok (.istore_n 3, 1) := by decide +kernel
theorem dX9_countOf_4 : decode cX9_countOf 4 = .ok (.iload_n 3, 1) := by decide +kernel
theorem dX9_countOf_5 : decode cX9_countOf 5 = .ok (.aload_n 0, 1) := by decide +kernel
theorem dX9_countOf_6 : decode cX9_countOf 6 = .ok (.getfield 95, 3) := by decide +kernel
theorem dX9_countOf_9 : decode cX9_countOf 9 = .ok (.if_icmp .ge 27, 3) := by decide +kernel
theorem dX9_countOf_12 : decode cX9_countOf 12 = .ok (.iload_n 2, 1) := by decide +kernel
theorem dX9_countOf_13 : decode cX9_countOf 13 = .ok (.aload_n 0, 1) := by decide +kernel
theorem dX9_countOf_14 : decode cX9_countOf 14 = .ok (.getfield 25, 3) := by decide +kernel
theorem dX9_countOf_17 : decode cX9_countOf 17 = .ok (.iload_n 3, 1) := by decide +kernel
theorem dX9_countOf_18 : decode cX9_countOf 18 = .ok (.iaload, 1) := by decide +kernel
theorem dX9_countOf_19 : decode cX9_countOf 19 = .ok (.iload_n 1, 1) := by decide +kernel
theorem dX9_countOf_20 : decode cX9_countOf 20 = .ok (.if_icmp .ne 7, 3) := by decide +kernel
theorem dX9_countOf_23 : decode cX9_countOf 23 = .ok (.iconst 1, 1) := by decide +kernel
theorem dX9_countOf_24 : decode cX9_countOf 24 = .ok (.goto 4, 3) := by decide +kernel
theorem dX9_countOf_27 : decode cX9_countOf 27 = .ok (.iconst 0, 1) := by decide +kernel
theorem dX9_countOf_28 : decode cX9_countOf 28 = .ok (.iadd, 1) := by decide +kernel
theorem dX9_countOf_29 : decode cX9_countOf 29 = .ok (.istore_n 2, 1) := by decide +kernel
theorem dX9_countOf_30 : decode cX9_countOf 30 = .ok (.iinc 3 1, 3) := by decide +kernel
theorem dX9_countOf_33 : decode cX9_countOf 33 = .ok (.goto (-29), 3) := by decide +kernel
theorem dX9_countOf_36 : decode cX9_countOf 36 = .ok (.iload_n 2, 1) := by decide +kernel
theorem dX9_countOf_37 : decode cX9_countOf 37 = .ok (.ireturn, 1) := by decide +kernel
theorem dX9_ones_0 : decode cX9_ones 0 = .ok (.iconst 0, 1) := by decide +kernel
theorem dX9_ones_1 : decode cX9_ones 1 = .ok (.istore_n 2, 1) := by decide +kernel
theorem dX9_ones_2 : decode cX9_ones 2 = .ok (.iload_n 1, 1) := by decide +kernel
theorem dX9_ones_3 : decode cX9_ones 3 = .ok (.istore_n 3, 1) := by decide +kernel
theorem dX9_ones_4 : decode cX9_ones 4 = .ok (.iload_n 3, 1) := by decide +kernel
theorem dX9_ones_5 : decode cX9_ones 5 = .ok (.ifCond .eq 15, 3) := by decide +kernel
theorem dX9_ones_8 : decode cX9_ones 8 = .ok (.iinc 2 1, 3) := by decide +kernel
theorem dX9_ones_11 : decode cX9_ones 11 = .ok (.iload_n 3, 1) := by decide +kernel
theorem dX9_ones_12 : decode cX9_ones 12 = .ok (.iload_n 3, 1) := by decide +kernel
theorem dX9_ones_13 : decode cX9_ones 13 = .ok (.iconst 1, 1) := by decide +kernel
theorem dX9_ones_14 : decode cX9_ones 14 = .ok (.isub, 1) := by decide +kernel
theorem dX9_ones_15 : decode cX9_ones 15 = .ok (.iand, 1) := by decide +kernel
theorem dX9_ones_16 : decode cX9_ones 16 = .ok (.istore_n 3, 1) := by decide +kernel
theorem dX9_ones_17 : decode cX9_ones 17 = .ok (.goto (-13), 3) := by decide +kernel
theorem dX9_ones_20 : decode cX9_ones 20 = .ok (.iload_n 2, 1) := by decide +kernel
theorem dX9_ones_21 : decode cX9_ones 21 = .ok (.ireturn, 1) := by decide +kernel
theorem dX9_happen_0 : decode cX9_happen 0 = .ok (.iload_n 1, 1) := by decide +kernel
theorem dX9_happen_1 : decode cX9_happen 1 = .ok (.bipush 46, 2) := by decide +kernel
theorem dX9_happen_3 : decode cX9_happen 3 = .ok (.if_icmp .ne 10, 3) := by decide +kernel
theorem dX9_happen_6 : decode cX9_happen 6 = .ok (.aload_n 0, 1) := by decide +kernel
theorem dX9_happen_7 : decode cX9_happen 7 = .ok (.invokevirtual 121, 3) := by decide +kernel
theorem dX9_happen_10 : decode cX9_happen 10 = .ok (.goto 17, 3) := by decide +kernel
theorem dX9_happen_13 : decode cX9_happen 13 = .ok (.iload_n 1, 1) := by decide +kernel
theorem dX9_happen_14 : decode cX9_happen 14 = .ok (.bipush 33, 2) := by decide +kernel
theorem dX9_happen_16 : decode cX9_happen 16 = .ok (.if_icmp .eq 11, 3) := by decide +kernel
theorem dX9_happen_19 : decode cX9_happen 19 = .ok (.aload_n 0, 1) := by decide +kernel
theorem dX9_happen_20 : decode cX9_happen 20 = .ok (.iload_n 1, 1) := by decide +kernel
theorem dX9_happen_21 : decode cX9_happen 21 = .ok (.bipush 97, 2) := by decide +kernel
theorem dX9_happen_23 : decode cX9_happen 23 = .ok (.isub, 1) := by decide +kernel
theorem dX9_happen_24 : decode cX9_happen 24 = .ok (.invokevirtual 124, 3) := by decide +kernel
theorem dX9_happen_27 : decode cX9_happen 27 = .ok (.return_, 1) := by decide +kernel
theorem dX9_at_0 : decode cX9_at 0 = .ok (.aload_n 0, 1) := by decide +kernel
theorem dX9_at_1 : decode cX9_at 1 = .ok (.invokevirtual 128, 3) := by decide +kernel
theorem dX9_at_4 : decode cX9_at 4 = .ok (.ifCond .lt 6, 3) := by decide +kernel
theorem dX9_at_7 : decode cX9_at 7 = .ok (.bipush (-5), 2) := by decide +kernel
theorem dX9_at_9 : decode cX9_at 9 = .ok (.ireturn, 1) := by decide +kernel
theorem dX9_at_10 : decode cX9_at 10 = .ok (.iload_n 1, 1) := by decide +kernel
theorem dX9_at_11 : decode cX9_at 11 = .ok (.i2l, 1) := by decide +kernel
theorem dX9_at_12 : decode cX9_at 12 = .ok (.ldc2_w 131, 3) := by decide +kernel
theorem dX9_at_15 : decode cX9_at 15 = .ok (.aload_n 0, 1) := by decide +kernel
theorem dX9_at_16 : decode cX9_at 16 = .ok (.bipush 46, 2) := by decide +kernel
theorem dX9_at_18 : decode cX9_at 18 = .ok (.invokevirtual 133, 3) := by decide +kernel
theorem dX9_at_21 : decode cX9_at 21 = .ok (.i2l, 1) := by decide +kernel
theorem dX9_at_22 : decode cX9_at 22 = .ok (.invokestatic 71, 3) := by decide +kernel
theorem dX9_at_25 : decode cX9_at 25 = .ok (.ifCond .eq 15, 3) := by decide +kernel
theorem dX9_at_28 : decode cX9_at 28 = .ok (.iload_n 2, 1) := by decide +kernel
theorem dX9_at_29 : decode cX9_at 29 = .ok (.i2l, 1) := by decide +kernel
theorem dX9_at_30 : decode cX9_at 30 = .ok (.lconst 0, 1) := by decide +kernel
theorem dX9_at_31 : decode cX9_at 31 = .ok (.ldc2_w 136, 3) := by decide +kernel
theorem dX9_at_34 : decode cX9_at 34 = .ok (.invokestatic 71, 3) := by decide +kernel
theorem dX9_at_37 : decode cX9_at 37 = .ok (.ifCond .ne 6, 3) := by decide +kernel
theorem dX9_at_40 : decode cX9_at 40 = .ok (.bipush (-2), 2) := by decide +kernel
theorem dX9_at_42 : decode cX9_at 42 = .ok (.ireturn, 1) := by decide +kernel
theorem dX9_at_43 : decode cX9_at 43 = .ok (.aload_n 0, 1) := by decide +kernel
theorem dX9_at_44 : decode cX9_at 44 = .ok (.invokevirtual 138, 3) := by decide +kernel
theorem dX9_at_47 : decode cX9_at 47 = .ok (.iconst 0, 1) := by decide +kernel
theorem dX9_at_48 : decode cX9_at 48 = .ok (.istore_n 3, 1) := by decide +kernel
theorem dX9_at_49 : decode cX9_at 49 = .ok (.iload_n 3, 1) := by decide +kernel
theorem dX9_at_50 : decode cX9_at 50 = .ok (.aload_n 0, 1) := by decide +kernel
theorem dX9_at_51 : decode cX9_at 51 = .ok (.getfield 95, 3) := by decide +kernel
theorem dX9_at_54 : decode cX9_at 54 = .ok (.if_icmp .ge 31, 3) := by decide +kernel
theorem dX9_at_57 : decode cX9_at 57 = .ok (.iload_n 1, 1) := by decide +kernel
theorem dX9_at_58 : decode cX9_at 58 = .ok (.ifCond .lt 11, 3) := by decide +kernel
theorem dX9_at_61 : decode cX9_at 61 = .ok (.aload_n 0, 1) := by decide +kernel
theorem dX9_at_62 : decode cX9_at 62 = .ok (.getfield 105, 3) := by decide +kernel
theorem dX9_at_65 : decode cX9_at 65 = .ok (.iload_n 1, 1) := by decide +kernel
theorem dX9_at_66 : decode cX9_at 66 = .ok (.if_icmp .ge 19, 3) := by decide +kernel
theorem dX9_at_69 : decode cX9_at 69 = .ok (.aload_n 0, 1) := by decide +kernel
theorem dX9_at_70 : decode cX9_at 70 = .ok (.aload_n 0, 1) := by decide +kernel
theorem dX9_at_71 : decode cX9_at 71 = .ok (.getfield 25, 3) := by decide +kernel
theorem dX9_at_74 : decode cX9_at 74 = .ok (.iload_n 3, 1) := by decide +kernel
theorem dX9_at_75 : decode cX9_at 75 = .ok (.iaload, 1) := by decide +kernel
theorem dX9_at_76 : decode cX9_at 76 = .ok (.invokevirtual 141, 3) := by decide +kernel
theorem dX9_at_79 : decode cX9_at 79 = .ok (.iinc 3 1, 3) := by decide +kernel
theorem dX9_at_82 : decode cX9_at 82 = .ok (.goto (-33), 3) := by decide +kernel
theorem dX9_at_85 : decode cX9_at 85 = .ok (.iload_n 2, 1) := by decide +kernel
theorem dX9_at_86 : decode cX9_at 86 = .ok (.ifCond .ne 14, 3) := by decide +kernel
theorem dX9_at_89 : decode cX9_at 89 = .ok (.aload_n 0, 1) := by decide +kernel
theorem dX9_at_90 : decode cX9_at 90 = .ok (.getfield 102, 3) := by decide +kernel
theorem dX9_at_93 : decode cX9_at 93 = .ok (.sipush 1000, 3) := by decide +kernel
theorem dX9_at_96 : decode cX9_at 96 = .ok (.iadd, 1) := by decide +kernel
theorem dX9_at_97 : decode cX9_at 97 = .ok (.goto 35, 3) := by decide +kernel
theorem dX9_at_100 : decode cX9_at 100 = .ok (.iload_n 2, 1) := by decide +kernel
theorem dX9_at_101 : decode cX9_at 101 = .ok (.iconst 1, 1) := by decide +kernel
theorem dX9_at_102 : decode cX9_at 102 = .ok (.if_icmp .ne 10, 3) := by decide +kernel
theorem dX9_at_105 : decode cX9_at 105 = .ok (.aload_n 0, 1) := by decide +kernel
theorem dX9_at_106 : decode cX9_at 106 = .ok (.invokevirtual 118, 3) := by decide +kernel
theorem dX9_at_109 : decode cX9_at 109 = .ok (.goto 23, 3) := by decide +kernel
theorem dX9_at_112 : decode cX9_at 112 = .ok (.iload_n 2, 1) := by decide +kernel
theorem dX9_at_113 : decode cX9_at 113 = .ok (.iconst 2, 1) := by decide +kernel
theorem dX9_at_114 : decode cX9_at 114 = .ok (.if_icmp .ne 10, 3) := by decide +kernel
theorem dX9_at_117 : decode cX9_at 117 = .ok (.aload_n 0, 1) := by decide +kernel
theorem dX9_at_118 : decode cX9_at 118 = .ok (.getfield 108, 3) := by decide +kernel
theorem dX9_at_121 : decode cX9_at 121 = .ok (.goto 11, 3) := by decide +kernel
theorem dX9_at_124 : decode cX9_at 124 = .ok (.aload_n 0, 1) := by decide +kernel
theorem dX9_at_125 : decode cX9_at 125 = .ok (.aload_n 0, 1) := by decide +kernel
theorem dX9_at_126 : decode cX9_at 126 = .ok (.getfield 111, 3) := by decide +kernel
theorem dX9_at_129 : decode cX9_at 129 = .ok (.invokevirtual 144, 3) := by decide +kernel
theorem dX9_at_132 : decode cX9_at 132 = .ok (.ireturn, 1) := by decide +kernel
theorem dX9_fines_0 : decode cX9_fines 0 = .ok (.iconst 0, 1) := by decide +kernel
theorem dX9_fines_1 : decode cX9_fines 1 = .ok (.istore_n 1, 1) := by decide +kernel
theorem dX9_fines_2 : decode cX9_fines 2 = .ok (.iconst 0, 1) := by decide +kernel
theorem dX9_fines_3 : decode cX9_fines 3 = .ok (.istore_n 2, 1) := by decide +kernel
theorem dX9_fines_4 : decode cX9_fines 4 = .ok (.iload_n 2, 1) := by decide +kernel
theorem dX9_fines_5 : decode cX9_fines 5 = .ok (.aload_n 0, 1) := by decide +kernel
theorem dX9_fines_6 : decode cX9_fines 6 = .ok (.getfield 95, 3) := by decide +kernel
theorem dX9_fines_9 : decode cX9_fines 9 = .ok (.if_icmp .ge 51, 3) := by decide +kernel
theorem dX9_fines_12 : decode cX9_fines 12 = .ok (.aload_n 0, 1) := by decide +kernel
theorem dX9_fines_13 : decode cX9_fines 13 = .ok (.getfield 25, 3) := by decide +kernel
theorem dX9_fines_16 : decode cX9_fines 16 = .ok (.iload_n 2, 1) := by decide +kernel
theorem dX9_fines_17 : decode cX9_fines 17 = .ok (.iaload, 1) := by decide +kernel
theorem dX9_fines_18 : decode cX9_fines 18 = .ok (.bipush 97, 2) := by decide +kernel
theorem dX9_fines_20 : decode cX9_fines 20 = .ok (.isub, 1) := by decide +kernel
theorem dX9_fines_21 : decode cX9_fines 21 = .ok (.invokestatic 85, 3) := by decide +kernel
theorem dX9_fines_24 : decode cX9_fines 24 = .ok (.istore_n 3, 1) := by decide +kernel
theorem dX9_fines_25 : decode cX9_fines 25 = .ok (.iload_n 1, 1) := by decide +kernel
theorem dX9_fines_26 : decode cX9_fines 26 = .ok (.iload_n 3, 1) := by decide +kernel
theorem dX9_fines_27 : decode cX9_fines 27 = .ok (.ifCond .eq 24, 3) := by decide +kernel
theorem dX9_fines_30 : decode cX9_fines 30 = .ok (.iload_n 2, 1) := by decide +kernel
theorem dX9_fines_31 : decode cX9_fines 31 = .ok (.ifCond .eq 16, 3) := by decide +kernel
theorem dX9_fines_34 : decode cX9_fines 34 = .ok (.aload_n 0, 1) := by decide +kernel
theorem dX9_fines_35 : decode cX9_fines 35 = .ok (.getfield 25, 3) := by decide +kernel
theorem dX9_fines_38 : decode cX9_fines 38 = .ok (.iload_n 2, 1) := by decide +kernel
theorem dX9_fines_39 : decode cX9_fines 39 = .ok (.iconst 1, 1) := by decide +kernel
theorem dX9_fines_40 : decode cX9_fines 40 = .ok (.isub, 1) := by decide +kernel
theorem dX9_fines_41 : decode cX9_fines 41 = .ok (.iaload, 1) := by decide +kernel
theorem dX9_fines_42 : decode cX9_fines 42 = .ok (.bipush 33, 2) := by decide +kernel
theorem dX9_fines_44 : decode cX9_fines 44 = .ok (.if_icmp .eq 7, 3) := by decide +kernel
theorem dX9_fines_47 : decode cX9_fines 47 = .ok (.iconst 1, 1) := by decide +kernel
theorem dX9_fines_48 : decode cX9_fines 48 = .ok (.goto 4, 3) := by decide +kernel
theorem dX9_fines_51 : decode cX9_fines 51 = .ok (.iconst 0, 1) := by decide +kernel
theorem dX9_fines_52 : decode cX9_fines 52 = .ok (.iadd, 1) := by decide +kernel
theorem dX9_fines_53 : decode cX9_fines 53 = .ok (.istore_n 1, 1) := by decide +kernel
theorem dX9_fines_54 : decode cX9_fines 54 = .ok (.iinc 2 1, 3) := by decide +kernel
theorem dX9_fines_57 : decode cX9_fines 57 = .ok (.goto (-53), 3) := by decide +kernel
theorem dX9_fines_60 : decode cX9_fines 60 = .ok (.iload_n 1, 1) := by decide +kernel
theorem dX9_fines_61 : decode cX9_fines 61 = .ok (.ireturn, 1) := by decide +kernel
theorem dX9_findSneezes_0 : decode cX9_findSneezes 0 = .ok (.iconst 0, 1) := by decide +kernel
theorem dX9_findSneezes_1 : decode cX9_findSneezes 1 = .ok (.istore_n 1, 1) := by decide +kernel
theorem dX9_findSneezes_2 : decode cX9_findSneezes 2 = .ok (.iconst 0, 1) := by decide +kernel
theorem dX9_findSneezes_3 : decode cX9_findSneezes 3 = .ok (.istore_n 2, 1) := by decide +kernel
theorem dX9_findSneezes_4 : decode cX9_findSneezes 4 = .ok (.iload_n 2, 1) := by decide +kernel
theorem dX9_findSneezes_5 : decode cX9_findSneezes 5 = .ok (.bipush 61, 2) := by decide +kernel
theorem dX9_findSneezes_7 : decode cX9_findSneezes 7 = .ok (.if_icmp .ge 16, 3) := by decide +kernel
theorem dX9_findSneezes_10 : decode cX9_findSneezes 10 = .ok (.aload_n 0, 1) := by decide +kernel
theorem dX9_findSneezes_11 : decode cX9_findSneezes 11 = .ok (.getfield 28, 3) := by decide +kernel
theorem dX9_findSneezes_14 : decode cX9_findSneezes 14 = .ok (.iload_n 2, 1) := by decide +kernel
theorem dX9_findSneezes_15 : decode cX9_findSneezes 15 = .ok (.iconst 0, 1) := by decide +kernel
theorem dX9_findSneezes_16 : decode cX9_findSneezes 16 = .ok (.iastore, 1) := by decide +kernel
theorem dX9_findSneezes_17 : decode cX9_findSneezes 17 = .ok (.iinc 2 1, 3) := by decide +kernel
theorem dX9_findSneezes_20 : decode cX9_findSneezes 20 = .ok (.goto (-16), 3) := by decide +kernel
theorem dX9_findSneezes_23 : decode cX9_findSneezes 23 = .ok (.iconst 0, 1) := by decide +kernel
theorem dX9_findSneezes_24 : decode cX9_findSneezes 24 = .ok (.istore_n 2, 1) := by decide +kernel
theorem dX9_findSneezes_25 : decode cX9_findSneezes 25 = .ok (.iload_n 2, 1) := by decide +kernel
theorem dX9_findSneezes_26 : decode cX9_findSneezes 26 = .ok (.aload_n 0, 1) := by decide +kernel
theorem dX9_findSneezes_27 : decode cX9_findSneezes 27 = .ok (.getfield 95, 3) := by decide +kernel
theorem dX9_findSneezes_30 : decode cX9_findSneezes 30 = .ok (.if_icmp .ge 53, 3) := by decide +kernel
theorem dX9_findSneezes_33 : decode cX9_findSneezes 33 = .ok (.aload_n 0, 1) := by decide +kernel
theorem dX9_findSneezes_34 : decode cX9_findSneezes 34 = .ok (.getfield 28, 3) := by decide +kernel
theorem dX9_findSneezes_37 : decode cX9_findSneezes 37 = .ok (.iload_n 1, 1) := by decide +kernel
theorem dX9_findSneezes_38 : decode cX9_findSneezes 38 = .ok (.dup2, 1) := by decide +kernel
theorem dX9_findSneezes_39 : decode cX9_findSneezes 39 = .ok (.iaload, 1) := by decide +kernel
theorem dX9_findSneezes_40 : decode cX9_findSneezes 40 = .ok (.aload_n 0, 1) := by decide +kernel
theorem dX9_findSneezes_41 : decode cX9_findSneezes 41 = .ok (.getfield 25, 3) := by decide +kernel
theorem dX9_findSneezes_44 : decode cX9_findSneezes 44 = .ok (.iload_n 2, 1) := by decide +kernel
theorem dX9_findSneezes_45 : decode cX9_findSneezes 45 = .ok (.iaload, 1) := by decide +kernel
theorem dX9_findSneezes_46 : decode cX9_findSneezes 46 = .ok (.bipush 33, 2) := by decide +kernel
theorem dX9_findSneezes_48 : decode cX9_findSneezes 48 = .ok (.if_icmp .ne 7, 3) := by decide +kernel
theorem dX9_findSneezes_51 : decode cX9_findSneezes 51 = .ok (.iconst 1, 1) := by decide +kernel
theorem dX9_findSneezes_52 : decode cX9_findSneezes 52 = .ok (.goto 4, 3) := by decide +kernel
theorem dX9_findSneezes_55 : decode cX9_findSneezes 55 = .ok (.iconst 0, 1) := by decide +kernel
theorem dX9_findSneezes_56 : decode cX9_findSneezes 56 = .ok (.iadd, 1) := by decide +kernel
theorem dX9_findSneezes_57 : decode cX9_findSneezes 57 = .ok (.iastore, 1) := by decide +kernel
theorem dX9_findSneezes_58 : decode cX9_findSneezes 58 = .ok (.iload_n 1, 1) := by decide +kernel
theorem dX9_findSneezes_59 : decode cX9_findSneezes 59 = .ok (.aload_n 0, 1) := by decide +kernel
theorem dX9_findSneezes_60 : decode cX9_findSneezes 60 = .ok (.getfield 25, 3) := by decide +kernel
theorem dX9_findSneezes_63 : decode cX9_findSneezes 63 = .ok (.iload_n 2, 1) := by decide +kernel
theorem dX9_findSneezes_64 : decode cX9_findSneezes 64 = .ok (.iaload, 1) := by decide +kernel
theorem dX9_findSneezes_65 : decode cX9_findSneezes 65 = .ok (.bipush 46, 2) := by decide +kernel
theorem dX9_findSneezes_67 : decode cX9_findSneezes 67 = .ok (.if_icmp .ne 7, 3) := by decide +kernel
theorem dX9_findSneezes_70 : decode cX9_findSneezes 70 = .ok (.iconst 1, 1) := by decide +kernel
theorem dX9_findSneezes_71 : decode cX9_findSneezes 71 = .ok (.goto 4, 3) := by decide +kernel
theorem dX9_findSneezes_74 : decode cX9_findSneezes 74 = .ok (.iconst 0, 1) := by decide +kernel
theorem dX9_findSneezes_75 : decode cX9_findSneezes 75 = .ok (.iadd, 1) := by decide +kernel
theorem dX9_findSneezes_76 : decode cX9_findSneezes 76 = .ok (.istore_n 1, 1) := by decide +kernel
theorem dX9_findSneezes_77 : decode cX9_findSneezes 77 = .ok (.iinc 2 1, 3) := by decide +kernel
theorem dX9_findSneezes_80 : decode cX9_findSneezes 80 = .ok (.goto (-55), 3) := by decide +kernel
theorem dX9_findSneezes_83 : decode cX9_findSneezes 83 = .ok (.return_, 1) := by decide +kernel
theorem dX9_within_0 : decode cX9_within 0 = .ok (.iconst 0, 1) := by decide +kernel
theorem dX9_within_1 : decode cX9_within 1 = .ok (.istore_n 2, 1) := by decide +kernel
theorem dX9_within_2 : decode cX9_within 2 = .ok (.iload_n 1, 1) := by decide +kernel
theorem dX9_within_3 : decode cX9_within 3 = .ok (.istore_n 3, 1) := by decide +kernel
theorem dX9_within_4 : decode cX9_within 4 = .ok (.iload_n 3, 1) := by decide +kernel
theorem dX9_within_5 : decode cX9_within 5 = .ok (.ifCond .lt 28, 3) := by decide +kernel
theorem dX9_within_8 : decode cX9_within 8 = .ok (.iload_n 3, 1) := by decide +kernel
theorem dX9_within_9 : decode cX9_within 9 = .ok (.iload_n 1, 1) := by decide +kernel
theorem dX9_within_10 : decode cX9_within 10 = .ok (.aload_n 0, 1) := by decide +kernel
theorem dX9_within_11 : decode cX9_within 11 = .ok (.getfield 66, 3) := by decide +kernel
theorem dX9_within_14 : decode cX9_within 14 = .ok (.isub, 1) := by decide +kernel
theorem dX9_within_15 : decode cX9_within 15 = .ok (.if_icmp .le 18, 3) := by decide +kernel
theorem dX9_within_18 : decode cX9_within 18 = .ok (.iload_n 2, 1) := by decide +kernel
theorem dX9_within_19 : decode cX9_within 19 = .ok (.aload_n 0, 1) := by decide +kernel
theorem dX9_within_20 : decode cX9_within 20 = .ok (.getfield 28, 3) := by decide +kernel
theorem dX9_within_23 : decode cX9_within 23 = .ok (.iload_n 3, 1) := by decide +kernel
theorem dX9_within_24 : decode cX9_within 24 = .ok (.iaload, 1) := by decide +kernel
theorem dX9_within_25 : decode cX9_within 25 = .ok (.iadd, 1) := by decide +kernel
theorem dX9_within_26 : decode cX9_within 26 = .ok (.istore_n 2, 1) := by decide +kernel
theorem dX9_within_27 : decode cX9_within 27 = .ok (.iinc 3 (-1), 3) := by decide +kernel
theorem dX9_within_30 : decode cX9_within 30 = .ok (.goto (-26), 3) := by decide +kernel
theorem dX9_within_33 : decode cX9_within 33 = .ok (.iload_n 2, 1) := by decide +kernel
theorem dX9_within_34 : decode cX9_within 34 = .ok (.ireturn, 1) := by decide +kernel
theorem dX9_doubted_0 : decode cX9_doubted 0 = .ok (.aload_n 0, 1) := by decide +kernel
theorem dX9_doubted_1 : decode cX9_doubted 1 = .ok (.invokevirtual 147, 3) := by decide +kernel
theorem dX9_doubted_4 : decode cX9_doubted 4 = .ok (.iconst 0, 1) := by decide +kernel
theorem dX9_doubted_5 : decode cX9_doubted 5 = .ok (.istore_n 1, 1) := by decide +kernel
theorem dX9_doubted_6 : decode cX9_doubted 6 = .ok (.iconst 0, 1) := by decide +kernel
theorem dX9_doubted_7 : decode cX9_doubted 7 = .ok (.istore_n 2, 1) := by decide +kernel
theorem dX9_doubted_8 : decode cX9_doubted 8 = .ok (.iload_n 2, 1) := by decide +kernel
theorem dX9_doubted_9 : decode cX9_doubted 9 = .ok (.bipush 61, 2) := by decide +kernel
theorem dX9_doubted_11 : decode cX9_doubted 11 = .ok (.if_icmp .ge 60, 3) := by decide +kernel
theorem dX9_doubted_14 : decode cX9_doubted 14 = .ok (.aload_n 0, 1) := by decide +kernel
theorem dX9_doubted_15 : decode cX9_doubted 15 = .ok (.iload_n 2, 1) := by decide +kernel
theorem dX9_doubted_16 : decode cX9_doubted 16 = .ok (.invokevirtual 150, 3) := by decide +kernel
theorem dX9_doubted_19 : decode cX9_doubted 19 = .ok (.aload_n 0, 1) := by decide +kernel
theorem dX9_doubted_20 : decode cX9_doubted 20 = .ok (.getfield 28, 3) := by decide +kernel
theorem dX9_doubted_23 : decode cX9_doubted 23 = .ok (.iload_n 2, 1) := by decide +kernel
theorem dX9_doubted_24 : decode cX9_doubted 24 = .ok (.iaload, 1) := by decide +kernel
theorem dX9_doubted_25 : decode cX9_doubted 25 = .ok (.isub, 1) := by decide +kernel
theorem dX9_doubted_26 : decode cX9_doubted 26 = .ok (.istore_n 3, 1) := by decide +kernel
theorem dX9_doubted_27 : decode cX9_doubted 27 = .ok (.iconst 0, 1) := by decide +kernel
theorem dX9_doubted_28 : decode cX9_doubted 28 = .ok (.istore 4, 2) := by decide +kernel
theorem dX9_doubted_30 : decode cX9_doubted 30 = .ok (.iload 4, 2) := by decide +kernel
theorem dX9_doubted_32 : decode cX9_doubted 32 = .ok (.aload_n 0, 1) := by decide +kernel
theorem dX9_doubted_33 : decode cX9_doubted 33 = .ok (.getfield 28, 3) := by decide +kernel
theorem dX9_doubted_36 : decode cX9_doubted 36 = .ok (.iload_n 2, 1) := by decide +kernel
theorem dX9_doubted_37 : decode cX9_doubted 37 = .ok (.iaload, 1) := by decide +kernel
theorem dX9_doubted_38 : decode cX9_doubted 38 = .ok (.if_icmp .ge 27, 3) := by decide +kernel
theorem dX9_doubted_41 : decode cX9_doubted 41 = .ok (.iload_n 3, 1) := by decide +kernel
theorem dX9_doubted_42 : decode cX9_doubted 42 = .ok (.iload 4, 2) := by decide +kernel
theorem dX9_doubted_44 : decode cX9_doubted 44 = .ok (.iadd, 1) := by decide +kernel
theorem dX9_doubted_45 : decode cX9_doubted 45 = .ok (.iconst 1, 1) := by decide +kernel
theorem dX9_doubted_46 : decode cX9_doubted 46 = .ok (.iadd, 1) := by decide +kernel
theorem dX9_doubted_47 : decode cX9_doubted 47 = .ok (.aload_n 0, 1) := by decide +kernel
theorem dX9_doubted_48 : decode cX9_doubted 48 = .ok (.getfield 63, 3) := by decide +kernel
theorem dX9_doubted_51 : decode cX9_doubted 51 = .ok (.if_icmp .le 5, 3) := by decide +kernel
theorem dX9_doubted_54 : decode cX9_doubted 54 = .ok (.iload_n 1, 1) := by decide +kernel
theorem dX9_doubted_55 : decode cX9_doubted 55 = .ok (.ireturn, 1) := by decide +kernel
theorem dX9_doubted_56 : decode cX9_doubted 56 = .ok (.iinc 1 1, 3) := by decide +kernel
theorem dX9_doubted_59 : decode cX9_doubted 59 = .ok (.iinc 4 1, 3) := by decide +kernel
theorem dX9_doubted_62 : decode cX9_doubted 62 = .ok (.goto (-32), 3) := by decide +kernel
theorem dX9_doubted_65 : decode cX9_doubted 65 = .ok (.iinc 2 1, 3) := by decide +kernel
theorem dX9_doubted_68 : decode cX9_doubted 68 = .ok (.goto (-60), 3) := by decide +kernel
theorem dX9_doubted_71 : decode cX9_doubted 71 = .ok (.bipush (-6), 2) := by decide +kernel
theorem dX9_doubted_73 : decode cX9_doubted 73 = .ok (.ireturn, 1) := by decide +kernel
theorem dX9_judge_0 : decode cX9_judge 0 = .ok (.aload_n 0, 1) := by decide +kernel
theorem dX9_judge_1 : decode cX9_judge 1 = .ok (.invokevirtual 128, 3) := by decide +kernel
theorem dX9_judge_4 : decode cX9_judge 4 = .ok (.ifCond .lt 6, 3) := by decide +kernel
theorem dX9_judge_7 : decode cX9_judge 7 = .ok (.bipush (-5), 2) := by decide +kernel
theorem dX9_judge_9 : decode cX9_judge 9 = .ok (.ireturn, 1) := by decide +kernel
theorem dX9_judge_10 : decode cX9_judge 10 = .ok (.iload_n 1, 1) := by decide +kernel
theorem dX9_judge_11 : decode cX9_judge 11 = .ok (.tableswitch 53 0 3 #[29, 34, 41, 48], 29) := by decide +kernel
theorem dX9_judge_40 : decode cX9_judge 40 = .ok (.aload_n 0, 1) := by decide +kernel
theorem dX9_judge_41 : decode cX9_judge 41 = .ok (.invokevirtual 153, 3) := by decide +kernel
theorem dX9_judge_44 : decode cX9_judge 44 = .ok (.ireturn, 1) := by decide +kernel
theorem dX9_judge_45 : decode cX9_judge 45 = .ok (.aload_n 0, 1) := by decide +kernel
theorem dX9_judge_46 : decode cX9_judge 46 = .ok (.bipush 46, 2) := by decide +kernel
theorem dX9_judge_48 : decode cX9_judge 48 = .ok (.invokevirtual 133, 3) := by decide +kernel
theorem dX9_judge_51 : decode cX9_judge 51 = .ok (.ireturn, 1) := by decide +kernel
theorem dX9_judge_52 : decode cX9_judge 52 = .ok (.aload_n 0, 1) := by decide +kernel
theorem dX9_judge_53 : decode cX9_judge 53 = .ok (.bipush 33, 2) := by decide +kernel
theorem dX9_judge_55 : decode cX9_judge 55 = .ok (.invokevirtual 133, 3) := by decide +kernel
theorem dX9_judge_58 : decode cX9_judge 58 = .ok (.ireturn, 1) := by decide +kernel
theorem dX9_judge_59 : decode cX9_judge 59 = .ok (.aload_n 0, 1) := by decide +kernel
theorem dX9_judge_60 : decode cX9_judge 60 = .ok (.invokevirtual 156, 3) := by decide +kernel
theorem dX9_judge_63 : decode cX9_judge 63 = .ok (.ireturn, 1) := by decide +kernel
theorem dX9_judge_64 : decode cX9_judge 64 = .ok (.bipush (-2), 2) := by decide +kernel
theorem dX9_judge_66 : decode cX9_judge 66 = .ok (.ireturn, 1) := by decide +kernel
theorem dX9_isDoubted_0 : decode cX9_isDoubted 0 = .ok (.iconst 0, 1) := by decide +kernel
theorem dX9_isDoubted_1 : decode cX9_isDoubted 1 = .ok (.istore_n 1, 1) := by decide +kernel
theorem dX9_isDoubted_2 : decode cX9_isDoubted 2 = .ok (.iconst 0, 1) := by decide +kernel
theorem dX9_isDoubted_3 : decode cX9_isDoubted 3 = .ok (.istore_n 2, 1) := by decide +kernel
theorem dX9_isDoubted_4 : decode cX9_isDoubted 4 = .ok (.iload_n 2, 1) := by decide +kernel
theorem dX9_isDoubted_5 : decode cX9_isDoubted 5 = .ok (.bipush 61, 2) := by decide +kernel
theorem dX9_isDoubted_7 : decode cX9_isDoubted 7 = .ok (.if_icmp .ge 40, 3) := by decide +kernel
theorem dX9_isDoubted_10 : decode cX9_isDoubted 10 = .ok (.iload_n 1, 1) := by decide +kernel
theorem dX9_isDoubted_11 : decode cX9_isDoubted 11 = .ok (.ifCond .ne 24, 3) := by decide +kernel
theorem dX9_isDoubted_14 : decode cX9_isDoubted 14 = .ok (.aload_n 0, 1) := by decide +kernel
theorem dX9_isDoubted_15 : decode cX9_isDoubted 15 = .ok (.getfield 28, 3) := by decide +kernel
theorem dX9_isDoubted_18 : decode cX9_isDoubted 18 = .ok (.iload_n 2, 1) := by decide +kernel
theorem dX9_isDoubted_19 : decode cX9_isDoubted 19 = .ok (.iaload, 1) := by decide +kernel
theorem dX9_isDoubted_20 : decode cX9_isDoubted 20 = .ok (.ifCond .le 19, 3) := by decide +kernel
theorem dX9_isDoubted_23 : decode cX9_isDoubted 23 = .ok (.aload_n 0, 1) := by decide +kernel
theorem dX9_isDoubted_24 : decode cX9_isDoubted 24 = .ok (.iload_n 2, 1) := by decide +kernel
theorem dX9_isDoubted_25 : decode cX9_isDoubted 25 = .ok (.invokevirtual 150, 3) := by decide +kernel
theorem dX9_isDoubted_28 : decode cX9_isDoubted 28 = .ok (.aload_n 0, 1) := by decide +kernel
theorem dX9_isDoubted_29 : decode cX9_isDoubted 29 = .ok (.getfield 63, 3) := by decide +kernel
theorem dX9_isDoubted_32 : decode cX9_isDoubted 32 = .ok (.if_icmp .le 7, 3) := by decide +kernel
theorem dX9_isDoubted_35 : decode cX9_isDoubted 35 = .ok (.iconst 1, 1) := by decide +kernel
theorem dX9_isDoubted_36 : decode cX9_isDoubted 36 = .ok (.goto 4, 3) := by decide +kernel
theorem dX9_isDoubted_39 : decode cX9_isDoubted 39 = .ok (.iconst 0, 1) := by decide +kernel
theorem dX9_isDoubted_40 : decode cX9_isDoubted 40 = .ok (.istore_n 1, 1) := by decide +kernel
theorem dX9_isDoubted_41 : decode cX9_isDoubted 41 = .ok (.iinc 2 1, 3) := by decide +kernel
theorem dX9_isDoubted_44 : decode cX9_isDoubted 44 = .ok (.goto (-40), 3) := by decide +kernel
theorem dX9_isDoubted_47 : decode cX9_isDoubted 47 = .ok (.iload_n 1, 1) := by decide +kernel
theorem dX9_isDoubted_48 : decode cX9_isDoubted 48 = .ok (.ireturn, 1) := by decide +kernel
theorem dX9_pepper_0 : decode cX9_pepper 0 = .ok (.aload_n 0, 1) := by decide +kernel
theorem dX9_pepper_1 : decode cX9_pepper 1 = .ok (.invokevirtual 128, 3) := by decide +kernel
theorem dX9_pepper_4 : decode cX9_pepper 4 = .ok (.ifCond .lt 6, 3) := by decide +kernel
theorem dX9_pepper_7 : decode cX9_pepper 7 = .ok (.bipush (-5), 2) := by decide +kernel
theorem dX9_pepper_9 : decode cX9_pepper 9 = .ok (.ireturn, 1) := by decide +kernel
theorem dX9_pepper_10 : decode cX9_pepper 10 = .ok (.iload_n 1, 1) := by decide +kernel
theorem dX9_pepper_11 : decode cX9_pepper 11 = .ok (.i2l, 1) := by decide +kernel
theorem dX9_pepper_12 : decode cX9_pepper 12 = .ok (.lconst 0, 1) := by decide +kernel
theorem dX9_pepper_13 : decode cX9_pepper 13 = .ok (.aload_n 0, 1) := by decide +kernel
theorem dX9_pepper_14 : decode cX9_pepper 14 = .ok (.bipush 46, 2) := by decide +kernel
theorem dX9_pepper_16 : decode cX9_pepper 16 = .ok (.invokevirtual 133, 3) := by decide +kernel
theorem dX9_pepper_19 : decode cX9_pepper 19 = .ok (.i2l, 1) := by decide +kernel
theorem dX9_pepper_20 : decode cX9_pepper 20 = .ok (.invokestatic 71, 3) := by decide +kernel
theorem dX9_pepper_23 : decode cX9_pepper 23 = .ok (.ifCond .ne 6, 3) := by decide +kernel
theorem dX9_pepper_26 : decode cX9_pepper 26 = .ok (.bipush (-2), 2) := by decide +kernel
theorem dX9_pepper_28 : decode cX9_pepper 28 = .ok (.ireturn, 1) := by decide +kernel
theorem dX9_pepper_29 : decode cX9_pepper 29 = .ok (.aload_n 0, 1) := by decide +kernel
theorem dX9_pepper_30 : decode cX9_pepper 30 = .ok (.invokevirtual 147, 3) := by decide +kernel
theorem dX9_pepper_33 : decode cX9_pepper 33 = .ok (.bipush (-6), 2) := by decide +kernel
theorem dX9_pepper_35 : decode cX9_pepper 35 = .ok (.istore_n 2, 1) := by decide +kernel
theorem dX9_pepper_36 : decode cX9_pepper 36 = .ok (.iconst 0, 1) := by decide +kernel
theorem dX9_pepper_37 : decode cX9_pepper 37 = .ok (.istore_n 3, 1) := by decide +kernel
theorem dX9_pepper_38 : decode cX9_pepper 38 = .ok (.iload_n 3, 1) := by decide +kernel
theorem dX9_pepper_39 : decode cX9_pepper 39 = .ok (.bipush 12, 2) := by decide +kernel
theorem dX9_pepper_41 : decode cX9_pepper 41 = .ok (.if_icmp .gt 28, 3) := by decide +kernel
theorem dX9_pepper_44 : decode cX9_pepper 44 = .ok (.aload_n 0, 1) := by decide +kernel
theorem dX9_pepper_45 : decode cX9_pepper 45 = .ok (.invokevirtual 159, 3) := by decide +kernel
theorem dX9_pepper_48 : decode cX9_pepper 48 = .ok (.ifCond .ne 21, 3) := by decide +kernel
theorem dX9_pepper_51 : decode cX9_pepper 51 = .ok (.iload_n 3, 1) := by decide +kernel
theorem dX9_pepper_52 : decode cX9_pepper 52 = .ok (.istore_n 2, 1) := by decide +kernel
theorem dX9_pepper_53 : decode cX9_pepper 53 = .ok (.aload_n 0, 1) := by decide +kernel
theorem dX9_pepper_54 : decode cX9_pepper 54 = .ok (.getfield 28, 3) := by decide +kernel
theorem dX9_pepper_57 : decode cX9_pepper 57 = .ok (.iload_n 1, 1) := by decide +kernel
theorem dX9_pepper_58 : decode cX9_pepper 58 = .ok (.dup2, 1) := by decide +kernel
theorem dX9_pepper_59 : decode cX9_pepper 59 = .ok (.iaload, 1) := by decide +kernel
theorem dX9_pepper_60 : decode cX9_pepper 60 = .ok (.iconst 1, 1) := by decide +kernel
theorem dX9_pepper_61 : decode cX9_pepper 61 = .ok (.iadd, 1) := by decide +kernel
theorem dX9_pepper_62 : decode cX9_pepper 62 = .ok (.iastore, 1) := by decide +kernel
theorem dX9_pepper_63 : decode cX9_pepper 63 = .ok (.iinc 3 1, 3) := by decide +kernel
theorem dX9_pepper_66 : decode cX9_pepper 66 = .ok (.goto (-28), 3) := by decide +kernel
theorem dX9_pepper_69 : decode cX9_pepper 69 = .ok (.iload_n 2, 1) := by decide +kernel
theorem dX9_pepper_70 : decode cX9_pepper 70 = .ok (.ireturn, 1) := by decide +kernel
theorem dX9_refusal_0 : decode cX9_refusal 0 = .ok (.aload_n 0, 1) := by decide +kernel
theorem dX9_refusal_1 : decode cX9_refusal 1 = .ok (.invokevirtual 128, 3) := by decide +kernel
theorem dX9_refusal_4 : decode cX9_refusal 4 = .ok (.ifCond .lt 6, 3) := by decide +kernel
theorem dX9_refusal_7 : decode cX9_refusal 7 = .ok (.bipush (-5), 2) := by decide +kernel
theorem dX9_refusal_9 : decode cX9_refusal 9 = .ok (.ireturn, 1) := by decide +kernel
theorem dX9_refusal_10 : decode cX9_refusal 10 = .ok (.aload_n 0, 1) := by decide +kernel
theorem dX9_refusal_11 : decode cX9_refusal 11 = .ok (.getfield 95, 3) := by decide +kernel
theorem dX9_refusal_14 : decode cX9_refusal 14 = .ok (.aload_n 0, 1) := by decide +kernel
theorem dX9_refusal_15 : decode cX9_refusal 15 = .ok (.bipush 46, 2) := by decide +kernel
theorem dX9_refusal_17 : decode cX9_refusal 17 = .ok (.invokevirtual 133, 3) := by decide +kernel
theorem dX9_refusal_20 : decode cX9_refusal 20 = .ok (.isub, 1) := by decide +kernel
theorem dX9_refusal_21 : decode cX9_refusal 21 = .ok (.aload_n 0, 1) := by decide +kernel
theorem dX9_refusal_22 : decode cX9_refusal 22 = .ok (.bipush 33, 2) := by decide +kernel
theorem dX9_refusal_24 : decode cX9_refusal 24 = .ok (.invokevirtual 133, 3) := by decide +kernel
theorem dX9_refusal_27 : decode cX9_refusal 27 = .ok (.isub, 1) := by decide +kernel
theorem dX9_refusal_28 : decode cX9_refusal 28 = .ok (.istore_n 2, 1) := by decide +kernel
theorem dX9_refusal_29 : decode cX9_refusal 29 = .ok (.iload_n 2, 1) := by decide +kernel
theorem dX9_refusal_30 : decode cX9_refusal 30 = .ok (.ifCond .le 8, 3) := by decide +kernel
theorem dX9_refusal_33 : decode cX9_refusal 33 = .ok (.bipush (-3), 2) := by decide +kernel
theorem dX9_refusal_35 : decode cX9_refusal 35 = .ok (.goto 20, 3) := by decide +kernel
theorem dX9_refusal_38 : decode cX9_refusal 38 = .ok (.aload_n 0, 1) := by decide +kernel
theorem dX9_refusal_39 : decode cX9_refusal 39 = .ok (.bipush 33, 2) := by decide +kernel
theorem dX9_refusal_41 : decode cX9_refusal 41 = .ok (.invokevirtual 133, 3) := by decide +kernel
theorem dX9_refusal_44 : decode cX9_refusal 44 = .ok (.iload_n 1, 1) := by decide +kernel
theorem dX9_refusal_45 : decode cX9_refusal 45 = .ok (.if_icmp .le 8, 3) := by decide +kernel
theorem dX9_refusal_48 : decode cX9_refusal 48 = .ok (.bipush (-4), 2) := by decide +kernel
theorem dX9_refusal_50 : decode cX9_refusal 50 = .ok (.goto 5, 3) := by decide +kernel
theorem dX9_refusal_53 : decode cX9_refusal 53 = .ok (.bipush (-6), 2) := by decide +kernel
theorem dX9_refusal_55 : decode cX9_refusal 55 = .ok (.ireturn, 1) := by decide +kernel
theorem dX9_layThrows_0 : decode cX9_layThrows 0 = .ok (.iload_n 1, 1) := by decide +kernel
theorem dX9_layThrows_1 : decode cX9_layThrows 1 = .ok (.istore_n 3, 1) := by decide +kernel
theorem dX9_layThrows_2 : decode cX9_layThrows 2 = .ok (.iconst 0, 1) := by decide +kernel
theorem dX9_layThrows_3 : decode cX9_layThrows 3 = .ok (.istore 4, 2) := by decide +kernel
theorem dX9_layThrows_5 : decode cX9_layThrows 5 = .ok (.iconst 1, 1) := by decide +kernel
theorem dX9_layThrows_6 : decode cX9_layThrows 6 = .ok (.istore 5, 2) := by decide +kernel
theorem dX9_layThrows_8 : decode cX9_layThrows 8 = .ok (.iload_n 2, 1) := by decide +kernel
theorem dX9_layThrows_9 : decode cX9_layThrows 9 = .ok (.iconst 1, 1) := by decide +kernel
theorem dX9_layThrows_10 : decode cX9_layThrows 10 = .ok (.isub, 1) := by decide +kernel
theorem dX9_layThrows_11 : decode cX9_layThrows 11 = .ok (.istore 6, 2) := by decide +kernel
theorem dX9_layThrows_13 : decode cX9_layThrows 13 = .ok (.iload 6, 2) := by decide +kernel
theorem dX9_layThrows_15 : decode cX9_layThrows 15 = .ok (.ifCond .lt 89, 3) := by decide +kernel
theorem dX9_layThrows_18 : decode cX9_layThrows 18 = .ok (.iload_n 3, 1) := by decide +kernel
theorem dX9_layThrows_19 : decode cX9_layThrows 19 = .ok (.bipush 7, 2) := by decide +kernel
theorem dX9_layThrows_21 : decode cX9_layThrows 21 = .ok (.irem, 1) := by decide +kernel
theorem dX9_layThrows_22 : decode cX9_layThrows 22 = .ok (.istore 7, 2) := by decide +kernel
theorem dX9_layThrows_24 : decode cX9_layThrows 24 = .ok (.iload_n 3, 1) := by decide +kernel
theorem dX9_layThrows_25 : decode cX9_layThrows 25 = .ok (.bipush 7, 2) := by decide +kernel
theorem dX9_layThrows_27 : decode cX9_layThrows 27 = .ok (.idiv, 1) := by decide +kernel
theorem dX9_layThrows_28 : decode cX9_layThrows 28 = .ok (.istore_n 3, 1) := by decide +kernel
theorem dX9_layThrows_29 : decode cX9_layThrows 29 = .ok (.aload_n 0, 1) := by decide +kernel
theorem dX9_layThrows_30 : decode cX9_layThrows 30 = .ok (.getfield 31, 3) := by decide +kernel
theorem dX9_layThrows_33 : decode cX9_layThrows 33 = .ok (.iload 6, 2) := by decide +kernel
theorem dX9_layThrows_35 : decode cX9_layThrows 35 = .ok (.iload 7, 2) := by decide +kernel
theorem dX9_layThrows_37 : decode cX9_layThrows 37 = .ok (.iastore, 1) := by decide +kernel
theorem dX9_layThrows_38 : decode cX9_layThrows 38 = .ok (.iload 7, 2) := by decide +kernel
theorem dX9_layThrows_40 : decode cX9_layThrows 40 = .ok (.bipush 6, 2) := by decide +kernel
theorem dX9_layThrows_42 : decode cX9_layThrows 42 = .ok (.if_icmp .eq 23, 3) := by decide +kernel
theorem dX9_layThrows_45 : decode cX9_layThrows 45 = .ok (.aload_n 0, 1) := by decide +kernel
theorem dX9_layThrows_46 : decode cX9_layThrows 46 = .ok (.getfield 16, 3) := by decide +kernel
theorem dX9_layThrows_49 : decode cX9_layThrows 49 = .ok (.iload 7, 2) := by decide +kernel
theorem dX9_layThrows_51 : decode cX9_layThrows 51 = .ok (.iaload, 1) := by decide +kernel
theorem dX9_layThrows_52 : decode cX9_layThrows 52 = .ok (.ifCond .le 17, 3) := by decide +kernel
theorem dX9_layThrows_55 : decode cX9_layThrows 55 = .ok (.iload 4, 2) := by decide +kernel
theorem dX9_layThrows_57 : decode cX9_layThrows 57 = .ok (.iload 7, 2) := by decide +kernel
theorem dX9_layThrows_59 : decode cX9_layThrows 59 = .ok (.ishr, 1) := by decide +kernel
theorem dX9_layThrows_60 : decode cX9_layThrows 60 = .ok (.iconst 1, 1) := by decide +kernel
theorem dX9_layThrows_61 : decode cX9_layThrows 61 = .ok (.iand, 1) := by decide +kernel
theorem dX9_layThrows_62 : decode cX9_layThrows 62 = .ok (.ifCond .ne 7, 3) := by decide +kernel
theorem dX9_layThrows_65 : decode cX9_layThrows 65 = .ok (.iconst 1, 1) := by decide +kernel
theorem dX9_layThrows_66 : decode cX9_layThrows 66 = .ok (.goto 4, 3) := by decide +kernel
theorem dX9_layThrows_69 : decode cX9_layThrows 69 = .ok (.iconst 0, 1) := by decide +kernel
theorem dX9_layThrows_70 : decode cX9_layThrows 70 = .ok (.istore 8, 2) := by decide +kernel
theorem dX9_layThrows_72 : decode cX9_layThrows 72 = .ok (.iload 5, 2) := by decide +kernel
theorem dX9_layThrows_74 : decode cX9_layThrows 74 = .ok (.ifCond .eq 12, 3) := by decide +kernel
theorem dX9_layThrows_77 : decode cX9_layThrows 77 = .ok (.iload 8, 2) := by decide +kernel
theorem dX9_layThrows_79 : decode cX9_layThrows 79 = .ok (.ifCond .eq 7, 3) := by decide +kernel
theorem dX9_layThrows_82 : decode cX9_layThrows 82 = .ok (.iconst 1, 1) := by decide +kernel
theorem dX9_layThrows_83 : decode cX9_layThrows 83 = .ok (.goto 4, 3) := by decide +kernel
theorem dX9_layThrows_86 : decode cX9_layThrows 86 = .ok (.iconst 0, 1) := by decide +kernel
theorem dX9_layThrows_87 : decode cX9_layThrows 87 = .ok (.istore 5, 2) := by decide +kernel
theorem dX9_layThrows_89 : decode cX9_layThrows 89 = .ok (.iload 4, 2) := by decide +kernel
theorem dX9_layThrows_91 : decode cX9_layThrows 91 = .ok (.iconst 1, 1) := by decide +kernel
theorem dX9_layThrows_92 : decode cX9_layThrows 92 = .ok (.iload 7, 2) := by decide +kernel
theorem dX9_layThrows_94 : decode cX9_layThrows 94 = .ok (.ishl, 1) := by decide +kernel
theorem dX9_layThrows_95 : decode cX9_layThrows 95 = .ok (.ior, 1) := by decide +kernel
theorem dX9_layThrows_96 : decode cX9_layThrows 96 = .ok (.istore 4, 2) := by decide +kernel
theorem dX9_layThrows_98 : decode cX9_layThrows 98 = .ok (.iinc 6 (-1), 3) := by decide +kernel
theorem dX9_layThrows_101 : decode cX9_layThrows 101 = .ok (.goto (-88), 3) := by decide +kernel
theorem dX9_layThrows_104 : decode cX9_layThrows 104 = .ok (.iload 5, 2) := by decide +kernel
theorem dX9_layThrows_106 : decode cX9_layThrows 106 = .ok (.ireturn, 1) := by decide +kernel
theorem dX9_goCourse_0 : decode cX9_goCourse 0 = .ok (.iconst 0, 1) := by decide +kernel
theorem dX9_goCourse_1 : decode cX9_goCourse 1 = .ok (.istore_n 1, 1) := by decide +kernel
theorem dX9_goCourse_2 : decode cX9_goCourse 2 = .ok (.iconst 0, 1) := by decide +kernel
theorem dX9_goCourse_3 : decode cX9_goCourse 3 = .ok (.istore_n 2, 1) := by decide +kernel
theorem dX9_goCourse_4 : decode cX9_goCourse 4 = .ok (.iload_n 2, 1) := by decide +kernel
theorem dX9_goCourse_5 : decode cX9_goCourse 5 = .ok (.aload_n 0, 1) := by decide +kernel
theorem dX9_goCourse_6 : decode cX9_goCourse 6 = .ok (.getfield 95, 3) := by decide +kernel
theorem dX9_goCourse_9 : decode cX9_goCourse 9 = .ok (.if_icmp .ge 56, 3) := by decide +kernel
theorem dX9_goCourse_12 : decode cX9_goCourse 12 = .ok (.aload_n 0, 1) := by decide +kernel
theorem dX9_goCourse_13 : decode cX9_goCourse 13 = .ok (.getfield 25, 3) := by decide +kernel
theorem dX9_goCourse_16 : decode cX9_goCourse 16 = .ok (.iload_n 2, 1) := by decide +kernel
theorem dX9_goCourse_17 : decode cX9_goCourse 17 = .ok (.iaload, 1) := by decide +kernel
theorem dX9_goCourse_18 : decode cX9_goCourse 18 = .ok (.bipush 46, 2) := by decide +kernel
theorem dX9_goCourse_20 : decode cX9_goCourse 20 = .ok (.if_icmp .ne 10, 3) := by decide +kernel
theorem dX9_goCourse_23 : decode cX9_goCourse 23 = .ok (.aload_n 0, 1) := by decide +kernel
theorem dX9_goCourse_24 : decode cX9_goCourse 24 = .ok (.invokevirtual 121, 3) := by decide +kernel
theorem dX9_goCourse_27 : decode cX9_goCourse 27 = .ok (.goto 32, 3) := by decide +kernel
theorem dX9_goCourse_30 : decode cX9_goCourse 30 = .ok (.aload_n 0, 1) := by decide +kernel
theorem dX9_goCourse_31 : decode cX9_goCourse 31 = .ok (.aload_n 0, 1) := by decide +kernel
theorem dX9_goCourse_32 : decode cX9_goCourse 32 = .ok (.getfield 31, 3) := by decide +kernel
theorem dX9_goCourse_35 : decode cX9_goCourse 35 = .ok (.iload_n 1, 1) := by decide +kernel
theorem dX9_goCourse_36 : decode cX9_goCourse 36 = .ok (.iaload, 1) := by decide +kernel
theorem dX9_goCourse_37 : decode cX9_goCourse 37 = .ok (.bipush 6, 2) := by decide +kernel
theorem dX9_goCourse_39 : decode cX9_goCourse 39 = .ok (.if_icmp .ge 12, 3) := by decide +kernel
theorem dX9_goCourse_42 : decode cX9_goCourse 42 = .ok (.aload_n 0, 1) := by decide +kernel
theorem dX9_goCourse_43 : decode cX9_goCourse 43 = .ok (.getfield 31, 3) := by decide +kernel
theorem dX9_goCourse_46 : decode cX9_goCourse 46 = .ok (.iload_n 1, 1) := by decide +kernel
theorem dX9_goCourse_47 : decode cX9_goCourse 47 = .ok (.iaload, 1) := by decide +kernel
theorem dX9_goCourse_48 : decode cX9_goCourse 48 = .ok (.goto 5, 3) := by decide +kernel
theorem dX9_goCourse_51 : decode cX9_goCourse 51 = .ok (.bipush (-6), 2) := by decide +kernel
theorem dX9_goCourse_53 : decode cX9_goCourse 53 = .ok (.invokevirtual 124, 3) := by decide +kernel
theorem dX9_goCourse_56 : decode cX9_goCourse 56 = .ok (.iinc 1 1, 3) := by decide +kernel
theorem dX9_goCourse_59 : decode cX9_goCourse 59 = .ok (.iinc 2 1, 3) := by decide +kernel
theorem dX9_goCourse_62 : decode cX9_goCourse 62 = .ok (.goto (-58), 3) := by decide +kernel
theorem dX9_goCourse_65 : decode cX9_goCourse 65 = .ok (.return_, 1) := by decide +kernel
theorem dX9_sevens_0 : decode cX9_sevens 0 = .ok (.iconst 1, 1) := by decide +kernel
theorem dX9_sevens_1 : decode cX9_sevens 1 = .ok (.istore_n 1, 1) := by decide +kernel
theorem dX9_sevens_2 : decode cX9_sevens 2 = .ok (.iconst 0, 1) := by decide +kernel
theorem dX9_sevens_3 : decode cX9_sevens 3 = .ok (.istore_n 2, 1) := by decide +kernel
theorem dX9_sevens_4 : decode cX9_sevens 4 = .ok (.iload_n 2, 1) := by decide +kernel
theorem dX9_sevens_5 : decode cX9_sevens 5 = .ok (.iload_n 0, 1) := by decide +kernel
theorem dX9_sevens_6 : decode cX9_sevens 6 = .ok (.if_icmp .ge 14, 3) := by decide +kernel
theorem dX9_sevens_9 : decode cX9_sevens 9 = .ok (.iload_n 1, 1) := by decide +kernel
theorem dX9_sevens_10 : decode cX9_sevens 10 = .ok (.bipush 7, 2) := by decide +kernel
theorem dX9_sevens_12 : decode cX9_sevens 12 = .ok (.imul, 1) := by decide +kernel
theorem dX9_sevens_13 : decode cX9_sevens 13 = .ok (.istore_n 1, 1) := by decide +kernel
theorem dX9_sevens_14 : decode cX9_sevens 14 = .ok (.iinc 2 1, 3) := by decide +kernel
theorem dX9_sevens_17 : decode cX9_sevens 17 = .ok (.goto (-13), 3) := by decide +kernel
theorem dX9_sevens_20 : decode cX9_sevens 20 = .ok (.iload_n 1, 1) := by decide +kernel
theorem dX9_sevens_21 : decode cX9_sevens 21 = .ok (.ireturn, 1) := by decide +kernel
theorem dX9_isGoal_0 : decode cX9_isGoal 0 = .ok (.iload_n 0, 1) := by decide +kernel
theorem dX9_isGoal_1 : decode cX9_isGoal 1 = .ok (.i2l, 1) := by decide +kernel
theorem dX9_isGoal_2 : decode cX9_isGoal 2 = .ok (.ldc2_w 163, 3) := by decide +kernel
theorem dX9_isGoal_5 : decode cX9_isGoal 5 = .ok (.ldc2_w 165, 3) := by decide +kernel
theorem dX9_isGoal_8 : decode cX9_isGoal 8 = .ok (.invokestatic 71, 3) := by decide +kernel
theorem dX9_isGoal_11 : decode cX9_isGoal 11 = .ok (.ireturn, 1) := by decide +kernel
theorem dX9_apart_0 : decode cX9_apart 0 = .ok (.aload_n 0, 1) := by decide +kernel
theorem dX9_apart_1 : decode cX9_apart 1 = .ok (.getfield 102, 3) := by decide +kernel
theorem dX9_apart_4 : decode cX9_apart 4 = .ok (.iload_n 1, 1) := by decide +kernel
theorem dX9_apart_5 : decode cX9_apart 5 = .ok (.if_icmp .le 12, 3) := by decide +kernel
theorem dX9_apart_8 : decode cX9_apart 8 = .ok (.aload_n 0, 1) := by decide +kernel
theorem dX9_apart_9 : decode cX9_apart 9 = .ok (.getfield 102, 3) := by decide +kernel
theorem dX9_apart_12 : decode cX9_apart 12 = .ok (.iload_n 1, 1) := by decide +kernel
theorem dX9_apart_13 : decode cX9_apart 13 = .ok (.isub, 1) := by decide +kernel
theorem dX9_apart_14 : decode cX9_apart 14 = .ok (.goto 9, 3) := by decide +kernel
theorem dX9_apart_17 : decode cX9_apart 17 = .ok (.iload_n 1, 1) := by decide +kernel
theorem dX9_apart_18 : decode cX9_apart 18 = .ok (.aload_n 0, 1) := by decide +kernel
theorem dX9_apart_19 : decode cX9_apart 19 = .ok (.getfield 102, 3) := by decide +kernel
theorem dX9_apart_22 : decode cX9_apart 22 = .ok (.isub, 1) := by decide +kernel
theorem dX9_apart_23 : decode cX9_apart 23 = .ok (.ireturn, 1) := by decide +kernel
theorem dX9_nearest_0 : decode cX9_nearest 0 = .ok (.iload_n 1, 1) := by decide +kernel
theorem dX9_nearest_1 : decode cX9_nearest 1 = .ok (.invokestatic 167, 3) := by decide +kernel
theorem dX9_nearest_4 : decode cX9_nearest 4 = .ok (.ifCond .ne 6, 3) := by decide +kernel
theorem dX9_nearest_7 : decode cX9_nearest 7 = .ok (.bipush (-2), 2) := by decide +kernel
theorem dX9_nearest_9 : decode cX9_nearest 9 = .ok (.ireturn, 1) := by decide +kernel
theorem dX9_nearest_10 : decode cX9_nearest 10 = .ok (.aload_n 0, 1) := by decide +kernel
theorem dX9_nearest_11 : decode cX9_nearest 11 = .ok (.bipush 6, 2) := by decide +kernel
theorem dX9_nearest_13 : decode cX9_nearest 13 = .ok (.invokevirtual 170, 3) := by decide +kernel
theorem dX9_nearest_16 : decode cX9_nearest 16 = .ok (.istore_n 3, 1) := by decide +kernel
theorem dX9_nearest_17 : decode cX9_nearest 17 = .ok (.iload_n 3, 1) := by decide +kernel
theorem dX9_nearest_18 : decode cX9_nearest 18 = .ok (.bipush (-6), 2) := by decide +kernel
theorem dX9_nearest_20 : decode cX9_nearest 20 = .ok (.if_icmp .eq 5, 3) := by decide +kernel
theorem dX9_nearest_23 : decode cX9_nearest 23 = .ok (.iload_n 3, 1) := by decide +kernel
theorem dX9_nearest_24 : decode cX9_nearest 24 = .ok (.ireturn, 1) := by decide +kernel
theorem dX9_nearest_25 : decode cX9_nearest 25 = .ok (.aload_n 0, 1) := by decide +kernel
theorem dX9_nearest_26 : decode cX9_nearest 26 = .ok (.bipush 33, 2) := by decide +kernel
theorem dX9_nearest_28 : decode cX9_nearest 28 = .ok (.invokevirtual 133, 3) := by decide +kernel
theorem dX9_nearest_31 : decode cX9_nearest 31 = .ok (.istore 4, 2) := by decide +kernel
theorem dX9_nearest_33 : decode cX9_nearest 33 = .ok (.ldc 173, 2) := by decide +kernel
theorem dX9_nearest_35 : decode cX9_nearest 35 = .ok (.istore 5, 2) := by decide +kernel
theorem dX9_nearest_37 : decode cX9_nearest 37 = .ok (.iconst 0, 1) := by decide +kernel
theorem dX9_nearest_38 : decode cX9_nearest 38 = .ok (.istore 6, 2) := by decide +kernel
theorem dX9_nearest_40 : decode cX9_nearest 40 = .ok (.iload 6, 2) := by decide +kernel
theorem dX9_nearest_42 : decode cX9_nearest 42 = .ok (.iload 4, 2) := by decide +kernel
theorem dX9_nearest_44 : decode cX9_nearest 44 = .ok (.invokestatic 174, 3) := by decide +kernel
theorem dX9_nearest_47 : decode cX9_nearest 47 = .ok (.if_icmp .ge 97, 3) := by decide +kernel
theorem dX9_nearest_50 : decode cX9_nearest 50 = .ok (.aload_n 0, 1) := by decide +kernel
theorem dX9_nearest_51 : decode cX9_nearest 51 = .ok (.iload 6, 2) := by decide +kernel
theorem dX9_nearest_53 : decode cX9_nearest 53 = .ok (.iload 4, 2) := by decide +kernel
theorem dX9_nearest_55 : decode cX9_nearest 55 = .ok (.invokevirtual 177, 3) := by decide +kernel
theorem dX9_nearest_58 : decode cX9_nearest 58 = .ok (.ifCond .eq 80, 3) := by decide +kernel
theorem dX9_nearest_61 : decode cX9_nearest 61 = .ok (.aload_n 0, 1) := by decide +kernel
theorem dX9_nearest_62 : decode cX9_nearest 62 = .ok (.invokevirtual 138, 3) := by decide +kernel
theorem dX9_nearest_65 : decode cX9_nearest 65 = .ok (.aload_n 0, 1) := by decide +kernel
theorem dX9_nearest_66 : decode cX9_nearest 66 = .ok (.invokevirtual 181, 3) := by decide +kernel
theorem dX9_nearest_69 : decode cX9_nearest 69 = .ok (.bipush 10, 2) := by decide +kernel
theorem dX9_nearest_71 : decode cX9_nearest 71 = .ok (.aload_n 0, 1) := by decide +kernel
theorem dX9_nearest_72 : decode cX9_nearest 72 = .ok (.iload_n 1, 1) := by decide +kernel
theorem dX9_nearest_73 : decode cX9_nearest 73 = .ok (.invokevirtual 184, 3) := by decide +kernel
theorem dX9_nearest_76 : decode cX9_nearest 76 = .ok (.imul, 1) := by decide +kernel
theorem dX9_nearest_77 : decode cX9_nearest 77 = .ok (.aload_n 0, 1) := by decide +kernel
theorem dX9_nearest_78 : decode cX9_nearest 78 = .ok (.aload_n 0, 1) := by decide +kernel
theorem dX9_nearest_79 : decode cX9_nearest 79 = .ok (.invokevirtual 98, 3) := by decide +kernel
theorem dX9_nearest_82 : decode cX9_nearest 82 = .ok (.invokevirtual 144, 3) := by decide +kernel
theorem dX9_nearest_85 : decode cX9_nearest 85 = .ok (.iadd, 1) := by decide +kernel
theorem dX9_nearest_86 : decode cX9_nearest 86 = .ok (.aload_n 0, 1) := by decide +kernel
theorem dX9_nearest_87 : decode cX9_nearest 87 = .ok (.aload_n 0, 1) := by decide +kernel
theorem dX9_nearest_88 : decode cX9_nearest 88 = .ok (.getfield 111, 3) := by decide +kernel
theorem dX9_nearest_91 : decode cX9_nearest 91 = .ok (.invokevirtual 144, 3) := by decide +kernel
theorem dX9_nearest_94 : decode cX9_nearest 94 = .ok (.isub, 1) := by decide +kernel
theorem dX9_nearest_95 : decode cX9_nearest 95 = .ok (.istore 7, 2) := by decide +kernel
theorem dX9_nearest_97 : decode cX9_nearest 97 = .ok (.iload 7, 2) := by decide +kernel
theorem dX9_nearest_99 : decode cX9_nearest 99 = .ok (.iload 5, 2) := by decide +kernel
theorem dX9_nearest_101 : decode cX9_nearest 101 = .ok (.if_icmp .ge 37, 3) := by decide +kernel
theorem dX9_nearest_104 : decode cX9_nearest 104 = .ok (.iload 7, 2) := by decide +kernel
theorem dX9_nearest_106 : decode cX9_nearest 106 = .ok (.istore 5, 2) := by decide +kernel
theorem dX9_nearest_108 : decode cX9_nearest 108 = .ok (.iconst 0, 1) := by decide +kernel
theorem dX9_nearest_109 : decode cX9_nearest 109 = .ok (.istore 8, 2) := by decide +kernel
theorem dX9_nearest_111 : decode cX9_nearest 111 = .ok (.iload 8, 2) := by decide +kernel
theorem dX9_nearest_113 : decode cX9_nearest 113 = .ok (.iload 4, 2) := by decide +kernel
theorem dX9_nearest_115 : decode cX9_nearest 115 = .ok (.if_icmp .ge 23, 3) := by decide +kernel
theorem dX9_nearest_118 : decode cX9_nearest 118 = .ok (.aload_n 0, 1) := by decide +kernel
theorem dX9_nearest_119 : decode cX9_nearest 119 = .ok (.getfield 34, 3) := by decide +kernel
theorem dX9_nearest_122 : decode cX9_nearest 122 = .ok (.iload 8, 2) := by decide +kernel
theorem dX9_nearest_124 : decode cX9_nearest 124 = .ok (.aload_n 0, 1) := by decide +kernel
theorem dX9_nearest_125 : decode cX9_nearest 125 = .ok (.getfield 31, 3) := by decide +kernel
theorem dX9_nearest_128 : decode cX9_nearest 128 = .ok (.iload 8, 2) := by decide +kernel
theorem dX9_nearest_130 : decode cX9_nearest 130 = .ok (.iaload, 1) := by decide +kernel
theorem dX9_nearest_131 : decode cX9_nearest 131 = .ok (.iastore, 1) := by decide +kernel
theorem dX9_nearest_132 : decode cX9_nearest 132 = .ok (.iinc 8 1, 3) := by decide +kernel
theorem dX9_nearest_135 : decode cX9_nearest 135 = .ok (.goto (-24), 3) := by decide +kernel
theorem dX9_nearest_138 : decode cX9_nearest 138 = .ok (.iinc 6 1, 3) := by decide +kernel
theorem dX9_nearest_141 : decode cX9_nearest 141 = .ok (.goto (-101), 3) := by decide +kernel
theorem dX9_nearest_144 : decode cX9_nearest 144 = .ok (.iload_n 2, 1) := by decide +kernel
theorem dX9_nearest_145 : decode cX9_nearest 145 = .ok (.iconst (-1), 1) := by decide +kernel
theorem dX9_nearest_146 : decode cX9_nearest 146 = .ok (.if_icmp .ne 11, 3) := by decide +kernel
theorem dX9_nearest_149 : decode cX9_nearest 149 = .ok (.iload 5, 2) := by decide +kernel
theorem dX9_nearest_151 : decode cX9_nearest 151 = .ok (.bipush 10, 2) := by decide +kernel
theorem dX9_nearest_153 : decode cX9_nearest 153 = .ok (.idiv, 1) := by decide +kernel
theorem dX9_nearest_154 : decode cX9_nearest 154 = .ok (.goto 39, 3) := by decide +kernel
theorem dX9_nearest_157 : decode cX9_nearest 157 = .ok (.iload_n 2, 1) := by decide +kernel
theorem dX9_nearest_158 : decode cX9_nearest 158 = .ok (.i2l, 1) := by decide +kernel
theorem dX9_nearest_159 : decode cX9_nearest 159 = .ok (.lconst 0, 1) := by decide +kernel
theorem dX9_nearest_160 : decode cX9_nearest 160 = .ok (.iload 4, 2) := by decide +kernel
theorem dX9_nearest_162 : decode cX9_nearest 162 = .ok (.iconst 1, 1) := by decide +kernel
theorem dX9_nearest_163 : decode cX9_nearest 163 = .ok (.isub, 1) := by decide +kernel
theorem dX9_nearest_164 : decode cX9_nearest 164 = .ok (.i2l, 1) := by decide +kernel
theorem dX9_nearest_165 : decode cX9_nearest 165 = .ok (.invokestatic 71, 3) := by decide +kernel
theorem dX9_nearest_168 : decode cX9_nearest 168 = .ok (.ifCond .eq 23, 3) := by decide +kernel
theorem dX9_nearest_171 : decode cX9_nearest 171 = .ok (.aload_n 0, 1) := by decide +kernel
theorem dX9_nearest_172 : decode cX9_nearest 172 = .ok (.getfield 34, 3) := by decide +kernel
theorem dX9_nearest_175 : decode cX9_nearest 175 = .ok (.iload_n 2, 1) := by decide +kernel
theorem dX9_nearest_176 : decode cX9_nearest 176 = .ok (.iaload, 1) := by decide +kernel
theorem dX9_nearest_177 : decode cX9_nearest 177 = .ok (.bipush 6, 2) := by decide +kernel
theorem dX9_nearest_179 : decode cX9_nearest 179 = .ok (.if_icmp .ge 12, 3) := by decide +kernel
theorem dX9_nearest_182 : decode cX9_nearest 182 = .ok (.aload_n 0, 1) := by decide +kernel
theorem dX9_nearest_183 : decode cX9_nearest 183 = .ok (.getfield 34, 3) := by decide +kernel
theorem dX9_nearest_186 : decode cX9_nearest 186 = .ok (.iload_n 2, 1) := by decide +kernel
theorem dX9_nearest_187 : decode cX9_nearest 187 = .ok (.iaload, 1) := by decide +kernel
theorem dX9_nearest_188 : decode cX9_nearest 188 = .ok (.goto 5, 3) := by decide +kernel
theorem dX9_nearest_191 : decode cX9_nearest 191 = .ok (.bipush (-6), 2) := by decide +kernel
theorem dX9_nearest_193 : decode cX9_nearest 193 = .ok (.ireturn, 1) := by decide +kernel
theorem dX9_isSpan_0 : decode cX9_isSpan 0 = .ok (.iload_n 0, 1) := by decide +kernel
theorem dX9_isSpan_1 : decode cX9_isSpan 1 = .ok (.invokestatic 167, 3) := by decide +kernel
theorem dX9_isSpan_4 : decode cX9_isSpan 4 = .ok (.ifCond .eq 20, 3) := by decide +kernel
theorem dX9_isSpan_7 : decode cX9_isSpan 7 = .ok (.iload_n 1, 1) := by decide +kernel
theorem dX9_isSpan_8 : decode cX9_isSpan 8 = .ok (.i2l, 1) := by decide +kernel
theorem dX9_isSpan_9 : decode cX9_isSpan 9 = .ok (.iload_n 0, 1) := by decide +kernel
theorem dX9_isSpan_10 : decode cX9_isSpan 10 = .ok (.i2l, 1) := by decide +kernel
theorem dX9_isSpan_11 : decode cX9_isSpan 11 = .ok (.ldc2_w 165, 3) := by decide +kernel
theorem dX9_isSpan_14 : decode cX9_isSpan 14 = .ok (.invokestatic 71, 3) := by decide +kernel
theorem dX9_isSpan_17 : decode cX9_isSpan 17 = .ok (.ifCond .eq 7, 3) := by decide +kernel
theorem dX9_isSpan_20 : decode cX9_isSpan 20 = .ok (.iconst 1, 1) := by decide +kernel
theorem dX9_isSpan_21 : decode cX9_isSpan 21 = .ok (.goto 4, 3) := by decide +kernel
theorem dX9_isSpan_24 : decode cX9_isSpan 24 = .ok (.iconst 0, 1) := by decide +kernel
theorem dX9_isSpan_25 : decode cX9_isSpan 25 = .ok (.ireturn, 1) := by decide +kernel
theorem dX9_field_0 : decode cX9_field 0 = .ok (.iload_n 1, 1) := by decide +kernel
theorem dX9_field_1 : decode cX9_field 1 = .ok (.iload_n 2, 1) := by decide +kernel
theorem dX9_field_2 : decode cX9_field 2 = .ok (.invokestatic 187, 3) := by decide +kernel
theorem dX9_field_5 : decode cX9_field 5 = .ok (.ifCond .ne 6, 3) := by decide +kernel
theorem dX9_field_8 : decode cX9_field 8 = .ok (.bipush (-2), 2) := by decide +kernel
theorem dX9_field_10 : decode cX9_field 10 = .ok (.ireturn, 1) := by decide +kernel
theorem dX9_field_11 : decode cX9_field 11 = .ok (.aload_n 0, 1) := by decide +kernel
theorem dX9_field_12 : decode cX9_field 12 = .ok (.bipush 6, 2) := by decide +kernel
theorem dX9_field_14 : decode cX9_field 14 = .ok (.invokevirtual 170, 3) := by decide +kernel
theorem dX9_field_17 : decode cX9_field 17 = .ok (.istore_n 3, 1) := by decide +kernel
theorem dX9_field_18 : decode cX9_field 18 = .ok (.iload_n 3, 1) := by decide +kernel
theorem dX9_field_19 : decode cX9_field 19 = .ok (.bipush (-6), 2) := by decide +kernel
theorem dX9_field_21 : decode cX9_field 21 = .ok (.if_icmp .eq 5, 3) := by decide +kernel
theorem dX9_field_24 : decode cX9_field 24 = .ok (.iload_n 3, 1) := by decide +kernel
theorem dX9_field_25 : decode cX9_field 25 = .ok (.ireturn, 1) := by decide +kernel
theorem dX9_field_26 : decode cX9_field 26 = .ok (.aload_n 0, 1) := by decide +kernel
theorem dX9_field_27 : decode cX9_field 27 = .ok (.bipush 33, 2) := by decide +kernel
theorem dX9_field_29 : decode cX9_field 29 = .ok (.invokevirtual 133, 3) := by decide +kernel
theorem dX9_field_32 : decode cX9_field 32 = .ok (.istore 4, 2) := by decide +kernel
theorem dX9_field_34 : decode cX9_field 34 = .ok (.iconst 0, 1) := by decide +kernel
theorem dX9_field_35 : decode cX9_field 35 = .ok (.istore 5, 2) := by decide +kernel
theorem dX9_field_37 : decode cX9_field 37 = .ok (.iconst 0, 1) := by decide +kernel
theorem dX9_field_38 : decode cX9_field 38 = .ok (.istore 6, 2) := by decide +kernel
theorem dX9_field_40 : decode cX9_field 40 = .ok (.iload 6, 2) := by decide +kernel
theorem dX9_field_42 : decode cX9_field 42 = .ok (.iload 4, 2) := by decide +kernel
theorem dX9_field_44 : decode cX9_field 44 = .ok (.invokestatic 174, 3) := by decide +kernel
theorem dX9_field_47 : decode cX9_field 47 = .ok (.if_icmp .ge 53, 3) := by decide +kernel
theorem dX9_field_50 : decode cX9_field 50 = .ok (.aload_n 0, 1) := by decide +kernel
theorem dX9_field_51 : decode cX9_field 51 = .ok (.iload 6, 2) := by decide +kernel
theorem dX9_field_53 : decode cX9_field 53 = .ok (.iload 4, 2) := by decide +kernel
theorem dX9_field_55 : decode cX9_field 55 = .ok (.invokevirtual 177, 3) := by decide +kernel
theorem dX9_field_58 : decode cX9_field 58 = .ok (.ifCond .eq 36, 3) := by decide +kernel
theorem dX9_field_61 : decode cX9_field 61 = .ok (.aload_n 0, 1) := by decide +kernel
theorem dX9_field_62 : decode cX9_field 62 = .ok (.invokevirtual 138, 3) := by decide +kernel
theorem dX9_field_65 : decode cX9_field 65 = .ok (.aload_n 0, 1) := by decide +kernel
theorem dX9_field_66 : decode cX9_field 66 = .ok (.invokevirtual 181, 3) := by decide +kernel
theorem dX9_field_69 : decode cX9_field 69 = .ok (.iload 5, 2) := by decide +kernel
theorem dX9_field_71 : decode cX9_field 71 = .ok (.aload_n 0, 1) := by decide +kernel
theorem dX9_field_72 : decode cX9_field 72 = .ok (.getfield 102, 3) := by decide +kernel
theorem dX9_field_75 : decode cX9_field 75 = .ok (.i2l, 1) := by decide +kernel
theorem dX9_field_76 : decode cX9_field 76 = .ok (.iload_n 1, 1) := by decide +kernel
theorem dX9_field_77 : decode cX9_field 77 = .ok (.i2l, 1) := by decide +kernel
theorem dX9_field_78 : decode cX9_field 78 = .ok (.iload_n 2, 1) := by decide +kernel
theorem dX9_field_79 : decode cX9_field 79 = .ok (.i2l, 1) := by decide +kernel
theorem dX9_field_80 : decode cX9_field 80 = .ok (.invokestatic 71, 3) := by decide +kernel
theorem dX9_field_83 : decode cX9_field 83 = .ok (.ifCond .eq 7, 3) := by decide +kernel
theorem dX9_field_86 : decode cX9_field 86 = .ok (.iconst 1, 1) := by decide +kernel
theorem dX9_field_87 : decode cX9_field 87 = .ok (.goto 4, 3) := by decide +kernel
theorem dX9_field_90 : decode cX9_field 90 = .ok (.iconst 0, 1) := by decide +kernel
theorem dX9_field_91 : decode cX9_field 91 = .ok (.iadd, 1) := by decide +kernel
theorem dX9_field_92 : decode cX9_field 92 = .ok (.istore 5, 2) := by decide +kernel
theorem dX9_field_94 : decode cX9_field 94 = .ok (.iinc 6 1, 3) := by decide +kernel
theorem dX9_field_97 : decode cX9_field 97 = .ok (.goto (-57), 3) := by decide +kernel
theorem dX9_field_100 : decode cX9_field 100 = .ok (.iload 5, 2) := by decide +kernel
theorem dX9_field_102 : decode cX9_field 102 = .ok (.ireturn, 1) := by decide +kernel
theorem dX9_goMinutes_0 : decode cX9_goMinutes 0 = .ok (.aload_n 0, 1) := by decide +kernel
theorem dX9_goMinutes_1 : decode cX9_goMinutes 1 = .ok (.bipush 46, 2) := by decide +kernel
theorem dX9_goMinutes_3 : decode cX9_goMinutes 3 = .ok (.invokevirtual 133, 3) := by decide +kernel
theorem dX9_goMinutes_6 : decode cX9_goMinutes 6 = .ok (.istore_n 1, 1) := by decide +kernel
theorem dX9_goMinutes_7 : decode cX9_goMinutes 7 = .ok (.iload_n 1, 1) := by decide +kernel
theorem dX9_goMinutes_8 : decode cX9_goMinutes 8 = .ok (.ifCond .le 13, 3) := by decide +kernel
theorem dX9_goMinutes_11 : decode cX9_goMinutes 11 = .ok (.aload_n 0, 1) := by decide +kernel
theorem dX9_goMinutes_12 : decode cX9_goMinutes 12 = .ok (.invokevirtual 121, 3) := by decide +kernel
theorem dX9_goMinutes_15 : decode cX9_goMinutes 15 = .ok (.iinc 1 (-1), 3) := by decide +kernel
theorem dX9_goMinutes_18 : decode cX9_goMinutes 18 = .ok (.goto (-11), 3) := by decide +kernel
theorem dX9_goMinutes_21 : decode cX9_goMinutes 21 = .ok (.return_, 1) := by decide +kernel
theorem dX9_take_0 : decode cX9_take 0 = .ok (.iload_n 1, 1) := by decide +kernel
theorem dX9_take_1 : decode cX9_take 1 = .ok (.invokestatic 167, 3) := by decide +kernel
theorem dX9_take_4 : decode cX9_take 4 = .ok (.ifCond .eq 13, 3) := by decide +kernel
theorem dX9_take_7 : decode cX9_take 7 = .ok (.iload_n 2, 1) := by decide +kernel
theorem dX9_take_8 : decode cX9_take 8 = .ok (.i2l, 1) := by decide +kernel
theorem dX9_take_9 : decode cX9_take 9 = .ok (.lconst 0, 1) := by decide +kernel
theorem dX9_take_10 : decode cX9_take 10 = .ok (.lconst 1, 1) := by decide +kernel
theorem dX9_take_11 : decode cX9_take 11 = .ok (.invokestatic 71, 3) := by decide +kernel
theorem dX9_take_14 : decode cX9_take 14 = .ok (.ifCond .ne 6, 3) := by decide +kernel
theorem dX9_take_17 : decode cX9_take 17 = .ok (.bipush (-2), 2) := by decide +kernel
theorem dX9_take_19 : decode cX9_take 19 = .ok (.ireturn, 1) := by decide +kernel
theorem dX9_take_20 : decode cX9_take 20 = .ok (.aload_n 0, 1) := by decide +kernel
theorem dX9_take_21 : decode cX9_take 21 = .ok (.bipush 60, 2) := by decide +kernel
theorem dX9_take_23 : decode cX9_take 23 = .ok (.invokevirtual 170, 3) := by decide +kernel
theorem dX9_take_26 : decode cX9_take 26 = .ok (.istore_n 3, 1) := by decide +kernel
theorem dX9_take_27 : decode cX9_take 27 = .ok (.iload_n 3, 1) := by decide +kernel
theorem dX9_take_28 : decode cX9_take 28 = .ok (.bipush (-6), 2) := by decide +kernel
theorem dX9_take_30 : decode cX9_take 30 = .ok (.if_icmp .eq 5, 3) := by decide +kernel
theorem dX9_take_33 : decode cX9_take 33 = .ok (.iload_n 3, 1) := by decide +kernel
theorem dX9_take_34 : decode cX9_take 34 = .ok (.ireturn, 1) := by decide +kernel
theorem dX9_take_35 : decode cX9_take 35 = .ok (.bipush (-6), 2) := by decide +kernel
theorem dX9_take_37 : decode cX9_take 37 = .ok (.istore 4, 2) := by decide +kernel
theorem dX9_take_39 : decode cX9_take 39 = .ok (.ldc 173, 2) := by decide +kernel
theorem dX9_take_41 : decode cX9_take 41 = .ok (.istore 5, 2) := by decide +kernel
theorem dX9_take_43 : decode cX9_take 43 = .ok (.iconst 0, 1) := by decide +kernel
theorem dX9_take_44 : decode cX9_take 44 = .ok (.istore 6, 2) := by decide +kernel
theorem dX9_take_46 : decode cX9_take 46 = .ok (.iload 6, 2) := by decide +kernel
theorem dX9_take_48 : decode cX9_take 48 = .ok (.bipush 64, 2) := by decide +kernel
theorem dX9_take_50 : decode cX9_take 50 = .ok (.if_icmp .ge 76, 3) := by decide +kernel
theorem dX9_take_53 : decode cX9_take 53 = .ok (.iload 6, 2) := by decide +kernel
theorem dX9_take_55 : decode cX9_take 55 = .ok (.aload_n 0, 1) := by decide +kernel
theorem dX9_take_56 : decode cX9_take 56 = .ok (.invokevirtual 98, 3) := by decide +kernel
theorem dX9_take_59 : decode cX9_take 59 = .ok (.iconst (-1), 1) := by decide +kernel
theorem dX9_take_60 : decode cX9_take 60 = .ok (.ixor, 1) := by decide +kernel
theorem dX9_take_61 : decode cX9_take 61 = .ok (.iand, 1) := by decide +kernel
theorem dX9_take_62 : decode cX9_take 62 = .ok (.ifCond .ne 58, 3) := by decide +kernel
theorem dX9_take_65 : decode cX9_take 65 = .ok (.aload_n 0, 1) := by decide +kernel
theorem dX9_take_66 : decode cX9_take 66 = .ok (.aload_n 0, 1) := by decide +kernel
theorem dX9_take_67 : decode cX9_take 67 = .ok (.getfield 54, 3) := by decide +kernel
theorem dX9_take_70 : decode cX9_take 70 = .ok (.iload 6, 2) := by decide +kernel
theorem dX9_take_72 : decode cX9_take 72 = .ok (.invokevirtual 114, 3) := by decide +kernel
theorem dX9_take_75 : decode cX9_take 75 = .ok (.aload_n 0, 1) := by decide +kernel
theorem dX9_take_76 : decode cX9_take 76 = .ok (.invokevirtual 190, 3) := by decide +kernel
theorem dX9_take_79 : decode cX9_take 79 = .ok (.aload_n 0, 1) := by decide +kernel
theorem dX9_take_80 : decode cX9_take 80 = .ok (.iload_n 1, 1) := by decide +kernel
theorem dX9_take_81 : decode cX9_take 81 = .ok (.invokevirtual 184, 3) := by decide +kernel
theorem dX9_take_84 : decode cX9_take 84 = .ok (.iload 5, 2) := by decide +kernel
theorem dX9_take_86 : decode cX9_take 86 = .ok (.if_icmp .ge 8, 3) := by decide +kernel
theorem dX9_take_89 : decode cX9_take 89 = .ok (.iload 6, 2) := by decide +kernel
theorem dX9_take_91 : decode cX9_take 91 = .ok (.goto 5, 3) := by decide +kernel
theorem dX9_take_94 : decode cX9_take 94 = .ok (.iload 4, 2) := by decide +kernel
theorem dX9_take_96 : decode cX9_take 96 = .ok (.istore 4, 2) := by decide +kernel
theorem dX9_take_98 : decode cX9_take 98 = .ok (.aload_n 0, 1) := by decide +kernel
theorem dX9_take_99 : decode cX9_take 99 = .ok (.iload_n 1, 1) := by decide +kernel
theorem dX9_take_100 : decode cX9_take 100 = .ok (.invokevirtual 184, 3) := by decide +kernel
theorem dX9_take_103 : decode cX9_take 103 = .ok (.iload 5, 2) := by decide +kernel
theorem dX9_take_105 : decode cX9_take 105 = .ok (.if_icmp .ge 11, 3) := by decide +kernel
theorem dX9_take_108 : decode cX9_take 108 = .ok (.aload_n 0, 1) := by decide +kernel
theorem dX9_take_109 : decode cX9_take 109 = .ok (.iload_n 1, 1) := by decide +kernel
theorem dX9_take_110 : decode cX9_take 110 = .ok (.invokevirtual 184, 3) := by decide +kernel
theorem dX9_take_113 : decode cX9_take 113 = .ok (.goto 5, 3) := by decide +kernel
theorem dX9_take_116 : decode cX9_take 116 = .ok (.iload 5, 2) := by decide +kernel
theorem dX9_take_118 : decode cX9_take 118 = .ok (.istore 5, 2) := by decide +kernel
theorem dX9_take_120 : decode cX9_take 120 = .ok (.iinc 6 1, 3) := by decide +kernel
theorem dX9_take_123 : decode cX9_take 123 = .ok (.goto (-77), 3) := by decide +kernel
theorem dX9_take_126 : decode cX9_take 126 = .ok (.iload_n 2, 1) := by decide +kernel
theorem dX9_take_127 : decode cX9_take 127 = .ok (.ifCond .ne 8, 3) := by decide +kernel
theorem dX9_take_130 : decode cX9_take 130 = .ok (.iload 4, 2) := by decide +kernel
theorem dX9_take_132 : decode cX9_take 132 = .ok (.goto 5, 3) := by decide +kernel
theorem dX9_take_135 : decode cX9_take 135 = .ok (.iload 5, 2) := by decide +kernel
theorem dX9_take_137 : decode cX9_take 137 = .ok (.ireturn, 1) := by decide +kernel
theorem dX9_stay_0 : decode cX9_stay 0 = .ok (.iload_n 1, 1) := by decide +kernel
theorem dX9_stay_1 : decode cX9_stay 1 = .ok (.invokestatic 167, 3) := by decide +kernel
theorem dX9_stay_4 : decode cX9_stay 4 = .ok (.ifCond .eq 13, 3) := by decide +kernel
theorem dX9_stay_7 : decode cX9_stay 7 = .ok (.iload_n 2, 1) := by decide +kernel
theorem dX9_stay_8 : decode cX9_stay 8 = .ok (.i2l, 1) := by decide +kernel
theorem dX9_stay_9 : decode cX9_stay 9 = .ok (.lconst 0, 1) := by decide +kernel
theorem dX9_stay_10 : decode cX9_stay 10 = .ok (.lconst 1, 1) := by decide +kernel
theorem dX9_stay_11 : decode cX9_stay 11 = .ok (.invokestatic 71, 3) := by decide +kernel
theorem dX9_stay_14 : decode cX9_stay 14 = .ok (.ifCond .ne 6, 3) := by decide +kernel
theorem dX9_stay_17 : decode cX9_stay 17 = .ok (.bipush (-2), 2) := by decide +kernel
theorem dX9_stay_19 : decode cX9_stay 19 = .ok (.ireturn, 1) := by decide +kernel
theorem dX9_stay_20 : decode cX9_stay 20 = .ok (.aload_n 0, 1) := by decide +kernel
theorem dX9_stay_21 : decode cX9_stay 21 = .ok (.bipush 60, 2) := by decide +kernel
theorem dX9_stay_23 : decode cX9_stay 23 = .ok (.invokevirtual 170, 3) := by decide +kernel
theorem dX9_stay_26 : decode cX9_stay 26 = .ok (.istore_n 3, 1) := by decide +kernel
theorem dX9_stay_27 : decode cX9_stay 27 = .ok (.iload_n 3, 1) := by decide +kernel
theorem dX9_stay_28 : decode cX9_stay 28 = .ok (.bipush (-6), 2) := by decide +kernel
theorem dX9_stay_30 : decode cX9_stay 30 = .ok (.if_icmp .eq 5, 3) := by decide +kernel
theorem dX9_stay_33 : decode cX9_stay 33 = .ok (.iload_n 3, 1) := by decide +kernel
theorem dX9_stay_34 : decode cX9_stay 34 = .ok (.ireturn, 1) := by decide +kernel
theorem dX9_stay_35 : decode cX9_stay 35 = .ok (.bipush (-6), 2) := by decide +kernel
theorem dX9_stay_37 : decode cX9_stay 37 = .ok (.istore 4, 2) := by decide +kernel
theorem dX9_stay_39 : decode cX9_stay 39 = .ok (.ldc 173, 2) := by decide +kernel
theorem dX9_stay_41 : decode cX9_stay 41 = .ok (.istore 5, 2) := by decide +kernel
theorem dX9_stay_43 : decode cX9_stay 43 = .ok (.iconst 0, 1) := by decide +kernel
theorem dX9_stay_44 : decode cX9_stay 44 = .ok (.istore 6, 2) := by decide +kernel
theorem dX9_stay_46 : decode cX9_stay 46 = .ok (.iload 6, 2) := by decide +kernel
theorem dX9_stay_48 : decode cX9_stay 48 = .ok (.bipush 20, 2) := by decide +kernel
theorem dX9_stay_50 : decode cX9_stay 50 = .ok (.if_icmp .gt 64, 3) := by decide +kernel
theorem dX9_stay_53 : decode cX9_stay 53 = .ok (.aload_n 0, 1) := by decide +kernel
theorem dX9_stay_54 : decode cX9_stay 54 = .ok (.invokevirtual 138, 3) := by decide +kernel
theorem dX9_stay_57 : decode cX9_stay 57 = .ok (.aload_n 0, 1) := by decide +kernel
theorem dX9_stay_58 : decode cX9_stay 58 = .ok (.iload 6, 2) := by decide +kernel
theorem dX9_stay_60 : decode cX9_stay 60 = .ok (.putfield 105, 3) := by decide +kernel
theorem dX9_stay_63 : decode cX9_stay 63 = .ok (.aload_n 0, 1) := by decide +kernel
theorem dX9_stay_64 : decode cX9_stay 64 = .ok (.invokevirtual 190, 3) := by decide +kernel
theorem dX9_stay_67 : decode cX9_stay 67 = .ok (.aload_n 0, 1) := by decide +kernel
theorem dX9_stay_68 : decode cX9_stay 68 = .ok (.iload_n 1, 1) := by decide +kernel
theorem dX9_stay_69 : decode cX9_stay 69 = .ok (.invokevirtual 184, 3) := by decide +kernel
theorem dX9_stay_72 : decode cX9_stay 72 = .ok (.iload 5, 2) := by decide +kernel
theorem dX9_stay_74 : decode cX9_stay 74 = .ok (.if_icmp .ge 8, 3) := by decide +kernel
theorem dX9_stay_77 : decode cX9_stay 77 = .ok (.iload 6, 2) := by decide +kernel
theorem dX9_stay_79 : decode cX9_stay 79 = .ok (.goto 5, 3) := by decide +kernel
theorem dX9_stay_82 : decode cX9_stay 82 = .ok (.iload 4, 2) := by decide +kernel
theorem dX9_stay_84 : decode cX9_stay 84 = .ok (.istore 4, 2) := by decide +kernel
theorem dX9_stay_86 : decode cX9_stay 86 = .ok (.aload_n 0, 1) := by decide +kernel
theorem dX9_stay_87 : decode cX9_stay 87 = .ok (.iload_n 1, 1) := by decide +kernel
theorem dX9_stay_88 : decode cX9_stay 88 = .ok (.invokevirtual 184, 3) := by decide +kernel
theorem dX9_stay_91 : decode cX9_stay 91 = .ok (.iload 5, 2) := by decide +kernel
theorem dX9_stay_93 : decode cX9_stay 93 = .ok (.if_icmp .ge 11, 3) := by decide +kernel
theorem dX9_stay_96 : decode cX9_stay 96 = .ok (.aload_n 0, 1) := by decide +kernel
theorem dX9_stay_97 : decode cX9_stay 97 = .ok (.iload_n 1, 1) := by decide +kernel
theorem dX9_stay_98 : decode cX9_stay 98 = .ok (.invokevirtual 184, 3) := by decide +kernel
theorem dX9_stay_101 : decode cX9_stay 101 = .ok (.goto 5, 3) := by decide +kernel
theorem dX9_stay_104 : decode cX9_stay 104 = .ok (.iload 5, 2) := by decide +kernel
theorem dX9_stay_106 : decode cX9_stay 106 = .ok (.istore 5, 2) := by decide +kernel
theorem dX9_stay_108 : decode cX9_stay 108 = .ok (.iinc 6 1, 3) := by decide +kernel
theorem dX9_stay_111 : decode cX9_stay 111 = .ok (.goto (-65), 3) := by decide +kernel
theorem dX9_stay_114 : decode cX9_stay 114 = .ok (.iload_n 2, 1) := by decide +kernel
theorem dX9_stay_115 : decode cX9_stay 115 = .ok (.ifCond .ne 8, 3) := by decide +kernel
theorem dX9_stay_118 : decode cX9_stay 118 = .ok (.iload 4, 2) := by decide +kernel
theorem dX9_stay_120 : decode cX9_stay 120 = .ok (.goto 5, 3) := by decide +kernel
theorem dX9_stay_123 : decode cX9_stay 123 = .ok (.iload 5, 2) := by decide +kernel
theorem dX9_stay_125 : decode cX9_stay 125 = .ok (.ireturn, 1) := by decide +kernel
theorem dX9_goChance_0 : decode cX9_goChance 0 = .ok (.aload_n 0, 1) := by decide +kernel
theorem dX9_goChance_1 : decode cX9_goChance 1 = .ok (.invokevirtual 138, 3) := by decide +kernel
theorem dX9_goChance_4 : decode cX9_goChance 4 = .ok (.lconst 1, 1) := by decide +kernel
theorem dX9_goChance_5 : decode cX9_goChance 5 = .ok (.lstore_n 3, 1) := by decide +kernel
theorem dX9_goChance_6 : decode cX9_goChance 6 = .ok (.iconst 0, 1) := by decide +kernel
theorem dX9_goChance_7 : decode cX9_goChance 7 = .ok (.istore 5, 2) := by decide +kernel
theorem dX9_goChance_9 : decode cX9_goChance 9 = .ok (.iconst 0, 1) := by decide +kernel
theorem dX9_goChance_10 : decode cX9_goChance 10 = .ok (.istore 6, 2) := by decide +kernel
theorem dX9_goChance_12 : decode cX9_goChance 12 = .ok (.iload 6, 2) := by decide +kernel
theorem dX9_goChance_14 : decode cX9_goChance 14 = .ok (.aload_n 0, 1) := by decide +kernel
theorem dX9_goChance_15 : decode cX9_goChance 15 = .ok (.getfield 95, 3) := by decide +kernel
theorem dX9_goChance_18 : decode cX9_goChance 18 = .ok (.if_icmp .ge 84, 3) := by decide +kernel
theorem dX9_goChance_21 : decode cX9_goChance 21 = .ok (.aload_n 0, 1) := by decide +kernel
theorem dX9_goChance_22 : decode cX9_goChance 22 = .ok (.getfield 25, 3) := by decide +kernel
theorem dX9_goChance_25 : decode cX9_goChance 25 = .ok (.iload 6, 2) := by decide +kernel
theorem dX9_goChance_27 : decode cX9_goChance 27 = .ok (.iaload, 1) := by decide +kernel
theorem dX9_goChance_28 : decode cX9_goChance 28 = .ok (.bipush 46, 2) := by decide +kernel
theorem dX9_goChance_30 : decode cX9_goChance 30 = .ok (.if_icmp .ne 10, 3) := by decide +kernel
theorem dX9_goChance_33 : decode cX9_goChance 33 = .ok (.aload_n 0, 1) := by decide +kernel
theorem dX9_goChance_34 : decode cX9_goChance 34 = .ok (.invokevirtual 121, 3) := by decide +kernel
theorem dX9_goChance_37 : decode cX9_goChance 37 = .ok (.goto 59, 3) := by decide +kernel
theorem dX9_goChance_40 : decode cX9_goChance 40 = .ok (.iload_n 1, 1) := by decide +kernel
theorem dX9_goChance_41 : decode cX9_goChance 41 = .ok (.iload 5, 2) := by decide +kernel
theorem dX9_goChance_43 : decode cX9_goChance 43 = .ok (.ishr, 1) := by decide +kernel
theorem dX9_goChance_44 : decode cX9_goChance 44 = .ok (.iconst 1, 1) := by decide +kernel
theorem dX9_goChance_45 : decode cX9_goChance 45 = .ok (.iand, 1) := by decide +kernel
theorem dX9_goChance_46 : decode cX9_goChance 46 = .ok (.iconst 1, 1) := by decide +kernel
theorem dX9_goChance_47 : decode cX9_goChance 47 = .ok (.if_icmp .ne 7, 3) := by decide +kernel
theorem dX9_goChance_50 : decode cX9_goChance 50 = .ok (.iconst 1, 1) := by decide +kernel
theorem dX9_goChance_51 : decode cX9_goChance 51 = .ok (.goto 4, 3) := by decide +kernel
theorem dX9_goChance_54 : decode cX9_goChance 54 = .ok (.iconst 0, 1) := by decide +kernel
theorem dX9_goChance_55 : decode cX9_goChance 55 = .ok (.istore 7, 2) := by decide +kernel
theorem dX9_goChance_57 : decode cX9_goChance 57 = .ok (.aload_n 0, 1) := by decide +kernel
theorem dX9_goChance_58 : decode cX9_goChance 58 = .ok (.iload 7, 2) := by decide +kernel
theorem dX9_goChance_60 : decode cX9_goChance 60 = .ok (.ifCond .eq 10, 3) := by decide +kernel
theorem dX9_goChance_63 : decode cX9_goChance 63 = .ok (.aload_n 0, 1) := by decide +kernel
theorem dX9_goChance_64 : decode cX9_goChance 64 = .ok (.invokevirtual 193, 3) := by decide +kernel
theorem dX9_goChance_67 : decode cX9_goChance 67 = .ok (.goto 5, 3) := by decide +kernel
theorem dX9_goChance_70 : decode cX9_goChance 70 = .ok (.bipush (-6), 2) := by decide +kernel
theorem dX9_goChance_72 : decode cX9_goChance 72 = .ok (.invokevirtual 124, 3) := by decide +kernel
theorem dX9_goChance_75 : decode cX9_goChance 75 = .ok (.lload_n 3, 1) := by decide +kernel
theorem dX9_goChance_76 : decode cX9_goChance 76 = .ok (.iload 7, 2) := by decide +kernel
theorem dX9_goChance_78 : decode cX9_goChance 78 = .ok (.ifCond .eq 8, 3) := by decide +kernel
theorem dX9_goChance_81 : decode cX9_goChance 81 = .ok (.iload_n 2, 1) := by decide +kernel
theorem dX9_goChance_82 : decode cX9_goChance 82 = .ok (.i2l, 1) := by decide +kernel
theorem dX9_goChance_83 : decode cX9_goChance 83 = .ok (.goto 8, 3) := by decide +kernel
theorem dX9_goChance_86 : decode cX9_goChance 86 = .ok (.bipush 10, 2) := by decide +kernel
theorem dX9_goChance_88 : decode cX9_goChance 88 = .ok (.iload_n 2, 1) := by decide +kernel
theorem dX9_goChance_89 : decode cX9_goChance 89 = .ok (.isub, 1) := by decide +kernel
theorem dX9_goChance_90 : decode cX9_goChance 90 = .ok (.i2l, 1) := by decide +kernel
theorem dX9_goChance_91 : decode cX9_goChance 91 = .ok (.lmul, 1) := by decide +kernel
theorem dX9_goChance_92 : decode cX9_goChance 92 = .ok (.lstore_n 3, 1) := by decide +kernel
theorem dX9_goChance_93 : decode cX9_goChance 93 = .ok (.iinc 5 1, 3) := by decide +kernel
theorem dX9_goChance_96 : decode cX9_goChance 96 = .ok (.iinc 6 1, 3) := by decide +kernel
theorem dX9_goChance_99 : decode cX9_goChance 99 = .ok (.goto (-87), 3) := by decide +kernel
theorem dX9_goChance_102 : decode cX9_goChance 102 = .ok (.lload_n 3, 1) := by decide +kernel
theorem dX9_goChance_103 : decode cX9_goChance 103 = .ok (.lreturn, 1) := by decide +kernel
theorem dX9_allWays_0 : decode cX9_allWays 0 = .ok (.lconst 1, 1) := by decide +kernel
theorem dX9_allWays_1 : decode cX9_allWays 1 = .ok (.lstore_n 1, 1) := by decide +kernel
theorem dX9_allWays_2 : decode cX9_allWays 2 = .ok (.aload_n 0, 1) := by decide +kernel
theorem dX9_allWays_3 : decode cX9_allWays 3 = .ok (.bipush 33, 2) := by decide +kernel
theorem dX9_allWays_5 : decode cX9_allWays 5 = .ok (.invokevirtual 133, 3) := by decide +kernel
theorem dX9_allWays_8 : decode cX9_allWays 8 = .ok (.istore_n 3, 1) := by decide +kernel
theorem dX9_allWays_9 : decode cX9_allWays 9 = .ok (.iload_n 3, 1) := by decide +kernel
theorem dX9_allWays_10 : decode cX9_allWays 10 = .ok (.ifCond .le 15, 3) := by decide +kernel
theorem dX9_allWays_13 : decode cX9_allWays 13 = .ok (.lload_n 1, 1) := by decide +kernel
theorem dX9_allWays_14 : decode cX9_allWays 14 = .ok (.ldc2_w 196, 3) := by decide +kernel
theorem dX9_allWays_17 : decode cX9_allWays 17 = .ok (.lmul, 1) := by decide +kernel
theorem dX9_allWays_18 : decode cX9_allWays 18 = .ok (.lstore_n 1, 1) := by decide +kernel
theorem dX9_allWays_19 : decode cX9_allWays 19 = .ok (.iinc 3 (-1), 3) := by decide +kernel
theorem dX9_allWays_22 : decode cX9_allWays 22 = .ok (.goto (-13), 3) := by decide +kernel
theorem dX9_allWays_25 : decode cX9_allWays 25 = .ok (.lload_n 1, 1) := by decide +kernel
theorem dX9_allWays_26 : decode cX9_allWays 26 = .ok (.lreturn, 1) := by decide +kernel
theorem dX9_lowest_0 : decode cX9_lowest 0 = .ok (.lload_n 2, 1) := by decide +kernel
theorem dX9_lowest_1 : decode cX9_lowest 1 = .ok (.lstore 5, 2) := by decide +kernel
theorem dX9_lowest_3 : decode cX9_lowest 3 = .ok (.lload_n 0, 1) := by decide +kernel
theorem dX9_lowest_4 : decode cX9_lowest 4 = .ok (.lstore 7, 2) := by decide +kernel
theorem dX9_lowest_6 : decode cX9_lowest 6 = .ok (.lload 7, 2) := by decide +kernel
theorem dX9_lowest_8 : decode cX9_lowest 8 = .ok (.lconst 0, 1) := by decide +kernel
theorem dX9_lowest_9 : decode cX9_lowest 9 = .ok (.lcmp, 1) := by decide +kernel
theorem dX9_lowest_10 : decode cX9_lowest 10 = .ok (.ifCond .eq 21, 3) := by decide +kernel
theorem dX9_lowest_13 : decode cX9_lowest 13 = .ok (.lload 5, 2) := by decide +kernel
theorem dX9_lowest_15 : decode cX9_lowest 15 = .ok (.lload 7, 2) := by decide +kernel
theorem dX9_lowest_17 : decode cX9_lowest 17 = .ok (.lrem, 1) := by decide +kernel
theorem dX9_lowest_18 : decode cX9_lowest 18 = .ok (.lstore 9, 2) := by decide +kernel
theorem dX9_lowest_20 : decode cX9_lowest 20 = .ok (.lload 7, 2) := by decide +kernel
theorem dX9_lowest_22 : decode cX9_lowest 22 = .ok (.lstore 5, 2) := by decide +kernel
theorem dX9_lowest_24 : decode cX9_lowest 24 = .ok (.lload 9, 2) := by decide +kernel
theorem dX9_lowest_26 : decode cX9_lowest 26 = .ok (.lstore 7, 2) := by decide +kernel
theorem dX9_lowest_28 : decode cX9_lowest 28 = .ok (.goto (-22), 3) := by decide +kernel
theorem dX9_lowest_31 : decode cX9_lowest 31 = .ok (.iload 4, 2) := by decide +kernel
theorem dX9_lowest_33 : decode cX9_lowest 33 = .ok (.ifCond .ne 10, 3) := by decide +kernel
theorem dX9_lowest_36 : decode cX9_lowest 36 = .ok (.lload_n 0, 1) := by decide +kernel
theorem dX9_lowest_37 : decode cX9_lowest 37 = .ok (.lload 5, 2) := by decide +kernel
theorem dX9_lowest_39 : decode cX9_lowest 39 = .ok (.ldiv, 1) := by decide +kernel
theorem dX9_lowest_40 : decode cX9_lowest 40 = .ok (.goto 7, 3) := by decide +kernel
theorem dX9_lowest_43 : decode cX9_lowest 43 = .ok (.lload_n 2, 1) := by decide +kernel
theorem dX9_lowest_44 : decode cX9_lowest 44 = .ok (.lload 5, 2) := by decide +kernel
theorem dX9_lowest_46 : decode cX9_lowest 46 = .ok (.ldiv, 1) := by decide +kernel
theorem dX9_lowest_47 : decode cX9_lowest 47 = .ok (.lreturn, 1) := by decide +kernel
theorem dX9_likely_0 : decode cX9_likely 0 = .ok (.iload_n 1, 1) := by decide +kernel
theorem dX9_likely_1 : decode cX9_likely 1 = .ok (.iload_n 2, 1) := by decide +kernel
theorem dX9_likely_2 : decode cX9_likely 2 = .ok (.invokestatic 187, 3) := by decide +kernel
theorem dX9_likely_5 : decode cX9_likely 5 = .ok (.ifCond .eq 26, 3) := by decide +kernel
theorem dX9_likely_8 : decode cX9_likely 8 = .ok (.iload_n 3, 1) := by decide +kernel
theorem dX9_likely_9 : decode cX9_likely 9 = .ok (.i2l, 1) := by decide +kernel
theorem dX9_likely_10 : decode cX9_likely 10 = .ok (.lconst 0, 1) := by decide +kernel
theorem dX9_likely_11 : decode cX9_likely 11 = .ok (.ldc2_w 196, 3) := by decide +kernel
theorem dX9_likely_14 : decode cX9_likely 14 = .ok (.invokestatic 71, 3) := by decide +kernel
theorem dX9_likely_17 : decode cX9_likely 17 = .ok (.ifCond .eq 14, 3) := by decide +kernel
theorem dX9_likely_20 : decode cX9_likely 20 = .ok (.iload 4, 2) := by decide +kernel
theorem dX9_likely_22 : decode cX9_likely 22 = .ok (.i2l, 1) := by decide +kernel
theorem dX9_likely_23 : decode cX9_likely 23 = .ok (.lconst 0, 1) := by decide +kernel
theorem dX9_likely_24 : decode cX9_likely 24 = .ok (.lconst 1, 1) := by decide +kernel
theorem dX9_likely_25 : decode cX9_likely 25 = .ok (.invokestatic 71, 3) := by decide +kernel
theorem dX9_likely_28 : decode cX9_likely 28 = .ok (.ifCond .ne 7, 3) := by decide +kernel
theorem dX9_likely_31 : decode cX9_likely 31 = .ok (.ldc2_w 198, 3) := by decide +kernel
theorem dX9_likely_34 : decode cX9_likely 34 = .ok (.lreturn, 1) := by decide +kernel
theorem dX9_likely_35 : decode cX9_likely 35 = .ok (.aload_n 0, 1) := by decide +kernel
theorem dX9_likely_36 : decode cX9_likely 36 = .ok (.bipush 60, 2) := by decide +kernel
theorem dX9_likely_38 : decode cX9_likely 38 = .ok (.invokevirtual 170, 3) := by decide +kernel
theorem dX9_likely_41 : decode cX9_likely 41 = .ok (.istore 5, 2) := by decide +kernel
theorem dX9_likely_43 : decode cX9_likely 43 = .ok (.iload 5, 2) := by decide +kernel
theorem dX9_likely_45 : decode cX9_likely 45 = .ok (.bipush (-6), 2) := by decide +kernel
theorem dX9_likely_47 : decode cX9_likely 47 = .ok (.if_icmp .eq 11, 3) := by decide +kernel
theorem dX9_likely_50 : decode cX9_likely 50 = .ok (.ldc2_w 200, 3) := by decide +kernel
theorem dX9_likely_53 : decode cX9_likely 53 = .ok (.iload 5, 2) := by decide +kernel
theorem dX9_likely_55 : decode cX9_likely 55 = .ok (.i2l, 1) := by decide +kernel
theorem dX9_likely_56 : decode cX9_likely 56 = .ok (.ladd, 1) := by decide +kernel
theorem dX9_likely_57 : decode cX9_likely 57 = .ok (.lreturn, 1) := by decide +kernel
theorem dX9_likely_58 : decode cX9_likely 58 = .ok (.lconst 0, 1) := by decide +kernel
theorem dX9_likely_59 : decode cX9_likely 59 = .ok (.lstore 6, 2) := by decide +kernel
theorem dX9_likely_61 : decode cX9_likely 61 = .ok (.iconst 0, 1) := by decide +kernel
theorem dX9_likely_62 : decode cX9_likely 62 = .ok (.istore 8, 2) := by decide +kernel
theorem dX9_likely_64 : decode cX9_likely 64 = .ok (.iload 8, 2) := by decide +kernel
theorem dX9_likely_66 : decode cX9_likely 66 = .ok (.iconst 1, 1) := by decide +kernel
theorem dX9_likely_67 : decode cX9_likely 67 = .ok (.aload_n 0, 1) := by decide +kernel
theorem dX9_likely_68 : decode cX9_likely 68 = .ok (.bipush 33, 2) := by decide +kernel
theorem dX9_likely_70 : decode cX9_likely 70 = .ok (.invokevirtual 133, 3) := by decide +kernel
theorem dX9_likely_73 : decode cX9_likely 73 = .ok (.ishl, 1) := by decide +kernel
theorem dX9_likely_74 : decode cX9_likely 74 = .ok (.if_icmp .ge 44, 3) := by decide +kernel
theorem dX9_likely_77 : decode cX9_likely 77 = .ok (.aload_n 0, 1) := by decide +kernel
theorem dX9_likely_78 : decode cX9_likely 78 = .ok (.iload 8, 2) := by decide +kernel
theorem dX9_likely_80 : decode cX9_likely 80 = .ok (.iload_n 3, 1) := by decide +kernel
theorem dX9_likely_81 : decode cX9_likely 81 = .ok (.invokevirtual 202, 3) := by decide +kernel
theorem dX9_likely_84 : decode cX9_likely 84 = .ok (.lstore 9, 2) := by decide +kernel
theorem dX9_likely_86 : decode cX9_likely 86 = .ok (.lload 6, 2) := by decide +kernel
theorem dX9_likely_88 : decode cX9_likely 88 = .ok (.aload_n 0, 1) := by decide +kernel
theorem dX9_likely_89 : decode cX9_likely 89 = .ok (.getfield 102, 3) := by decide +kernel
theorem dX9_likely_92 : decode cX9_likely 92 = .ok (.i2l, 1) := by decide +kernel
theorem dX9_likely_93 : decode cX9_likely 93 = .ok (.iload_n 1, 1) := by decide +kernel
theorem dX9_likely_94 : decode cX9_likely 94 = .ok (.i2l, 1) := by decide +kernel
theorem dX9_likely_95 : decode cX9_likely 95 = .ok (.iload_n 2, 1) := by decide +kernel
theorem dX9_likely_96 : decode cX9_likely 96 = .ok (.i2l, 1) := by decide +kernel
theorem dX9_likely_97 : decode cX9_likely 97 = .ok (.invokestatic 71, 3) := by decide +kernel
theorem dX9_likely_100 : decode cX9_likely 100 = .ok (.ifCond .eq 8, 3) := by decide +kernel
theorem dX9_likely_103 : decode cX9_likely 103 = .ok (.lload 9, 2) := by decide +kernel
theorem dX9_likely_105 : decode cX9_likely 105 = .ok (.goto 4, 3) := by decide +kernel
theorem dX9_likely_108 : decode cX9_likely 108 = .ok (.lconst 0, 1) := by decide +kernel
theorem dX9_likely_109 : decode cX9_likely 109 = .ok (.ladd, 1) := by decide +kernel
theorem dX9_likely_110 : decode cX9_likely 110 = .ok (.lstore 6, 2) := by decide +kernel
theorem dX9_likely_112 : decode cX9_likely 112 = .ok (.iinc 8 1, 3) := by decide +kernel
theorem dX9_likely_115 : decode cX9_likely 115 = .ok (.goto (-51), 3) := by decide +kernel
theorem dX9_likely_118 : decode cX9_likely 118 = .ok (.lload 6, 2) := by decide +kernel
theorem dX9_likely_120 : decode cX9_likely 120 = .ok (.aload_n 0, 1) := by decide +kernel
theorem dX9_likely_121 : decode cX9_likely 121 = .ok (.invokevirtual 206, 3) := by decide +kernel
theorem dX9_likely_124 : decode cX9_likely 124 = .ok (.iload 4, 2) := by decide +kernel
theorem dX9_likely_126 : decode cX9_likely 126 = .ok (.invokestatic 210, 3) := by decide +kernel
theorem dX9_likely_129 : decode cX9_likely 129 = .ok (.lreturn, 1) := by decide +kernel
theorem dX9_mean_0 : decode cX9_mean 0 = .ok (.iload_n 1, 1) := by decide +kernel
theorem dX9_mean_1 : decode cX9_mean 1 = .ok (.i2l, 1) := by decide +kernel
theorem dX9_mean_2 : decode cX9_mean 2 = .ok (.lconst 0, 1) := by decide +kernel
theorem dX9_mean_3 : decode cX9_mean 3 = .ok (.ldc2_w 196, 3) := by decide +kernel
theorem dX9_mean_6 : decode cX9_mean 6 = .ok (.invokestatic 71, 3) := by decide +kernel
theorem dX9_mean_9 : decode cX9_mean 9 = .ok (.ifCond .eq 13, 3) := by decide +kernel
theorem dX9_mean_12 : decode cX9_mean 12 = .ok (.iload_n 2, 1) := by decide +kernel
theorem dX9_mean_13 : decode cX9_mean 13 = .ok (.i2l, 1) := by decide +kernel
theorem dX9_mean_14 : decode cX9_mean 14 = .ok (.lconst 0, 1) := by decide +kernel
theorem dX9_mean_15 : decode cX9_mean 15 = .ok (.lconst 1, 1) := by decide +kernel
theorem dX9_mean_16 : decode cX9_mean 16 = .ok (.invokestatic 71, 3) := by decide +kernel
theorem dX9_mean_19 : decode cX9_mean 19 = .ok (.ifCond .ne 7, 3) := by decide +kernel
theorem dX9_mean_22 : decode cX9_mean 22 = .ok (.ldc2_w 198, 3) := by decide +kernel
theorem dX9_mean_25 : decode cX9_mean 25 = .ok (.lreturn, 1) := by decide +kernel
theorem dX9_mean_26 : decode cX9_mean 26 = .ok (.aload_n 0, 1) := by decide +kernel
theorem dX9_mean_27 : decode cX9_mean 27 = .ok (.bipush 60, 2) := by decide +kernel
theorem dX9_mean_29 : decode cX9_mean 29 = .ok (.invokevirtual 170, 3) := by decide +kernel
theorem dX9_mean_32 : decode cX9_mean 32 = .ok (.istore_n 3, 1) := by decide +kernel
theorem dX9_mean_33 : decode cX9_mean 33 = .ok (.iload_n 3, 1) := by decide +kernel
theorem dX9_mean_34 : decode cX9_mean 34 = .ok (.bipush (-6), 2) := by decide +kernel
theorem dX9_mean_36 : decode cX9_mean 36 = .ok (.if_icmp .eq 10, 3) := by decide +kernel
theorem dX9_mean_39 : decode cX9_mean 39 = .ok (.ldc2_w 200, 3) := by decide +kernel
theorem dX9_mean_42 : decode cX9_mean 42 = .ok (.iload_n 3, 1) := by decide +kernel
theorem dX9_mean_43 : decode cX9_mean 43 = .ok (.i2l, 1) := by decide +kernel
theorem dX9_mean_44 : decode cX9_mean 44 = .ok (.ladd, 1) := by decide +kernel
theorem dX9_mean_45 : decode cX9_mean 45 = .ok (.lreturn, 1) := by decide +kernel
theorem dX9_mean_46 : decode cX9_mean 46 = .ok (.lconst 0, 1) := by decide +kernel
theorem dX9_mean_47 : decode cX9_mean 47 = .ok (.lstore 4, 2) := by decide +kernel
theorem dX9_mean_49 : decode cX9_mean 49 = .ok (.iconst 0, 1) := by decide +kernel
theorem dX9_mean_50 : decode cX9_mean 50 = .ok (.istore 6, 2) := by decide +kernel
theorem dX9_mean_52 : decode cX9_mean 52 = .ok (.iload 6, 2) := by decide +kernel
theorem dX9_mean_54 : decode cX9_mean 54 = .ok (.iconst 1, 1) := by decide +kernel
theorem dX9_mean_55 : decode cX9_mean 55 = .ok (.aload_n 0, 1) := by decide +kernel
theorem dX9_mean_56 : decode cX9_mean 56 = .ok (.bipush 33, 2) := by decide +kernel
theorem dX9_mean_58 : decode cX9_mean 58 = .ok (.invokevirtual 133, 3) := by decide +kernel
theorem dX9_mean_61 : decode cX9_mean 61 = .ok (.ishl, 1) := by decide +kernel
theorem dX9_mean_62 : decode cX9_mean 62 = .ok (.if_icmp .ge 35, 3) := by decide +kernel
theorem dX9_mean_65 : decode cX9_mean 65 = .ok (.aload_n 0, 1) := by decide +kernel
theorem dX9_mean_66 : decode cX9_mean 66 = .ok (.iload 6, 2) := by decide +kernel
theorem dX9_mean_68 : decode cX9_mean 68 = .ok (.iload_n 1, 1) := by decide +kernel
theorem dX9_mean_69 : decode cX9_mean 69 = .ok (.invokevirtual 202, 3) := by decide +kernel
theorem dX9_mean_72 : decode cX9_mean 72 = .ok (.lstore 7, 2) := by decide +kernel
theorem dX9_mean_74 : decode cX9_mean 74 = .ok (.lload 4, 2) := by decide +kernel
theorem dX9_mean_76 : decode cX9_mean 76 = .ok (.lload 7, 2) := by decide +kernel
theorem dX9_mean_78 : decode cX9_mean 78 = .ok (.aload_n 0, 1) := by decide +kernel
theorem dX9_mean_79 : decode cX9_mean 79 = .ok (.getfield 102, 3) := by decide +kernel
theorem dX9_mean_82 : decode cX9_mean 82 = .ok (.sipush 1000, 3) := by decide +kernel
theorem dX9_mean_85 : decode cX9_mean 85 = .ok (.iadd, 1) := by decide +kernel
theorem dX9_mean_86 : decode cX9_mean 86 = .ok (.i2l, 1) := by decide +kernel
theorem dX9_mean_87 : decode cX9_mean 87 = .ok (.lmul, 1) := by decide +kernel
theorem dX9_mean_88 : decode cX9_mean 88 = .ok (.ladd, 1) := by decide +kernel
theorem dX9_mean_89 : decode cX9_mean 89 = .ok (.lstore 4, 2) := by decide +kernel
theorem dX9_mean_91 : decode cX9_mean 91 = .ok (.iinc 6 1, 3) := by decide +kernel
theorem dX9_mean_94 : decode cX9_mean 94 = .ok (.goto (-42), 3) := by decide +kernel
theorem dX9_mean_97 : decode cX9_mean 97 = .ok (.lload 4, 2) := by decide +kernel
theorem dX9_mean_99 : decode cX9_mean 99 = .ok (.aload_n 0, 1) := by decide +kernel
theorem dX9_mean_100 : decode cX9_mean 100 = .ok (.invokevirtual 206, 3) := by decide +kernel
theorem dX9_mean_103 : decode cX9_mean 103 = .ok (.iload_n 2, 1) := by decide +kernel
theorem dX9_mean_104 : decode cX9_mean 104 = .ok (.invokestatic 210, 3) := by decide +kernel
theorem dX9_mean_107 : decode cX9_mean 107 = .ok (.lreturn, 1) := by decide +kernel
theorem dX9_fell_0 : decode cX9_fell 0 = .ok (.iload_n 1, 1) := by decide +kernel
theorem dX9_fell_1 : decode cX9_fell 1 = .ok (.invokestatic 85, 3) := by decide +kernel
theorem dX9_fell_4 : decode cX9_fell 4 = .ok (.ifCond .ne 5, 3) := by decide +kernel
theorem dX9_fell_7 : decode cX9_fell 7 = .ok (.iconst (-1), 1) := by decide +kernel
theorem dX9_fell_8 : decode cX9_fell 8 = .ok (.ireturn, 1) := by decide +kernel
theorem dX9_fell_9 : decode cX9_fell 9 = .ok (.iload_n 2, 1) := by decide +kernel
theorem dX9_fell_10 : decode cX9_fell 10 = .ok (.invokestatic 167, 3) := by decide +kernel
theorem dX9_fell_13 : decode cX9_fell 13 = .ok (.ifCond .ne 6, 3) := by decide +kernel
theorem dX9_fell_16 : decode cX9_fell 16 = .ok (.bipush (-2), 2) := by decide +kernel
theorem dX9_fell_18 : decode cX9_fell 18 = .ok (.ireturn, 1) := by decide +kernel
theorem dX9_fell_19 : decode cX9_fell 19 = .ok (.aload_n 0, 1) := by decide +kernel
theorem dX9_fell_20 : decode cX9_fell 20 = .ok (.getfield 214, 3) := by decide +kernel
theorem dX9_fell_23 : decode cX9_fell 23 = .ok (.bipush 6, 2) := by decide +kernel
theorem dX9_fell_25 : decode cX9_fell 25 = .ok (.if_icmp .ne 6, 3) := by decide +kernel
theorem dX9_fell_28 : decode cX9_fell 28 = .ok (.bipush (-4), 2) := by decide +kernel
theorem dX9_fell_30 : decode cX9_fell 30 = .ok (.ireturn, 1) := by decide +kernel
theorem dX9_fell_31 : decode cX9_fell 31 = .ok (.aload_n 0, 1) := by decide +kernel
theorem dX9_fell_32 : decode cX9_fell 32 = .ok (.getfield 19, 3) := by decide +kernel
theorem dX9_fell_35 : decode cX9_fell 35 = .ok (.aload_n 0, 1) := by decide +kernel
theorem dX9_fell_36 : decode cX9_fell 36 = .ok (.getfield 214, 3) := by decide +kernel
theorem dX9_fell_39 : decode cX9_fell 39 = .ok (.iload_n 1, 1) := by decide +kernel
theorem dX9_fell_40 : decode cX9_fell 40 = .ok (.iastore, 1) := by decide +kernel
theorem dX9_fell_41 : decode cX9_fell 41 = .ok (.aload_n 0, 1) := by decide +kernel
theorem dX9_fell_42 : decode cX9_fell 42 = .ok (.getfield 22, 3) := by decide +kernel
theorem dX9_fell_45 : decode cX9_fell 45 = .ok (.aload_n 0, 1) := by decide +kernel
theorem dX9_fell_46 : decode cX9_fell 46 = .ok (.getfield 214, 3) := by decide +kernel
theorem dX9_fell_49 : decode cX9_fell 49 = .ok (.iload_n 2, 1) := by decide +kernel
theorem dX9_fell_50 : decode cX9_fell 50 = .ok (.iastore, 1) := by decide +kernel
theorem dX9_fell_51 : decode cX9_fell 51 = .ok (.aload_n 0, 1) := by decide +kernel
theorem dX9_fell_52 : decode cX9_fell 52 = .ok (.dup, 1) := by decide +kernel
theorem dX9_fell_53 : decode cX9_fell 53 = .ok (.getfield 214, 3) := by decide +kernel
theorem dX9_fell_56 : decode cX9_fell 56 = .ok (.iconst 1, 1) := by decide +kernel
theorem dX9_fell_57 : decode cX9_fell 57 = .ok (.iadd, 1) := by decide +kernel
theorem dX9_fell_58 : decode cX9_fell 58 = .ok (.putfield 214, 3) := by decide +kernel
theorem dX9_fell_61 : decode cX9_fell 61 = .ok (.aload_n 0, 1) := by decide +kernel
theorem dX9_fell_62 : decode cX9_fell 62 = .ok (.getfield 214, 3) := by decide +kernel
theorem dX9_fell_65 : decode cX9_fell 65 = .ok (.ireturn, 1) := by decide +kernel
theorem dX9_forget_0 : decode cX9_forget 0 = .ok (.aload_n 0, 1) := by decide +kernel
theorem dX9_forget_1 : decode cX9_forget 1 = .ok (.getfield 214, 3) := by decide +kernel
theorem dX9_forget_4 : decode cX9_forget 4 = .ok (.istore_n 1, 1) := by decide +kernel
theorem dX9_forget_5 : decode cX9_forget 5 = .ok (.aload_n 0, 1) := by decide +kernel
theorem dX9_forget_6 : decode cX9_forget 6 = .ok (.iconst 0, 1) := by decide +kernel
theorem dX9_forget_7 : decode cX9_forget 7 = .ok (.putfield 214, 3) := by decide +kernel
theorem dX9_forget_10 : decode cX9_forget 10 = .ok (.iload_n 1, 1) := by decide +kernel
theorem dX9_forget_11 : decode cX9_forget 11 = .ok (.ireturn, 1) := by decide +kernel
theorem dX9_holdsFrom_0 : decode cX9_holdsFrom 0 = .ok (.iconst 0, 1) := by decide +kernel
theorem dX9_holdsFrom_1 : decode cX9_holdsFrom 1 = .ok (.istore_n 2, 1) := by decide +kernel
theorem dX9_holdsFrom_2 : decode cX9_holdsFrom 2 = .ok (.iload_n 2, 1) := by decide +kernel
theorem dX9_holdsFrom_3 : decode cX9_holdsFrom 3 = .ok (.bipush 6, 2) := by decide +kernel
theorem dX9_holdsFrom_5 : decode cX9_holdsFrom 5 = .ok (.if_icmp .ge 17, 3) := by decide +kernel
theorem dX9_holdsFrom_8 : decode cX9_holdsFrom 8 = .ok (.aload_n 0, 1) := by decide +kernel
theorem dX9_holdsFrom_9 : decode cX9_holdsFrom 9 = .ok (.getfield 37, 3) := by decide +kernel
theorem dX9_holdsFrom_12 : decode cX9_holdsFrom 12 = .ok (.iload_n 2, 1) := by decide +kernel
theorem dX9_holdsFrom_13 : decode cX9_holdsFrom 13 = .ok (.ldc 173, 2) := by decide +kernel
theorem dX9_holdsFrom_15 : decode cX9_holdsFrom 15 = .ok (.iastore, 1) := by decide +kernel
theorem dX9_holdsFrom_16 : decode cX9_holdsFrom 16 = .ok (.iinc 2 1, 3) := by decide +kernel
theorem dX9_holdsFrom_19 : decode cX9_holdsFrom 19 = .ok (.goto (-17), 3) := by decide +kernel
theorem dX9_holdsFrom_22 : decode cX9_holdsFrom 22 = .ok (.aload_n 0, 1) := by decide +kernel
theorem dX9_holdsFrom_23 : decode cX9_holdsFrom 23 = .ok (.iload_n 1, 1) := by decide +kernel
theorem dX9_holdsFrom_24 : decode cX9_holdsFrom 24 = .ok (.aload_n 0, 1) := by decide +kernel
theorem dX9_holdsFrom_25 : decode cX9_holdsFrom 25 = .ok (.invokevirtual 98, 3) := by decide +kernel
theorem dX9_holdsFrom_28 : decode cX9_holdsFrom 28 = .ok (.invokevirtual 114, 3) := by decide +kernel
theorem dX9_holdsFrom_31 : decode cX9_holdsFrom 31 = .ok (.iconst 0, 1) := by decide +kernel
theorem dX9_holdsFrom_32 : decode cX9_holdsFrom 32 = .ok (.istore_n 2, 1) := by decide +kernel
theorem dX9_holdsFrom_33 : decode cX9_holdsFrom 33 = .ok (.iload_n 2, 1) := by decide +kernel
theorem dX9_holdsFrom_34 : decode cX9_holdsFrom 34 = .ok (.aload_n 0, 1) := by decide +kernel
theorem dX9_holdsFrom_35 : decode cX9_holdsFrom 35 = .ok (.getfield 95, 3) := by decide +kernel
theorem dX9_holdsFrom_38 : decode cX9_holdsFrom 38 = .ok (.if_icmp .ge 46, 3) := by decide +kernel
theorem dX9_holdsFrom_41 : decode cX9_holdsFrom 41 = .ok (.aload_n 0, 1) := by decide +kernel
theorem dX9_holdsFrom_42 : decode cX9_holdsFrom 42 = .ok (.getfield 25, 3) := by decide +kernel
theorem dX9_holdsFrom_45 : decode cX9_holdsFrom 45 = .ok (.iload_n 2, 1) := by decide +kernel
theorem dX9_holdsFrom_46 : decode cX9_holdsFrom 46 = .ok (.iaload, 1) := by decide +kernel
theorem dX9_holdsFrom_47 : decode cX9_holdsFrom 47 = .ok (.bipush 97, 2) := by decide +kernel
theorem dX9_holdsFrom_49 : decode cX9_holdsFrom 49 = .ok (.isub, 1) := by decide +kernel
theorem dX9_holdsFrom_50 : decode cX9_holdsFrom 50 = .ok (.istore_n 3, 1) := by decide +kernel
theorem dX9_holdsFrom_51 : decode cX9_holdsFrom 51 = .ok (.iload_n 3, 1) := by decide +kernel
theorem dX9_holdsFrom_52 : decode cX9_holdsFrom 52 = .ok (.invokestatic 85, 3) := by decide +kernel
theorem dX9_holdsFrom_55 : decode cX9_holdsFrom 55 = .ok (.ifCond .eq 13, 3) := by decide +kernel
theorem dX9_holdsFrom_58 : decode cX9_holdsFrom 58 = .ok (.aload_n 0, 1) := by decide +kernel
theorem dX9_holdsFrom_59 : decode cX9_holdsFrom 59 = .ok (.getfield 37, 3) := by decide +kernel
theorem dX9_holdsFrom_62 : decode cX9_holdsFrom 62 = .ok (.iload_n 3, 1) := by decide +kernel
theorem dX9_holdsFrom_63 : decode cX9_holdsFrom 63 = .ok (.aload_n 0, 1) := by decide +kernel
theorem dX9_holdsFrom_64 : decode cX9_holdsFrom 64 = .ok (.getfield 102, 3) := by decide +kernel
theorem dX9_holdsFrom_67 : decode cX9_holdsFrom 67 = .ok (.iastore, 1) := by decide +kernel
theorem dX9_holdsFrom_68 : decode cX9_holdsFrom 68 = .ok (.aload_n 0, 1) := by decide +kernel
theorem dX9_holdsFrom_69 : decode cX9_holdsFrom 69 = .ok (.aload_n 0, 1) := by decide +kernel
theorem dX9_holdsFrom_70 : decode cX9_holdsFrom 70 = .ok (.getfield 25, 3) := by decide +kernel
theorem dX9_holdsFrom_73 : decode cX9_holdsFrom 73 = .ok (.iload_n 2, 1) := by decide +kernel
theorem dX9_holdsFrom_74 : decode cX9_holdsFrom 74 = .ok (.iaload, 1) := by decide +kernel
theorem dX9_holdsFrom_75 : decode cX9_holdsFrom 75 = .ok (.invokevirtual 141, 3) := by decide +kernel
theorem dX9_holdsFrom_78 : decode cX9_holdsFrom 78 = .ok (.iinc 2 1, 3) := by decide +kernel
theorem dX9_holdsFrom_81 : decode cX9_holdsFrom 81 = .ok (.goto (-48), 3) := by decide +kernel
theorem dX9_holdsFrom_84 : decode cX9_holdsFrom 84 = .ok (.iconst 1, 1) := by decide +kernel
theorem dX9_holdsFrom_85 : decode cX9_holdsFrom 85 = .ok (.istore_n 2, 1) := by decide +kernel
theorem dX9_holdsFrom_86 : decode cX9_holdsFrom 86 = .ok (.iconst 0, 1) := by decide +kernel
theorem dX9_holdsFrom_87 : decode cX9_holdsFrom 87 = .ok (.istore_n 3, 1) := by decide +kernel
theorem dX9_holdsFrom_88 : decode cX9_holdsFrom 88 = .ok (.iload_n 3, 1) := by decide +kernel
theorem dX9_holdsFrom_89 : decode cX9_holdsFrom 89 = .ok (.aload_n 0, 1) := by decide +kernel
theorem dX9_holdsFrom_90 : decode cX9_holdsFrom 90 = .ok (.getfield 214, 3) := by decide +kernel
theorem dX9_holdsFrom_93 : decode cX9_holdsFrom 93 = .ok (.if_icmp .ge 39, 3) := by decide +kernel
theorem dX9_holdsFrom_96 : decode cX9_holdsFrom 96 = .ok (.iload_n 2, 1) := by decide +kernel
theorem dX9_holdsFrom_97 : decode cX9_holdsFrom 97 = .ok (.ifCond .eq 27, 3) := by decide +kernel
theorem dX9_holdsFrom_100 : decode cX9_holdsFrom 100 = .ok (.aload_n 0, 1) := by decide +kernel
theorem dX9_holdsFrom_101 : decode cX9_holdsFrom 101 = .ok (.getfield 37, 3) := by decide +kernel
theorem dX9_holdsFrom_104 : decode cX9_holdsFrom 104 = .ok (.aload_n 0, 1) := by decide +kernel
theorem dX9_holdsFrom_105 : decode cX9_holdsFrom 105 = .ok (.getfield 19, 3) := by decide +kernel
theorem dX9_holdsFrom_108 : decode cX9_holdsFrom 108 = .ok (.iload_n 3, 1) := by decide +kernel
theorem dX9_holdsFrom_109 : decode cX9_holdsFrom 109 = .ok (.iaload, 1) := by decide +kernel
theorem dX9_holdsFrom_110 : decode cX9_holdsFrom 110 = .ok (.iaload, 1) := by decide +kernel
theorem dX9_holdsFrom_111 : decode cX9_holdsFrom 111 = .ok (.aload_n 0, 1) := by decide +kernel
theorem dX9_holdsFrom_112 : decode cX9_holdsFrom 112 = .ok (.getfield 22, 3) := by decide +kernel
theorem dX9_holdsFrom_115 : decode cX9_holdsFrom 115 = .ok (.iload_n 3, 1) := by decide +kernel
theorem dX9_holdsFrom_116 : decode cX9_holdsFrom 116 = .ok (.iaload, 1) := by decide +kernel
theorem dX9_holdsFrom_117 : decode cX9_holdsFrom 117 = .ok (.if_icmp .ne 7, 3) := by decide +kernel
theorem dX9_holdsFrom_120 : decode cX9_holdsFrom 120 = .ok (.iconst 1, 1) := by decide +kernel
theorem dX9_holdsFrom_121 : decode cX9_holdsFrom 121 = .ok (.goto 4, 3) := by decide +kernel
theorem dX9_holdsFrom_124 : decode cX9_holdsFrom 124 = .ok (.iconst 0, 1) := by decide +kernel
theorem dX9_holdsFrom_125 : decode cX9_holdsFrom 125 = .ok (.istore_n 2, 1) := by decide +kernel
theorem dX9_holdsFrom_126 : decode cX9_holdsFrom 126 = .ok (.iinc 3 1, 3) := by decide +kernel
theorem dX9_holdsFrom_129 : decode cX9_holdsFrom 129 = .ok (.goto (-41), 3) := by decide +kernel
theorem dX9_holdsFrom_132 : decode cX9_holdsFrom 132 = .ok (.iload_n 2, 1) := by decide +kernel
theorem dX9_holdsFrom_133 : decode cX9_holdsFrom 133 = .ok (.ireturn, 1) := by decide +kernel
theorem dX9_starts_0 : decode cX9_starts 0 = .ok (.iload_n 1, 1) := by decide +kernel
theorem dX9_starts_1 : decode cX9_starts 1 = .ok (.i2l, 1) := by decide +kernel
theorem dX9_starts_2 : decode cX9_starts 2 = .ok (.lconst 0, 1) := by decide +kernel
theorem dX9_starts_3 : decode cX9_starts 3 = .ok (.ldc2_w 217, 3) := by decide +kernel
theorem dX9_starts_6 : decode cX9_starts 6 = .ok (.invokestatic 71, 3) := by decide +kernel
theorem dX9_starts_9 : decode cX9_starts 9 = .ok (.ifCond .ne 6, 3) := by decide +kernel
theorem dX9_starts_12 : decode cX9_starts 12 = .ok (.bipush (-2), 2) := by decide +kernel
theorem dX9_starts_14 : decode cX9_starts 14 = .ok (.ireturn, 1) := by decide +kernel
theorem dX9_starts_15 : decode cX9_starts 15 = .ok (.aload_n 0, 1) := by decide +kernel
theorem dX9_starts_16 : decode cX9_starts 16 = .ok (.invokevirtual 128, 3) := by decide +kernel
theorem dX9_starts_19 : decode cX9_starts 19 = .ok (.ifCond .lt 6, 3) := by decide +kernel
theorem dX9_starts_22 : decode cX9_starts 22 = .ok (.bipush (-5), 2) := by decide +kernel
theorem dX9_starts_24 : decode cX9_starts 24 = .ok (.ireturn, 1) := by decide +kernel
theorem dX9_starts_25 : decode cX9_starts 25 = .ok (.iconst 0, 1) := by decide +kernel
theorem dX9_starts_26 : decode cX9_starts 26 = .ok (.istore_n 2, 1) := by decide +kernel
theorem dX9_starts_27 : decode cX9_starts 27 = .ok (.bipush (-6), 2) := by decide +kernel
theorem dX9_starts_29 : decode cX9_starts 29 = .ok (.istore_n 3, 1) := by decide +kernel
theorem dX9_starts_30 : decode cX9_starts 30 = .ok (.bipush (-6), 2) := by decide +kernel
theorem dX9_starts_32 : decode cX9_starts 32 = .ok (.istore 4, 2) := by decide +kernel
theorem dX9_starts_34 : decode cX9_starts 34 = .ok (.iconst 0, 1) := by decide +kernel
theorem dX9_starts_35 : decode cX9_starts 35 = .ok (.istore 5, 2) := by decide +kernel
theorem dX9_starts_37 : decode cX9_starts 37 = .ok (.iload 5, 2) := by decide +kernel
theorem dX9_starts_39 : decode cX9_starts 39 = .ok (.bipush 100, 2) := by decide +kernel
theorem dX9_starts_41 : decode cX9_starts 41 = .ok (.if_icmp .ge 36, 3) := by decide +kernel
theorem dX9_starts_44 : decode cX9_starts 44 = .ok (.aload_n 0, 1) := by decide +kernel
theorem dX9_starts_45 : decode cX9_starts 45 = .ok (.iload 5, 2) := by decide +kernel
theorem dX9_starts_47 : decode cX9_starts 47 = .ok (.invokevirtual 219, 3) := by decide +kernel
theorem dX9_starts_50 : decode cX9_starts 50 = .ok (.ifCond .eq 21, 3) := by decide +kernel
theorem dX9_starts_53 : decode cX9_starts 53 = .ok (.iload_n 2, 1) := by decide +kernel
theorem dX9_starts_54 : decode cX9_starts 54 = .ok (.ifCond .ne 8, 3) := by decide +kernel
theorem dX9_starts_57 : decode cX9_starts 57 = .ok (.iload 5, 2) := by decide +kernel
theorem dX9_starts_59 : decode cX9_starts 59 = .ok (.goto 4, 3) := by decide +kernel
theorem dX9_starts_62 : decode cX9_starts 62 = .ok (.iload_n 3, 1) := by decide +kernel
theorem dX9_starts_63 : decode cX9_starts 63 = .ok (.istore_n 3, 1) := by decide +kernel
theorem dX9_starts_64 : decode cX9_starts 64 = .ok (.iload 5, 2) := by decide +kernel
theorem dX9_starts_66 : decode cX9_starts 66 = .ok (.istore 4, 2) := by decide +kernel
theorem dX9_starts_68 : decode cX9_starts 68 = .ok (.iinc 2 1, 3) := by decide +kernel
theorem dX9_starts_71 : decode cX9_starts 71 = .ok (.iinc 5 1, 3) := by decide +kernel
theorem dX9_starts_74 : decode cX9_starts 74 = .ok (.goto (-37), 3) := by decide +kernel
theorem dX9_starts_77 : decode cX9_starts 77 = .ok (.iload_n 1, 1) := by decide +kernel
theorem dX9_starts_78 : decode cX9_starts 78 = .ok (.ifCond .ne 7, 3) := by decide +kernel
theorem dX9_starts_81 : decode cX9_starts 81 = .ok (.iload_n 2, 1) := by decide +kernel
theorem dX9_starts_82 : decode cX9_starts 82 = .ok (.goto 14, 3) := by decide +kernel
theorem dX9_starts_85 : decode cX9_starts 85 = .ok (.iload_n 1, 1) := by decide +kernel
theorem dX9_starts_86 : decode cX9_starts 86 = .ok (.iconst 1, 1) := by decide +kernel
theorem dX9_starts_87 : decode cX9_starts 87 = .ok (.if_icmp .ne 7, 3) := by decide +kernel
theorem dX9_starts_90 : decode cX9_starts 90 = .ok (.iload_n 3, 1) := by decide +kernel
theorem dX9_starts_91 : decode cX9_starts 91 = .ok (.goto 5, 3) := by decide +kernel
theorem dX9_starts_94 : decode cX9_starts 94 = .ok (.iload 4, 2) := by decide +kernel
theorem dX9_starts_96 : decode cX9_starts 96 = .ok (.ireturn, 1) := by decide +kernel
theorem dX9_ahead_0 : decode cX9_ahead 0 = .ok (.iload_n 1, 1) := by decide +kernel
theorem dX9_ahead_1 : decode cX9_ahead 1 = .ok (.i2l, 1) := by decide +kernel
theorem dX9_ahead_2 : decode cX9_ahead 2 = .ok (.lconst 0, 1) := by decide +kernel
theorem dX9_ahead_3 : decode cX9_ahead 3 = .ok (.ldc2_w 222, 3) := by decide +kernel
theorem dX9_ahead_6 : decode cX9_ahead 6 = .ok (.invokestatic 71, 3) := by decide +kernel
theorem dX9_ahead_9 : decode cX9_ahead 9 = .ok (.ifCond .eq 13, 3) := by decide +kernel
theorem dX9_ahead_12 : decode cX9_ahead 12 = .ok (.iload_n 2, 1) := by decide +kernel
theorem dX9_ahead_13 : decode cX9_ahead 13 = .ok (.i2l, 1) := by decide +kernel
theorem dX9_ahead_14 : decode cX9_ahead 14 = .ok (.lconst 0, 1) := by decide +kernel
theorem dX9_ahead_15 : decode cX9_ahead 15 = .ok (.lconst 1, 1) := by decide +kernel
theorem dX9_ahead_16 : decode cX9_ahead 16 = .ok (.invokestatic 71, 3) := by decide +kernel
theorem dX9_ahead_19 : decode cX9_ahead 19 = .ok (.ifCond .ne 6, 3) := by decide +kernel
theorem dX9_ahead_22 : decode cX9_ahead 22 = .ok (.bipush (-2), 2) := by decide +kernel
theorem dX9_ahead_24 : decode cX9_ahead 24 = .ok (.ireturn, 1) := by decide +kernel
theorem dX9_ahead_25 : decode cX9_ahead 25 = .ok (.aload_n 0, 1) := by decide +kernel
theorem dX9_ahead_26 : decode cX9_ahead 26 = .ok (.bipush 60, 2) := by decide +kernel
theorem dX9_ahead_28 : decode cX9_ahead 28 = .ok (.invokevirtual 170, 3) := by decide +kernel
theorem dX9_ahead_31 : decode cX9_ahead 31 = .ok (.istore_n 3, 1) := by decide +kernel
theorem dX9_ahead_32 : decode cX9_ahead 32 = .ok (.iload_n 3, 1) := by decide +kernel
theorem dX9_ahead_33 : decode cX9_ahead 33 = .ok (.bipush (-6), 2) := by decide +kernel
theorem dX9_ahead_35 : decode cX9_ahead 35 = .ok (.if_icmp .eq 5, 3) := by decide +kernel
theorem dX9_ahead_38 : decode cX9_ahead 38 = .ok (.iload_n 3, 1) := by decide +kernel
theorem dX9_ahead_39 : decode cX9_ahead 39 = .ok (.ireturn, 1) := by decide +kernel
theorem dX9_ahead_40 : decode cX9_ahead 40 = .ok (.aload_n 0, 1) := by decide +kernel
theorem dX9_ahead_41 : decode cX9_ahead 41 = .ok (.bipush 46, 2) := by decide +kernel
theorem dX9_ahead_43 : decode cX9_ahead 43 = .ok (.invokevirtual 133, 3) := by decide +kernel
theorem dX9_ahead_46 : decode cX9_ahead 46 = .ok (.istore 4, 2) := by decide +kernel
theorem dX9_ahead_48 : decode cX9_ahead 48 = .ok (.aload_n 0, 1) := by decide +kernel
theorem dX9_ahead_49 : decode cX9_ahead 49 = .ok (.invokevirtual 138, 3) := by decide +kernel
theorem dX9_ahead_52 : decode cX9_ahead 52 = .ok (.iconst 0, 1) := by decide +kernel
theorem dX9_ahead_53 : decode cX9_ahead 53 = .ok (.istore 5, 2) := by decide +kernel
theorem dX9_ahead_55 : decode cX9_ahead 55 = .ok (.iload 5, 2) := by decide +kernel
theorem dX9_ahead_57 : decode cX9_ahead 57 = .ok (.iload 4, 2) := by decide +kernel
theorem dX9_ahead_59 : decode cX9_ahead 59 = .ok (.if_icmp .ge 24, 3) := by decide +kernel
theorem dX9_ahead_62 : decode cX9_ahead 62 = .ok (.aload_n 0, 1) := by decide +kernel
theorem dX9_ahead_63 : decode cX9_ahead 63 = .ok (.invokevirtual 121, 3) := by decide +kernel
theorem dX9_ahead_66 : decode cX9_ahead 66 = .ok (.aload_n 0, 1) := by decide +kernel
theorem dX9_ahead_67 : decode cX9_ahead 67 = .ok (.getfield 40, 3) := by decide +kernel
theorem dX9_ahead_70 : decode cX9_ahead 70 = .ok (.iload 5, 2) := by decide +kernel
theorem dX9_ahead_72 : decode cX9_ahead 72 = .ok (.aload_n 0, 1) := by decide +kernel
theorem dX9_ahead_73 : decode cX9_ahead 73 = .ok (.getfield 102, 3) := by decide +kernel
theorem dX9_ahead_76 : decode cX9_ahead 76 = .ok (.iastore, 1) := by decide +kernel
theorem dX9_ahead_77 : decode cX9_ahead 77 = .ok (.iinc 5 1, 3) := by decide +kernel
theorem dX9_ahead_80 : decode cX9_ahead 80 = .ok (.goto (-25), 3) := by decide +kernel
theorem dX9_ahead_83 : decode cX9_ahead 83 = .ok (.aload_n 0, 1) := by decide +kernel
theorem dX9_ahead_84 : decode cX9_ahead 84 = .ok (.aload_n 0, 1) := by decide +kernel
theorem dX9_ahead_85 : decode cX9_ahead 85 = .ok (.getfield 54, 3) := by decide +kernel
theorem dX9_ahead_88 : decode cX9_ahead 88 = .ok (.aload_n 0, 1) := by decide +kernel
theorem dX9_ahead_89 : decode cX9_ahead 89 = .ok (.invokevirtual 98, 3) := by decide +kernel
theorem dX9_ahead_92 : decode cX9_ahead 92 = .ok (.iload_n 1, 1) := by decide +kernel
theorem dX9_ahead_93 : decode cX9_ahead 93 = .ok (.iand, 1) := by decide +kernel
theorem dX9_ahead_94 : decode cX9_ahead 94 = .ok (.invokevirtual 114, 3) := by decide +kernel
theorem dX9_ahead_97 : decode cX9_ahead 97 = .ok (.iconst 0, 1) := by decide +kernel
theorem dX9_ahead_98 : decode cX9_ahead 98 = .ok (.istore 5, 2) := by decide +kernel
theorem dX9_ahead_100 : decode cX9_ahead 100 = .ok (.iconst 0, 1) := by decide +kernel
theorem dX9_ahead_101 : decode cX9_ahead 101 = .ok (.istore 6, 2) := by decide +kernel
theorem dX9_ahead_103 : decode cX9_ahead 103 = .ok (.iload 6, 2) := by decide +kernel
theorem dX9_ahead_105 : decode cX9_ahead 105 = .ok (.iload 4, 2) := by decide +kernel
theorem dX9_ahead_107 : decode cX9_ahead 107 = .ok (.if_icmp .ge 63, 3) := by decide +kernel
theorem dX9_ahead_110 : decode cX9_ahead 110 = .ok (.aload_n 0, 1) := by decide +kernel
theorem dX9_ahead_111 : decode cX9_ahead 111 = .ok (.invokevirtual 121, 3) := by decide +kernel
theorem dX9_ahead_114 : decode cX9_ahead 114 = .ok (.iload 5, 2) := by decide +kernel
theorem dX9_ahead_116 : decode cX9_ahead 116 = .ok (.iload_n 2, 1) := by decide +kernel
theorem dX9_ahead_117 : decode cX9_ahead 117 = .ok (.ifCond .ne 25, 3) := by decide +kernel
theorem dX9_ahead_120 : decode cX9_ahead 120 = .ok (.aload_n 0, 1) := by decide +kernel
theorem dX9_ahead_121 : decode cX9_ahead 121 = .ok (.getfield 40, 3) := by decide +kernel
theorem dX9_ahead_124 : decode cX9_ahead 124 = .ok (.iload 6, 2) := by decide +kernel
theorem dX9_ahead_126 : decode cX9_ahead 126 = .ok (.iaload, 1) := by decide +kernel
theorem dX9_ahead_127 : decode cX9_ahead 127 = .ok (.aload_n 0, 1) := by decide +kernel
theorem dX9_ahead_128 : decode cX9_ahead 128 = .ok (.getfield 102, 3) := by decide +kernel
theorem dX9_ahead_131 : decode cX9_ahead 131 = .ok (.if_icmp .le 7, 3) := by decide +kernel
theorem dX9_ahead_134 : decode cX9_ahead 134 = .ok (.iconst 1, 1) := by decide +kernel
theorem dX9_ahead_135 : decode cX9_ahead 135 = .ok (.goto 26, 3) := by decide +kernel
theorem dX9_ahead_138 : decode cX9_ahead 138 = .ok (.iconst 0, 1) := by decide +kernel
theorem dX9_ahead_139 : decode cX9_ahead 139 = .ok (.goto 22, 3) := by decide +kernel
theorem dX9_ahead_142 : decode cX9_ahead 142 = .ok (.aload_n 0, 1) := by decide +kernel
theorem dX9_ahead_143 : decode cX9_ahead 143 = .ok (.getfield 102, 3) := by decide +kernel
theorem dX9_ahead_146 : decode cX9_ahead 146 = .ok (.aload_n 0, 1) := by decide +kernel
theorem dX9_ahead_147 : decode cX9_ahead 147 = .ok (.getfield 40, 3) := by decide +kernel
theorem dX9_ahead_150 : decode cX9_ahead 150 = .ok (.iload 6, 2) := by decide +kernel
theorem dX9_ahead_152 : decode cX9_ahead 152 = .ok (.iaload, 1) := by decide +kernel
theorem dX9_ahead_153 : decode cX9_ahead 153 = .ok (.if_icmp .le 7, 3) := by decide +kernel
theorem dX9_ahead_156 : decode cX9_ahead 156 = .ok (.iconst 1, 1) := by decide +kernel
theorem dX9_ahead_157 : decode cX9_ahead 157 = .ok (.goto 4, 3) := by decide +kernel
theorem dX9_ahead_160 : decode cX9_ahead 160 = .ok (.iconst 0, 1) := by decide +kernel
theorem dX9_ahead_161 : decode cX9_ahead 161 = .ok (.iadd, 1) := by decide +kernel
theorem dX9_ahead_162 : decode cX9_ahead 162 = .ok (.istore 5, 2) := by decide +kernel
theorem dX9_ahead_164 : decode cX9_ahead 164 = .ok (.iinc 6 1, 3) := by decide +kernel
theorem dX9_ahead_167 : decode cX9_ahead 167 = .ok (.goto (-64), 3) := by decide +kernel
theorem dX9_ahead_170 : decode cX9_ahead 170 = .ok (.iload 5, 2) := by decide +kernel
theorem dX9_ahead_172 : decode cX9_ahead 172 = .ok (.ireturn, 1) := by decide +kernel
theorem dX9_year_0 : decode cX9_year 0 = .ok (.iload_n 1, 1) := by decide +kernel
theorem dX9_year_1 : decode cX9_year 1 = .ok (.i2l, 1) := by decide +kernel
theorem dX9_year_2 : decode cX9_year 2 = .ok (.lconst 0, 1) := by decide +kernel
theorem dX9_year_3 : decode cX9_year 3 = .ok (.ldc2_w 224, 3) := by decide +kernel
theorem dX9_year_6 : decode cX9_year 6 = .ok (.invokestatic 71, 3) := by decide +kernel
theorem dX9_year_9 : decode cX9_year 9 = .ok (.ifCond .eq 27, 3) := by decide +kernel
theorem dX9_year_12 : decode cX9_year 12 = .ok (.iload_n 2, 1) := by decide +kernel
theorem dX9_year_13 : decode cX9_year 13 = .ok (.i2l, 1) := by decide +kernel
theorem dX9_year_14 : decode cX9_year 14 = .ok (.lconst 1, 1) := by decide +kernel
theorem dX9_year_15 : decode cX9_year 15 = .ok (.ldc2_w 226, 3) := by decide +kernel
theorem dX9_year_18 : decode cX9_year 18 = .ok (.invokestatic 71, 3) := by decide +kernel
theorem dX9_year_21 : decode cX9_year 21 = .ok (.ifCond .eq 15, 3) := by decide +kernel
theorem dX9_year_24 : decode cX9_year 24 = .ok (.iload_n 3, 1) := by decide +kernel
theorem dX9_year_25 : decode cX9_year 25 = .ok (.i2l, 1) := by decide +kernel
theorem dX9_year_26 : decode cX9_year 26 = .ok (.lconst 0, 1) := by decide +kernel
theorem dX9_year_27 : decode cX9_year 27 = .ok (.ldc2_w 217, 3) := by decide +kernel
theorem dX9_year_30 : decode cX9_year 30 = .ok (.invokestatic 71, 3) := by decide +kernel
theorem dX9_year_33 : decode cX9_year 33 = .ok (.ifCond .ne 6, 3) := by decide +kernel
theorem dX9_year_36 : decode cX9_year 36 = .ok (.bipush (-2), 2) := by decide +kernel
theorem dX9_year_38 : decode cX9_year 38 = .ok (.ireturn, 1) := by decide +kernel
theorem dX9_year_39 : decode cX9_year 39 = .ok (.iload_n 1, 1) := by decide +kernel
theorem dX9_year_40 : decode cX9_year 40 = .ok (.istore 4, 2) := by decide +kernel
theorem dX9_year_42 : decode cX9_year 42 = .ok (.iconst 0, 1) := by decide +kernel
theorem dX9_year_43 : decode cX9_year 43 = .ok (.istore 5, 2) := by decide +kernel
theorem dX9_year_45 : decode cX9_year 45 = .ok (.ldc 173, 2) := by decide +kernel
theorem dX9_year_47 : decode cX9_year 47 = .ok (.istore 6, 2) := by decide +kernel
theorem dX9_year_49 : decode cX9_year 49 = .ok (.ldc 228, 2) := by decide +kernel
theorem dX9_year_51 : decode cX9_year 51 = .ok (.istore 7, 2) := by decide +kernel
theorem dX9_year_53 : decode cX9_year 53 = .ok (.iconst 0, 1) := by decide +kernel
theorem dX9_year_54 : decode cX9_year 54 = .ok (.istore 8, 2) := by decide +kernel
theorem dX9_year_56 : decode cX9_year 56 = .ok (.iload 8, 2) := by decide +kernel
theorem dX9_year_58 : decode cX9_year 58 = .ok (.iload_n 2, 1) := by decide +kernel
theorem dX9_year_59 : decode cX9_year 59 = .ok (.if_icmp .ge 120, 3) := by decide +kernel
theorem dX9_year_62 : decode cX9_year 62 = .ok (.aload_n 0, 1) := by decide +kernel
theorem dX9_year_63 : decode cX9_year 63 = .ok (.invokevirtual 138, 3) := by decide +kernel
theorem dX9_year_66 : decode cX9_year 66 = .ok (.iconst 0, 1) := by decide +kernel
theorem dX9_year_67 : decode cX9_year 67 = .ok (.istore 9, 2) := by decide +kernel
theorem dX9_year_69 : decode cX9_year 69 = .ok (.iload 9, 2) := by decide +kernel
theorem dX9_year_71 : decode cX9_year 71 = .ok (.bipush 10, 2) := by decide +kernel
theorem dX9_year_73 : decode cX9_year 73 = .ok (.if_icmp .ge 51, 3) := by decide +kernel
theorem dX9_year_76 : decode cX9_year 76 = .ok (.ldc2_w 229, 3) := by decide +kernel
theorem dX9_year_79 : decode cX9_year 79 = .ok (.iload 4, 2) := by decide +kernel
theorem dX9_year_81 : decode cX9_year 81 = .ok (.i2l, 1) := by decide +kernel
theorem dX9_year_82 : decode cX9_year 82 = .ok (.lmul, 1) := by decide +kernel
theorem dX9_year_83 : decode cX9_year 83 = .ok (.ldc2_w 231, 3) := by decide +kernel
theorem dX9_year_86 : decode cX9_year 86 = .ok (.ladd, 1) := by decide +kernel
theorem dX9_year_87 : decode cX9_year 87 = .ok (.ldc2_w 233, 3) := by decide +kernel
theorem dX9_year_90 : decode cX9_year 90 = .ok (.lrem, 1) := by decide +kernel
theorem dX9_year_91 : decode cX9_year 91 = .ok (.l2i, 1) := by decide +kernel
theorem dX9_year_92 : decode cX9_year 92 = .ok (.istore 4, 2) := by decide +kernel
theorem dX9_year_94 : decode cX9_year 94 = .ok (.aload_n 0, 1) := by decide +kernel
theorem dX9_year_95 : decode cX9_year 95 = .ok (.iload 4, 2) := by decide +kernel
theorem dX9_year_97 : decode cX9_year 97 = .ok (.iconst 4, 1) := by decide +kernel
theorem dX9_year_98 : decode cX9_year 98 = .ok (.irem, 1) := by decide +kernel
theorem dX9_year_99 : decode cX9_year 99 = .ok (.ifCond .ne 10, 3) := by decide +kernel
theorem dX9_year_102 : decode cX9_year 102 = .ok (.aload_n 0, 1) := by decide +kernel
theorem dX9_year_103 : decode cX9_year 103 = .ok (.invokevirtual 193, 3) := by decide +kernel
theorem dX9_year_106 : decode cX9_year 106 = .ok (.goto 5, 3) := by decide +kernel
theorem dX9_year_109 : decode cX9_year 109 = .ok (.bipush (-6), 2) := by decide +kernel
theorem dX9_year_111 : decode cX9_year 111 = .ok (.invokevirtual 124, 3) := by decide +kernel
theorem dX9_year_114 : decode cX9_year 114 = .ok (.aload_n 0, 1) := by decide +kernel
theorem dX9_year_115 : decode cX9_year 115 = .ok (.invokevirtual 121, 3) := by decide +kernel
theorem dX9_year_118 : decode cX9_year 118 = .ok (.iinc 9 1, 3) := by decide +kernel
theorem dX9_year_121 : decode cX9_year 121 = .ok (.goto (-52), 3) := by decide +kernel
theorem dX9_year_124 : decode cX9_year 124 = .ok (.iload 5, 2) := by decide +kernel
theorem dX9_year_126 : decode cX9_year 126 = .ok (.aload_n 0, 1) := by decide +kernel
theorem dX9_year_127 : decode cX9_year 127 = .ok (.getfield 102, 3) := by decide +kernel
theorem dX9_year_130 : decode cX9_year 130 = .ok (.iadd, 1) := by decide +kernel
theorem dX9_year_131 : decode cX9_year 131 = .ok (.istore 5, 2) := by decide +kernel
theorem dX9_year_133 : decode cX9_year 133 = .ok (.aload_n 0, 1) := by decide +kernel
theorem dX9_year_134 : decode cX9_year 134 = .ok (.getfield 102, 3) := by decide +kernel
theorem dX9_year_137 : decode cX9_year 137 = .ok (.iload 6, 2) := by decide +kernel
theorem dX9_year_139 : decode cX9_year 139 = .ok (.if_icmp .ge 10, 3) := by decide +kernel
theorem dX9_year_142 : decode cX9_year 142 = .ok (.aload_n 0, 1) := by decide +kernel
theorem dX9_year_143 : decode cX9_year 143 = .ok (.getfield 102, 3) := by decide +kernel
theorem dX9_year_146 : decode cX9_year 146 = .ok (.goto 5, 3) := by decide +kernel
theorem dX9_year_149 : decode cX9_year 149 = .ok (.iload 6, 2) := by decide +kernel
theorem dX9_year_151 : decode cX9_year 151 = .ok (.istore 6, 2) := by decide +kernel
theorem dX9_year_153 : decode cX9_year 153 = .ok (.aload_n 0, 1) := by decide +kernel
theorem dX9_year_154 : decode cX9_year 154 = .ok (.getfield 102, 3) := by decide +kernel
theorem dX9_year_157 : decode cX9_year 157 = .ok (.iload 7, 2) := by decide +kernel
theorem dX9_year_159 : decode cX9_year 159 = .ok (.if_icmp .le 10, 3) := by decide +kernel
theorem dX9_year_162 : decode cX9_year 162 = .ok (.aload_n 0, 1) := by decide +kernel
theorem dX9_year_163 : decode cX9_year 163 = .ok (.getfield 102, 3) := by decide +kernel
theorem dX9_year_166 : decode cX9_year 166 = .ok (.goto 5, 3) := by decide +kernel
theorem dX9_year_169 : decode cX9_year 169 = .ok (.iload 7, 2) := by decide +kernel
theorem dX9_year_171 : decode cX9_year 171 = .ok (.istore 7, 2) := by decide +kernel
theorem dX9_year_173 : decode cX9_year 173 = .ok (.iinc 8 1, 3) := by decide +kernel
theorem dX9_year_176 : decode cX9_year 176 = .ok (.goto (-120), 3) := by decide +kernel
theorem dX9_year_179 : decode cX9_year 179 = .ok (.iload_n 3, 1) := by decide +kernel
theorem dX9_year_180 : decode cX9_year 180 = .ok (.ifCond .ne 11, 3) := by decide +kernel
theorem dX9_year_183 : decode cX9_year 183 = .ok (.iload 5, 2) := by decide +kernel
theorem dX9_year_185 : decode cX9_year 185 = .ok (.ldc 173, 2) := by decide +kernel
theorem dX9_year_187 : decode cX9_year 187 = .ok (.iadd, 1) := by decide +kernel
theorem dX9_year_188 : decode cX9_year 188 = .ok (.goto 23, 3) := by decide +kernel
theorem dX9_year_191 : decode cX9_year 191 = .ok (.iload_n 3, 1) := by decide +kernel
theorem dX9_year_192 : decode cX9_year 192 = .ok (.iconst 1, 1) := by decide +kernel
theorem dX9_year_193 : decode cX9_year 193 = .ok (.if_icmp .ne 12, 3) := by decide +kernel
theorem dX9_year_196 : decode cX9_year 196 = .ok (.iload 6, 2) := by decide +kernel
theorem dX9_year_198 : decode cX9_year 198 = .ok (.sipush 1000, 3) := by decide +kernel
theorem dX9_year_201 : decode cX9_year 201 = .ok (.iadd, 1) := by decide +kernel
theorem dX9_year_202 : decode cX9_year 202 = .ok (.goto 9, 3) := by decide +kernel
theorem dX9_year_205 : decode cX9_year 205 = .ok (.iload 7, 2) := by decide +kernel
theorem dX9_year_207 : decode cX9_year 207 = .ok (.sipush 1000, 3) := by decide +kernel
theorem dX9_year_210 : decode cX9_year 210 = .ok (.iadd, 1) := by decide +kernel
theorem dX9_year_211 : decode cX9_year 211 = .ok (.ireturn, 1) := by decide +kernel
theorem dX9_pass_0 : decode cX9_pass 0 = .ok (.aload_n 0, 1) := by decide +kernel
theorem dX9_pass_1 : decode cX9_pass 1 = .ok (.getfield 235, 3) := by decide +kernel
theorem dX9_pass_4 : decode cX9_pass 4 = .ok (.ifCond .eq 7, 3) := by decide +kernel
theorem dX9_pass_7 : decode cX9_pass 7 = .ok (.iload_n 1, 1) := by decide +kernel
theorem dX9_pass_8 : decode cX9_pass 8 = .ok (.goto 12, 3) := by decide +kernel
theorem dX9_pass_11 : decode cX9_pass 11 = .ok (.aload_n 0, 1) := by decide +kernel
theorem dX9_pass_12 : decode cX9_pass 12 = .ok (.getfield 43, 3) := by decide +kernel
theorem dX9_pass_15 : decode cX9_pass 15 = .ok (.aload_n 0, 1) := by decide +kernel
theorem dX9_pass_16 : decode cX9_pass 16 = .ok (.getfield 239, 3) := by decide +kernel
theorem dX9_pass_19 : decode cX9_pass 19 = .ok (.iaload, 1) := by decide +kernel
theorem dX9_pass_20 : decode cX9_pass 20 = .ok (.istore_n 2, 1) := by decide +kernel
theorem dX9_pass_21 : decode cX9_pass 21 = .ok (.aload_n 0, 1) := by decide +kernel
theorem dX9_pass_22 : decode cX9_pass 22 = .ok (.getfield 43, 3) := by decide +kernel
theorem dX9_pass_25 : decode cX9_pass 25 = .ok (.aload_n 0, 1) := by decide +kernel
theorem dX9_pass_26 : decode cX9_pass 26 = .ok (.getfield 239, 3) := by decide +kernel
theorem dX9_pass_29 : decode cX9_pass 29 = .ok (.iload_n 2, 1) := by decide +kernel
theorem dX9_pass_30 : decode cX9_pass 30 = .ok (.iastore, 1) := by decide +kernel
theorem dX9_pass_31 : decode cX9_pass 31 = .ok (.aload_n 0, 1) := by decide +kernel
theorem dX9_pass_32 : decode cX9_pass 32 = .ok (.dup, 1) := by decide +kernel
theorem dX9_pass_33 : decode cX9_pass 33 = .ok (.getfield 239, 3) := by decide +kernel
theorem dX9_pass_36 : decode cX9_pass 36 = .ok (.iconst 1, 1) := by decide +kernel
theorem dX9_pass_37 : decode cX9_pass 37 = .ok (.iadd, 1) := by decide +kernel
theorem dX9_pass_38 : decode cX9_pass 38 = .ok (.putfield 239, 3) := by decide +kernel
theorem dX9_pass_41 : decode cX9_pass 41 = .ok (.iload_n 2, 1) := by decide +kernel
theorem dX9_pass_42 : decode cX9_pass 42 = .ok (.ireturn, 1) := by decide +kernel
theorem dX9_passAll_0 : decode cX9_passAll 0 = .ok (.aload_n 0, 1) := by decide +kernel
theorem dX9_passAll_1 : decode cX9_passAll 1 = .ok (.aload_n 0, 1) := by decide +kernel
theorem dX9_passAll_2 : decode cX9_passAll 2 = .ok (.aload_n 0, 1) := by decide +kernel
theorem dX9_passAll_3 : decode cX9_passAll 3 = .ok (.getfield 50, 3) := by decide +kernel
theorem dX9_passAll_6 : decode cX9_passAll 6 = .ok (.invokevirtual 242, 3) := by decide +kernel
theorem dX9_passAll_9 : decode cX9_passAll 9 = .ok (.putfield 50, 3) := by decide +kernel
theorem dX9_passAll_12 : decode cX9_passAll 12 = .ok (.aload_n 0, 1) := by decide +kernel
theorem dX9_passAll_13 : decode cX9_passAll 13 = .ok (.aload_n 0, 1) := by decide +kernel
theorem dX9_passAll_14 : decode cX9_passAll 14 = .ok (.aload_n 0, 1) := by decide +kernel
theorem dX9_passAll_15 : decode cX9_passAll 15 = .ok (.getfield 54, 3) := by decide +kernel
theorem dX9_passAll_18 : decode cX9_passAll 18 = .ok (.invokevirtual 242, 3) := by decide +kernel
theorem dX9_passAll_21 : decode cX9_passAll 21 = .ok (.putfield 54, 3) := by decide +kernel
theorem dX9_passAll_24 : decode cX9_passAll 24 = .ok (.aload_n 0, 1) := by decide +kernel
theorem dX9_passAll_25 : decode cX9_passAll 25 = .ok (.aload_n 0, 1) := by decide +kernel
theorem dX9_passAll_26 : decode cX9_passAll 26 = .ok (.aload_n 0, 1) := by decide +kernel
theorem dX9_passAll_27 : decode cX9_passAll 27 = .ok (.getfield 57, 3) := by decide +kernel
theorem dX9_passAll_30 : decode cX9_passAll 30 = .ok (.invokevirtual 242, 3) := by decide +kernel
theorem dX9_passAll_33 : decode cX9_passAll 33 = .ok (.putfield 57, 3) := by decide +kernel
theorem dX9_passAll_36 : decode cX9_passAll 36 = .ok (.aload_n 0, 1) := by decide +kernel
theorem dX9_passAll_37 : decode cX9_passAll 37 = .ok (.aload_n 0, 1) := by decide +kernel
theorem dX9_passAll_38 : decode cX9_passAll 38 = .ok (.aload_n 0, 1) := by decide +kernel
theorem dX9_passAll_39 : decode cX9_passAll 39 = .ok (.getfield 60, 3) := by decide +kernel
theorem dX9_passAll_42 : decode cX9_passAll 42 = .ok (.invokevirtual 242, 3) := by decide +kernel
theorem dX9_passAll_45 : decode cX9_passAll 45 = .ok (.putfield 60, 3) := by decide +kernel
theorem dX9_passAll_48 : decode cX9_passAll 48 = .ok (.aload_n 0, 1) := by decide +kernel
theorem dX9_passAll_49 : decode cX9_passAll 49 = .ok (.aload_n 0, 1) := by decide +kernel
theorem dX9_passAll_50 : decode cX9_passAll 50 = .ok (.aload_n 0, 1) := by decide +kernel
theorem dX9_passAll_51 : decode cX9_passAll 51 = .ok (.getfield 63, 3) := by decide +kernel
theorem dX9_passAll_54 : decode cX9_passAll 54 = .ok (.invokevirtual 242, 3) := by decide +kernel
theorem dX9_passAll_57 : decode cX9_passAll 57 = .ok (.putfield 63, 3) := by decide +kernel
theorem dX9_passAll_60 : decode cX9_passAll 60 = .ok (.aload_n 0, 1) := by decide +kernel
theorem dX9_passAll_61 : decode cX9_passAll 61 = .ok (.aload_n 0, 1) := by decide +kernel
theorem dX9_passAll_62 : decode cX9_passAll 62 = .ok (.aload_n 0, 1) := by decide +kernel
theorem dX9_passAll_63 : decode cX9_passAll 63 = .ok (.getfield 66, 3) := by decide +kernel
theorem dX9_passAll_66 : decode cX9_passAll 66 = .ok (.invokevirtual 242, 3) := by decide +kernel
theorem dX9_passAll_69 : decode cX9_passAll 69 = .ok (.putfield 66, 3) := by decide +kernel
theorem dX9_passAll_72 : decode cX9_passAll 72 = .ok (.aload_n 0, 1) := by decide +kernel
theorem dX9_passAll_73 : decode cX9_passAll 73 = .ok (.aload_n 0, 1) := by decide +kernel
theorem dX9_passAll_74 : decode cX9_passAll 74 = .ok (.aload_n 0, 1) := by decide +kernel
theorem dX9_passAll_75 : decode cX9_passAll 75 = .ok (.getfield 214, 3) := by decide +kernel
theorem dX9_passAll_78 : decode cX9_passAll 78 = .ok (.invokevirtual 242, 3) := by decide +kernel
theorem dX9_passAll_81 : decode cX9_passAll 81 = .ok (.putfield 214, 3) := by decide +kernel
theorem dX9_passAll_84 : decode cX9_passAll 84 = .ok (.iconst 0, 1) := by decide +kernel
theorem dX9_passAll_85 : decode cX9_passAll 85 = .ok (.istore_n 1, 1) := by decide +kernel
theorem dX9_passAll_86 : decode cX9_passAll 86 = .ok (.iload_n 1, 1) := by decide +kernel
theorem dX9_passAll_87 : decode cX9_passAll 87 = .ok (.iconst 5, 1) := by decide +kernel
theorem dX9_passAll_88 : decode cX9_passAll 88 = .ok (.if_icmp .ge 41, 3) := by decide +kernel
theorem dX9_passAll_91 : decode cX9_passAll 91 = .ok (.aload_n 0, 1) := by decide +kernel
theorem dX9_passAll_92 : decode cX9_passAll 92 = .ok (.getfield 7, 3) := by decide +kernel
theorem dX9_passAll_95 : decode cX9_passAll 95 = .ok (.iload_n 1, 1) := by decide +kernel
theorem dX9_passAll_96 : decode cX9_passAll 96 = .ok (.aload_n 0, 1) := by decide +kernel
theorem dX9_passAll_97 : decode cX9_passAll 97 = .ok (.aload_n 0, 1) := by decide +kernel
theorem dX9_passAll_98 : decode cX9_passAll 98 = .ok (.getfield 7, 3) := by decide +kernel
theorem dX9_passAll_101 : decode cX9_passAll 101 = .ok (.iload_n 1, 1) := by decide +kernel
theorem dX9_passAll_102 : decode cX9_passAll 102 = .ok (.iaload, 1) := by decide +kernel
theorem dX9_passAll_103 : decode cX9_passAll 103 = .ok (.invokevirtual 242, 3) := by decide +kernel
theorem dX9_passAll_106 : decode cX9_passAll 106 = .ok (.iastore, 1) := by decide +kernel
theorem dX9_passAll_107 : decode cX9_passAll 107 = .ok (.aload_n 0, 1) := by decide +kernel
theorem dX9_passAll_108 : decode cX9_passAll 108 = .ok (.getfield 13, 3) := by decide +kernel
theorem dX9_passAll_111 : decode cX9_passAll 111 = .ok (.iload_n 1, 1) := by decide +kernel
theorem dX9_passAll_112 : decode cX9_passAll 112 = .ok (.aload_n 0, 1) := by decide +kernel
theorem dX9_passAll_113 : decode cX9_passAll 113 = .ok (.aload_n 0, 1) := by decide +kernel
theorem dX9_passAll_114 : decode cX9_passAll 114 = .ok (.getfield 13, 3) := by decide +kernel
theorem dX9_passAll_117 : decode cX9_passAll 117 = .ok (.iload_n 1, 1) := by decide +kernel
theorem dX9_passAll_118 : decode cX9_passAll 118 = .ok (.iaload, 1) := by decide +kernel
theorem dX9_passAll_119 : decode cX9_passAll 119 = .ok (.invokevirtual 242, 3) := by decide +kernel
theorem dX9_passAll_122 : decode cX9_passAll 122 = .ok (.iastore, 1) := by decide +kernel
theorem dX9_passAll_123 : decode cX9_passAll 123 = .ok (.iinc 1 1, 3) := by decide +kernel
theorem dX9_passAll_126 : decode cX9_passAll 126 = .ok (.goto (-40), 3) := by decide +kernel
theorem dX9_passAll_129 : decode cX9_passAll 129 = .ok (.iconst 0, 1) := by decide +kernel
theorem dX9_passAll_130 : decode cX9_passAll 130 = .ok (.istore_n 1, 1) := by decide +kernel
theorem dX9_passAll_131 : decode cX9_passAll 131 = .ok (.iload_n 1, 1) := by decide +kernel
theorem dX9_passAll_132 : decode cX9_passAll 132 = .ok (.bipush 6, 2) := by decide +kernel
theorem dX9_passAll_134 : decode cX9_passAll 134 = .ok (.if_icmp .ge 57, 3) := by decide +kernel
theorem dX9_passAll_137 : decode cX9_passAll 137 = .ok (.aload_n 0, 1) := by decide +kernel
theorem dX9_passAll_138 : decode cX9_passAll 138 = .ok (.getfield 16, 3) := by decide +kernel
theorem dX9_passAll_141 : decode cX9_passAll 141 = .ok (.iload_n 1, 1) := by decide +kernel
theorem dX9_passAll_142 : decode cX9_passAll 142 = .ok (.aload_n 0, 1) := by decide +kernel
theorem dX9_passAll_143 : decode cX9_passAll 143 = .ok (.aload_n 0, 1) := by decide +kernel
theorem dX9_passAll_144 : decode cX9_passAll 144 = .ok (.getfield 16, 3) := by decide +kernel
theorem dX9_passAll_147 : decode cX9_passAll 147 = .ok (.iload_n 1, 1) := by decide +kernel
theorem dX9_passAll_148 : decode cX9_passAll 148 = .ok (.iaload, 1) := by decide +kernel
theorem dX9_passAll_149 : decode cX9_passAll 149 = .ok (.invokevirtual 242, 3) := by decide +kernel
theorem dX9_passAll_152 : decode cX9_passAll 152 = .ok (.iastore, 1) := by decide +kernel
theorem dX9_passAll_153 : decode cX9_passAll 153 = .ok (.aload_n 0, 1) := by decide +kernel
theorem dX9_passAll_154 : decode cX9_passAll 154 = .ok (.getfield 19, 3) := by decide +kernel
theorem dX9_passAll_157 : decode cX9_passAll 157 = .ok (.iload_n 1, 1) := by decide +kernel
theorem dX9_passAll_158 : decode cX9_passAll 158 = .ok (.aload_n 0, 1) := by decide +kernel
theorem dX9_passAll_159 : decode cX9_passAll 159 = .ok (.aload_n 0, 1) := by decide +kernel
theorem dX9_passAll_160 : decode cX9_passAll 160 = .ok (.getfield 19, 3) := by decide +kernel
theorem dX9_passAll_163 : decode cX9_passAll 163 = .ok (.iload_n 1, 1) := by decide +kernel
theorem dX9_passAll_164 : decode cX9_passAll 164 = .ok (.iaload, 1) := by decide +kernel
theorem dX9_passAll_165 : decode cX9_passAll 165 = .ok (.invokevirtual 242, 3) := by decide +kernel
theorem dX9_passAll_168 : decode cX9_passAll 168 = .ok (.iastore, 1) := by decide +kernel
theorem dX9_passAll_169 : decode cX9_passAll 169 = .ok (.aload_n 0, 1) := by decide +kernel
theorem dX9_passAll_170 : decode cX9_passAll 170 = .ok (.getfield 22, 3) := by decide +kernel
theorem dX9_passAll_173 : decode cX9_passAll 173 = .ok (.iload_n 1, 1) := by decide +kernel
theorem dX9_passAll_174 : decode cX9_passAll 174 = .ok (.aload_n 0, 1) := by decide +kernel
theorem dX9_passAll_175 : decode cX9_passAll 175 = .ok (.aload_n 0, 1) := by decide +kernel
theorem dX9_passAll_176 : decode cX9_passAll 176 = .ok (.getfield 22, 3) := by decide +kernel
theorem dX9_passAll_179 : decode cX9_passAll 179 = .ok (.iload_n 1, 1) := by decide +kernel
theorem dX9_passAll_180 : decode cX9_passAll 180 = .ok (.iaload, 1) := by decide +kernel
theorem dX9_passAll_181 : decode cX9_passAll 181 = .ok (.invokevirtual 242, 3) := by decide +kernel
theorem dX9_passAll_184 : decode cX9_passAll 184 = .ok (.iastore, 1) := by decide +kernel
theorem dX9_passAll_185 : decode cX9_passAll 185 = .ok (.iinc 1 1, 3) := by decide +kernel
theorem dX9_passAll_188 : decode cX9_passAll 188 = .ok (.goto (-57), 3) := by decide +kernel
theorem dX9_passAll_191 : decode cX9_passAll 191 = .ok (.return_, 1) := by decide +kernel
theorem dX9_image_0 : decode cX9_image 0 = .ok (.iload_n 1, 1) := by decide +kernel
theorem dX9_image_1 : decode cX9_image 1 = .ok (.i2l, 1) := by decide +kernel
theorem dX9_image_2 : decode cX9_image 2 = .ok (.lconst 0, 1) := by decide +kernel
theorem dX9_image_3 : decode cX9_image 3 = .ok (.lconst 1, 1) := by decide +kernel
theorem dX9_image_4 : decode cX9_image 4 = .ok (.invokestatic 71, 3) := by decide +kernel
theorem dX9_image_7 : decode cX9_image 7 = .ok (.ifCond .ne 6, 3) := by decide +kernel
theorem dX9_image_10 : decode cX9_image 10 = .ok (.bipush (-2), 2) := by decide +kernel
theorem dX9_image_12 : decode cX9_image 12 = .ok (.ireturn, 1) := by decide +kernel
theorem dX9_image_13 : decode cX9_image 13 = .ok (.aload_n 0, 1) := by decide +kernel
theorem dX9_image_14 : decode cX9_image 14 = .ok (.bipush 50, 2) := by decide +kernel
theorem dX9_image_16 : decode cX9_image 16 = .ok (.iload_n 1, 1) := by decide +kernel
theorem dX9_image_17 : decode cX9_image 17 = .ok (.imul, 1) := by decide +kernel
theorem dX9_image_18 : decode cX9_image 18 = .ok (.putfield 239, 3) := by decide +kernel
theorem dX9_image_21 : decode cX9_image 21 = .ok (.aload_n 0, 1) := by decide +kernel
theorem dX9_image_22 : decode cX9_image 22 = .ok (.iconst 1, 1) := by decide +kernel
theorem dX9_image_23 : decode cX9_image 23 = .ok (.putfield 235, 3) := by decide +kernel
theorem dX9_image_26 : decode cX9_image 26 = .ok (.aload_n 0, 1) := by decide +kernel
theorem dX9_image_27 : decode cX9_image 27 = .ok (.invokevirtual 245, 3) := by decide +kernel
theorem dX9_image_30 : decode cX9_image 30 = .ok (.aload_n 0, 1) := by decide +kernel
theorem dX9_image_31 : decode cX9_image 31 = .ok (.getfield 46, 3) := by decide +kernel
theorem dX9_image_34 : decode cX9_image 34 = .ok (.iload_n 1, 1) := by decide +kernel
theorem dX9_image_35 : decode cX9_image 35 = .ok (.iconst 1, 1) := by decide +kernel
theorem dX9_image_36 : decode cX9_image 36 = .ok (.bastore, 1) := by decide +kernel
theorem dX9_image_37 : decode cX9_image 37 = .ok (.iconst 1, 1) := by decide +kernel
theorem dX9_image_38 : decode cX9_image 38 = .ok (.ireturn, 1) := by decide +kernel
theorem dX9_restore_0 : decode cX9_restore 0 = .ok (.iload_n 1, 1) := by decide +kernel
theorem dX9_restore_1 : decode cX9_restore 1 = .ok (.i2l, 1) := by decide +kernel
theorem dX9_restore_2 : decode cX9_restore 2 = .ok (.lconst 0, 1) := by decide +kernel
theorem dX9_restore_3 : decode cX9_restore 3 = .ok (.lconst 1, 1) := by decide +kernel
theorem dX9_restore_4 : decode cX9_restore 4 = .ok (.invokestatic 71, 3) := by decide +kernel
theorem dX9_restore_7 : decode cX9_restore 7 = .ok (.ifCond .ne 6, 3) := by decide +kernel
theorem dX9_restore_10 : decode cX9_restore 10 = .ok (.bipush (-2), 2) := by decide +kernel
theorem dX9_restore_12 : decode cX9_restore 12 = .ok (.ireturn, 1) := by decide +kernel
theorem dX9_restore_13 : decode cX9_restore 13 = .ok (.aload_n 0, 1) := by decide +kernel
theorem dX9_restore_14 : decode cX9_restore 14 = .ok (.getfield 46, 3) := by decide +kernel
theorem dX9_restore_17 : decode cX9_restore 17 = .ok (.iload_n 1, 1) := by decide +kernel
theorem dX9_restore_18 : decode cX9_restore 18 = .ok (.baload, 1) := by decide +kernel
theorem dX9_restore_19 : decode cX9_restore 19 = .ok (.ifCond .ne 6, 3) := by decide +kernel
theorem dX9_restore_22 : decode cX9_restore 22 = .ok (.bipush (-3), 2) := by decide +kernel
theorem dX9_restore_24 : decode cX9_restore 24 = .ok (.ireturn, 1) := by decide +kernel
theorem dX9_restore_25 : decode cX9_restore 25 = .ok (.aload_n 0, 1) := by decide +kernel
theorem dX9_restore_26 : decode cX9_restore 26 = .ok (.bipush 50, 2) := by decide +kernel
theorem dX9_restore_28 : decode cX9_restore 28 = .ok (.iload_n 1, 1) := by decide +kernel
theorem dX9_restore_29 : decode cX9_restore 29 = .ok (.imul, 1) := by decide +kernel
theorem dX9_restore_30 : decode cX9_restore 30 = .ok (.putfield 239, 3) := by decide +kernel
theorem dX9_restore_33 : decode cX9_restore 33 = .ok (.aload_n 0, 1) := by decide +kernel
theorem dX9_restore_34 : decode cX9_restore 34 = .ok (.iconst 0, 1) := by decide +kernel
theorem dX9_restore_35 : decode cX9_restore 35 = .ok (.putfield 235, 3) := by decide +kernel
theorem dX9_restore_38 : decode cX9_restore 38 = .ok (.aload_n 0, 1) := by decide +kernel
theorem dX9_restore_39 : decode cX9_restore 39 = .ok (.invokevirtual 245, 3) := by decide +kernel
theorem dX9_restore_42 : decode cX9_restore 42 = .ok (.iconst 1, 1) := by decide +kernel
theorem dX9_restore_43 : decode cX9_restore 43 = .ok (.ireturn, 1) := by decide +kernel
theorem dX9_told_0 : decode cX9_told 0 = .ok (.iload_n 1, 1) := by decide +kernel
theorem dX9_told_1 : decode cX9_told 1 = .ok (.i2l, 1) := by decide +kernel
theorem dX9_told_2 : decode cX9_told 2 = .ok (.ldc2_w 196, 3) := by decide +kernel
theorem dX9_told_5 : decode cX9_told 5 = .ok (.ldc2_w 248, 3) := by decide +kernel
theorem dX9_told_8 : decode cX9_told 8 = .ok (.invokestatic 71, 3) := by decide +kernel
theorem dX9_told_11 : decode cX9_told 11 = .ok (.ifCond .eq 13, 3) := by decide +kernel
theorem dX9_told_14 : decode cX9_told 14 = .ok (.aload_n 0, 1) := by decide +kernel
theorem dX9_told_15 : decode cX9_told 15 = .ok (.getfield 16, 3) := by decide +kernel
theorem dX9_told_18 : decode cX9_told 18 = .ok (.iload_n 1, 1) := by decide +kernel
theorem dX9_told_19 : decode cX9_told 19 = .ok (.bipush 10, 2) := by decide +kernel
theorem dX9_told_21 : decode cX9_told 21 = .ok (.isub, 1) := by decide +kernel
theorem dX9_told_22 : decode cX9_told 22 = .ok (.iaload, 1) := by decide +kernel
theorem dX9_told_23 : decode cX9_told 23 = .ok (.ireturn, 1) := by decide +kernel
theorem dX9_told_24 : decode cX9_told 24 = .ok (.iload_n 1, 1) := by decide +kernel
theorem dX9_told_25 : decode cX9_told 25 = .ok (.i2l, 1) := by decide +kernel
theorem dX9_told_26 : decode cX9_told 26 = .ok (.ldc2_w 89, 3) := by decide +kernel
theorem dX9_told_29 : decode cX9_told 29 = .ok (.ldc2_w 250, 3) := by decide +kernel
theorem dX9_told_32 : decode cX9_told 32 = .ok (.invokestatic 71, 3) := by decide +kernel
theorem dX9_told_35 : decode cX9_told 35 = .ok (.ifCond .ne 17, 3) := by decide +kernel
theorem dX9_told_38 : decode cX9_told 38 = .ok (.iload_n 1, 1) := by decide +kernel
theorem dX9_told_39 : decode cX9_told 39 = .ok (.i2l, 1) := by decide +kernel
theorem dX9_told_40 : decode cX9_told 40 = .ok (.ldc2_w 252, 3) := by decide +kernel
theorem dX9_told_43 : decode cX9_told 43 = .ok (.ldc2_w 254, 3) := by decide +kernel
theorem dX9_told_46 : decode cX9_told 46 = .ok (.invokestatic 71, 3) := by decide +kernel
theorem dX9_told_49 : decode cX9_told 49 = .ok (.ifCond .eq 34, 3) := by decide +kernel
theorem dX9_told_52 : decode cX9_told 52 = .ok (.iload_n 1, 1) := by decide +kernel
theorem dX9_told_53 : decode cX9_told 53 = .ok (.bipush 30, 2) := by decide +kernel
theorem dX9_told_55 : decode cX9_told 55 = .ok (.if_icmp .ge 15, 3) := by decide +kernel
theorem dX9_told_58 : decode cX9_told 58 = .ok (.aload_n 0, 1) := by decide +kernel
theorem dX9_told_59 : decode cX9_told 59 = .ok (.getfield 7, 3) := by decide +kernel
theorem dX9_told_62 : decode cX9_told 62 = .ok (.iload_n 1, 1) := by decide +kernel
theorem dX9_told_63 : decode cX9_told 63 = .ok (.bipush 20, 2) := by decide +kernel
theorem dX9_told_65 : decode cX9_told 65 = .ok (.isub, 1) := by decide +kernel
theorem dX9_told_66 : decode cX9_told 66 = .ok (.iaload, 1) := by decide +kernel
theorem dX9_told_67 : decode cX9_told 67 = .ok (.goto 12, 3) := by decide +kernel
theorem dX9_told_70 : decode cX9_told 70 = .ok (.aload_n 0, 1) := by decide +kernel
theorem dX9_told_71 : decode cX9_told 71 = .ok (.getfield 13, 3) := by decide +kernel
theorem dX9_told_74 : decode cX9_told 74 = .ok (.iload_n 1, 1) := by decide +kernel
theorem dX9_told_75 : decode cX9_told 75 = .ok (.bipush 30, 2) := by decide +kernel
theorem dX9_told_77 : decode cX9_told 77 = .ok (.isub, 1) := by decide +kernel
theorem dX9_told_78 : decode cX9_told 78 = .ok (.iaload, 1) := by decide +kernel
theorem dX9_told_79 : decode cX9_told 79 = .ok (.bipush 100, 2) := by decide +kernel
theorem dX9_told_81 : decode cX9_told 81 = .ok (.iadd, 1) := by decide +kernel
theorem dX9_told_82 : decode cX9_told 82 = .ok (.ireturn, 1) := by decide +kernel
theorem dX9_told_83 : decode cX9_told 83 = .ok (.iload_n 1, 1) := by decide +kernel
theorem dX9_told_84 : decode cX9_told 84 = .ok (.tableswitch 88 0 7 #[48, 53, 58, 63, 68, 73, 78, 83], 48) := by decide +kernel
theorem dX9_told_132 : decode cX9_told 132 = .ok (.aload_n 0, 1) := by decide +kernel
theorem dX9_told_133 : decode cX9_told 133 = .ok (.getfield 95, 3) := by decide +kernel
theorem dX9_told_136 : decode cX9_told 136 = .ok (.ireturn, 1) := by decide +kernel
theorem dX9_told_137 : decode cX9_told 137 = .ok (.aload_n 0, 1) := by decide +kernel
theorem dX9_told_138 : decode cX9_told 138 = .ok (.getfield 50, 3) := by decide +kernel
theorem dX9_told_141 : decode cX9_told 141 = .ok (.ireturn, 1) := by decide +kernel
theorem dX9_told_142 : decode cX9_told 142 = .ok (.aload_n 0, 1) := by decide +kernel
theorem dX9_told_143 : decode cX9_told 143 = .ok (.getfield 54, 3) := by decide +kernel
theorem dX9_told_146 : decode cX9_told 146 = .ok (.ireturn, 1) := by decide +kernel
theorem dX9_told_147 : decode cX9_told 147 = .ok (.aload_n 0, 1) := by decide +kernel
theorem dX9_told_148 : decode cX9_told 148 = .ok (.getfield 57, 3) := by decide +kernel
theorem dX9_told_151 : decode cX9_told 151 = .ok (.ireturn, 1) := by decide +kernel
theorem dX9_told_152 : decode cX9_told 152 = .ok (.aload_n 0, 1) := by decide +kernel
theorem dX9_told_153 : decode cX9_told 153 = .ok (.getfield 60, 3) := by decide +kernel
theorem dX9_told_156 : decode cX9_told 156 = .ok (.ireturn, 1) := by decide +kernel
theorem dX9_told_157 : decode cX9_told 157 = .ok (.aload_n 0, 1) := by decide +kernel
theorem dX9_told_158 : decode cX9_told 158 = .ok (.getfield 63, 3) := by decide +kernel
theorem dX9_told_161 : decode cX9_told 161 = .ok (.ireturn, 1) := by decide +kernel
theorem dX9_told_162 : decode cX9_told 162 = .ok (.aload_n 0, 1) := by decide +kernel
theorem dX9_told_163 : decode cX9_told 163 = .ok (.getfield 66, 3) := by decide +kernel
theorem dX9_told_166 : decode cX9_told 166 = .ok (.ireturn, 1) := by decide +kernel
theorem dX9_told_167 : decode cX9_told 167 = .ok (.aload_n 0, 1) := by decide +kernel
theorem dX9_told_168 : decode cX9_told 168 = .ok (.getfield 214, 3) := by decide +kernel
theorem dX9_told_171 : decode cX9_told 171 = .ok (.ireturn, 1) := by decide +kernel
theorem dX9_told_172 : decode cX9_told 172 = .ok (.bipush (-2), 2) := by decide +kernel
theorem dX9_told_174 : decode cX9_told 174 = .ok (.ireturn, 1) := by decide +kernel
end
section
/-! decode rows, as claim/NAMES.whole.lean.txt prints them -/
theorem dL_law_0 : decode cL_law 0 = .ok (.new 7, 3) := by decide +kernel
theorem dL_law_3 : decode cL_law 3 = .ok (.dup, 1) := by decide +kernel
theorem dL_law_4 : decode cL_law 4 = .ok (.invokespecial 9, 3) := by decide +kernel
theorem dL_law_7 : decode cL_law 7 = .ok (.astore_n 1, 1) := by decide +kernel
theorem dL_law_8 : decode cL_law 8 = .ok (.new 10, 3) := by decide +kernel
theorem dL_law_11 : decode cL_law 11 = .ok (.dup, 1) := by decide +kernel
theorem dL_law_12 : decode cL_law 12 = .ok (.invokespecial 12, 3) := by decide +kernel
theorem dL_law_15 : decode cL_law 15 = .ok (.astore_n 2, 1) := by decide +kernel
theorem dL_law_16 : decode cL_law 16 = .ok (.iconst 0, 1) := by decide +kernel
theorem dL_law_17 : decode cL_law 17 = .ok (.istore_n 3, 1) := by decide +kernel
theorem dL_law_18 : decode cL_law 18 = .ok (.iload_n 3, 1) := by decide +kernel
theorem dL_law_19 : decode cL_law 19 = .ok (.aload_n 0, 1) := by decide +kernel
theorem dL_law_20 : decode cL_law 20 = .ok (.arraylength, 1) := by decide +kernel
theorem dL_law_21 : decode cL_law 21 = .ok (.iconst 5, 1) := by decide +kernel
theorem dL_law_22 : decode cL_law 22 = .ok (.isub, 1) := by decide +kernel
theorem dL_law_23 : decode cL_law 23 = .ok (.if_icmp .gt 794, 3) := by decide +kernel
theorem dL_law_26 : decode cL_law 26 = .ok (.aload_n 0, 1) := by decide +kernel
theorem dL_law_27 : decode cL_law 27 = .ok (.iload_n 3, 1) := by decide +kernel
theorem dL_law_28 : decode cL_law 28 = .ok (.iaload, 1) := by decide +kernel
theorem dL_law_29 : decode cL_law 29 = .ok (.bipush 31, 2) := by decide +kernel
theorem dL_law_31 : decode cL_law 31 = .ok (.iand, 1) := by decide +kernel
theorem dL_law_32 : decode cL_law 32 = .ok (.tableswitch 779 0 22 #[108, 151, 184, 217, 240, 253, 266, 299, 322, 345, 378, 411, 444, 477, 531, 565, 598, 611, 634, 667, 710, 733, 756], 108) := by decide +kernel
theorem dL_law_140 : decode cL_law 140 = .ok (.aload_n 1, 1) := by decide +kernel
theorem dL_law_141 : decode cL_law 141 = .ok (.aload_n 0, 1) := by decide +kernel
theorem dL_law_142 : decode cL_law 142 = .ok (.iload_n 3, 1) := by decide +kernel
theorem dL_law_143 : decode cL_law 143 = .ok (.iconst 1, 1) := by decide +kernel
theorem dL_law_144 : decode cL_law 144 = .ok (.iadd, 1) := by decide +kernel
theorem dL_law_145 : decode cL_law 145 = .ok (.iaload, 1) := by decide +kernel
theorem dL_law_146 : decode cL_law 146 = .ok (.aload_n 0, 1) := by decide +kernel
theorem dL_law_147 : decode cL_law 147 = .ok (.iload_n 3, 1) := by decide +kernel
theorem dL_law_148 : decode cL_law 148 = .ok (.iconst 2, 1) := by decide +kernel
theorem dL_law_149 : decode cL_law 149 = .ok (.iadd, 1) := by decide +kernel
theorem dL_law_150 : decode cL_law 150 = .ok (.iaload, 1) := by decide +kernel
theorem dL_law_151 : decode cL_law 151 = .ok (.aload_n 0, 1) := by decide +kernel
theorem dL_law_152 : decode cL_law 152 = .ok (.iload_n 3, 1) := by decide +kernel
theorem dL_law_153 : decode cL_law 153 = .ok (.iconst 3, 1) := by decide +kernel
theorem dL_law_154 : decode cL_law 154 = .ok (.iadd, 1) := by decide +kernel
theorem dL_law_155 : decode cL_law 155 = .ok (.iaload, 1) := by decide +kernel
theorem dL_law_156 : decode cL_law 156 = .ok (.invokevirtual 13, 3) := by decide +kernel
theorem dL_law_159 : decode cL_law 159 = .ok (.aload_n 2, 1) := by decide +kernel
theorem dL_law_160 : decode cL_law 160 = .ok (.aload_n 0, 1) := by decide +kernel
theorem dL_law_161 : decode cL_law 161 = .ok (.iload_n 3, 1) := by decide +kernel
theorem dL_law_162 : decode cL_law 162 = .ok (.iconst 1, 1) := by decide +kernel
theorem dL_law_163 : decode cL_law 163 = .ok (.iadd, 1) := by decide +kernel
theorem dL_law_164 : decode cL_law 164 = .ok (.iaload, 1) := by decide +kernel
theorem dL_law_165 : decode cL_law 165 = .ok (.aload_n 0, 1) := by decide +kernel
theorem dL_law_166 : decode cL_law 166 = .ok (.iload_n 3, 1) := by decide +kernel
theorem dL_law_167 : decode cL_law 167 = .ok (.iconst 2, 1) := by decide +kernel
theorem dL_law_168 : decode cL_law 168 = .ok (.iadd, 1) := by decide +kernel
theorem dL_law_169 : decode cL_law 169 = .ok (.iaload, 1) := by decide +kernel
theorem dL_law_170 : decode cL_law 170 = .ok (.aload_n 0, 1) := by decide +kernel
theorem dL_law_171 : decode cL_law 171 = .ok (.iload_n 3, 1) := by decide +kernel
theorem dL_law_172 : decode cL_law 172 = .ok (.iconst 3, 1) := by decide +kernel
theorem dL_law_173 : decode cL_law 173 = .ok (.iadd, 1) := by decide +kernel
theorem dL_law_174 : decode cL_law 174 = .ok (.iaload, 1) := by decide +kernel
theorem dL_law_175 : decode cL_law 175 = .ok (.invokevirtual 17, 3) := by decide +kernel
theorem dL_law_178 : decode cL_law 178 = .ok (.if_icmp .eq 633, 3) := by decide +kernel
theorem dL_law_181 : decode cL_law 181 = .ok (.iconst 0, 1) := by decide +kernel
theorem dL_law_182 : decode cL_law 182 = .ok (.ireturn, 1) := by decide +kernel
theorem dL_law_183 : decode cL_law 183 = .ok (.aload_n 1, 1) := by decide +kernel
theorem dL_law_184 : decode cL_law 184 = .ok (.aload_n 0, 1) := by decide +kernel
theorem dL_law_185 : decode cL_law 185 = .ok (.iload_n 3, 1) := by decide +kernel
theorem dL_law_186 : decode cL_law 186 = .ok (.iconst 1, 1) := by decide +kernel
theorem dL_law_187 : decode cL_law 187 = .ok (.iadd, 1) := by decide +kernel
theorem dL_law_188 : decode cL_law 188 = .ok (.iaload, 1) := by decide +kernel
theorem dL_law_189 : decode cL_law 189 = .ok (.aload_n 0, 1) := by decide +kernel
theorem dL_law_190 : decode cL_law 190 = .ok (.iload_n 3, 1) := by decide +kernel
theorem dL_law_191 : decode cL_law 191 = .ok (.iconst 2, 1) := by decide +kernel
theorem dL_law_192 : decode cL_law 192 = .ok (.iadd, 1) := by decide +kernel
theorem dL_law_193 : decode cL_law 193 = .ok (.iaload, 1) := by decide +kernel
theorem dL_law_194 : decode cL_law 194 = .ok (.invokevirtual 18, 3) := by decide +kernel
theorem dL_law_197 : decode cL_law 197 = .ok (.aload_n 2, 1) := by decide +kernel
theorem dL_law_198 : decode cL_law 198 = .ok (.aload_n 0, 1) := by decide +kernel
theorem dL_law_199 : decode cL_law 199 = .ok (.iload_n 3, 1) := by decide +kernel
theorem dL_law_200 : decode cL_law 200 = .ok (.iconst 1, 1) := by decide +kernel
theorem dL_law_201 : decode cL_law 201 = .ok (.iadd, 1) := by decide +kernel
theorem dL_law_202 : decode cL_law 202 = .ok (.iaload, 1) := by decide +kernel
theorem dL_law_203 : decode cL_law 203 = .ok (.aload_n 0, 1) := by decide +kernel
theorem dL_law_204 : decode cL_law 204 = .ok (.iload_n 3, 1) := by decide +kernel
theorem dL_law_205 : decode cL_law 205 = .ok (.iconst 2, 1) := by decide +kernel
theorem dL_law_206 : decode cL_law 206 = .ok (.iadd, 1) := by decide +kernel
theorem dL_law_207 : decode cL_law 207 = .ok (.iaload, 1) := by decide +kernel
theorem dL_law_208 : decode cL_law 208 = .ok (.invokevirtual 22, 3) := by decide +kernel
theorem dL_law_211 : decode cL_law 211 = .ok (.if_icmp .eq 600, 3) := by decide +kernel
theorem dL_law_214 : decode cL_law 214 = .ok (.iconst 0, 1) := by decide +kernel
theorem dL_law_215 : decode cL_law 215 = .ok (.ireturn, 1) := by decide +kernel
theorem dL_law_216 : decode cL_law 216 = .ok (.aload_n 1, 1) := by decide +kernel
theorem dL_law_217 : decode cL_law 217 = .ok (.aload_n 0, 1) := by decide +kernel
theorem dL_law_218 : decode cL_law 218 = .ok (.iload_n 3, 1) := by decide +kernel
theorem dL_law_219 : decode cL_law 219 = .ok (.iconst 1, 1) := by decide +kernel
theorem dL_law_220 : decode cL_law 220 = .ok (.iadd, 1) := by decide +kernel
theorem dL_law_221 : decode cL_law 221 = .ok (.iaload, 1) := by decide +kernel
theorem dL_law_222 : decode cL_law 222 = .ok (.aload_n 0, 1) := by decide +kernel
theorem dL_law_223 : decode cL_law 223 = .ok (.iload_n 3, 1) := by decide +kernel
theorem dL_law_224 : decode cL_law 224 = .ok (.iconst 2, 1) := by decide +kernel
theorem dL_law_225 : decode cL_law 225 = .ok (.iadd, 1) := by decide +kernel
theorem dL_law_226 : decode cL_law 226 = .ok (.iaload, 1) := by decide +kernel
theorem dL_law_227 : decode cL_law 227 = .ok (.invokevirtual 23, 3) := by decide +kernel
theorem dL_law_230 : decode cL_law 230 = .ok (.aload_n 2, 1) := by decide +kernel
theorem dL_law_231 : decode cL_law 231 = .ok (.aload_n 0, 1) := by decide +kernel
theorem dL_law_232 : decode cL_law 232 = .ok (.iload_n 3, 1) := by decide +kernel
theorem dL_law_233 : decode cL_law 233 = .ok (.iconst 1, 1) := by decide +kernel
theorem dL_law_234 : decode cL_law 234 = .ok (.iadd, 1) := by decide +kernel
theorem dL_law_235 : decode cL_law 235 = .ok (.iaload, 1) := by decide +kernel
theorem dL_law_236 : decode cL_law 236 = .ok (.aload_n 0, 1) := by decide +kernel
theorem dL_law_237 : decode cL_law 237 = .ok (.iload_n 3, 1) := by decide +kernel
theorem dL_law_238 : decode cL_law 238 = .ok (.iconst 2, 1) := by decide +kernel
theorem dL_law_239 : decode cL_law 239 = .ok (.iadd, 1) := by decide +kernel
theorem dL_law_240 : decode cL_law 240 = .ok (.iaload, 1) := by decide +kernel
theorem dL_law_241 : decode cL_law 241 = .ok (.invokevirtual 26, 3) := by decide +kernel
theorem dL_law_244 : decode cL_law 244 = .ok (.if_icmp .eq 567, 3) := by decide +kernel
theorem dL_law_247 : decode cL_law 247 = .ok (.iconst 0, 1) := by decide +kernel
theorem dL_law_248 : decode cL_law 248 = .ok (.ireturn, 1) := by decide +kernel
theorem dL_law_249 : decode cL_law 249 = .ok (.aload_n 1, 1) := by decide +kernel
theorem dL_law_250 : decode cL_law 250 = .ok (.aload_n 0, 1) := by decide +kernel
theorem dL_law_251 : decode cL_law 251 = .ok (.iload_n 3, 1) := by decide +kernel
theorem dL_law_252 : decode cL_law 252 = .ok (.iconst 1, 1) := by decide +kernel
theorem dL_law_253 : decode cL_law 253 = .ok (.iadd, 1) := by decide +kernel
theorem dL_law_254 : decode cL_law 254 = .ok (.iaload, 1) := by decide +kernel
theorem dL_law_255 : decode cL_law 255 = .ok (.invokevirtual 27, 3) := by decide +kernel
theorem dL_law_258 : decode cL_law 258 = .ok (.aload_n 2, 1) := by decide +kernel
theorem dL_law_259 : decode cL_law 259 = .ok (.aload_n 0, 1) := by decide +kernel
theorem dL_law_260 : decode cL_law 260 = .ok (.iload_n 3, 1) := by decide +kernel
theorem dL_law_261 : decode cL_law 261 = .ok (.iconst 1, 1) := by decide +kernel
theorem dL_law_262 : decode cL_law 262 = .ok (.iadd, 1) := by decide +kernel
theorem dL_law_263 : decode cL_law 263 = .ok (.iaload, 1) := by decide +kernel
theorem dL_law_264 : decode cL_law 264 = .ok (.invokevirtual 31, 3) := by decide +kernel
theorem dL_law_267 : decode cL_law 267 = .ok (.if_icmp .eq 544, 3) := by decide +kernel
theorem dL_law_270 : decode cL_law 270 = .ok (.iconst 0, 1) := by decide +kernel
theorem dL_law_271 : decode cL_law 271 = .ok (.ireturn, 1) := by decide +kernel
theorem dL_law_272 : decode cL_law 272 = .ok (.aload_n 1, 1) := by decide +kernel
theorem dL_law_273 : decode cL_law 273 = .ok (.invokevirtual 32, 3) := by decide +kernel
theorem dL_law_276 : decode cL_law 276 = .ok (.aload_n 2, 1) := by decide +kernel
theorem dL_law_277 : decode cL_law 277 = .ok (.invokevirtual 36, 3) := by decide +kernel
theorem dL_law_280 : decode cL_law 280 = .ok (.if_icmp .eq 531, 3) := by decide +kernel
theorem dL_law_283 : decode cL_law 283 = .ok (.iconst 0, 1) := by decide +kernel
theorem dL_law_284 : decode cL_law 284 = .ok (.ireturn, 1) := by decide +kernel
theorem dL_law_285 : decode cL_law 285 = .ok (.aload_n 1, 1) := by decide +kernel
theorem dL_law_286 : decode cL_law 286 = .ok (.invokevirtual 37, 3) := by decide +kernel
theorem dL_law_289 : decode cL_law 289 = .ok (.aload_n 2, 1) := by decide +kernel
theorem dL_law_290 : decode cL_law 290 = .ok (.invokevirtual 40, 3) := by decide +kernel
theorem dL_law_293 : decode cL_law 293 = .ok (.if_icmp .eq 518, 3) := by decide +kernel
theorem dL_law_296 : decode cL_law 296 = .ok (.iconst 0, 1) := by decide +kernel
theorem dL_law_297 : decode cL_law 297 = .ok (.ireturn, 1) := by decide +kernel
theorem dL_law_298 : decode cL_law 298 = .ok (.aload_n 1, 1) := by decide +kernel
theorem dL_law_299 : decode cL_law 299 = .ok (.aload_n 0, 1) := by decide +kernel
theorem dL_law_300 : decode cL_law 300 = .ok (.iload_n 3, 1) := by decide +kernel
theorem dL_law_301 : decode cL_law 301 = .ok (.iconst 1, 1) := by decide +kernel
theorem dL_law_302 : decode cL_law 302 = .ok (.iadd, 1) := by decide +kernel
theorem dL_law_303 : decode cL_law 303 = .ok (.iaload, 1) := by decide +kernel
theorem dL_law_304 : decode cL_law 304 = .ok (.aload_n 0, 1) := by decide +kernel
theorem dL_law_305 : decode cL_law 305 = .ok (.iload_n 3, 1) := by decide +kernel
theorem dL_law_306 : decode cL_law 306 = .ok (.iconst 2, 1) := by decide +kernel
theorem dL_law_307 : decode cL_law 307 = .ok (.iadd, 1) := by decide +kernel
theorem dL_law_308 : decode cL_law 308 = .ok (.iaload, 1) := by decide +kernel
theorem dL_law_309 : decode cL_law 309 = .ok (.invokevirtual 41, 3) := by decide +kernel
theorem dL_law_312 : decode cL_law 312 = .ok (.aload_n 2, 1) := by decide +kernel
theorem dL_law_313 : decode cL_law 313 = .ok (.aload_n 0, 1) := by decide +kernel
theorem dL_law_314 : decode cL_law 314 = .ok (.iload_n 3, 1) := by decide +kernel
theorem dL_law_315 : decode cL_law 315 = .ok (.iconst 1, 1) := by decide +kernel
theorem dL_law_316 : decode cL_law 316 = .ok (.iadd, 1) := by decide +kernel
theorem dL_law_317 : decode cL_law 317 = .ok (.iaload, 1) := by decide +kernel
theorem dL_law_318 : decode cL_law 318 = .ok (.aload_n 0, 1) := by decide +kernel
theorem dL_law_319 : decode cL_law 319 = .ok (.iload_n 3, 1) := by decide +kernel
theorem dL_law_320 : decode cL_law 320 = .ok (.iconst 2, 1) := by decide +kernel
theorem dL_law_321 : decode cL_law 321 = .ok (.iadd, 1) := by decide +kernel
theorem dL_law_322 : decode cL_law 322 = .ok (.iaload, 1) := by decide +kernel
theorem dL_law_323 : decode cL_law 323 = .ok (.invokevirtual 44, 3) := by decide +kernel
theorem dL_law_326 : decode cL_law 326 = .ok (.if_icmp .eq 485, 3) := by decide +kernel
theorem dL_law_329 : decode cL_law 329 = .ok (.iconst 0, 1) := by decide +kernel
theorem dL_law_330 : decode cL_law 330 = .ok (.ireturn, 1) := by decide +kernel
theorem dL_law_331 : decode cL_law 331 = .ok (.aload_n 1, 1) := by decide +kernel
theorem dL_law_332 : decode cL_law 332 = .ok (.aload_n 0, 1) := by decide +kernel
theorem dL_law_333 : decode cL_law 333 = .ok (.iload_n 3, 1) := by decide +kernel
theorem dL_law_334 : decode cL_law 334 = .ok (.iconst 1, 1) := by decide +kernel
theorem dL_law_335 : decode cL_law 335 = .ok (.iadd, 1) := by decide +kernel
theorem dL_law_336 : decode cL_law 336 = .ok (.iaload, 1) := by decide +kernel
theorem dL_law_337 : decode cL_law 337 = .ok (.invokevirtual 45, 3) := by decide +kernel
theorem dL_law_340 : decode cL_law 340 = .ok (.aload_n 2, 1) := by decide +kernel
theorem dL_law_341 : decode cL_law 341 = .ok (.aload_n 0, 1) := by decide +kernel
theorem dL_law_342 : decode cL_law 342 = .ok (.iload_n 3, 1) := by decide +kernel
theorem dL_law_343 : decode cL_law 343 = .ok (.iconst 1, 1) := by decide +kernel
theorem dL_law_344 : decode cL_law 344 = .ok (.iadd, 1) := by decide +kernel
theorem dL_law_345 : decode cL_law 345 = .ok (.iaload, 1) := by decide +kernel
theorem dL_law_346 : decode cL_law 346 = .ok (.invokevirtual 48, 3) := by decide +kernel
theorem dL_law_349 : decode cL_law 349 = .ok (.if_icmp .eq 462, 3) := by decide +kernel
theorem dL_law_352 : decode cL_law 352 = .ok (.iconst 0, 1) := by decide +kernel
theorem dL_law_353 : decode cL_law 353 = .ok (.ireturn, 1) := by decide +kernel
theorem dL_law_354 : decode cL_law 354 = .ok (.aload_n 1, 1) := by decide +kernel
theorem dL_law_355 : decode cL_law 355 = .ok (.aload_n 0, 1) := by decide +kernel
theorem dL_law_356 : decode cL_law 356 = .ok (.iload_n 3, 1) := by decide +kernel
theorem dL_law_357 : decode cL_law 357 = .ok (.iconst 1, 1) := by decide +kernel
theorem dL_law_358 : decode cL_law 358 = .ok (.iadd, 1) := by decide +kernel
theorem dL_law_359 : decode cL_law 359 = .ok (.iaload, 1) := by decide +kernel
theorem dL_law_360 : decode cL_law 360 = .ok (.invokevirtual 49, 3) := by decide +kernel
theorem dL_law_363 : decode cL_law 363 = .ok (.aload_n 2, 1) := by decide +kernel
theorem dL_law_364 : decode cL_law 364 = .ok (.aload_n 0, 1) := by decide +kernel
theorem dL_law_365 : decode cL_law 365 = .ok (.iload_n 3, 1) := by decide +kernel
theorem dL_law_366 : decode cL_law 366 = .ok (.iconst 1, 1) := by decide +kernel
theorem dL_law_367 : decode cL_law 367 = .ok (.iadd, 1) := by decide +kernel
theorem dL_law_368 : decode cL_law 368 = .ok (.iaload, 1) := by decide +kernel
theorem dL_law_369 : decode cL_law 369 = .ok (.invokevirtual 52, 3) := by decide +kernel
theorem dL_law_372 : decode cL_law 372 = .ok (.if_icmp .eq 439, 3) := by decide +kernel
theorem dL_law_375 : decode cL_law 375 = .ok (.iconst 0, 1) := by decide +kernel
theorem dL_law_376 : decode cL_law 376 = .ok (.ireturn, 1) := by decide +kernel
theorem dL_law_377 : decode cL_law 377 = .ok (.aload_n 1, 1) := by decide +kernel
theorem dL_law_378 : decode cL_law 378 = .ok (.aload_n 0, 1) := by decide +kernel
theorem dL_law_379 : decode cL_law 379 = .ok (.iload_n 3, 1) := by decide +kernel
theorem dL_law_380 : decode cL_law 380 = .ok (.iconst 1, 1) := by decide +kernel
theorem dL_law_381 : decode cL_law 381 = .ok (.iadd, 1) := by decide +kernel
theorem dL_law_382 : decode cL_law 382 = .ok (.iaload, 1) := by decide +kernel
theorem dL_law_383 : decode cL_law 383 = .ok (.aload_n 0, 1) := by decide +kernel
theorem dL_law_384 : decode cL_law 384 = .ok (.iload_n 3, 1) := by decide +kernel
theorem dL_law_385 : decode cL_law 385 = .ok (.iconst 2, 1) := by decide +kernel
theorem dL_law_386 : decode cL_law 386 = .ok (.iadd, 1) := by decide +kernel
theorem dL_law_387 : decode cL_law 387 = .ok (.iaload, 1) := by decide +kernel
theorem dL_law_388 : decode cL_law 388 = .ok (.invokevirtual 53, 3) := by decide +kernel
theorem dL_law_391 : decode cL_law 391 = .ok (.aload_n 2, 1) := by decide +kernel
theorem dL_law_392 : decode cL_law 392 = .ok (.aload_n 0, 1) := by decide +kernel
theorem dL_law_393 : decode cL_law 393 = .ok (.iload_n 3, 1) := by decide +kernel
theorem dL_law_394 : decode cL_law 394 = .ok (.iconst 1, 1) := by decide +kernel
theorem dL_law_395 : decode cL_law 395 = .ok (.iadd, 1) := by decide +kernel
theorem dL_law_396 : decode cL_law 396 = .ok (.iaload, 1) := by decide +kernel
theorem dL_law_397 : decode cL_law 397 = .ok (.aload_n 0, 1) := by decide +kernel
theorem dL_law_398 : decode cL_law 398 = .ok (.iload_n 3, 1) := by decide +kernel
theorem dL_law_399 : decode cL_law 399 = .ok (.iconst 2, 1) := by decide +kernel
theorem dL_law_400 : decode cL_law 400 = .ok (.iadd, 1) := by decide +kernel
theorem dL_law_401 : decode cL_law 401 = .ok (.iaload, 1) := by decide +kernel
theorem dL_law_402 : decode cL_law 402 = .ok (.invokevirtual 56, 3) := by decide +kernel
theorem dL_law_405 : decode cL_law 405 = .ok (.if_icmp .eq 406, 3) := by decide +kernel
theorem dL_law_408 : decode cL_law 408 = .ok (.iconst 0, 1) := by decide +kernel
theorem dL_law_409 : decode cL_law 409 = .ok (.ireturn, 1) := by decide +kernel
theorem dL_law_410 : decode cL_law 410 = .ok (.aload_n 1, 1) := by decide +kernel
theorem dL_law_411 : decode cL_law 411 = .ok (.aload_n 0, 1) := by decide +kernel
theorem dL_law_412 : decode cL_law 412 = .ok (.iload_n 3, 1) := by decide +kernel
theorem dL_law_413 : decode cL_law 413 = .ok (.iconst 1, 1) := by decide +kernel
theorem dL_law_414 : decode cL_law 414 = .ok (.iadd, 1) := by decide +kernel
theorem dL_law_415 : decode cL_law 415 = .ok (.iaload, 1) := by decide +kernel
theorem dL_law_416 : decode cL_law 416 = .ok (.aload_n 0, 1) := by decide +kernel
theorem dL_law_417 : decode cL_law 417 = .ok (.iload_n 3, 1) := by decide +kernel
theorem dL_law_418 : decode cL_law 418 = .ok (.iconst 2, 1) := by decide +kernel
theorem dL_law_419 : decode cL_law 419 = .ok (.iadd, 1) := by decide +kernel
theorem dL_law_420 : decode cL_law 420 = .ok (.iaload, 1) := by decide +kernel
theorem dL_law_421 : decode cL_law 421 = .ok (.invokevirtual 57, 3) := by decide +kernel
theorem dL_law_424 : decode cL_law 424 = .ok (.aload_n 2, 1) := by decide +kernel
theorem dL_law_425 : decode cL_law 425 = .ok (.aload_n 0, 1) := by decide +kernel
theorem dL_law_426 : decode cL_law 426 = .ok (.iload_n 3, 1) := by decide +kernel
theorem dL_law_427 : decode cL_law 427 = .ok (.iconst 1, 1) := by decide +kernel
theorem dL_law_428 : decode cL_law 428 = .ok (.iadd, 1) := by decide +kernel
theorem dL_law_429 : decode cL_law 429 = .ok (.iaload, 1) := by decide +kernel
theorem dL_law_430 : decode cL_law 430 = .ok (.aload_n 0, 1) := by decide +kernel
theorem dL_law_431 : decode cL_law 431 = .ok (.iload_n 3, 1) := by decide +kernel
theorem dL_law_432 : decode cL_law 432 = .ok (.iconst 2, 1) := by decide +kernel
theorem dL_law_433 : decode cL_law 433 = .ok (.iadd, 1) := by decide +kernel
theorem dL_law_434 : decode cL_law 434 = .ok (.iaload, 1) := by decide +kernel
theorem dL_law_435 : decode cL_law 435 = .ok (.invokevirtual 60, 3) := by decide +kernel
theorem dL_law_438 : decode cL_law 438 = .ok (.if_icmp .eq 373, 3) := by decide +kernel
theorem dL_law_441 : decode cL_law 441 = .ok (.iconst 0, 1) := by decide +kernel
theorem dL_law_442 : decode cL_law 442 = .ok (.ireturn, 1) := by decide +kernel
theorem dL_law_443 : decode cL_law 443 = .ok (.aload_n 1, 1) := by decide +kernel
theorem dL_law_444 : decode cL_law 444 = .ok (.aload_n 0, 1) := by decide +kernel
theorem dL_law_445 : decode cL_law 445 = .ok (.iload_n 3, 1) := by decide +kernel
theorem dL_law_446 : decode cL_law 446 = .ok (.iconst 1, 1) := by decide +kernel
theorem dL_law_447 : decode cL_law 447 = .ok (.iadd, 1) := by decide +kernel
theorem dL_law_448 : decode cL_law 448 = .ok (.iaload, 1) := by decide +kernel
theorem dL_law_449 : decode cL_law 449 = .ok (.aload_n 0, 1) := by decide +kernel
theorem dL_law_450 : decode cL_law 450 = .ok (.iload_n 3, 1) := by decide +kernel
theorem dL_law_451 : decode cL_law 451 = .ok (.iconst 2, 1) := by decide +kernel
theorem dL_law_452 : decode cL_law 452 = .ok (.iadd, 1) := by decide +kernel
theorem dL_law_453 : decode cL_law 453 = .ok (.iaload, 1) := by decide +kernel
theorem dL_law_454 : decode cL_law 454 = .ok (.invokevirtual 61, 3) := by decide +kernel
theorem dL_law_457 : decode cL_law 457 = .ok (.aload_n 2, 1) := by decide +kernel
theorem dL_law_458 : decode cL_law 458 = .ok (.aload_n 0, 1) := by decide +kernel
theorem dL_law_459 : decode cL_law 459 = .ok (.iload_n 3, 1) := by decide +kernel
theorem dL_law_460 : decode cL_law 460 = .ok (.iconst 1, 1) := by decide +kernel
theorem dL_law_461 : decode cL_law 461 = .ok (.iadd, 1) := by decide +kernel
theorem dL_law_462 : decode cL_law 462 = .ok (.iaload, 1) := by decide +kernel
theorem dL_law_463 : decode cL_law 463 = .ok (.aload_n 0, 1) := by decide +kernel
theorem dL_law_464 : decode cL_law 464 = .ok (.iload_n 3, 1) := by decide +kernel
theorem dL_law_465 : decode cL_law 465 = .ok (.iconst 2, 1) := by decide +kernel
theorem dL_law_466 : decode cL_law 466 = .ok (.iadd, 1) := by decide +kernel
theorem dL_law_467 : decode cL_law 467 = .ok (.iaload, 1) := by decide +kernel
theorem dL_law_468 : decode cL_law 468 = .ok (.invokevirtual 64, 3) := by decide +kernel
theorem dL_law_471 : decode cL_law 471 = .ok (.if_icmp .eq 340, 3) := by decide +kernel
theorem dL_law_474 : decode cL_law 474 = .ok (.iconst 0, 1) := by decide +kernel
theorem dL_law_475 : decode cL_law 475 = .ok (.ireturn, 1) := by decide +kernel
theorem dL_law_476 : decode cL_law 476 = .ok (.aload_n 1, 1) := by decide +kernel
theorem dL_law_477 : decode cL_law 477 = .ok (.aload_n 0, 1) := by decide +kernel
theorem dL_law_478 : decode cL_law 478 = .ok (.iload_n 3, 1) := by decide +kernel
theorem dL_law_479 : decode cL_law 479 = .ok (.iconst 1, 1) := by decide +kernel
theorem dL_law_480 : decode cL_law 480 = .ok (.iadd, 1) := by decide +kernel
theorem dL_law_481 : decode cL_law 481 = .ok (.iaload, 1) := by decide +kernel
theorem dL_law_482 : decode cL_law 482 = .ok (.aload_n 0, 1) := by decide +kernel
theorem dL_law_483 : decode cL_law 483 = .ok (.iload_n 3, 1) := by decide +kernel
theorem dL_law_484 : decode cL_law 484 = .ok (.iconst 2, 1) := by decide +kernel
theorem dL_law_485 : decode cL_law 485 = .ok (.iadd, 1) := by decide +kernel
theorem dL_law_486 : decode cL_law 486 = .ok (.iaload, 1) := by decide +kernel
theorem dL_law_487 : decode cL_law 487 = .ok (.invokevirtual 65, 3) := by decide +kernel
theorem dL_law_490 : decode cL_law 490 = .ok (.aload_n 2, 1) := by decide +kernel
theorem dL_law_491 : decode cL_law 491 = .ok (.aload_n 0, 1) := by decide +kernel
theorem dL_law_492 : decode cL_law 492 = .ok (.iload_n 3, 1) := by decide +kernel
theorem dL_law_493 : decode cL_law 493 = .ok (.iconst 1, 1) := by decide +kernel
theorem dL_law_494 : decode cL_law 494 = .ok (.iadd, 1) := by decide +kernel
theorem dL_law_495 : decode cL_law 495 = .ok (.iaload, 1) := by decide +kernel
theorem dL_law_496 : decode cL_law 496 = .ok (.aload_n 0, 1) := by decide +kernel
theorem dL_law_497 : decode cL_law 497 = .ok (.iload_n 3, 1) := by decide +kernel
theorem dL_law_498 : decode cL_law 498 = .ok (.iconst 2, 1) := by decide +kernel
theorem dL_law_499 : decode cL_law 499 = .ok (.iadd, 1) := by decide +kernel
theorem dL_law_500 : decode cL_law 500 = .ok (.iaload, 1) := by decide +kernel
theorem dL_law_501 : decode cL_law 501 = .ok (.invokevirtual 68, 3) := by decide +kernel
theorem dL_law_504 : decode cL_law 504 = .ok (.if_icmp .eq 307, 3) := by decide +kernel
theorem dL_law_507 : decode cL_law 507 = .ok (.iconst 0, 1) := by decide +kernel
theorem dL_law_508 : decode cL_law 508 = .ok (.ireturn, 1) := by decide +kernel
theorem dL_law_509 : decode cL_law 509 = .ok (.aload_n 1, 1) := by decide +kernel
theorem dL_law_510 : decode cL_law 510 = .ok (.aload_n 0, 1) := by decide +kernel
theorem dL_law_511 : decode cL_law 511 = .ok (.iload_n 3, 1) := by decide +kernel
theorem dL_law_512 : decode cL_law 512 = .ok (.iconst 1, 1) := by decide +kernel
theorem dL_law_513 : decode cL_law 513 = .ok (.iadd, 1) := by decide +kernel
theorem dL_law_514 : decode cL_law 514 = .ok (.iaload, 1) := by decide +kernel
theorem dL_law_515 : decode cL_law 515 = .ok (.aload_n 0, 1) := by decide +kernel
theorem dL_law_516 : decode cL_law 516 = .ok (.iload_n 3, 1) := by decide +kernel
theorem dL_law_517 : decode cL_law 517 = .ok (.iconst 2, 1) := by decide +kernel
theorem dL_law_518 : decode cL_law 518 = .ok (.iadd, 1) := by decide +kernel
theorem dL_law_519 : decode cL_law 519 = .ok (.iaload, 1) := by decide +kernel
theorem dL_law_520 : decode cL_law 520 = .ok (.aload_n 0, 1) := by decide +kernel
theorem dL_law_521 : decode cL_law 521 = .ok (.iload_n 3, 1) := by decide +kernel
theorem dL_law_522 : decode cL_law 522 = .ok (.iconst 3, 1) := by decide +kernel
theorem dL_law_523 : decode cL_law 523 = .ok (.iadd, 1) := by decide +kernel
theorem dL_law_524 : decode cL_law 524 = .ok (.iaload, 1) := by decide +kernel
theorem dL_law_525 : decode cL_law 525 = .ok (.aload_n 0, 1) := by decide +kernel
theorem dL_law_526 : decode cL_law 526 = .ok (.iload_n 3, 1) := by decide +kernel
theorem dL_law_527 : decode cL_law 527 = .ok (.iconst 4, 1) := by decide +kernel
theorem dL_law_528 : decode cL_law 528 = .ok (.iadd, 1) := by decide +kernel
theorem dL_law_529 : decode cL_law 529 = .ok (.iaload, 1) := by decide +kernel
theorem dL_law_530 : decode cL_law 530 = .ok (.invokevirtual 69, 3) := by decide +kernel
theorem dL_law_533 : decode cL_law 533 = .ok (.aload_n 2, 1) := by decide +kernel
theorem dL_law_534 : decode cL_law 534 = .ok (.aload_n 0, 1) := by decide +kernel
theorem dL_law_535 : decode cL_law 535 = .ok (.iload_n 3, 1) := by decide +kernel
theorem dL_law_536 : decode cL_law 536 = .ok (.iconst 1, 1) := by decide +kernel
theorem dL_law_537 : decode cL_law 537 = .ok (.iadd, 1) := by decide +kernel
theorem dL_law_538 : decode cL_law 538 = .ok (.iaload, 1) := by decide +kernel
theorem dL_law_539 : decode cL_law 539 = .ok (.aload_n 0, 1) := by decide +kernel
theorem dL_law_540 : decode cL_law 540 = .ok (.iload_n 3, 1) := by decide +kernel
theorem dL_law_541 : decode cL_law 541 = .ok (.iconst 2, 1) := by decide +kernel
theorem dL_law_542 : decode cL_law 542 = .ok (.iadd, 1) := by decide +kernel
theorem dL_law_543 : decode cL_law 543 = .ok (.iaload, 1) := by decide +kernel
theorem dL_law_544 : decode cL_law 544 = .ok (.aload_n 0, 1) := by decide +kernel
theorem dL_law_545 : decode cL_law 545 = .ok (.iload_n 3, 1) := by decide +kernel
theorem dL_law_546 : decode cL_law 546 = .ok (.iconst 3, 1) := by decide +kernel
theorem dL_law_547 : decode cL_law 547 = .ok (.iadd, 1) := by decide +kernel
theorem dL_law_548 : decode cL_law 548 = .ok (.iaload, 1) := by decide +kernel
theorem dL_law_549 : decode cL_law 549 = .ok (.aload_n 0, 1) := by decide +kernel
theorem dL_law_550 : decode cL_law 550 = .ok (.iload_n 3, 1) := by decide +kernel
theorem dL_law_551 : decode cL_law 551 = .ok (.iconst 4, 1) := by decide +kernel
theorem dL_law_552 : decode cL_law 552 = .ok (.iadd, 1) := by decide +kernel
theorem dL_law_553 : decode cL_law 553 = .ok (.iaload, 1) := by decide +kernel
theorem dL_law_554 : decode cL_law 554 = .ok (.invokevirtual 73, 3) := by decide +kernel
theorem dL_law_557 : decode cL_law 557 = .ok (.lcmp, 1) := by decide +kernel
theorem dL_law_558 : decode cL_law 558 = .ok (.ifCond .eq 253, 3) := by decide +kernel
theorem dL_law_561 : decode cL_law 561 = .ok (.iconst 0, 1) := by decide +kernel
theorem dL_law_562 : decode cL_law 562 = .ok (.ireturn, 1) := by decide +kernel
theorem dL_law_563 : decode cL_law 563 = .ok (.aload_n 1, 1) := by decide +kernel
theorem dL_law_564 : decode cL_law 564 = .ok (.aload_n 0, 1) := by decide +kernel
theorem dL_law_565 : decode cL_law 565 = .ok (.iload_n 3, 1) := by decide +kernel
theorem dL_law_566 : decode cL_law 566 = .ok (.iconst 1, 1) := by decide +kernel
theorem dL_law_567 : decode cL_law 567 = .ok (.iadd, 1) := by decide +kernel
theorem dL_law_568 : decode cL_law 568 = .ok (.iaload, 1) := by decide +kernel
theorem dL_law_569 : decode cL_law 569 = .ok (.aload_n 0, 1) := by decide +kernel
theorem dL_law_570 : decode cL_law 570 = .ok (.iload_n 3, 1) := by decide +kernel
theorem dL_law_571 : decode cL_law 571 = .ok (.iconst 2, 1) := by decide +kernel
theorem dL_law_572 : decode cL_law 572 = .ok (.iadd, 1) := by decide +kernel
theorem dL_law_573 : decode cL_law 573 = .ok (.iaload, 1) := by decide +kernel
theorem dL_law_574 : decode cL_law 574 = .ok (.invokevirtual 74, 3) := by decide +kernel
theorem dL_law_577 : decode cL_law 577 = .ok (.aload_n 2, 1) := by decide +kernel
theorem dL_law_578 : decode cL_law 578 = .ok (.aload_n 0, 1) := by decide +kernel
theorem dL_law_579 : decode cL_law 579 = .ok (.iload_n 3, 1) := by decide +kernel
theorem dL_law_580 : decode cL_law 580 = .ok (.iconst 1, 1) := by decide +kernel
theorem dL_law_581 : decode cL_law 581 = .ok (.iadd, 1) := by decide +kernel
theorem dL_law_582 : decode cL_law 582 = .ok (.iaload, 1) := by decide +kernel
theorem dL_law_583 : decode cL_law 583 = .ok (.aload_n 0, 1) := by decide +kernel
theorem dL_law_584 : decode cL_law 584 = .ok (.iload_n 3, 1) := by decide +kernel
theorem dL_law_585 : decode cL_law 585 = .ok (.iconst 2, 1) := by decide +kernel
theorem dL_law_586 : decode cL_law 586 = .ok (.iadd, 1) := by decide +kernel
theorem dL_law_587 : decode cL_law 587 = .ok (.iaload, 1) := by decide +kernel
theorem dL_law_588 : decode cL_law 588 = .ok (.invokevirtual 78, 3) := by decide +kernel
theorem dL_law_591 : decode cL_law 591 = .ok (.lcmp, 1) := by decide +kernel
theorem dL_law_592 : decode cL_law 592 = .ok (.ifCond .eq 219, 3) := by decide +kernel
theorem dL_law_595 : decode cL_law 595 = .ok (.iconst 0, 1) := by decide +kernel
theorem dL_law_596 : decode cL_law 596 = .ok (.ireturn, 1) := by decide +kernel
theorem dL_law_597 : decode cL_law 597 = .ok (.aload_n 1, 1) := by decide +kernel
theorem dL_law_598 : decode cL_law 598 = .ok (.aload_n 0, 1) := by decide +kernel
theorem dL_law_599 : decode cL_law 599 = .ok (.iload_n 3, 1) := by decide +kernel
theorem dL_law_600 : decode cL_law 600 = .ok (.iconst 1, 1) := by decide +kernel
theorem dL_law_601 : decode cL_law 601 = .ok (.iadd, 1) := by decide +kernel
theorem dL_law_602 : decode cL_law 602 = .ok (.iaload, 1) := by decide +kernel
theorem dL_law_603 : decode cL_law 603 = .ok (.aload_n 0, 1) := by decide +kernel
theorem dL_law_604 : decode cL_law 604 = .ok (.iload_n 3, 1) := by decide +kernel
theorem dL_law_605 : decode cL_law 605 = .ok (.iconst 2, 1) := by decide +kernel
theorem dL_law_606 : decode cL_law 606 = .ok (.iadd, 1) := by decide +kernel
theorem dL_law_607 : decode cL_law 607 = .ok (.iaload, 1) := by decide +kernel
theorem dL_law_608 : decode cL_law 608 = .ok (.invokevirtual 79, 3) := by decide +kernel
theorem dL_law_611 : decode cL_law 611 = .ok (.aload_n 2, 1) := by decide +kernel
theorem dL_law_612 : decode cL_law 612 = .ok (.aload_n 0, 1) := by decide +kernel
theorem dL_law_613 : decode cL_law 613 = .ok (.iload_n 3, 1) := by decide +kernel
theorem dL_law_614 : decode cL_law 614 = .ok (.iconst 1, 1) := by decide +kernel
theorem dL_law_615 : decode cL_law 615 = .ok (.iadd, 1) := by decide +kernel
theorem dL_law_616 : decode cL_law 616 = .ok (.iaload, 1) := by decide +kernel
theorem dL_law_617 : decode cL_law 617 = .ok (.aload_n 0, 1) := by decide +kernel
theorem dL_law_618 : decode cL_law 618 = .ok (.iload_n 3, 1) := by decide +kernel
theorem dL_law_619 : decode cL_law 619 = .ok (.iconst 2, 1) := by decide +kernel
theorem dL_law_620 : decode cL_law 620 = .ok (.iadd, 1) := by decide +kernel
theorem dL_law_621 : decode cL_law 621 = .ok (.iaload, 1) := by decide +kernel
theorem dL_law_622 : decode cL_law 622 = .ok (.invokevirtual 82, 3) := by decide +kernel
theorem dL_law_625 : decode cL_law 625 = .ok (.if_icmp .eq 186, 3) := by decide +kernel
theorem dL_law_628 : decode cL_law 628 = .ok (.iconst 0, 1) := by decide +kernel
theorem dL_law_629 : decode cL_law 629 = .ok (.ireturn, 1) := by decide +kernel
theorem dL_law_630 : decode cL_law 630 = .ok (.aload_n 1, 1) := by decide +kernel
theorem dL_law_631 : decode cL_law 631 = .ok (.invokevirtual 83, 3) := by decide +kernel
theorem dL_law_634 : decode cL_law 634 = .ok (.aload_n 2, 1) := by decide +kernel
theorem dL_law_635 : decode cL_law 635 = .ok (.invokevirtual 86, 3) := by decide +kernel
theorem dL_law_638 : decode cL_law 638 = .ok (.if_icmp .eq 173, 3) := by decide +kernel
theorem dL_law_641 : decode cL_law 641 = .ok (.iconst 0, 1) := by decide +kernel
theorem dL_law_642 : decode cL_law 642 = .ok (.ireturn, 1) := by decide +kernel
theorem dL_law_643 : decode cL_law 643 = .ok (.aload_n 1, 1) := by decide +kernel
theorem dL_law_644 : decode cL_law 644 = .ok (.aload_n 0, 1) := by decide +kernel
theorem dL_law_645 : decode cL_law 645 = .ok (.iload_n 3, 1) := by decide +kernel
theorem dL_law_646 : decode cL_law 646 = .ok (.iconst 1, 1) := by decide +kernel
theorem dL_law_647 : decode cL_law 647 = .ok (.iadd, 1) := by decide +kernel
theorem dL_law_648 : decode cL_law 648 = .ok (.iaload, 1) := by decide +kernel
theorem dL_law_649 : decode cL_law 649 = .ok (.invokevirtual 87, 3) := by decide +kernel
theorem dL_law_652 : decode cL_law 652 = .ok (.aload_n 2, 1) := by decide +kernel
theorem dL_law_653 : decode cL_law 653 = .ok (.aload_n 0, 1) := by decide +kernel
theorem dL_law_654 : decode cL_law 654 = .ok (.iload_n 3, 1) := by decide +kernel
theorem dL_law_655 : decode cL_law 655 = .ok (.iconst 1, 1) := by decide +kernel
theorem dL_law_656 : decode cL_law 656 = .ok (.iadd, 1) := by decide +kernel
theorem dL_law_657 : decode cL_law 657 = .ok (.iaload, 1) := by decide +kernel
theorem dL_law_658 : decode cL_law 658 = .ok (.invokevirtual 90, 3) := by decide +kernel
theorem dL_law_661 : decode cL_law 661 = .ok (.if_icmp .eq 150, 3) := by decide +kernel
theorem dL_law_664 : decode cL_law 664 = .ok (.iconst 0, 1) := by decide +kernel
theorem dL_law_665 : decode cL_law 665 = .ok (.ireturn, 1) := by decide +kernel
theorem dL_law_666 : decode cL_law 666 = .ok (.aload_n 1, 1) := by decide +kernel
theorem dL_law_667 : decode cL_law 667 = .ok (.aload_n 0, 1) := by decide +kernel
theorem dL_law_668 : decode cL_law 668 = .ok (.iload_n 3, 1) := by decide +kernel
theorem dL_law_669 : decode cL_law 669 = .ok (.iconst 1, 1) := by decide +kernel
theorem dL_law_670 : decode cL_law 670 = .ok (.iadd, 1) := by decide +kernel
theorem dL_law_671 : decode cL_law 671 = .ok (.iaload, 1) := by decide +kernel
theorem dL_law_672 : decode cL_law 672 = .ok (.aload_n 0, 1) := by decide +kernel
theorem dL_law_673 : decode cL_law 673 = .ok (.iload_n 3, 1) := by decide +kernel
theorem dL_law_674 : decode cL_law 674 = .ok (.iconst 2, 1) := by decide +kernel
theorem dL_law_675 : decode cL_law 675 = .ok (.iadd, 1) := by decide +kernel
theorem dL_law_676 : decode cL_law 676 = .ok (.iaload, 1) := by decide +kernel
theorem dL_law_677 : decode cL_law 677 = .ok (.invokevirtual 91, 3) := by decide +kernel
theorem dL_law_680 : decode cL_law 680 = .ok (.aload_n 2, 1) := by decide +kernel
theorem dL_law_681 : decode cL_law 681 = .ok (.aload_n 0, 1) := by decide +kernel
theorem dL_law_682 : decode cL_law 682 = .ok (.iload_n 3, 1) := by decide +kernel
theorem dL_law_683 : decode cL_law 683 = .ok (.iconst 1, 1) := by decide +kernel
theorem dL_law_684 : decode cL_law 684 = .ok (.iadd, 1) := by decide +kernel
theorem dL_law_685 : decode cL_law 685 = .ok (.iaload, 1) := by decide +kernel
theorem dL_law_686 : decode cL_law 686 = .ok (.aload_n 0, 1) := by decide +kernel
theorem dL_law_687 : decode cL_law 687 = .ok (.iload_n 3, 1) := by decide +kernel
theorem dL_law_688 : decode cL_law 688 = .ok (.iconst 2, 1) := by decide +kernel
theorem dL_law_689 : decode cL_law 689 = .ok (.iadd, 1) := by decide +kernel
theorem dL_law_690 : decode cL_law 690 = .ok (.iaload, 1) := by decide +kernel
theorem dL_law_691 : decode cL_law 691 = .ok (.invokevirtual 94, 3) := by decide +kernel
theorem dL_law_694 : decode cL_law 694 = .ok (.if_icmp .eq 117, 3) := by decide +kernel
theorem dL_law_697 : decode cL_law 697 = .ok (.iconst 0, 1) := by decide +kernel
theorem dL_law_698 : decode cL_law 698 = .ok (.ireturn, 1) := by decide +kernel
theorem dL_law_699 : decode cL_law 699 = .ok (.aload_n 1, 1) := by decide +kernel
theorem dL_law_700 : decode cL_law 700 = .ok (.aload_n 0, 1) := by decide +kernel
theorem dL_law_701 : decode cL_law 701 = .ok (.iload_n 3, 1) := by decide +kernel
theorem dL_law_702 : decode cL_law 702 = .ok (.iconst 1, 1) := by decide +kernel
theorem dL_law_703 : decode cL_law 703 = .ok (.iadd, 1) := by decide +kernel
theorem dL_law_704 : decode cL_law 704 = .ok (.iaload, 1) := by decide +kernel
theorem dL_law_705 : decode cL_law 705 = .ok (.aload_n 0, 1) := by decide +kernel
theorem dL_law_706 : decode cL_law 706 = .ok (.iload_n 3, 1) := by decide +kernel
theorem dL_law_707 : decode cL_law 707 = .ok (.iconst 2, 1) := by decide +kernel
theorem dL_law_708 : decode cL_law 708 = .ok (.iadd, 1) := by decide +kernel
theorem dL_law_709 : decode cL_law 709 = .ok (.iaload, 1) := by decide +kernel
theorem dL_law_710 : decode cL_law 710 = .ok (.aload_n 0, 1) := by decide +kernel
theorem dL_law_711 : decode cL_law 711 = .ok (.iload_n 3, 1) := by decide +kernel
theorem dL_law_712 : decode cL_law 712 = .ok (.iconst 3, 1) := by decide +kernel
theorem dL_law_713 : decode cL_law 713 = .ok (.iadd, 1) := by decide +kernel
theorem dL_law_714 : decode cL_law 714 = .ok (.iaload, 1) := by decide +kernel
theorem dL_law_715 : decode cL_law 715 = .ok (.invokevirtual 95, 3) := by decide +kernel
theorem dL_law_718 : decode cL_law 718 = .ok (.aload_n 2, 1) := by decide +kernel
theorem dL_law_719 : decode cL_law 719 = .ok (.aload_n 0, 1) := by decide +kernel
theorem dL_law_720 : decode cL_law 720 = .ok (.iload_n 3, 1) := by decide +kernel
theorem dL_law_721 : decode cL_law 721 = .ok (.iconst 1, 1) := by decide +kernel
theorem dL_law_722 : decode cL_law 722 = .ok (.iadd, 1) := by decide +kernel
theorem dL_law_723 : decode cL_law 723 = .ok (.iaload, 1) := by decide +kernel
theorem dL_law_724 : decode cL_law 724 = .ok (.aload_n 0, 1) := by decide +kernel
theorem dL_law_725 : decode cL_law 725 = .ok (.iload_n 3, 1) := by decide +kernel
theorem dL_law_726 : decode cL_law 726 = .ok (.iconst 2, 1) := by decide +kernel
theorem dL_law_727 : decode cL_law 727 = .ok (.iadd, 1) := by decide +kernel
theorem dL_law_728 : decode cL_law 728 = .ok (.iaload, 1) := by decide +kernel
theorem dL_law_729 : decode cL_law 729 = .ok (.aload_n 0, 1) := by decide +kernel
theorem dL_law_730 : decode cL_law 730 = .ok (.iload_n 3, 1) := by decide +kernel
theorem dL_law_731 : decode cL_law 731 = .ok (.iconst 3, 1) := by decide +kernel
theorem dL_law_732 : decode cL_law 732 = .ok (.iadd, 1) := by decide +kernel
theorem dL_law_733 : decode cL_law 733 = .ok (.iaload, 1) := by decide +kernel
theorem dL_law_734 : decode cL_law 734 = .ok (.invokevirtual 98, 3) := by decide +kernel
theorem dL_law_737 : decode cL_law 737 = .ok (.if_icmp .eq 74, 3) := by decide +kernel
theorem dL_law_740 : decode cL_law 740 = .ok (.iconst 0, 1) := by decide +kernel
theorem dL_law_741 : decode cL_law 741 = .ok (.ireturn, 1) := by decide +kernel
theorem dL_law_742 : decode cL_law 742 = .ok (.aload_n 1, 1) := by decide +kernel
theorem dL_law_743 : decode cL_law 743 = .ok (.aload_n 0, 1) := by decide +kernel
theorem dL_law_744 : decode cL_law 744 = .ok (.iload_n 3, 1) := by decide +kernel
theorem dL_law_745 : decode cL_law 745 = .ok (.iconst 1, 1) := by decide +kernel
theorem dL_law_746 : decode cL_law 746 = .ok (.iadd, 1) := by decide +kernel
theorem dL_law_747 : decode cL_law 747 = .ok (.iaload, 1) := by decide +kernel
theorem dL_law_748 : decode cL_law 748 = .ok (.invokevirtual 99, 3) := by decide +kernel
theorem dL_law_751 : decode cL_law 751 = .ok (.aload_n 2, 1) := by decide +kernel
theorem dL_law_752 : decode cL_law 752 = .ok (.aload_n 0, 1) := by decide +kernel
theorem dL_law_753 : decode cL_law 753 = .ok (.iload_n 3, 1) := by decide +kernel
theorem dL_law_754 : decode cL_law 754 = .ok (.iconst 1, 1) := by decide +kernel
theorem dL_law_755 : decode cL_law 755 = .ok (.iadd, 1) := by decide +kernel
theorem dL_law_756 : decode cL_law 756 = .ok (.iaload, 1) := by decide +kernel
theorem dL_law_757 : decode cL_law 757 = .ok (.invokevirtual 102, 3) := by decide +kernel
theorem dL_law_760 : decode cL_law 760 = .ok (.if_icmp .eq 51, 3) := by decide +kernel
theorem dL_law_763 : decode cL_law 763 = .ok (.iconst 0, 1) := by decide +kernel
theorem dL_law_764 : decode cL_law 764 = .ok (.ireturn, 1) := by decide +kernel
theorem dL_law_765 : decode cL_law 765 = .ok (.aload_n 1, 1) := by decide +kernel
theorem dL_law_766 : decode cL_law 766 = .ok (.aload_n 0, 1) := by decide +kernel
theorem dL_law_767 : decode cL_law 767 = .ok (.iload_n 3, 1) := by decide +kernel
theorem dL_law_768 : decode cL_law 768 = .ok (.iconst 1, 1) := by decide +kernel
theorem dL_law_769 : decode cL_law 769 = .ok (.iadd, 1) := by decide +kernel
theorem dL_law_770 : decode cL_law 770 = .ok (.iaload, 1) := by decide +kernel
theorem dL_law_771 : decode cL_law 771 = .ok (.invokevirtual 103, 3) := by decide +kernel
theorem dL_law_774 : decode cL_law 774 = .ok (.aload_n 2, 1) := by decide +kernel
theorem dL_law_775 : decode cL_law 775 = .ok (.aload_n 0, 1) := by decide +kernel
theorem dL_law_776 : decode cL_law 776 = .ok (.iload_n 3, 1) := by decide +kernel
theorem dL_law_777 : decode cL_law 777 = .ok (.iconst 1, 1) := by decide +kernel
theorem dL_law_778 : decode cL_law 778 = .ok (.iadd, 1) := by decide +kernel
theorem dL_law_779 : decode cL_law 779 = .ok (.iaload, 1) := by decide +kernel
theorem dL_law_780 : decode cL_law 780 = .ok (.invokevirtual 106, 3) := by decide +kernel
theorem dL_law_783 : decode cL_law 783 = .ok (.if_icmp .eq 28, 3) := by decide +kernel
theorem dL_law_786 : decode cL_law 786 = .ok (.iconst 0, 1) := by decide +kernel
theorem dL_law_787 : decode cL_law 787 = .ok (.ireturn, 1) := by decide +kernel
theorem dL_law_788 : decode cL_law 788 = .ok (.aload_n 1, 1) := by decide +kernel
theorem dL_law_789 : decode cL_law 789 = .ok (.aload_n 0, 1) := by decide +kernel
theorem dL_law_790 : decode cL_law 790 = .ok (.iload_n 3, 1) := by decide +kernel
theorem dL_law_791 : decode cL_law 791 = .ok (.iconst 1, 1) := by decide +kernel
theorem dL_law_792 : decode cL_law 792 = .ok (.iadd, 1) := by decide +kernel
theorem dL_law_793 : decode cL_law 793 = .ok (.iaload, 1) := by decide +kernel
theorem dL_law_794 : decode cL_law 794 = .ok (.invokevirtual 107, 3) := by decide +kernel
theorem dL_law_797 : decode cL_law 797 = .ok (.aload_n 2, 1) := by decide +kernel
theorem dL_law_798 : decode cL_law 798 = .ok (.aload_n 0, 1) := by decide +kernel
theorem dL_law_799 : decode cL_law 799 = .ok (.iload_n 3, 1) := by decide +kernel
theorem dL_law_800 : decode cL_law 800 = .ok (.iconst 1, 1) := by decide +kernel
theorem dL_law_801 : decode cL_law 801 = .ok (.iadd, 1) := by decide +kernel
theorem dL_law_802 : decode cL_law 802 = .ok (.iaload, 1) := by decide +kernel
theorem dL_law_803 : decode cL_law 803 = .ok (.invokevirtual 110, 3) := by decide +kernel
theorem dL_law_806 : decode cL_law 806 = .ok (.if_icmp .eq 5, 3) := by decide +kernel
theorem dL_law_809 : decode cL_law 809 = .ok (.iconst 0, 1) := by decide +kernel
theorem dL_law_810 : decode cL_law 810 = .ok (.ireturn, 1) := by decide +kernel
theorem dL_law_811 : decode cL_law 811 = .ok (.iinc 3 5, 3) := by decide +kernel
theorem dL_law_814 : decode cL_law 814 = .ok (.goto (-796), 3) := by decide +kernel
theorem dL_law_817 : decode cL_law 817 = .ok (.iconst 1, 1) := by decide +kernel
theorem dL_law_818 : decode cL_law 818 = .ok (.ireturn, 1) := by decide +kernel
end
section
/-! own rows over the kit: contracts over all of the tables' words; reads leave the heap as it is, writes tell their cells -/
theorem zq_good {w : Cond} (h : w ∈ zt) : (goodWord w || zq_nest w) = true := (List.mem_filter.mp h).2
theorem zq_warm {w : Cond} (hw : (goodWord w || zq_nest w) = true) {s U : State} (hW : s.WarmedH U.vm) (h : va_Nw w s) : va_Nw w U := by
  cases hg : goodWord w with
  | true => exact word_at hW (good_of_word hg) h
  | false =>
    rw [hg, Bool.false_or] at hw
    cases w <;> first | exact va_Nw.warmM hW h | exact va_Nw.warmF hW h | (exact absurd hw (by simp [zq_nest]))
theorem zq_use {w : Cond} (hw : (goodWord w || zq_nest w) = true) {s : State} {args : Array Value} (h : va_Nw w s) : w.before args s = true := by
  cases hg : goodWord w with
  | true => exact word_at (State.WarmedH.refl s) (good_of_word hg) h
  | false =>
    rw [hg, Bool.false_or] at hw
    cases w <;> first | exact va_Nw.use rfl h | (exact absurd hw (by simp [zq_nest]))
theorem zq_of {w : Cond} (hw : (goodWord w || zq_nest w) = true) {s : State} {args : Array Value} (h : w.before args s = true) : va_Nw w s := by
  cases hg : goodWord w with
  | true => exact word_at (State.WarmedH.refl s) (good_of_word hg) h
  | false =>
    rw [hg, Bool.false_or] at hw
    cases w <;> first | exact va_Nw.of rfl h | (exact absurd hw (by simp [zq_nest]))
def tb (D : va_G) (cI cZ : ClassId) (U : State) : Prop := va_K D vwCl [(cI, .int), (cZ, .boolean)] U ∧ ∀ w ∈ zt, va_Nw w U
theorem tb_warm {D : va_G} {cI cZ : ClassId} {s U : State} (hW : s.WarmedH U.vm) (h : tb D cI cZ s) : tb D cI cZ U := ⟨va_K.moved hW.alike h.1, fun w hw => zq_warm (zq_good hw) hW (h.2 w hw)⟩
theorem tb_call {D : va_G} {cI cZ : ClassId} {U : State} {g : JFrame} {mk : MethodId} {a : Array Value} (h : tb D cI cZ U) : tb D cI cZ (U.calling g mk a) := tb_warm (State.WarmedH.refl U) h
theorem tb_hts {D : va_G} {cI cZ : ClassId} {s : State} (h : tb D cI cZ s) (args : Array Value) : ∀ w ∈ zt, w.before args s = true := fun w hw => zq_use (zq_good hw) (h.2 w hw)
abbrev PcR (D : va_G) (cI cZ : ClassId) (av : List Value) (wc : va_W) : Array Value → State → Prop := va_Pc av (fun U => tb D cI cZ U ∧ va_P D vwCl wc U.heap)
abbrev PcW (D : va_G) (cI cZ : ClassId) (av : List Value) (wc : va_W) : Array Value → State → Prop := va_Pc av (fun U => tb D cI cZ U ∧ va_P D vwCl wc U.heap ∧ va_D (fun _ => True) wc)
abbrev QcR (ov : Option Value) : Array Value → State → Outcome → State → Prop := fun _ st oc t => oc = .returned ov ∧ t.heap = st.heap
def zA (wc : va_W) (q : Nat) : Prop := ∃ (k : Nat) (e : va_E), wc[k]? = some (q, e)
abbrev zN : Addr → Prop := fun _ => False
abbrev QcE (D : va_G) {S : Type} (ov : Option Value) (post : S → Prop) (wf : S → va_W) (A : Nat → Prop) : Array Value → State → Outcome → State → Prop := fun _ st oc t => oc = .returned ov ∧ (∃ u : S, post u ∧ va_P D vwCl (wf u) t.heap) ∧ va_F A st t
abbrev QcW (D : va_G) (ov : Option Value) (w' : va_W) (A : Nat → Prop) : Array Value → State → Outcome → State → Prop := QcE D (S := Unit) ov (fun _ => True) (fun _ => w') A
section ZB
variable {l : Launch} {y : MethodName} {cc : ByteArray} {maxL : Nat} {rm : Room} {D : va_G} {cI cZ : ClassId} {av : List Value} {wc : va_W}
theorem z_entry (m : MethodId) {args : Array Value} (h : args = av.toArray) (n : Nat) : entryFrame m args n = F0 m 0 ((lg_sl av ++ List.replicate (n - (lg_sl av).length) Slot.unset).toArray) [] := by rw [h]; exact lg_entry_eq m av n
theorem mtRi {v : Int32} (hy : plainName y.cls = true) (hlen : (lg_sl av).length ≤ maxL)
    (body : ∀ (p : Program) (e : Env) (s : State) (m : MethodId) (args : Array Value) (below : List Frame) (meth : Method) (c : Code) (Q : State → Prop), CallFix p m c cc maxL s args zt y.cls → tb D cI cZ s → va_P D vwCl wc s.heap →
      (∀ (pc : Nat) (ls : Array Slot) (x : Int32), decode cc pc = .ok (.ireturn, 1) → x = v → W p l e rm s m args below meth c s.heap [] 0 0 Q (F0 m pc ls [.int x])) →
      ∀ ls : Array Slot, lv_has ls maxL (lv_args 0 av) → W p l e rm s m args below meth c s.heap [] 0 0 Q (F0 m 0 ls [])) :
    Met l y [.code y cc maxL (some .int)] rm (PcR D cI cZ av wc) (QcR (some (.int v))) 0 0 zN := by
  refine Met.ofW (cc := cc) (maxL := maxL) (ret := some .int) hy rfl ?_
  intro p e s m args below meth c s₁ B hml hv
  obtain ⟨hargs, hT, hP⟩ := hv
  have hlocks := B.notSynchronized
  rw [z_entry m hargs maxL]
  exact body p e s m args below meth c _ ⟨B.exec, B.bytes, hml, findClass_of_methodNamed B.named, tb_hts hT args⟩ hT hP (fun pc ls x hd hxv => by
    subst hxv
    exact W.iret B.exec B.bytes B.returns (fun t ht hW => ⟨rfl, ht⟩) (fun q h => by cases h) hd) _ (lv_entry av (n := maxL) hlen)
theorem mtRz {v : Int32} (hv01 : narrow .boolean (.int v) = .int v) (hy : plainName y.cls = true) (hlen : (lg_sl av).length ≤ maxL)
    (body : ∀ (p : Program) (e : Env) (s : State) (m : MethodId) (args : Array Value) (below : List Frame) (meth : Method) (c : Code) (Q : State → Prop), CallFix p m c cc maxL s args zt y.cls → tb D cI cZ s → va_P D vwCl wc s.heap →
      (∀ (pc : Nat) (ls : Array Slot) (x : Int32), decode cc pc = .ok (.ireturn, 1) → x = v → W p l e rm s m args below meth c s.heap [] 0 0 Q (F0 m pc ls [.int x])) →
      ∀ ls : Array Slot, lv_has ls maxL (lv_args 0 av) → W p l e rm s m args below meth c s.heap [] 0 0 Q (F0 m 0 ls [])) :
    Met l y [.code y cc maxL (some .boolean)] rm (PcR D cI cZ av wc) (QcR (some (.int v))) 0 0 zN := by
  refine Met.ofW (cc := cc) (maxL := maxL) (ret := some .boolean) hy rfl ?_
  intro p e s m args below meth c s₁ B hml hv
  obtain ⟨hargs, hT, hP⟩ := hv
  have hlocks := B.notSynchronized
  rw [z_entry m hargs maxL]
  exact body p e s m args below meth c _ ⟨B.exec, B.bytes, hml, findClass_of_methodNamed B.named, tb_hts hT args⟩ hT hP (fun pc ls x hd hxv => by
    subst hxv
    exact W.zret B.exec B.bytes B.returns hv01 (fun t ht hW => ⟨rfl, ht⟩) (fun q h => by cases h) hd) _ (lv_entry av (n := maxL) hlen)
theorem mtRl {v : Int64} (hy : plainName y.cls = true) (hlen : (lg_sl av).length ≤ maxL)
    (body : ∀ (p : Program) (e : Env) (s : State) (m : MethodId) (args : Array Value) (below : List Frame) (meth : Method) (c : Code) (Q : State → Prop), CallFix p m c cc maxL s args zt y.cls → tb D cI cZ s → va_P D vwCl wc s.heap →
      (∀ (pc : Nat) (ls : Array Slot) (x : Int64), decode cc pc = .ok (.lreturn, 1) → x = v → W p l e rm s m args below meth c s.heap [] 0 0 Q (F0 m pc ls [.long x])) →
      ∀ ls : Array Slot, lv_has ls maxL (lv_args 0 av) → W p l e rm s m args below meth c s.heap [] 0 0 Q (F0 m 0 ls [])) :
    Met l y [.code y cc maxL (some .long)] rm (PcR D cI cZ av wc) (QcR (some (.long v))) 0 0 zN := by
  refine Met.ofW (cc := cc) (maxL := maxL) (ret := some .long) hy rfl ?_
  intro p e s m args below meth c s₁ B hml hv
  obtain ⟨hargs, hT, hP⟩ := hv
  have hlocks := B.notSynchronized
  rw [z_entry m hargs maxL]
  exact body p e s m args below meth c _ ⟨B.exec, B.bytes, hml, findClass_of_methodNamed B.named, tb_hts hT args⟩ hT hP (fun pc ls x hd hxv => by
    subst hxv
    exact W.lret B.exec B.bytes B.returns (fun t ht hW => ⟨rfl, ht⟩) (fun q h => by cases h) hd) _ (lv_entry av (n := maxL) hlen)
theorem mtRr {a : Nat} {n : String} (hy : plainName y.cls = true) (hlen : (lg_sl av).length ≤ maxL)
    (body : ∀ (p : Program) (e : Env) (s : State) (m : MethodId) (args : Array Value) (below : List Frame) (meth : Method) (c : Code) (Q : State → Prop), CallFix p m c cc maxL s args zt y.cls → tb D cI cZ s → va_P D vwCl wc s.heap →
      (∀ (pc : Nat) (ls : Array Slot) (x : Nat), decode cc pc = .ok (.areturn, 1) → x = a → W p l e rm s m args below meth c s.heap [] 0 0 Q (F0 m pc ls [.ref x])) →
      ∀ ls : Array Slot, lv_has ls maxL (lv_args 0 av) → W p l e rm s m args below meth c s.heap [] 0 0 Q (F0 m 0 ls [])) :
    Met l y [.code y cc maxL (some (.object n))] rm (PcR D cI cZ av wc) (QcR (some (.ref a))) 0 0 zN := by
  refine Met.ofW (cc := cc) (maxL := maxL) (ret := some (.object n)) hy rfl ?_
  intro p e s m args below meth c s₁ B hml hv
  obtain ⟨hargs, hT, hP⟩ := hv
  have hlocks := B.notSynchronized
  rw [z_entry m hargs maxL]
  exact body p e s m args below meth c _ ⟨B.exec, B.bytes, hml, findClass_of_methodNamed B.named, tb_hts hT args⟩ hT hP (fun pc ls x hd hxv => by
    subst hxv
    exact W.aret B.exec B.bytes B.returns (Or.inl ⟨n, rfl⟩) (Or.inr ⟨x, rfl⟩) (fun t ht hW => ⟨rfl, ht⟩) (fun q h => by cases h) hd) _ (lv_entry av (n := maxL) hlen)
theorem mtWi {S : Type} {post : S → Prop} {wf : S → va_W} {v : Int32} (hy : plainName y.cls = true) (hlen : (lg_sl av).length ≤ maxL)
    (body : ∀ (p : Program) (e : Env) (s : State) (m : MethodId) (args : Array Value) (below : List Frame) (meth : Method) (c : Code) (Q : State → Prop) (A : Nat → Prop), CallFix p m c cc maxL s args zt y.cls → tb D cI cZ s → va_P D vwCl wc s.heap → va_D A wc → va_S A s.heap s.heap [] →
      (∀ (pc : Nat) (ls : Array Slot) (x : Int32) (H : Heap) (locs : List Loc) (u : S), decode cc pc = .ok (.ireturn, 1) → x = v → post u → va_P D vwCl (wf u) H → va_S A s.heap H locs → W p l e rm s m args below meth c H locs 0 0 Q (F0 m pc ls [.int x])) →
      ∀ ls : Array Slot, lv_has ls maxL (lv_args 0 av) → W p l e rm s m args below meth c s.heap [] 0 0 Q (F0 m 0 ls [])) :
    Met l y [.code y cc maxL (some .int)] rm (PcW D cI cZ av wc) (QcE D (some (.int v)) post wf (zA wc)) 0 0 (zA wc) := by
  refine Met.ofW (cc := cc) (maxL := maxL) (ret := some .int) hy rfl ?_
  intro p e s m args below meth c s₁ B hml hv
  obtain ⟨hargs, hT, hP, hD⟩ := hv
  have hlocks := B.notSynchronized
  rw [z_entry m hargs maxL]
  exact body p e s m args below meth c _ (zA wc) ⟨B.exec, B.bytes, hml, findClass_of_methodNamed B.named, tb_hts hT args⟩ hT hP ⟨hD.1, fun k q h => ⟨k, q.2, h⟩⟩ va_S.rf (fun pc ls x H locs u hd hxv hu hP1 hS => by
    subst hxv
    exact W.iret B.exec B.bytes B.returns (fun t ht hW => ⟨rfl, ⟨u, hu, by rw [ht]; exact hP1⟩, hS.F ht⟩) hS.2.2 hd) _ (lv_entry av (n := maxL) hlen)
theorem mtWz {S : Type} {post : S → Prop} {wf : S → va_W} {v : Int32} (hv01 : narrow .boolean (.int v) = .int v) (hy : plainName y.cls = true) (hlen : (lg_sl av).length ≤ maxL)
    (body : ∀ (p : Program) (e : Env) (s : State) (m : MethodId) (args : Array Value) (below : List Frame) (meth : Method) (c : Code) (Q : State → Prop) (A : Nat → Prop), CallFix p m c cc maxL s args zt y.cls → tb D cI cZ s → va_P D vwCl wc s.heap → va_D A wc → va_S A s.heap s.heap [] →
      (∀ (pc : Nat) (ls : Array Slot) (x : Int32) (H : Heap) (locs : List Loc) (u : S), decode cc pc = .ok (.ireturn, 1) → x = v → post u → va_P D vwCl (wf u) H → va_S A s.heap H locs → W p l e rm s m args below meth c H locs 0 0 Q (F0 m pc ls [.int x])) →
      ∀ ls : Array Slot, lv_has ls maxL (lv_args 0 av) → W p l e rm s m args below meth c s.heap [] 0 0 Q (F0 m 0 ls [])) :
    Met l y [.code y cc maxL (some .boolean)] rm (PcW D cI cZ av wc) (QcE D (some (.int v)) post wf (zA wc)) 0 0 (zA wc) := by
  refine Met.ofW (cc := cc) (maxL := maxL) (ret := some .boolean) hy rfl ?_
  intro p e s m args below meth c s₁ B hml hv
  obtain ⟨hargs, hT, hP, hD⟩ := hv
  have hlocks := B.notSynchronized
  rw [z_entry m hargs maxL]
  exact body p e s m args below meth c _ (zA wc) ⟨B.exec, B.bytes, hml, findClass_of_methodNamed B.named, tb_hts hT args⟩ hT hP ⟨hD.1, fun k q h => ⟨k, q.2, h⟩⟩ va_S.rf (fun pc ls x H locs u hd hxv hu hP1 hS => by
    subst hxv
    exact W.zret B.exec B.bytes B.returns hv01 (fun t ht hW => ⟨rfl, ⟨u, hu, by rw [ht]; exact hP1⟩, hS.F ht⟩) hS.2.2 hd) _ (lv_entry av (n := maxL) hlen)
theorem mtWl {S : Type} {post : S → Prop} {wf : S → va_W} {v : Int64} (hy : plainName y.cls = true) (hlen : (lg_sl av).length ≤ maxL)
    (body : ∀ (p : Program) (e : Env) (s : State) (m : MethodId) (args : Array Value) (below : List Frame) (meth : Method) (c : Code) (Q : State → Prop) (A : Nat → Prop), CallFix p m c cc maxL s args zt y.cls → tb D cI cZ s → va_P D vwCl wc s.heap → va_D A wc → va_S A s.heap s.heap [] →
      (∀ (pc : Nat) (ls : Array Slot) (x : Int64) (H : Heap) (locs : List Loc) (u : S), decode cc pc = .ok (.lreturn, 1) → x = v → post u → va_P D vwCl (wf u) H → va_S A s.heap H locs → W p l e rm s m args below meth c H locs 0 0 Q (F0 m pc ls [.long x])) →
      ∀ ls : Array Slot, lv_has ls maxL (lv_args 0 av) → W p l e rm s m args below meth c s.heap [] 0 0 Q (F0 m 0 ls [])) :
    Met l y [.code y cc maxL (some .long)] rm (PcW D cI cZ av wc) (QcE D (some (.long v)) post wf (zA wc)) 0 0 (zA wc) := by
  refine Met.ofW (cc := cc) (maxL := maxL) (ret := some .long) hy rfl ?_
  intro p e s m args below meth c s₁ B hml hv
  obtain ⟨hargs, hT, hP, hD⟩ := hv
  have hlocks := B.notSynchronized
  rw [z_entry m hargs maxL]
  exact body p e s m args below meth c _ (zA wc) ⟨B.exec, B.bytes, hml, findClass_of_methodNamed B.named, tb_hts hT args⟩ hT hP ⟨hD.1, fun k q h => ⟨k, q.2, h⟩⟩ va_S.rf (fun pc ls x H locs u hd hxv hu hP1 hS => by
    subst hxv
    exact W.lret B.exec B.bytes B.returns (fun t ht hW => ⟨rfl, ⟨u, hu, by rw [ht]; exact hP1⟩, hS.F ht⟩) hS.2.2 hd) _ (lv_entry av (n := maxL) hlen)
theorem mtWv {S : Type} {post : S → Prop} {wf : S → va_W} (hy : plainName y.cls = true) (hlen : (lg_sl av).length ≤ maxL)
    (body : ∀ (p : Program) (e : Env) (s : State) (m : MethodId) (args : Array Value) (below : List Frame) (meth : Method) (c : Code) (Q : State → Prop) (A : Nat → Prop), CallFix p m c cc maxL s args zt y.cls → tb D cI cZ s → va_P D vwCl wc s.heap → va_D A wc → va_S A s.heap s.heap [] →
      (∀ (pc : Nat) (ls : Array Slot) (H : Heap) (locs : List Loc) (u : S), decode cc pc = .ok (.return_, 1) → post u → va_P D vwCl (wf u) H → va_S A s.heap H locs → W p l e rm s m args below meth c H locs 0 0 Q (F0 m pc ls [])) →
      ∀ ls : Array Slot, lv_has ls maxL (lv_args 0 av) → W p l e rm s m args below meth c s.heap [] 0 0 Q (F0 m 0 ls [])) :
    Met l y [.code y cc maxL none] rm (PcW D cI cZ av wc) (QcE D none post wf (zA wc)) 0 0 (zA wc) := by
  refine Met.ofW (cc := cc) (maxL := maxL) (ret := none) hy rfl ?_
  intro p e s m args below meth c s₁ B hml hv
  obtain ⟨hargs, hT, hP, hD⟩ := hv
  have hlocks := B.notSynchronized
  rw [z_entry m hargs maxL]
  exact body p e s m args below meth c _ (zA wc) ⟨B.exec, B.bytes, hml, findClass_of_methodNamed B.named, tb_hts hT args⟩ hT hP ⟨hD.1, fun k q h => ⟨k, q.2, h⟩⟩ va_S.rf (fun pc ls H locs u hd hu hP1 hS =>
    W.vret B.exec B.bytes B.returns (fun t ht hW => ⟨rfl, ⟨u, hu, by rw [ht]; exact hP1⟩, hS.F ht⟩) hS.2.2 hd) _ (lv_entry av (n := maxL) hlen)
end ZB
/-- what the tables say of a method that is called on an object, and of a static one -/
def mwI (C : String) (y : MethodName) (bytes : ByteArray) (maxL : Nat) (ret : Option FieldType) (n : Nat) : Prop :=
  (y.cls = C ∧ y.cls ≠ "java/lang/invoke/MethodHandle" ∧ y.cls ≠ "java/lang/invoke/VarHandle" ∧ (parseMethodDescriptor y.desc).map (fun d => d.parameters.length) = some n) ∧ Cond.instanceMethod y ∈ zt ∧ Cond.selects C y y ∈ zt ∧ Cond.initialized C ∈ zt ∧ Cond.code y bytes maxL ret ∈ zt
def mwS (y : MethodName) (bytes : ByteArray) (maxL : Nat) (ret : Option FieldType) (n : Nat) : Prop :=
  (y.cls ≠ "java/lang/invoke/MethodHandle" ∧ y.cls ≠ "java/lang/invoke/VarHandle" ∧ (parseMethodDescriptor y.desc).map (fun d => d.parameters.length) = some n) ∧ Cond.static y ∈ zt ∧ Cond.initialized y.cls ∈ zt ∧ Cond.code y bytes maxL ret ∈ zt
abbrev zR (rm R : Room) (maxL cells slots : Nat) : Prop := rm.cells = 0 ∧ rm.slots = 0 ∧ rm.frames + 1 ≤ R.frames ∧ 8 + (maxL + 11) + rm.locals ≤ R.locals ∧ cells + 0 ≤ R.cells ∧ slots + 0 ≤ R.slots
theorem zq_code (y : MethodName) (bytes : ByteArray) (maxL : Nat) (ret : Option FieldType) (h : Cond.code y bytes maxL ret ∈ zt) : GoodIn zt [Cond.code y bytes maxL ret] := by
  intro w hw
  rw [List.mem_singleton.mp hw]
  exact ⟨h, Or.inl rfl⟩
section ZC
variable {p : Program} {l : Launch} {e : Env} {R : Room} {s : State} {m : MethodId} {args : Array Value} {below : List Frame} {meth : Method} {c : Code} {H : Heap} {locs : List Loc} {cells slots : Nat} {Q : State → Prop}
variable {cc bytes : ByteArray} {nL maxL index pc : Nat} {own C : String} {y : MethodName} {ret : Option FieldType} {rm : Room} {D : va_G} {cI cZ : ClassId} {As rest st : List Value} {b : Addr} {wc ws : va_W} {ov : Option Value} {ls : Array Slot}
variable {Pc : Array Value → State → Prop} {Qc : Array Value → State → Outcome → State → Prop} {free : Addr → Prop}
theorem zV (S : CallFix p m c cc nL s args zt own) (hM : Met l y [.code y bytes maxL ret] rm Pc Qc 0 0 free) (hw : mwI C y bytes maxL ret As.length) (lk : Cond.methodLink own index y ∈ zt) (hR : zR rm R maxL cells slots)
    (hp : PreV s H C b Pc As) (hsz : ls.size = nL) (hst : (rest.map fun v => v.category).sum ≤ 8) (hdg : decode cc pc = .ok (.invokevirtual index, 3)) (hs : st = As.reverse ++ .ref b :: rest) :
    va_Run p l e R s m args below meth c H locs cells slots 0 0 (F0 m pc ls st) rest (Qc (Value.ref b :: As).toArray) free := by
  obtain ⟨hd, h1, h2, h3, h4⟩ := hw
  obtain ⟨r1, r2, r3, r4, r5, r6⟩ := hR
  have hts := S.2.2.2.2
  have cw : CallW R s args own C index y bytes maxL ret [.code y bytes maxL ret] rm 0 0 As.length := ⟨callB_of As.length hts (zq_code y bytes maxL ret h4) rfl r1 r2 (by rw [hd.1]; exact hts _ h3) (hts _ lk) hd.2 ⟨r3, r4⟩, hts _ h1, hts _ h2⟩
  exact va_runV S hM cw hp rfl rfl hsz hs (lv_room hst) hdg ⟨r5, r6⟩
theorem zS (S : CallFix p m c cc nL s args zt own) (hM : Met l y [.code y bytes maxL ret] rm Pc Qc 0 0 free) (hw : mwS y bytes maxL ret As.length) (lk : Cond.methodLink own index y ∈ zt) (hR : zR rm R maxL cells slots)
    (hp : PreS s H Pc As) (hsz : ls.size = nL) (hst : (rest.map fun v => v.category).sum ≤ 8) (hdg : decode cc pc = .ok (.invokestatic index, 3)) (hs : st = As.reverse ++ rest) :
    va_Run p l e R s m args below meth c H locs cells slots 0 0 (F0 m pc ls st) rest (Qc As.toArray) free := by
  obtain ⟨hd, h1, h3, h4⟩ := hw
  obtain ⟨r1, r2, r3, r4, r5, r6⟩ := hR
  have hts := S.2.2.2.2
  exact va_runS S hM ⟨callB_of As.length hts (zq_code y bytes maxL ret h4) rfl r1 r2 (hts _ h3) (hts _ lk) hd ⟨r3, r4⟩, hts _ h1⟩ hp rfl rfl hsz hs (lv_room hst) hdg ⟨r5, r6⟩
theorem zM {host : String} (S : CallFix p m c cc nL s args zt own) (hM : Met l y [.code y bytes maxL ret] rm Pc Qc 0 0 free) (hw : mwS y bytes maxL ret As.length) (lk : Cond.methodLinkNest own index y host ∈ zt) (hR : zR rm R maxL cells slots)
    (hp : PreS s H Pc As) (hsz : ls.size = nL) (hst : (rest.map fun v => v.category).sum ≤ 8) (hdg : decode cc pc = .ok (.invokestatic index, 3)) (hs : st = As.reverse ++ rest) :
    va_Run p l e R s m args below meth c H locs cells slots 0 0 (F0 m pc ls st) rest (Qc As.toArray) free := by
  obtain ⟨hd, h1, h3, h4⟩ := hw
  obtain ⟨r1, r2, r3, r4, r5, r6⟩ := hR
  have hts := S.2.2.2.2
  exact va_runSN S hM ⟨va_cnB (host := host) As.length hts (zq_code y bytes maxL ret h4) rfl r1 r2 (va_Nw.of rfl (hts _ lk)) (hts _ h3) hd ⟨r3, r4⟩, hts _ h1, trivial⟩ hp rfl rfl hsz hs (lv_room hst) hdg ⟨r5, r6⟩
theorem zR0 {a : Array Value} {st1 : List Value} (hr : va_Run p l e R s m args below meth c H locs cells slots 0 0 (F0 m pc ls st) rest (QcR ov a) zN) (hs1 : st1 = ov.toList ++ rest)
    (kk : W p l e R s m args below meth c H locs cells slots Q (F0 m (pc + 3) ls st1)) : W p l e R s m args below meth c H locs cells slots Q (F0 m pc ls st) := by
  intro T hT X
  obtain ⟨v, st₀, t, T', L, h0, X', hL, e1, e2, ⟨ho, hh⟩, stp⟩ := hr T hT X
  cases ho
  subst hs1
  obtain ⟨t2, a1, b1⟩ := kk T' (by rw [e1, hh, h0]) (Stand.forget X' (fun q h => (hL q h).elim))
  exact ⟨t2, stp t2 a1, b1⟩
theorem z_preR {s : State} {H : Heap} {As : List Value} (hT : tb D cI cZ s) (hP : va_P D vwCl ws H) (is : List Nat) (hi : is.filterMap (fun i => ws[i]?) = wc) : PreS s H (PcR D cI cZ As wc) As :=
  ⟨fun _ _ _ _ q => ⟨q.1, tb_call q.2.1, q.2.2⟩, fun U hU hW => ⟨rfl, tb_warm hW hT, by rw [hU]; exact hP.sub is hi⟩⟩
theorem z_recv {s : State} {H : Heap} {q0 ci N : Nat} {T : u_T} {fs : List Value} (hT : tb D cI cZ s) (hP : va_P D vwCl ws H) (he : ws[q0]? = some (b, .inr (ci, fs))) (hc : vwCl[ci]? = some (C, T, N)) : ∃ cellB : Cell, H[b]? = some cellB ∧ cellB.vm.isStatics = false ∧ s.vm.findClass C = some cellB.cls :=
  va_recv hT.1 hP hc he
/-- a read: on an object -/
theorem kRV {st1 : List Value} {ci N q0 : Nat} {T : u_T} {fs : List Value} (S : CallFix p m c cc nL s args zt own) (hT : tb D cI cZ s) (hP : va_P D vwCl ws H) (hM : Met l y [.code y bytes maxL ret] rm (PcR D cI cZ (.ref b :: As) wc) (QcR ov) 0 0 zN) (hs : st = As.reverse ++ .ref b :: rest) (hs1 : st1 = ov.toList ++ rest)
    (hw : mwI C y bytes maxL ret As.length) (lk : Cond.methodLink own index y ∈ zt) (hR : zR rm R maxL cells slots) (is : List Nat) (hi : is.filterMap (fun i => ws[i]?) = wc) (he : ws[q0]? = some (b, .inr (ci, fs))) (hc : vwCl[ci]? = some (C, T, N))
    (hsz : ls.size = nL) (hst : (rest.map fun v => v.category).sum ≤ 8) (hdg : decode cc pc = .ok (.invokevirtual index, 3))
    (kk : W p l e R s m args below meth c H locs cells slots Q (F0 m (pc + 3) ls st1)) : W p l e R s m args below meth c H locs cells slots Q (F0 m pc ls st) := by
  have hp := z_preR (As := .ref b :: As) hT hP is hi
  exact zR0 (zV S hM hw lk hR ⟨hp.1, z_recv hT hP he hc, hp.2⟩ hsz hst hdg hs) hs1 kk
theorem kRS {st1 : List Value} (S : CallFix p m c cc nL s args zt own) (hT : tb D cI cZ s) (hP : va_P D vwCl ws H) (hM : Met l y [.code y bytes maxL ret] rm (PcR D cI cZ As wc) (QcR ov) 0 0 zN) (hs : st = As.reverse ++ rest) (hs1 : st1 = ov.toList ++ rest)
    (hw : mwS y bytes maxL ret As.length) (lk : Cond.methodLink own index y ∈ zt) (hR : zR rm R maxL cells slots) (is : List Nat) (hi : is.filterMap (fun i => ws[i]?) = wc)
    (hsz : ls.size = nL) (hst : (rest.map fun v => v.category).sum ≤ 8) (hdg : decode cc pc = .ok (.invokestatic index, 3))
    (kk : W p l e R s m args below meth c H locs cells slots Q (F0 m (pc + 3) ls st1)) : W p l e R s m args below meth c H locs cells slots Q (F0 m pc ls st) :=
  zR0 (zS S hM hw lk hR (z_preR hT hP is hi) hsz hst hdg hs) hs1 kk
theorem kRM {host : String} {st1 : List Value} (S : CallFix p m c cc nL s args zt own) (hT : tb D cI cZ s) (hP : va_P D vwCl ws H) (hM : Met l y [.code y bytes maxL ret] rm (PcR D cI cZ As wc) (QcR ov) 0 0 zN) (hs : st = As.reverse ++ rest) (hs1 : st1 = ov.toList ++ rest)
    (hw : mwS y bytes maxL ret As.length) (lk : Cond.methodLinkNest own index y host ∈ zt) (hR : zR rm R maxL cells slots) (is : List Nat) (hi : is.filterMap (fun i => ws[i]?) = wc)
    (hsz : ls.size = nL) (hst : (rest.map fun v => v.category).sum ≤ 8) (hdg : decode cc pc = .ok (.invokestatic index, 3))
    (kk : W p l e R s m args below meth c H locs cells slots Q (F0 m (pc + 3) ls st1)) : W p l e R s m args below meth c H locs cells slots Q (F0 m pc ls st) :=
  zR0 (zM S hM hw lk hR (z_preR hT hP is hi) hsz hst hdg hs) hs1 kk
end ZC
/-- a world whose cells at the places `is` are the callee's new ones, the others' as they were -/
theorem z_merge {D : va_G} {A : Nat → Prop} {ws ws' wc wc' : va_W} {H H1 : Heap} (hP : va_P D vwCl ws H) (hD : va_D A ws) (is js : List Nat) (hi : is.map (fun i => ws[i]?) = wc.map some) (hi' : is.map (fun i => ws'[i]?) = wc'.map some)
    (hj : js.map (fun j => ws'[j]?) = js.map (fun j => ws[j]?)) (hcov : (List.range ws'.length).all (fun k => is.contains k || js.contains k) = true) (ha : ws'.map (·.1) = ws.map (·.1))
    (hP1 : va_P D vwCl wc' H1) (hk : ∀ q : Nat, q < H.size → ¬ zA wc q → H1[q]? = H[q]?) : va_P D vwCl ws' H1 ∧ va_D A ws' := by
  have key : ∀ (k : Nat) (q : Nat × va_E), ws'[k]? = some q → ∃ q0, ws[k]? = some q0 ∧ q0.1 = q.1 := by
    intro k q h
    have h1 : (ws'.map (·.1))[k]? = some q.1 := by rw [List.getElem?_map, h]; rfl
    rw [ha, List.getElem?_map] at h1
    cases h2 : ws[k]? with
    | none => rw [h2] at h1; cases h1
    | some q0 => rw [h2] at h1; exact ⟨q0, rfl, Option.some.inj h1⟩
  have at2 : ∀ {is2 : List Nat} {w w2 : va_W}, is2.map (fun i => w[i]?) = w2.map some → ∀ (j k : Nat), is2[j]? = some k → w[k]? = w2[j]? := by
    intro is2 w w2 h j k hj2
    have h1 : (is2.map (fun i => w[i]?))[j]? = some (w[k]?) := by rw [List.getElem?_map, hj2]; rfl
    rw [h, List.getElem?_map] at h1
    cases h3 : w2[j]? with
    | none => rw [h3] at h1; cases h1
    | some x => rw [h3] at h1; exact (Option.some.inj h1).symm
  refine ⟨fun k q hq => ?_, fun i j x y hx hy hxy => ?_, fun k q hq => ?_⟩
  · by_cases hmem : k ∈ is
    · obtain ⟨j, hj2⟩ := List.getElem?_of_mem hmem
      have := at2 hi' j k hj2
      rw [hq] at this
      exact hP1 j q this.symm
    · have hlt : k < ws'.length := (List.getElem?_eq_some_iff.mp hq).1
      have h1 := List.all_eq_true.mp hcov k (List.mem_range.mpr hlt)
      have hmj : k ∈ js := by
        rcases (Bool.or_eq_true _ _).mp h1 with h2 | h2
        · exact absurd (List.contains_iff_mem.mp h2) hmem
        · exact List.contains_iff_mem.mp h2
      obtain ⟨j, hj2⟩ := List.getElem?_of_mem hmj
      have h3 : (js.map (fun j => ws'[j]?))[j]? = some (ws'[k]?) := by rw [List.getElem?_map, hj2]; rfl
      rw [hj, List.getElem?_map, hj2] at h3
      have h4 : ws[k]? = some q := by rw [← hq]; exact Option.some.inj h3
      have hlt2 := (hP k q h4).lt
      refine (hP k q h4).kept (hk q.1 hlt2 (fun hz => ?_))
      obtain ⟨k2, e2, hz⟩ := hz
      have hlen : k2 < is.length := by
        have hl2 : k2 < wc.length := (List.getElem?_eq_some_iff.mp hz).1
        have hh := congrArg List.length hi
        rw [List.length_map, List.length_map] at hh
        omega
      have h5 := at2 hi k2 is[k2] (List.getElem?_eq_getElem hlen)
      rw [hz] at h5
      have := hD.1 _ _ _ _ h5 h4 rfl
      exact hmem (by rw [← this]; exact List.getElem_mem hlen)
  · obtain ⟨x0, h1, h2⟩ := key i x hx
    obtain ⟨y0, h3, h4⟩ := key j y hy
    exact hD.1 i j x0 y0 h1 h3 (h2.trans (hxy.trans h4.symm))
  · obtain ⟨q0, h1, h2⟩ := key k q hq
    rw [← h2]
    exact hD.2 k q0 h1
section ZD
variable {p : Program} {l : Launch} {e : Env} {R : Room} {s : State} {m : MethodId} {args : Array Value} {below : List Frame} {meth : Method} {c : Code} {H : Heap} {locs : List Loc} {cells slots : Nat} {Q : State → Prop}
variable {cc bytes : ByteArray} {nL maxL index pc : Nat} {own C : String} {y : MethodName} {ret : Option FieldType} {rm : Room} {D : va_G} {cI cZ : ClassId} {As rest st st1 : List Value} {b : Addr} {wc ws : va_W} {ov : Option Value} {ls : Array Slot} {A : Nat → Prop} {H0 : Heap} {U : Type} {post : U → Prop} {wf : U → va_W}
theorem zE0 {a : Array Value} (ws' : U → va_W) (hr : va_Run p l e R s m args below meth c H locs cells slots 0 0 (F0 m pc ls st) rest (QcE D ov post wf (zA wc) a) (zA wc)) (hP : va_P D vwCl ws H) (hD : va_D A ws) (hS : va_S A H0 H locs)
    (is js : List Nat) (hi : is.map (fun i => ws[i]?) = wc.map some) (hi' : ∀ u, is.map (fun i => (ws' u)[i]?) = (wf u).map some) (hj : ∀ u, js.map (fun j => (ws' u)[j]?) = js.map (fun j => ws[j]?)) (hcov : ∀ u, (List.range (ws' u).length).all (fun k => is.contains k || js.contains k) = true) (ha : ∀ u, (ws' u).map (·.1) = ws.map (·.1)) (hs1 : st1 = ov.toList ++ rest)
    (kk : ∀ (u : U) (H1 : Heap) (locs1 : List Loc), post u → va_P D vwCl (ws' u) H1 → va_D A (ws' u) → va_S A H0 H1 locs1 → W p l e R s m args below meth c H1 locs1 cells slots Q (F0 m (pc + 3) ls st1)) : W p l e R s m args below meth c H locs cells slots Q (F0 m pc ls st) := by
  intro T hT X
  obtain ⟨v, st₀, t, T', L, h0, X', hL, e1, e2, ⟨ho, ⟨u, hu, hP1⟩, hz, hk⟩, stp⟩ := hr T hT X
  cases ho
  subst hs1
  rw [h0] at hz hk
  have hin : ∀ q, zA wc q → A q := by
    intro q ⟨k, e', hq⟩
    have h1 : (is.map (fun i => ws[i]?))[k]? = some (some (q, e')) := by rw [hi, List.getElem?_map, hq]; rfl
    rw [List.getElem?_map] at h1
    cases h2 : is[k]? with
    | none => rw [h2] at h1; cases h1
    | some i => rw [h2] at h1; exact hD.2 i (q, e') (Option.some.inj h1)
  obtain ⟨m1, m2⟩ := z_merge hP hD is js hi (hi' u) (hj u) (hcov u) (ha u) hP1 hk
  obtain ⟨t2, a1, b1⟩ := kk u t.heap (locs ++ L) hu m1 m2 ⟨Nat.le_trans hS.1 hz, fun q h1 h2 => by
      rw [hk q (Nat.lt_of_lt_of_le h1 hS.1) (fun z => h2 (hin q z))]; exact hS.2.1 q h1 h2, fun q hq => by
      rcases List.mem_append.mp hq with h | h
      · exact hS.2.2 q h
      · exact hin _ (hL q h)⟩ T' e1 X'
  exact ⟨t2, stp t2 a1, b1⟩
theorem z_preW {s : State} {H : Heap} {As : List Value} (hT : tb D cI cZ s) (hP : va_P D vwCl ws H) (hD : va_D A ws) (is : List Nat) (hn : va_nd is = true) (hi : is.map (fun i => ws[i]?) = wc.map some) : PreS s H (PcW D cI cZ As wc) As := by
  refine ⟨fun _ _ _ _ q => ⟨q.1, tb_call q.2.1, q.2.2.1, q.2.2.2⟩, fun U hU hW => ⟨rfl, tb_warm hW hT, ?_, (hD.sub is hn hi).weaken (fun _ _ _ _ => trivial)⟩⟩
  rw [hU]
  intro k q hq
  have h1 : (is.map (fun i => ws[i]?))[k]? = some (some q) := by rw [hi, List.getElem?_map, hq]; rfl
  rw [List.getElem?_map] at h1
  cases h2 : is[k]? with
  | none => rw [h2] at h1; cases h1
  | some i => rw [h2] at h1; exact hP i q (Option.some.inj h1)
/-- a call that writes: on an object -/
theorem kEV (ws' : U → va_W) {ci N q0 : Nat} {T : u_T} {fs : List Value} (S : CallFix p m c cc nL s args zt own) (hT : tb D cI cZ s) (hP : va_P D vwCl ws H) (hD : va_D A ws) (hS : va_S A H0 H locs) (hM : Met l y [.code y bytes maxL ret] rm (PcW D cI cZ (.ref b :: As) wc) (QcE D ov post wf (zA wc)) 0 0 (zA wc)) (hs : st = As.reverse ++ .ref b :: rest) (hs1 : st1 = ov.toList ++ rest)
    (hw : mwI C y bytes maxL ret As.length) (lk : Cond.methodLink own index y ∈ zt) (hR : zR rm R maxL cells slots) (is js : List Nat) (hn : va_nd is = true) (hi : is.map (fun i => ws[i]?) = wc.map some) (hi' : ∀ u, is.map (fun i => (ws' u)[i]?) = (wf u).map some) (hj : ∀ u, js.map (fun j => (ws' u)[j]?) = js.map (fun j => ws[j]?)) (n : Nat) (hlen : ∀ u, (ws' u).length = n) (hcov : (List.range n).all (fun k => is.contains k || js.contains k) = true) (ha : ∀ u, (ws' u).map (·.1) = ws.map (·.1))
    (he : ws[q0]? = some (b, .inr (ci, fs))) (hc : vwCl[ci]? = some (C, T, N)) (hsz : ls.size = nL) (hst : (rest.map fun v => v.category).sum ≤ 8) (hdg : decode cc pc = .ok (.invokevirtual index, 3))
    (kk : ∀ (u : U) (H1 : Heap) (locs1 : List Loc), post u → va_P D vwCl (ws' u) H1 → va_D A (ws' u) → va_S A H0 H1 locs1 → W p l e R s m args below meth c H1 locs1 cells slots Q (F0 m (pc + 3) ls st1)) : W p l e R s m args below meth c H locs cells slots Q (F0 m pc ls st) := by
  have hp := z_preW (As := .ref b :: As) hT hP hD is hn hi
  exact zE0 ws' (zV S hM hw lk hR ⟨hp.1, z_recv hT hP he hc, hp.2⟩ hsz hst hdg hs) hP hD hS is js hi hi' hj (fun u => by rw [hlen u]; exact hcov) ha hs1 kk
theorem kES (ws' : U → va_W) (S : CallFix p m c cc nL s args zt own) (hT : tb D cI cZ s) (hP : va_P D vwCl ws H) (hD : va_D A ws) (hS : va_S A H0 H locs) (hM : Met l y [.code y bytes maxL ret] rm (PcW D cI cZ As wc) (QcE D ov post wf (zA wc)) 0 0 (zA wc)) (hs : st = As.reverse ++ rest) (hs1 : st1 = ov.toList ++ rest)
    (hw : mwS y bytes maxL ret As.length) (lk : Cond.methodLink own index y ∈ zt) (hR : zR rm R maxL cells slots) (is js : List Nat) (hn : va_nd is = true) (hi : is.map (fun i => ws[i]?) = wc.map some) (hi' : ∀ u, is.map (fun i => (ws' u)[i]?) = (wf u).map some) (hj : ∀ u, js.map (fun j => (ws' u)[j]?) = js.map (fun j => ws[j]?)) (n : Nat) (hlen : ∀ u, (ws' u).length = n) (hcov : (List.range n).all (fun k => is.contains k || js.contains k) = true) (ha : ∀ u, (ws' u).map (·.1) = ws.map (·.1))
    (hsz : ls.size = nL) (hst : (rest.map fun v => v.category).sum ≤ 8) (hdg : decode cc pc = .ok (.invokestatic index, 3))
    (kk : ∀ (u : U) (H1 : Heap) (locs1 : List Loc), post u → va_P D vwCl (ws' u) H1 → va_D A (ws' u) → va_S A H0 H1 locs1 → W p l e R s m args below meth c H1 locs1 cells slots Q (F0 m (pc + 3) ls st1)) : W p l e R s m args below meth c H locs cells slots Q (F0 m pc ls st) :=
  zE0 ws' (zS S hM hw lk hR (z_preW hT hP hD is hn hi) hsz hst hdg hs) hP hD hS is js hi hi' hj (fun u => by rw [hlen u]; exact hcov) ha hs1 kk
theorem kEM {host : String} (ws' : U → va_W) (S : CallFix p m c cc nL s args zt own) (hT : tb D cI cZ s) (hP : va_P D vwCl ws H) (hD : va_D A ws) (hS : va_S A H0 H locs) (hM : Met l y [.code y bytes maxL ret] rm (PcW D cI cZ As wc) (QcE D ov post wf (zA wc)) 0 0 (zA wc)) (hs : st = As.reverse ++ rest) (hs1 : st1 = ov.toList ++ rest)
    (hw : mwS y bytes maxL ret As.length) (lk : Cond.methodLinkNest own index y host ∈ zt) (hR : zR rm R maxL cells slots) (is js : List Nat) (hn : va_nd is = true) (hi : is.map (fun i => ws[i]?) = wc.map some) (hi' : ∀ u, is.map (fun i => (ws' u)[i]?) = (wf u).map some) (hj : ∀ u, js.map (fun j => (ws' u)[j]?) = js.map (fun j => ws[j]?)) (n : Nat) (hlen : ∀ u, (ws' u).length = n) (hcov : (List.range n).all (fun k => is.contains k || js.contains k) = true) (ha : ∀ u, (ws' u).map (·.1) = ws.map (·.1))
    (hsz : ls.size = nL) (hst : (rest.map fun v => v.category).sum ≤ 8) (hdg : decode cc pc = .ok (.invokestatic index, 3))
    (kk : ∀ (u : U) (H1 : Heap) (locs1 : List Loc), post u → va_P D vwCl (ws' u) H1 → va_D A (ws' u) → va_S A H0 H1 locs1 → W p l e R s m args below meth c H1 locs1 cells slots Q (F0 m (pc + 3) ls st1)) : W p l e R s m args below meth c H locs cells slots Q (F0 m pc ls st) :=
  zE0 ws' (zM S hM hw lk hR (z_preW hT hP hD is hn hi) hsz hst hdg hs) hP hD hS is js hi hi' hj (fun u => by rw [hlen u]; exact hcov) ha hs1 kk
end ZD
/-- an array's contents are told up to its length -/
theorem z_cong {cA : ClassId} {n : Nat} {f g : Nat → Int32} (h : ∀ j, j < n → f j = g j) : vp_cell cA (n, .inl f) = vp_cell cA (n, .inl g) := by
  rw [vp_cell_i, vp_cell_i]
  have he : (Array.ofFn (n := n) fun j : Fin n => Value.int (f j.val)) = (Array.ofFn (n := n) fun j : Fin n => Value.int (g j.val)) := by
    congr 1
    funext j
    rw [h j.val j.isLt]
  show ({ cls := cA, slots := Array.ofFn (n := n) fun j : Fin n => Value.int (f j.val), vm := .none } : Cell) = _
  rw [he]
  rfl
theorem z_fun {D : va_G} {ws : va_W} {H : Heap} {k n : Nat} {a : Nat} {cA : ClassId} {f g : Nat → Int32} (hP : va_P D vwCl ws H) (hk : ws[k]? = some (a, .inl (cA, n, .inl f))) (h : ∀ j, j < n → f j = g j) : va_P D vwCl (ws.set k (a, .inl (cA, n, .inl g))) H := by
  intro j q hj
  by_cases hjk : j = k
  · subst hjk
    rw [List.getElem?_set_self (List.getElem?_eq_some_iff.mp hk).1] at hj
    cases hj
    show H[a]? = some (vp_cell _ _)
    rw [← z_cong h]
    exact hP j _ hk
  · rw [List.getElem?_set_ne (Ne.symm hjk)] at hj
    exact hP j q hj
section ZI
variable {p : Program} {l : Launch} {e : Env} {R : Room} {s : State} {m : MethodId} {args : Array Value} {below : List Frame} {meth : Method} {c : Code} {H : Heap} {locs : List Loc} {cells slots : Nat} {Q : State → Prop}
variable {cc : ByteArray} {pc : Nat} {ls : Array Slot} {rest : List Value} {D : va_G} {cl : List vw_C} {A : Nat → Prop} {a : Nat} {tys : List (ClassId × FieldType)} {ws : va_W} {H0 : Heap}
theorem zI {x y : Int32} (h : x = y) (k : W p l e R s m args below meth c H locs cells slots Q (F0 m pc ls (.int y :: rest))) : W p l e R s m args below meth c H locs cells slots Q (F0 m pc ls (.int x :: rest)) := h ▸ k
theorem zL {x y : Int64} (h : x = y) (k : W p l e R s m args below meth c H locs cells slots Q (F0 m pc ls (.long y :: rest))) : W p l e R s m args below meth c H locs cells slots Q (F0 m pc ls (.long x :: rest)) := h ▸ k
theorem zald (hexec : p.tables.exec = Jvm.exec) (hb : c.code = cc) (hK : va_K D cl tys s) (hP : va_P D cl ws H) (q0 t0 : Nat) {cA : ClassId} {n : Nat} {f : Nat → Int32} (ha : ws[q0]? = some (a, .inl (cA, n, .inl f))) (ht : tys[t0]? = some (cA, .int)) {k : Nat} (hk : k < n) (hn : n < 2 ^ 31) (hdg : decode cc pc = .ok (.iaload, 1))
    (kk : W p l e R s m args below meth c H locs cells slots Q (F0 m (pc + 1) ls (.int (f k) :: rest))) : W p l e R s m args below meth c H locs cells slots Q (F0 m pc ls (.int (nI k) :: .ref a :: rest)) := by
  refine va_iald hexec hb hK hP q0 t0 ha ht (vp_in_nI hk hn) hdg ?_
  rw [nI_clamp (Nat.lt_trans hk hn)]
  exact kk
theorem zast (hexec : p.tables.exec = Jvm.exec) (hb : c.code = cc) (hK : va_K D cl tys s) (hP : va_P D cl ws H) (hD : va_D A ws) (hS : va_S A H0 H locs) (q0 t0 : Nat) {cA : ClassId} {n : Nat} {f : Nat → Int32} (ha : ws[q0]? = some (a, .inl (cA, n, .inl f))) (ht : tys[t0]? = some (cA, .int)) {k : Nat} {x : Int32} (hk : k < n) (hn : n < 2 ^ 31) (hdg : decode cc pc = .ok (.iastore, 1))
    (kk : ∀ (H1 : Heap) (locs1 : List Loc), va_P D cl (ws.set q0 (a, .inl (cA, n, .inl (upd f k x)))) H1 → va_D A (ws.set q0 (a, .inl (cA, n, .inl (upd f k x)))) → va_S A H0 H1 locs1 → W p l e R s m args below meth c H1 locs1 cells slots Q (F0 m (pc + 1) ls rest)) : W p l e R s m args below meth c H locs cells slots Q (F0 m pc ls (.int x :: .int (nI k) :: .ref a :: rest)) := by
  refine va_iast hexec hb hK hP hD hS q0 t0 ha ht (vp_in_nI hk hn) hdg ?_
  rw [nI_clamp (Nat.lt_trans hk hn)]
  exact kk
end ZI
theorem zNle {a b : Nat} (h : nI a ≤ nI b) (ha : a < 2 ^ 31) (hb : b < 2 ^ 31) : a ≤ b := (nI_leI ha hb).mp h
theorem zNlt {a b : Nat} (h : nI a < nI b) (ha : a < 2 ^ 31) (hb : b < 2 ^ 31) : a < b := (nI_ltI ha hb).mp h
theorem zNnle {a b : Nat} (h : ¬ nI a ≤ nI b) (ha : a < 2 ^ 31) (hb : b < 2 ^ 31) : b < a := Nat.lt_of_not_le (fun q => h ((nI_leI ha hb).mpr q))
theorem zNnlt {a b : Nat} (h : ¬ nI a < nI b) (ha : a < 2 ^ 31) (hb : b < 2 ^ 31) : b ≤ a := Nat.le_of_not_lt (fun q => h ((nI_ltI ha hb).mpr q))
theorem zNeq {a b : Nat} (h : nI a = nI b) (ha : a < 2 ^ 31) (hb : b < 2 ^ 31) : a = b := (nI_eq ha hb).mp h
theorem zNne {a b : Nat} (h : ¬ nI a = nI b) (ha : a < 2 ^ 31) (hb : b < 2 ^ 31) : a ≠ b := fun q => h ((nI_eq ha hb).mpr q)
theorem zvin {i : Int32} {n : Nat} (h1 : ¬ i < 0) (h2 : ¬ nI n ≤ i) (hn : n < 2 ^ 31) : vp_in i n := by
  obtain ⟨j, hj, rfl⟩ := nI_of h1
  exact vp_in_nI (zNnle h2 hn hj) hn
theorem zpos1 {x : Int32} (h : ¬ x < 1) : ¬ x = 0 := fun e => h (by rw [e]; decide)
end
section
theorem mw_J6_bitCount_0f7a4 : mwS yJ6_bitCount_0f7a4 cJ6_bitCount_0f7a4 1 (Option.some Jvm.ClassFile.FieldType.int) 1 := ⟨⟨by decide +kernel, by decide +kernel, by decide +kernel⟩, sm_J6_bitCount_0f7a4, ini_RJ6, cd_J6_bitCount_0f7a4⟩
theorem mw_X0_aboard : mwI RX0 yX0_aboard cX0_aboard 1 (Option.some Jvm.ClassFile.FieldType.int) 0 := ⟨⟨rfl, by decide +kernel, by decide +kernel, by decide +kernel⟩, im_X0_aboard, se_X0_aboard, ini_RX0, cd_X0_aboard⟩
theorem mw_X0_fly : mwI RX0 yX0_fly cX0_fly 2 (Option.none : Option Jvm.ClassFile.FieldType) 1 := ⟨⟨rfl, by decide +kernel, by decide +kernel, by decide +kernel⟩, im_X0_fly, se_X0_fly, ini_RX0, cd_X0_fly⟩
theorem mw_X0_gas : mwI RX0 yX0_gas cX0_gas 1 (Option.some Jvm.ClassFile.FieldType.int) 0 := ⟨⟨rfl, by decide +kernel, by decide +kernel, by decide +kernel⟩, im_X0_gas, se_X0_gas, ini_RX0, cd_X0_gas⟩
theorem mw_X0_lose : mwI RX0 yX0_lose cX0_lose 2 (Option.none : Option Jvm.ClassFile.FieldType) 1 := ⟨⟨rfl, by decide +kernel, by decide +kernel, by decide +kernel⟩, im_X0_lose, se_X0_lose, ini_RX0, cd_X0_lose⟩
theorem mw_X0_place : mwI RX0 yX0_place cX0_place 1 (Option.some Jvm.ClassFile.FieldType.int) 0 := ⟨⟨rfl, by decide +kernel, by decide +kernel, by decide +kernel⟩, im_X0_place, se_X0_place, ini_RX0, cd_X0_place⟩
theorem mw_X0_start : mwI RX0 yX0_start cX0_start 4 (Option.none : Option Jvm.ClassFile.FieldType) 3 := ⟨⟨rfl, by decide +kernel, by decide +kernel, by decide +kernel⟩, im_X0_start, se_X0_start, ini_RX0, cd_X0_start⟩
theorem mw_X1_all : mwI RX1 yX1_all cX1_all 2 (Option.some Jvm.ClassFile.FieldType.long) 1 := ⟨⟨rfl, by decide +kernel, by decide +kernel, by decide +kernel⟩, im_X1_all, se_X1_all, ini_RX1, cd_X1_all⟩
theorem mw_X1_chance : mwI RX1 yX1_chance cX1_chance 5 (Option.some Jvm.ClassFile.FieldType.long) 3 := ⟨⟨rfl, by decide +kernel, by decide +kernel, by decide +kernel⟩, im_X1_chance, se_X1_chance, ini_RX1, cd_X1_chance⟩
theorem mw_X1_landing : mwI RX1 yX1_landing cX1_landing 8 (Option.some Jvm.ClassFile.FieldType.long) 4 := ⟨⟨rfl, by decide +kernel, by decide +kernel, by decide +kernel⟩, im_X1_landing, se_X1_landing, ini_RX1, cd_X1_landing⟩
theorem mw_X1_line : mwI RX1 yX1_line cX1_line 4 (Option.none : Option Jvm.ClassFile.FieldType) 1 := ⟨⟨rfl, by decide +kernel, by decide +kernel, by decide +kernel⟩, im_X1_line, se_X1_line, ini_RX1, cd_X1_line⟩
theorem mw_X1_placeBy : mwI RX1 yX1_placeBy cX1_placeBy 6 (Option.some Jvm.ClassFile.FieldType.int) 2 := ⟨⟨rfl, by decide +kernel, by decide +kernel, by decide +kernel⟩, im_X1_placeBy, se_X1_placeBy, ini_RX1, cd_X1_placeBy⟩
theorem mw_X1_places : mwI RX1 yX1_places cX1_places 6 (Option.some Jvm.ClassFile.FieldType.long) 2 := ⟨⟨rfl, by decide +kernel, by decide +kernel, by decide +kernel⟩, im_X1_places, se_X1_places, ini_RX1, cd_X1_places⟩
theorem mw_X1_power : mwS yX1_power cX1_power 5 (Option.some Jvm.ClassFile.FieldType.long) 2 := ⟨⟨by decide +kernel, by decide +kernel, by decide +kernel⟩, sm_X1_power, ini_RX1, cd_X1_power⟩
theorem mw_X2_addMinute : mwI RX2 yX2_addMinute cX2_addMinute 5 (Option.none : Option Jvm.ClassFile.FieldType) 3 := ⟨⟨rfl, by decide +kernel, by decide +kernel, by decide +kernel⟩, im_X2_addMinute, se_X2_addMinute, ini_RX2, cd_X2_addMinute⟩
theorem mw_X2_draw : mwI RX2 yX2_draw cX2_draw 6 (Option.none : Option Jvm.ClassFile.FieldType) 2 := ⟨⟨rfl, by decide +kernel, by decide +kernel, by decide +kernel⟩, im_X2_draw, se_X2_draw, ini_RX2, cd_X2_draw⟩
theorem mw_X2_drift : mwI RX2 yX2_drift cX2_drift 3 (Option.some Jvm.ClassFile.FieldType.int) 2 := ⟨⟨rfl, by decide +kernel, by decide +kernel, by decide +kernel⟩, im_X2_drift, se_X2_drift, ini_RX2, cd_X2_drift⟩
theorem mw_X2_sneezes : mwI RX2 yX2_sneezes cX2_sneezes 1 (Option.some Jvm.ClassFile.FieldType.int) 0 := ⟨⟨rfl, by decide +kernel, by decide +kernel, by decide +kernel⟩, im_X2_sneezes, se_X2_sneezes, ini_RX2, cd_X2_sneezes⟩
theorem mw_X3_clear : mwI RX3 yX3_clear cX3_clear 1 (Option.none : Option Jvm.ClassFile.FieldType) 0 := ⟨⟨rfl, by decide +kernel, by decide +kernel, by decide +kernel⟩, im_X3_clear, se_X3_clear, ini_RX3, cd_X3_clear⟩
theorem mw_X3_note : mwI RX3 yX3_note cX3_note 3 (Option.none : Option Jvm.ClassFile.FieldType) 2 := ⟨⟨rfl, by decide +kernel, by decide +kernel, by decide +kernel⟩, im_X3_note, se_X3_note, ini_RX3, cd_X3_note⟩
theorem mw_X3_saw : mwI RX3 yX3_saw cX3_saw 3 (Option.some Jvm.ClassFile.FieldType.boolean) 2 := ⟨⟨rfl, by decide +kernel, by decide +kernel, by decide +kernel⟩, im_X3_saw, se_X3_saw, ini_RX3, cd_X3_saw⟩
theorem mw_X4_clear : mwI RX4 yX4_clear cX4_clear 1 (Option.none : Option Jvm.ClassFile.FieldType) 0 := ⟨⟨rfl, by decide +kernel, by decide +kernel, by decide +kernel⟩, im_X4_clear, se_X4_clear, ini_RX4, cd_X4_clear⟩
theorem mw_X4_count : mwI RX4 yX4_count cX4_count 4 (Option.some Jvm.ClassFile.FieldType.int) 1 := ⟨⟨rfl, by decide +kernel, by decide +kernel, by decide +kernel⟩, im_X4_count, se_X4_count, ini_RX4, cd_X4_count⟩
theorem mw_X4_fines : mwI RX4 yX4_fines cX4_fines 4 (Option.some Jvm.ClassFile.FieldType.int) 0 := ⟨⟨rfl, by decide +kernel, by decide +kernel, by decide +kernel⟩, im_X4_fines, se_X4_fines, ini_RX4, cd_X4_fines⟩
theorem mw_X4_hasThrow : mwI RX4 yX4_hasThrow cX4_hasThrow 2 (Option.some Jvm.ClassFile.FieldType.boolean) 0 := ⟨⟨rfl, by decide +kernel, by decide +kernel, by decide +kernel⟩, im_X4_hasThrow, se_X4_hasThrow, ini_RX4, cd_X4_hasThrow⟩
theorem mw_X4_length : mwI RX4 yX4_length cX4_length 1 (Option.some Jvm.ClassFile.FieldType.int) 0 := ⟨⟨rfl, by decide +kernel, by decide +kernel, by decide +kernel⟩, im_X4_length, se_X4_length, ini_RX4, cd_X4_length⟩
theorem mw_X4_sign : mwI RX4 yX4_sign cX4_sign 2 (Option.some Jvm.ClassFile.FieldType.int) 1 := ⟨⟨rfl, by decide +kernel, by decide +kernel, by decide +kernel⟩, im_X4_sign, se_X4_sign, ini_RX4, cd_X4_sign⟩
theorem mw_X4_write : mwI RX4 yX4_write cX4_write 2 (Option.none : Option Jvm.ClassFile.FieldType) 1 := ⟨⟨rfl, by decide +kernel, by decide +kernel, by decide +kernel⟩, im_X4_write, se_X4_write, ini_RX4, cd_X4_write⟩
theorem mw_X5_add : mwI RX5 yX5_add cX5_add 4 (Option.none : Option Jvm.ClassFile.FieldType) 2 := ⟨⟨rfl, by decide +kernel, by decide +kernel, by decide +kernel⟩, im_X5_add, se_X5_add, ini_RX5, cd_X5_add⟩
theorem mw_X5_firstDoubt : mwI RX5 yX5_firstDoubt cX5_firstDoubt 4 (Option.some Jvm.ClassFile.FieldType.int) 2 := ⟨⟨rfl, by decide +kernel, by decide +kernel, by decide +kernel⟩, im_X5_firstDoubt, se_X5_firstDoubt, ini_RX5, cd_X5_firstDoubt⟩
theorem mw_X5_gather : mwI RX5 yX5_gather cX5_gather 6 (Option.none : Option Jvm.ClassFile.FieldType) 3 := ⟨⟨rfl, by decide +kernel, by decide +kernel, by decide +kernel⟩, im_X5_gather, se_X5_gather, ini_RX5, cd_X5_gather⟩
theorem mw_X5_near : mwI RX5 yX5_near cX5_near 5 (Option.some Jvm.ClassFile.FieldType.int) 2 := ⟨⟨rfl, by decide +kernel, by decide +kernel, by decide +kernel⟩, im_X5_near, se_X5_near, ini_RX5, cd_X5_near⟩
theorem mw_X6_begin : mwI RX6 yX6_begin cX6_begin 2 (Option.none : Option Jvm.ClassFile.FieldType) 1 := ⟨⟨rfl, by decide +kernel, by decide +kernel, by decide +kernel⟩, im_X6_begin, se_X6_begin, ini_RX6, cd_X6_begin⟩
theorem mw_X6_chosen : mwI RX6 yX6_chosen cX6_chosen 2 (Option.some Jvm.ClassFile.FieldType.int) 1 := ⟨⟨rfl, by decide +kernel, by decide +kernel, by decide +kernel⟩, im_X6_chosen, se_X6_chosen, ini_RX6, cd_X6_chosen⟩
theorem mw_X6_end : mwI RX6 yX6_end cX6_end 4 (Option.none : Option Jvm.ClassFile.FieldType) 2 := ⟨⟨rfl, by decide +kernel, by decide +kernel, by decide +kernel⟩, im_X6_end, se_X6_end, ini_RX6, cd_X6_end⟩
theorem mw_X6_off : mwI RX6 yX6_off cX6_off 1 (Option.some Jvm.ClassFile.FieldType.int) 0 := ⟨⟨rfl, by decide +kernel, by decide +kernel, by decide +kernel⟩, im_X6_off, se_X6_off, ini_RX6, cd_X6_off⟩
theorem mw_X6_pick : mwI RX6 yX6_pick cX6_pick 3 (Option.none : Option Jvm.ClassFile.FieldType) 2 := ⟨⟨rfl, by decide +kernel, by decide +kernel, by decide +kernel⟩, im_X6_pick, se_X6_pick, ini_RX6, cd_X6_pick⟩
theorem mw_X7_addSight : mwI RX7 yX7_addSight cX7_addSight 3 (Option.none : Option Jvm.ClassFile.FieldType) 2 := ⟨⟨rfl, by decide +kernel, by decide +kernel, by decide +kernel⟩, im_X7_addSight, se_X7_addSight, ini_RX7, cd_X7_addSight⟩
theorem mw_X7_become : mwI RX7 yX7_become cX7_become 2 (Option.none : Option Jvm.ClassFile.FieldType) 1 := ⟨⟨rfl, by decide +kernel, by decide +kernel, by decide +kernel⟩, im_X7_become, se_X7_become, ini_RX7, cd_X7_become⟩
theorem mw_X7_changeNumber : mwI RX7 yX7_changeNumber cX7_changeNumber 3 (Option.none : Option Jvm.ClassFile.FieldType) 2 := ⟨⟨rfl, by decide +kernel, by decide +kernel, by decide +kernel⟩, im_X7_changeNumber, se_X7_changeNumber, ini_RX7, cd_X7_changeNumber⟩
theorem mw_X7_changeWeight : mwI RX7 yX7_changeWeight cX7_changeWeight 3 (Option.none : Option Jvm.ClassFile.FieldType) 2 := ⟨⟨rfl, by decide +kernel, by decide +kernel, by decide +kernel⟩, im_X7_changeWeight, se_X7_changeWeight, ini_RX7, cd_X7_changeWeight⟩
theorem mw_X7_changeWind : mwI RX7 yX7_changeWind cX7_changeWind 4 (Option.none : Option Jvm.ClassFile.FieldType) 3 := ⟨⟨rfl, by decide +kernel, by decide +kernel, by decide +kernel⟩, im_X7_changeWind, se_X7_changeWind, ini_RX7, cd_X7_changeWind⟩
theorem mw_X7_drift : mwI RX7 yX7_drift cX7_drift 4 (Option.some Jvm.ClassFile.FieldType.int) 3 := ⟨⟨rfl, by decide +kernel, by decide +kernel, by decide +kernel⟩, im_X7_drift, se_X7_drift, ini_RX7, cd_X7_drift⟩
theorem mw_X7_forgetSights : mwI RX7 yX7_forgetSights cX7_forgetSights 1 (Option.none : Option Jvm.ClassFile.FieldType) 0 := ⟨⟨rfl, by decide +kernel, by decide +kernel, by decide +kernel⟩, im_X7_forgetSights, se_X7_forgetSights, ini_RX7, cd_X7_forgetSights⟩
theorem mw_X7_heaviest : mwI RX7 yX7_heaviest cX7_heaviest 4 (Option.some Jvm.ClassFile.FieldType.int) 1 := ⟨⟨rfl, by decide +kernel, by decide +kernel, by decide +kernel⟩, im_X7_heaviest, se_X7_heaviest, ini_RX7, cd_X7_heaviest⟩
theorem mw_X7_height : mwI RX7 yX7_height cX7_height 5 (Option.some Jvm.ClassFile.FieldType.int) 2 := ⟨⟨rfl, by decide +kernel, by decide +kernel, by decide +kernel⟩, im_X7_height, se_X7_height, ini_RX7, cd_X7_height⟩
theorem mw_X7_isKept : mwI RX7 yX7_isKept cX7_isKept 1 (Option.some Jvm.ClassFile.FieldType.boolean) 0 := ⟨⟨rfl, by decide +kernel, by decide +kernel, by decide +kernel⟩, im_X7_isKept, se_X7_isKept, ini_RX7, cd_X7_isKept⟩
theorem mw_X7_keep : mwI RX7 yX7_keep cX7_keep 2 (Option.none : Option Jvm.ClassFile.FieldType) 1 := ⟨⟨rfl, by decide +kernel, by decide +kernel, by decide +kernel⟩, im_X7_keep, se_X7_keep, ini_RX7, cd_X7_keep⟩
theorem mw_X7_leaked : mwI RX7 yX7_leaked cX7_leaked 2 (Option.some Jvm.ClassFile.FieldType.int) 1 := ⟨⟨rfl, by decide +kernel, by decide +kernel, by decide +kernel⟩, im_X7_leaked, se_X7_leaked, ini_RX7, cd_X7_leaked⟩
theorem mw_X7_loaded : mwI RX7 yX7_loaded cX7_loaded 3 (Option.some Jvm.ClassFile.FieldType.int) 0 := ⟨⟨rfl, by decide +kernel, by decide +kernel, by decide +kernel⟩, im_X7_loaded, se_X7_loaded, ini_RX7, cd_X7_loaded⟩
theorem mw_X7_number : mwI RX7 yX7_number cX7_number 2 (Option.some Jvm.ClassFile.FieldType.int) 1 := ⟨⟨rfl, by decide +kernel, by decide +kernel, by decide +kernel⟩, im_X7_number, se_X7_number, ini_RX7, cd_X7_number⟩
theorem mw_X7_sightPlace : mwI RX7 yX7_sightPlace cX7_sightPlace 2 (Option.some Jvm.ClassFile.FieldType.int) 1 := ⟨⟨rfl, by decide +kernel, by decide +kernel, by decide +kernel⟩, im_X7_sightPlace, se_X7_sightPlace, ini_RX7, cd_X7_sightPlace⟩
theorem mw_X7_sightThing : mwI RX7 yX7_sightThing cX7_sightThing 2 (Option.some Jvm.ClassFile.FieldType.int) 1 := ⟨⟨rfl, by decide +kernel, by decide +kernel, by decide +kernel⟩, im_X7_sightThing, se_X7_sightThing, ini_RX7, cd_X7_sightThing⟩
theorem mw_X7_sights : mwI RX7 yX7_sights cX7_sights 1 (Option.some Jvm.ClassFile.FieldType.int) 0 := ⟨⟨rfl, by decide +kernel, by decide +kernel, by decide +kernel⟩, im_X7_sights, se_X7_sights, ini_RX7, cd_X7_sights⟩
theorem mw_X7_weight : mwI RX7 yX7_weight cX7_weight 2 (Option.some Jvm.ClassFile.FieldType.int) 1 := ⟨⟨rfl, by decide +kernel, by decide +kernel, by decide +kernel⟩, im_X7_weight, se_X7_weight, ini_RX7, cd_X7_weight⟩
theorem mw_X7_windAt : mwI RX7 yX7_windAt cX7_windAt 3 (Option.some Jvm.ClassFile.FieldType.int) 2 := ⟨⟨rfl, by decide +kernel, by decide +kernel, by decide +kernel⟩, im_X7_windAt, se_X7_windAt, ini_RX7, cd_X7_windAt⟩
theorem mw_X8_ahead : mwI RX8 yX8_ahead cX8_ahead 8 (Option.some Jvm.ClassFile.FieldType.int) 2 := ⟨⟨rfl, by decide +kernel, by decide +kernel, by decide +kernel⟩, im_X8_ahead, se_X8_ahead, ini_RX8, cd_X8_ahead⟩
theorem mw_X8_at : mwI RX8 yX8_at cX8_at 3 (Option.some Jvm.ClassFile.FieldType.int) 2 := ⟨⟨rfl, by decide +kernel, by decide +kernel, by decide +kernel⟩, im_X8_at, se_X8_at, ini_RX8, cd_X8_at⟩
theorem mw_X8_cell : mwS yX8_cell cX8_cell 2 (Option.some Jvm.ClassFile.FieldType.int) 2 := ⟨⟨by decide +kernel, by decide +kernel, by decide +kernel⟩, sm_X8_cell, ini_RX8, cd_X8_cell⟩
theorem mw_X8_choiceRefusal : mwI RX8 yX8_choiceRefusal cX8_choiceRefusal 3 (Option.some Jvm.ClassFile.FieldType.int) 1 := ⟨⟨rfl, by decide +kernel, by decide +kernel, by decide +kernel⟩, im_X8_choiceRefusal, se_X8_choiceRefusal, ini_RX8, cd_X8_choiceRefusal⟩
theorem mw_X8_commonDivisor : mwS yX8_commonDivisor cX8_commonDivisor 11 (Option.some Jvm.ClassFile.FieldType.long) 2 := ⟨⟨by decide +kernel, by decide +kernel, by decide +kernel⟩, sm_X8_commonDivisor, ini_RX8, cd_X8_commonDivisor⟩
theorem mw_X8_copy : mwS yX8_copy cX8_copy 3 (Option.none : Option Jvm.ClassFile.FieldType) 2 := ⟨⟨by decide +kernel, by decide +kernel, by decide +kernel⟩, sm_X8_copy, ini_RX8, cd_X8_copy⟩
theorem mw_X8_courseRefusal : mwI RX8 yX8_courseRefusal cX8_courseRefusal 2 (Option.some Jvm.ClassFile.FieldType.int) 1 := ⟨⟨rfl, by decide +kernel, by decide +kernel, by decide +kernel⟩, im_X8_courseRefusal, se_X8_courseRefusal, ini_RX8, cd_X8_courseRefusal⟩
theorem mw_X8_doubtWith : mwI RX8 yX8_doubtWith cX8_doubtWith 3 (Option.some Jvm.ClassFile.FieldType.int) 2 := ⟨⟨rfl, by decide +kernel, by decide +kernel, by decide +kernel⟩, im_X8_doubtWith, se_X8_doubtWith, ini_RX8, cd_X8_doubtWith⟩
theorem mw_X8_fault : mwI RX8 yX8_fault cX8_fault 1 (Option.some Jvm.ClassFile.FieldType.int) 0 := ⟨⟨rfl, by decide +kernel, by decide +kernel, by decide +kernel⟩, im_X8_fault, se_X8_fault, ini_RX8, cd_X8_fault⟩
theorem mw_X8_fell : mwI RX8 yX8_fell cX8_fell 3 (Option.some Jvm.ClassFile.FieldType.int) 2 := ⟨⟨rfl, by decide +kernel, by decide +kernel, by decide +kernel⟩, im_X8_fell, se_X8_fell, ini_RX8, cd_X8_fell⟩
theorem mw_X8_field : mwI RX8 yX8_field cX8_field 4 (Option.some Jvm.ClassFile.FieldType.int) 2 := ⟨⟨rfl, by decide +kernel, by decide +kernel, by decide +kernel⟩, im_X8_field, se_X8_field, ini_RX8, cd_X8_field⟩
theorem mw_X8_firstFault : mwI RX8 yX8_firstFault cX8_firstFault 7 (Option.some Jvm.ClassFile.FieldType.int) 0 := ⟨⟨rfl, by decide +kernel, by decide +kernel, by decide +kernel⟩, im_X8_firstFault, se_X8_firstFault, ini_RX8, cd_X8_firstFault⟩
theorem mw_X8_flyBehind : mwI RX8 yX8_flyBehind cX8_flyBehind 4 (Option.none : Option Jvm.ClassFile.FieldType) 1 := ⟨⟨rfl, by decide +kernel, by decide +kernel, by decide +kernel⟩, im_X8_flyBehind, se_X8_flyBehind, ini_RX8, cd_X8_flyBehind⟩
theorem mw_X8_flyByDraws : mwI RX8 yX8_flyByDraws cX8_flyByDraws 4 (Option.some Jvm.ClassFile.FieldType.int) 1 := ⟨⟨rfl, by decide +kernel, by decide +kernel, by decide +kernel⟩, im_X8_flyByDraws, se_X8_flyByDraws, ini_RX8, cd_X8_flyByDraws⟩
theorem mw_X8_forget : mwI RX8 yX8_forget cX8_forget 2 (Option.some Jvm.ClassFile.FieldType.int) 0 := ⟨⟨rfl, by decide +kernel, by decide +kernel, by decide +kernel⟩, im_X8_forget, se_X8_forget, ini_RX8, cd_X8_forget⟩
theorem mw_X8_has : mwS yX8_has cX8_has 2 (Option.some Jvm.ClassFile.FieldType.boolean) 2 := ⟨⟨by decide +kernel, by decide +kernel, by decide +kernel⟩, sm_X8_has, ini_RX8, cd_X8_has⟩
theorem mw_X8_image : mwI RX8 yX8_image cX8_image 2 (Option.some Jvm.ClassFile.FieldType.int) 1 := ⟨⟨rfl, by decide +kernel, by decide +kernel, by decide +kernel⟩, im_X8_image, se_X8_image, ini_RX8, cd_X8_image⟩
theorem mw_X8_imageOf : mwI RX8 yX8_imageOf cX8_imageOf 2 (Option.some (Jvm.ClassFile.FieldType.object "SneezeRace$Setup")) 1 := ⟨⟨rfl, by decide +kernel, by decide +kernel, by decide +kernel⟩, im_X8_imageOf, se_X8_imageOf, ini_RX8, cd_X8_imageOf⟩
theorem mw_X8_inLowestTerms : mwS yX8_inLowestTerms cX8_inLowestTerms 7 (Option.some Jvm.ClassFile.FieldType.long) 3 := ⟨⟨by decide +kernel, by decide +kernel, by decide +kernel⟩, sm_X8_inLowestTerms, ini_RX8, cd_X8_inLowestTerms⟩
theorem mw_X8_isPlace : mwS yX8_isPlace cX8_isPlace 1 (Option.some Jvm.ClassFile.FieldType.boolean) 1 := ⟨⟨by decide +kernel, by decide +kernel, by decide +kernel⟩, sm_X8_isPlace, ini_RX8, cd_X8_isPlace⟩
theorem mw_X8_isStretch : mwS yX8_isStretch cX8_isStretch 2 (Option.some Jvm.ClassFile.FieldType.boolean) 2 := ⟨⟨by decide +kernel, by decide +kernel, by decide +kernel⟩, sm_X8_isStretch, ini_RX8, cd_X8_isStretch⟩
theorem mw_X8_isThing : mwS yX8_isThing cX8_isThing 1 (Option.some Jvm.ClassFile.FieldType.boolean) 1 := ⟨⟨by decide +kernel, by decide +kernel, by decide +kernel⟩, sm_X8_isThing, ini_RX8, cd_X8_isThing⟩
theorem mw_X8_judge : mwI RX8 yX8_judge cX8_judge 2 (Option.some Jvm.ClassFile.FieldType.int) 1 := ⟨⟨rfl, by decide +kernel, by decide +kernel, by decide +kernel⟩, im_X8_judge, se_X8_judge, ini_RX8, cd_X8_judge⟩
theorem mw_X8_likely : mwI RX8 yX8_likely cX8_likely 6 (Option.some Jvm.ClassFile.FieldType.long) 4 := ⟨⟨rfl, by decide +kernel, by decide +kernel, by decide +kernel⟩, im_X8_likely, se_X8_likely, ini_RX8, cd_X8_likely⟩
theorem mw_X8_load : mwI RX8 yX8_load cX8_load 4 (Option.some Jvm.ClassFile.FieldType.int) 2 := ⟨⟨rfl, by decide +kernel, by decide +kernel, by decide +kernel⟩, im_X8_load, se_X8_load, ini_RX8, cd_X8_load⟩
theorem mw_X8_mean : mwI RX8 yX8_mean cX8_mean 6 (Option.some Jvm.ClassFile.FieldType.long) 2 := ⟨⟨rfl, by decide +kernel, by decide +kernel, by decide +kernel⟩, im_X8_mean, se_X8_mean, ini_RX8, cd_X8_mean⟩
theorem mw_X8_nearest : mwI RX8 yX8_nearest cX8_nearest 4 (Option.some Jvm.ClassFile.FieldType.int) 2 := ⟨⟨rfl, by decide +kernel, by decide +kernel, by decide +kernel⟩, im_X8_nearest, se_X8_nearest, ini_RX8, cd_X8_nearest⟩
theorem mw_X8_offWith : mwI RX8 yX8_offWith cX8_offWith 5 (Option.some Jvm.ClassFile.FieldType.int) 3 := ⟨⟨rfl, by decide +kernel, by decide +kernel, by decide +kernel⟩, im_X8_offWith, se_X8_offWith, ini_RX8, cd_X8_offWith⟩
theorem mw_X8_oneOf : mwS yX8_oneOf cX8_oneOf 4 (Option.some Jvm.ClassFile.FieldType.int) 4 := ⟨⟨by decide +kernel, by decide +kernel, by decide +kernel⟩, sm_X8_oneOf, ini_RX8, cd_X8_oneOf⟩
theorem mw_X8_pepper : mwI RX8 yX8_pepper cX8_pepper 3 (Option.some Jvm.ClassFile.FieldType.int) 1 := ⟨⟨rfl, by decide +kernel, by decide +kernel, by decide +kernel⟩, im_X8_pepper, se_X8_pepper, ini_RX8, cd_X8_pepper⟩
theorem mw_X8_put : mwS yX8_put cX8_put 3 (Option.none : Option Jvm.ClassFile.FieldType) 3 := ⟨⟨by decide +kernel, by decide +kernel, by decide +kernel⟩, sm_X8_put, ini_RX8, cd_X8_put⟩
theorem mw_X8_restore : mwI RX8 yX8_restore cX8_restore 2 (Option.some Jvm.ClassFile.FieldType.int) 1 := ⟨⟨rfl, by decide +kernel, by decide +kernel, by decide +kernel⟩, im_X8_restore, se_X8_restore, ini_RX8, cd_X8_restore⟩
theorem mw_X8_say : mwI RX8 yX8_say cX8_say 2 (Option.some Jvm.ClassFile.FieldType.int) 1 := ⟨⟨rfl, by decide +kernel, by decide +kernel, by decide +kernel⟩, im_X8_say, se_X8_say, ini_RX8, cd_X8_say⟩
theorem mw_X8_seek : mwS yX8_seek cX8_seek 8 (Option.none : Option Jvm.ClassFile.FieldType) 6 := ⟨⟨by decide +kernel, by decide +kernel, by decide +kernel⟩, sm_X8_seek, ini_RX8, cd_X8_seek⟩
theorem mw_X8_set : mwI RX8 yX8_set cX8_set 4 (Option.some Jvm.ClassFile.FieldType.int) 2 := ⟨⟨rfl, by decide +kernel, by decide +kernel, by decide +kernel⟩, im_X8_set, se_X8_set, ini_RX8, cd_X8_set⟩
theorem mw_X8_sightsHold : mwI RX8 yX8_sightsHold cX8_sightsHold 3 (Option.some Jvm.ClassFile.FieldType.boolean) 1 := ⟨⟨rfl, by decide +kernel, by decide +kernel, by decide +kernel⟩, im_X8_sightsHold, se_X8_sightsHold, ini_RX8, cd_X8_sightsHold⟩
theorem mw_X8_starts : mwI RX8 yX8_starts cX8_starts 6 (Option.some Jvm.ClassFile.FieldType.int) 1 := ⟨⟨rfl, by decide +kernel, by decide +kernel, by decide +kernel⟩, im_X8_starts, se_X8_starts, ini_RX8, cd_X8_starts⟩
theorem mw_X8_stay : mwI RX8 yX8_stay cX8_stay 9 (Option.some Jvm.ClassFile.FieldType.int) 2 := ⟨⟨rfl, by decide +kernel, by decide +kernel, by decide +kernel⟩, im_X8_stay, se_X8_stay, ini_RX8, cd_X8_stay⟩
theorem mw_X8_take : mwI RX8 yX8_take cX8_take 9 (Option.some Jvm.ClassFile.FieldType.int) 2 := ⟨⟨rfl, by decide +kernel, by decide +kernel, by decide +kernel⟩, im_X8_take, se_X8_take, ini_RX8, cd_X8_take⟩
theorem mw_X8_thingOf : mwS yX8_thingOf cX8_thingOf 1 (Option.some Jvm.ClassFile.FieldType.int) 1 := ⟨⟨by decide +kernel, by decide +kernel, by decide +kernel⟩, sm_X8_thingOf, ini_RX8, cd_X8_thingOf⟩
theorem mw_X8_told : mwI RX8 yX8_told cX8_told 2 (Option.some Jvm.ClassFile.FieldType.int) 1 := ⟨⟨rfl, by decide +kernel, by decide +kernel, by decide +kernel⟩, im_X8_told, se_X8_told, ini_RX8, cd_X8_told⟩
theorem mw_X8_ways : mwS yX8_ways cX8_ways 9 (Option.some Jvm.ClassFile.FieldType.int) 6 := ⟨⟨by decide +kernel, by decide +kernel, by decide +kernel⟩, sm_X8_ways, ini_RX8, cd_X8_ways⟩
theorem mw_X8_wind : mwI RX8 yX8_wind cX8_wind 5 (Option.some Jvm.ClassFile.FieldType.int) 3 := ⟨⟨rfl, by decide +kernel, by decide +kernel, by decide +kernel⟩, im_X8_wind, se_X8_wind, ini_RX8, cd_X8_wind⟩
theorem mw_X8_wipe : mwI RX8 yX8_wipe cX8_wipe 2 (Option.some Jvm.ClassFile.FieldType.int) 0 := ⟨⟨rfl, by decide +kernel, by decide +kernel, by decide +kernel⟩, im_X8_wipe, se_X8_wipe, ini_RX8, cd_X8_wipe⟩
theorem mw_X8_within : mwS yX8_within cX8_within 3 (Option.some Jvm.ClassFile.FieldType.boolean) 3 := ⟨⟨by decide +kernel, by decide +kernel, by decide +kernel⟩, sm_X8_within, ini_RX8, cd_X8_within⟩
theorem mw_X8_without : mwS yX8_without cX8_without 2 (Option.some Jvm.ClassFile.FieldType.int) 2 := ⟨⟨by decide +kernel, by decide +kernel, by decide +kernel⟩, sm_X8_without, ini_RX8, cd_X8_without⟩
theorem mw_X8_year : mwI RX8 yX8_year cX8_year 9 (Option.some Jvm.ClassFile.FieldType.int) 3 := ⟨⟨rfl, by decide +kernel, by decide +kernel, by decide +kernel⟩, im_X8_year, se_X8_year, ini_RX8, cd_X8_year⟩
theorem mw_X9_ahead : mwI RX9 yX9_ahead cX9_ahead 7 (Option.some Jvm.ClassFile.FieldType.int) 2 := ⟨⟨rfl, by decide +kernel, by decide +kernel, by decide +kernel⟩, im_X9_ahead, se_X9_ahead, ini_RX9, cd_X9_ahead⟩
theorem mw_X9_allWays : mwI RX9 yX9_allWays cX9_allWays 4 (Option.some Jvm.ClassFile.FieldType.long) 0 := ⟨⟨rfl, by decide +kernel, by decide +kernel, by decide +kernel⟩, im_X9_allWays, se_X9_allWays, ini_RX9, cd_X9_allWays⟩
theorem mw_X9_apart : mwI RX9 yX9_apart cX9_apart 2 (Option.some Jvm.ClassFile.FieldType.int) 1 := ⟨⟨rfl, by decide +kernel, by decide +kernel, by decide +kernel⟩, im_X9_apart, se_X9_apart, ini_RX9, cd_X9_apart⟩
theorem mw_X9_at : mwI RX9 yX9_at cX9_at 4 (Option.some Jvm.ClassFile.FieldType.int) 2 := ⟨⟨rfl, by decide +kernel, by decide +kernel, by decide +kernel⟩, im_X9_at, se_X9_at, ini_RX9, cd_X9_at⟩
theorem mw_X9_countOf : mwI RX9 yX9_countOf cX9_countOf 4 (Option.some Jvm.ClassFile.FieldType.int) 1 := ⟨⟨rfl, by decide +kernel, by decide +kernel, by decide +kernel⟩, im_X9_countOf, se_X9_countOf, ini_RX9, cd_X9_countOf⟩
theorem mw_X9_doubted : mwI RX9 yX9_doubted cX9_doubted 5 (Option.some Jvm.ClassFile.FieldType.int) 0 := ⟨⟨rfl, by decide +kernel, by decide +kernel, by decide +kernel⟩, im_X9_doubted, se_X9_doubted, ini_RX9, cd_X9_doubted⟩
theorem mw_X9_drift : mwI RX9 yX9_drift cX9_drift 1 (Option.none : Option Jvm.ClassFile.FieldType) 0 := ⟨⟨rfl, by decide +kernel, by decide +kernel, by decide +kernel⟩, im_X9_drift, se_X9_drift, ini_RX9, cd_X9_drift⟩
theorem mw_X9_fault : mwI RX9 yX9_fault cX9_fault 7 (Option.some Jvm.ClassFile.FieldType.int) 0 := ⟨⟨rfl, by decide +kernel, by decide +kernel, by decide +kernel⟩, im_X9_fault, se_X9_fault, ini_RX9, cd_X9_fault⟩
theorem mw_X9_fell : mwI RX9 yX9_fell cX9_fell 3 (Option.some Jvm.ClassFile.FieldType.int) 2 := ⟨⟨rfl, by decide +kernel, by decide +kernel, by decide +kernel⟩, im_X9_fell, se_X9_fell, ini_RX9, cd_X9_fell⟩
theorem mw_X9_field : mwI RX9 yX9_field cX9_field 7 (Option.some Jvm.ClassFile.FieldType.int) 2 := ⟨⟨rfl, by decide +kernel, by decide +kernel, by decide +kernel⟩, im_X9_field, se_X9_field, ini_RX9, cd_X9_field⟩
theorem mw_X9_findSneezes : mwI RX9 yX9_findSneezes cX9_findSneezes 3 (Option.none : Option Jvm.ClassFile.FieldType) 0 := ⟨⟨rfl, by decide +kernel, by decide +kernel, by decide +kernel⟩, im_X9_findSneezes, se_X9_findSneezes, ini_RX9, cd_X9_findSneezes⟩
theorem mw_X9_fines : mwI RX9 yX9_fines cX9_fines 4 (Option.some Jvm.ClassFile.FieldType.int) 0 := ⟨⟨rfl, by decide +kernel, by decide +kernel, by decide +kernel⟩, im_X9_fines, se_X9_fines, ini_RX9, cd_X9_fines⟩
theorem mw_X9_forget : mwI RX9 yX9_forget cX9_forget 2 (Option.some Jvm.ClassFile.FieldType.int) 0 := ⟨⟨rfl, by decide +kernel, by decide +kernel, by decide +kernel⟩, im_X9_forget, se_X9_forget, ini_RX9, cd_X9_forget⟩
theorem mw_X9_goChance : mwI RX9 yX9_goChance cX9_goChance 8 (Option.some Jvm.ClassFile.FieldType.long) 2 := ⟨⟨rfl, by decide +kernel, by decide +kernel, by decide +kernel⟩, im_X9_goChance, se_X9_goChance, ini_RX9, cd_X9_goChance⟩
theorem mw_X9_goCourse : mwI RX9 yX9_goCourse cX9_goCourse 3 (Option.none : Option Jvm.ClassFile.FieldType) 0 := ⟨⟨rfl, by decide +kernel, by decide +kernel, by decide +kernel⟩, im_X9_goCourse, se_X9_goCourse, ini_RX9, cd_X9_goCourse⟩
theorem mw_X9_goMinutes : mwI RX9 yX9_goMinutes cX9_goMinutes 2 (Option.none : Option Jvm.ClassFile.FieldType) 0 := ⟨⟨rfl, by decide +kernel, by decide +kernel, by decide +kernel⟩, im_X9_goMinutes, se_X9_goMinutes, ini_RX9, cd_X9_goMinutes⟩
theorem mw_X9_happen : mwI RX9 yX9_happen cX9_happen 2 (Option.none : Option Jvm.ClassFile.FieldType) 1 := ⟨⟨rfl, by decide +kernel, by decide +kernel, by decide +kernel⟩, im_X9_happen, se_X9_happen, ini_RX9, cd_X9_happen⟩
theorem mw_X9_heaviest : mwI RX9 yX9_heaviest cX9_heaviest 4 (Option.some Jvm.ClassFile.FieldType.int) 0 := ⟨⟨rfl, by decide +kernel, by decide +kernel, by decide +kernel⟩, im_X9_heaviest, se_X9_heaviest, ini_RX9, cd_X9_heaviest⟩
theorem mw_X9_height : mwI RX9 yX9_height cX9_height 3 (Option.some Jvm.ClassFile.FieldType.int) 0 := ⟨⟨rfl, by decide +kernel, by decide +kernel, by decide +kernel⟩, im_X9_height, se_X9_height, ini_RX9, cd_X9_height⟩
theorem mw_X9_holdsFrom : mwI RX9 yX9_holdsFrom cX9_holdsFrom 4 (Option.some Jvm.ClassFile.FieldType.boolean) 1 := ⟨⟨rfl, by decide +kernel, by decide +kernel, by decide +kernel⟩, im_X9_holdsFrom, se_X9_holdsFrom, ini_RX9, cd_X9_holdsFrom⟩
theorem mw_X9_image : mwI RX9 yX9_image cX9_image 2 (Option.some Jvm.ClassFile.FieldType.int) 1 := ⟨⟨rfl, by decide +kernel, by decide +kernel, by decide +kernel⟩, im_X9_image, se_X9_image, ini_RX9, cd_X9_image⟩
theorem mw_X9_in : mwS yX9_in cX9_in 6 (Option.some Jvm.ClassFile.FieldType.boolean) 3 := ⟨⟨by decide +kernel, by decide +kernel, by decide +kernel⟩, sm_X9_in, ini_RX9, cd_X9_in⟩
theorem mw_X9_isDoubted : mwI RX9 yX9_isDoubted cX9_isDoubted 3 (Option.some Jvm.ClassFile.FieldType.boolean) 0 := ⟨⟨rfl, by decide +kernel, by decide +kernel, by decide +kernel⟩, im_X9_isDoubted, se_X9_isDoubted, ini_RX9, cd_X9_isDoubted⟩
theorem mw_X9_isGoal : mwS yX9_isGoal cX9_isGoal 1 (Option.some Jvm.ClassFile.FieldType.boolean) 1 := ⟨⟨by decide +kernel, by decide +kernel, by decide +kernel⟩, sm_X9_isGoal, ini_RX9, cd_X9_isGoal⟩
theorem mw_X9_isSpan : mwS yX9_isSpan cX9_isSpan 2 (Option.some Jvm.ClassFile.FieldType.boolean) 2 := ⟨⟨by decide +kernel, by decide +kernel, by decide +kernel⟩, sm_X9_isSpan, ini_RX9, cd_X9_isSpan⟩
theorem mw_X9_isThing : mwS yX9_isThing cX9_isThing 1 (Option.some Jvm.ClassFile.FieldType.boolean) 1 := ⟨⟨by decide +kernel, by decide +kernel, by decide +kernel⟩, sm_X9_isThing, ini_RX9, cd_X9_isThing⟩
theorem mw_X9_judge : mwI RX9 yX9_judge cX9_judge 2 (Option.some Jvm.ClassFile.FieldType.int) 1 := ⟨⟨rfl, by decide +kernel, by decide +kernel, by decide +kernel⟩, im_X9_judge, se_X9_judge, ini_RX9, cd_X9_judge⟩
theorem mw_X9_layThrows : mwI RX9 yX9_layThrows cX9_layThrows 9 (Option.some Jvm.ClassFile.FieldType.boolean) 2 := ⟨⟨rfl, by decide +kernel, by decide +kernel, by decide +kernel⟩, im_X9_layThrows, se_X9_layThrows, ini_RX9, cd_X9_layThrows⟩
theorem mw_X9_likely : mwI RX9 yX9_likely cX9_likely 11 (Option.some Jvm.ClassFile.FieldType.long) 4 := ⟨⟨rfl, by decide +kernel, by decide +kernel, by decide +kernel⟩, im_X9_likely, se_X9_likely, ini_RX9, cd_X9_likely⟩
theorem mw_X9_load : mwI RX9 yX9_load cX9_load 4 (Option.some Jvm.ClassFile.FieldType.int) 2 := ⟨⟨rfl, by decide +kernel, by decide +kernel, by decide +kernel⟩, im_X9_load, se_X9_load, ini_RX9, cd_X9_load⟩
theorem mw_X9_loaded : mwI RX9 yX9_loaded cX9_loaded 3 (Option.some Jvm.ClassFile.FieldType.int) 0 := ⟨⟨rfl, by decide +kernel, by decide +kernel, by decide +kernel⟩, im_X9_loaded, se_X9_loaded, ini_RX9, cd_X9_loaded⟩
theorem mw_X9_lowest : mwS yX9_lowest cX9_lowest 11 (Option.some Jvm.ClassFile.FieldType.long) 3 := ⟨⟨by decide +kernel, by decide +kernel, by decide +kernel⟩, sm_X9_lowest, ini_RX9, cd_X9_lowest⟩
theorem mw_X9_mean : mwI RX9 yX9_mean cX9_mean 9 (Option.some Jvm.ClassFile.FieldType.long) 2 := ⟨⟨rfl, by decide +kernel, by decide +kernel, by decide +kernel⟩, im_X9_mean, se_X9_mean, ini_RX9, cd_X9_mean⟩
theorem mw_X9_nearest : mwI RX9 yX9_nearest cX9_nearest 9 (Option.some Jvm.ClassFile.FieldType.int) 2 := ⟨⟨rfl, by decide +kernel, by decide +kernel, by decide +kernel⟩, im_X9_nearest, se_X9_nearest, ini_RX9, cd_X9_nearest⟩
theorem mw_X9_ones : mwI RX9 yX9_ones cX9_ones 4 (Option.some Jvm.ClassFile.FieldType.int) 1 := ⟨⟨rfl, by decide +kernel, by decide +kernel, by decide +kernel⟩, im_X9_ones, se_X9_ones, ini_RX9, cd_X9_ones⟩
theorem mw_X9_pass : mwI RX9 yX9_pass cX9_pass 3 (Option.some Jvm.ClassFile.FieldType.int) 1 := ⟨⟨rfl, by decide +kernel, by decide +kernel, by decide +kernel⟩, im_X9_pass, se_X9_pass, ini_RX9, cd_X9_pass⟩
theorem mw_X9_passAll : mwI RX9 yX9_passAll cX9_passAll 2 (Option.none : Option Jvm.ClassFile.FieldType) 0 := ⟨⟨rfl, by decide +kernel, by decide +kernel, by decide +kernel⟩, im_X9_passAll, se_X9_passAll, ini_RX9, cd_X9_passAll⟩
theorem mw_X9_pepper : mwI RX9 yX9_pepper cX9_pepper 4 (Option.some Jvm.ClassFile.FieldType.int) 1 := ⟨⟨rfl, by decide +kernel, by decide +kernel, by decide +kernel⟩, im_X9_pepper, se_X9_pepper, ini_RX9, cd_X9_pepper⟩
theorem mw_X9_refusal : mwI RX9 yX9_refusal cX9_refusal 3 (Option.some Jvm.ClassFile.FieldType.int) 1 := ⟨⟨rfl, by decide +kernel, by decide +kernel, by decide +kernel⟩, im_X9_refusal, se_X9_refusal, ini_RX9, cd_X9_refusal⟩
theorem mw_X9_restore : mwI RX9 yX9_restore cX9_restore 2 (Option.some Jvm.ClassFile.FieldType.int) 1 := ⟨⟨rfl, by decide +kernel, by decide +kernel, by decide +kernel⟩, im_X9_restore, se_X9_restore, ini_RX9, cd_X9_restore⟩
theorem mw_X9_say : mwI RX9 yX9_say cX9_say 2 (Option.some Jvm.ClassFile.FieldType.int) 1 := ⟨⟨rfl, by decide +kernel, by decide +kernel, by decide +kernel⟩, im_X9_say, se_X9_say, ini_RX9, cd_X9_say⟩
theorem mw_X9_set : mwI RX9 yX9_set cX9_set 6 (Option.some Jvm.ClassFile.FieldType.int) 2 := ⟨⟨rfl, by decide +kernel, by decide +kernel, by decide +kernel⟩, im_X9_set, se_X9_set, ini_RX9, cd_X9_set⟩
theorem mw_X9_sevens : mwS yX9_sevens cX9_sevens 3 (Option.some Jvm.ClassFile.FieldType.int) 1 := ⟨⟨by decide +kernel, by decide +kernel, by decide +kernel⟩, sm_X9_sevens, ini_RX9, cd_X9_sevens⟩
theorem mw_X9_start : mwI RX9 yX9_start cX9_start 3 (Option.none : Option Jvm.ClassFile.FieldType) 2 := ⟨⟨rfl, by decide +kernel, by decide +kernel, by decide +kernel⟩, im_X9_start, se_X9_start, ini_RX9, cd_X9_start⟩
theorem mw_X9_startNow : mwI RX9 yX9_startNow cX9_startNow 1 (Option.none : Option Jvm.ClassFile.FieldType) 0 := ⟨⟨rfl, by decide +kernel, by decide +kernel, by decide +kernel⟩, im_X9_startNow, se_X9_startNow, ini_RX9, cd_X9_startNow⟩
theorem mw_X9_starts : mwI RX9 yX9_starts cX9_starts 6 (Option.some Jvm.ClassFile.FieldType.int) 1 := ⟨⟨rfl, by decide +kernel, by decide +kernel, by decide +kernel⟩, im_X9_starts, se_X9_starts, ini_RX9, cd_X9_starts⟩
theorem mw_X9_stay : mwI RX9 yX9_stay cX9_stay 7 (Option.some Jvm.ClassFile.FieldType.int) 2 := ⟨⟨rfl, by decide +kernel, by decide +kernel, by decide +kernel⟩, im_X9_stay, se_X9_stay, ini_RX9, cd_X9_stay⟩
theorem mw_X9_take : mwI RX9 yX9_take cX9_take 7 (Option.some Jvm.ClassFile.FieldType.int) 2 := ⟨⟨rfl, by decide +kernel, by decide +kernel, by decide +kernel⟩, im_X9_take, se_X9_take, ini_RX9, cd_X9_take⟩
theorem mw_X9_throwOut : mwI RX9 yX9_throwOut cX9_throwOut 2 (Option.none : Option Jvm.ClassFile.FieldType) 1 := ⟨⟨rfl, by decide +kernel, by decide +kernel, by decide +kernel⟩, im_X9_throwOut, se_X9_throwOut, ini_RX9, cd_X9_throwOut⟩
theorem mw_X9_told : mwI RX9 yX9_told cX9_told 2 (Option.some Jvm.ClassFile.FieldType.int) 1 := ⟨⟨rfl, by decide +kernel, by decide +kernel, by decide +kernel⟩, im_X9_told, se_X9_told, ini_RX9, cd_X9_told⟩
theorem mw_X9_wind : mwI RX9 yX9_wind cX9_wind 5 (Option.some Jvm.ClassFile.FieldType.int) 3 := ⟨⟨rfl, by decide +kernel, by decide +kernel, by decide +kernel⟩, im_X9_wind, se_X9_wind, ini_RX9, cd_X9_wind⟩
theorem mw_X9_wipe : mwI RX9 yX9_wipe cX9_wipe 2 (Option.some Jvm.ClassFile.FieldType.int) 0 := ⟨⟨rfl, by decide +kernel, by decide +kernel, by decide +kernel⟩, im_X9_wipe, se_X9_wipe, ini_RX9, cd_X9_wipe⟩
theorem mw_X9_within : mwI RX9 yX9_within cX9_within 4 (Option.some Jvm.ClassFile.FieldType.int) 1 := ⟨⟨rfl, by decide +kernel, by decide +kernel, by decide +kernel⟩, im_X9_within, se_X9_within, ini_RX9, cd_X9_within⟩
theorem mw_X9_year : mwI RX9 yX9_year cX9_year 10 (Option.some Jvm.ClassFile.FieldType.int) 3 := ⟨⟨rfl, by decide +kernel, by decide +kernel, by decide +kernel⟩, im_X9_year, se_X9_year, ini_RX9, cd_X9_year⟩
theorem lm_RX1_57 : Cond.methodLink RX1 57 Lib.Math.min.name ∈ zt := lk_RX1_57
theorem lm_RX2_38 : Cond.methodLink RX2 38 Lib.Math.min.name ∈ zt := lk_RX2_38
theorem lm_RX6_35 : Cond.methodLink RX6 35 Lib.Math.abs.name ∈ zt := lk_RX6_35
theorem lm_RX7_53 : Cond.methodLink RX7 53 Lib.Math.min.name ∈ zt := lk_RX7_53
theorem lm_RX7_65 : Cond.methodLink RX7 65 Lib.Math.max.name ∈ zt := lk_RX7_65
theorem lm_RX8_251 : Cond.methodLink RX8 251 Lib.Math.min.name ∈ zt := lk_RX8_251
theorem lm_RX8_256 : Cond.methodLink RX8 256 Lib.Math.max.name ∈ zt := lk_RX8_256
theorem lm_RX8_292 : Cond.methodLink RX8 292 Lib.Math.abs.name ∈ zt := lk_RX8_292
theorem sm_Math_abs : Cond.static Lib.Math.abs.name ∈ zt := sm_J9_abs_0f7a4
theorem cd_Math_abs : Cond.code Lib.Math.abs.name Lib.Math.abs.code 1 (some .int) ∈ zt := cd_J9_abs_0f7a4
theorem sm_Math_max : Cond.static Lib.Math.max.name ∈ zt := sm_J9_max_7cf53
theorem cd_Math_max : Cond.code Lib.Math.max.name Lib.Math.max.code 2 (some .int) ∈ zt := cd_J9_max_7cf53
theorem sm_Math_min : Cond.static Lib.Math.min.name ∈ zt := sm_J9_min_7cf53
theorem cd_Math_min : Cond.code Lib.Math.min.name Lib.Math.min.code 2 (some .int) ∈ zt := cd_J9_min_7cf53
end
section
def s_X8_within (v : Int32) (lo : Int32) (hi : Int32) : Int32 := if v < lo then 0 else (if hi < v then 0 else 1)
abbrev rm_X8_within : Room := { frames := 0, cells := 0, slots := 0, locals := 0 }
set_option maxRecDepth 100000 in
set_option maxHeartbeats 4000000 in
theorem c_X8_within (l : Launch) (D : va_G) (cI cZ : ClassId) (v lo hi : Int32) : Met l yX8_within [.code yX8_within cX8_within 3 (some .boolean)] rm_X8_within (PcR D cI cZ [.int v, .int lo, .int hi] []) (QcR (some (.int (s_X8_within v lo hi)))) 0 0 zN := by
  refine mtRz (by first | rfl | (unfold s_X8_within; repeat (first | rfl | split))) (by decide) (Nat.le_of_ble_eq_true rfl) (fun p e s m args below meth c Q S hT hP hret ls hl => ?_)
  have S : CallFix p m c cX8_within 3 s args zt RX8 := S
  obtain ⟨hx, hb, hml, hown, hts⟩ := id S
  have hl : lv_has ls 3 [(0, .int v), (1, .int lo), (2, .int hi)] := hl
  refine lv_iload_n hx hb dX8_within_0 rfl (lv_at hl 0 rfl) ?_
  refine lv_iload_n hx hb dX8_within_1 rfl (lv_at hl 1 rfl) ?_
  refine lv_icmp_lt (tgt := 14) hx hb dX8_within_2 (by decide) (fun c1 => ?_) (fun c1 => ?_)
  · refine lv_iconst (v := 0) hx hb dX8_within_14 (by decide) ?_
    exact hret _ _ _ dX8_within_15 (by unfold s_X8_within; rw [if_pos c1])
  · refine lv_iload_n hx hb dX8_within_5 rfl (lv_at hl 0 rfl) ?_
    refine lv_iload_n hx hb dX8_within_6 rfl (lv_at hl 2 rfl) ?_
    refine lv_icmp_gt (tgt := 14) hx hb dX8_within_7 (by decide) (fun c2 => ?_) (fun c2 => ?_)
    · refine lv_iconst (v := 0) hx hb dX8_within_14 (by decide) ?_
      exact hret _ _ _ dX8_within_15 (by unfold s_X8_within; rw [if_neg c1, if_pos c2])
    · refine lv_iconst (v := 1) hx hb dX8_within_10 (by decide) ?_
      refine lv_goto (tgt := 15) hx hb dX8_within_11 (by decide) ?_
      exact hret _ _ _ dX8_within_15 (by unfold s_X8_within; rw [if_neg c1, if_neg c2])
abbrev rm_X8_isThing : Room := { frames := 1, cells := 0, slots := 0, locals := 22 }
set_option maxRecDepth 100000 in
set_option maxHeartbeats 4000000 in
theorem c_X8_isThing (l : Launch) (D : va_G) (cI cZ : ClassId) (t : Int32) : Met l yX8_isThing [.code yX8_isThing cX8_isThing 1 (some .boolean)] rm_X8_isThing (PcR D cI cZ [.int t] []) (QcR (some (.int (s_X8_within t 0 5)))) 0 0 zN := by
  refine mtRz (by first | rfl | (unfold s_X8_within; repeat (first | rfl | split))) (by decide) (Nat.le_of_ble_eq_true rfl) (fun p e s m args below meth c Q S hT hP hret ls hl => ?_)
  have S : CallFix p m c cX8_isThing 1 s args zt RX8 := S
  obtain ⟨hx, hb, hml, hown, hts⟩ := id S
  have hl : lv_has ls 1 [(0, .int t)] := hl
  refine lv_iload_n hx hb dX8_isThing_0 rfl (lv_at hl 0 rfl) ?_
  refine lv_iconst (v := 0) hx hb dX8_isThing_1 (by decide) ?_
  refine lv_iconst (v := 5) hx hb dX8_isThing_2 (by decide) ?_
  refine kRS (st1 := [.int (s_X8_within t 0 5)]) S hT hP (c_X8_within l D cI cZ t 0 5) rfl rfl mw_X8_within lk_RX8_74 ⟨rfl, rfl, (Nat.le_of_ble_eq_true rfl), (Nat.le_of_ble_eq_true rfl), (Nat.le_of_ble_eq_true rfl), (Nat.le_of_ble_eq_true rfl)⟩ [] rfl hl.1 (Nat.le_of_ble_eq_true rfl) dX8_isThing_3 ?_
  exact hret _ _ _ dX8_isThing_6 rfl
abbrev rm_X8_isPlace : Room := { frames := 1, cells := 0, slots := 0, locals := 22 }
set_option maxRecDepth 100000 in
set_option maxHeartbeats 4000000 in
theorem c_X8_isPlace (l : Launch) (D : va_G) (cI cZ : ClassId) (t : Int32) : Met l yX8_isPlace [.code yX8_isPlace cX8_isPlace 1 (some .boolean)] rm_X8_isPlace (PcR D cI cZ [.int t] []) (QcR (some (.int (s_X8_within t (-600) 600)))) 0 0 zN := by
  refine mtRz (by first | rfl | (unfold s_X8_within; repeat (first | rfl | split))) (by decide) (Nat.le_of_ble_eq_true rfl) (fun p e s m args below meth c Q S hT hP hret ls hl => ?_)
  have S : CallFix p m c cX8_isPlace 1 s args zt RX8 := S
  obtain ⟨hx, hb, hml, hown, hts⟩ := id S
  have hl : lv_has ls 1 [(0, .int t)] := hl
  refine lv_iload_n hx hb dX8_isPlace_0 rfl (lv_at hl 0 rfl) ?_
  refine lv_sipush (v := (-600)) hx hb dX8_isPlace_1 (by decide) ?_
  refine lv_sipush (v := 600) hx hb dX8_isPlace_4 (by decide) ?_
  refine kRS (st1 := [.int (s_X8_within t (-600) 600)]) S hT hP (c_X8_within l D cI cZ t (-600) 600) rfl rfl mw_X8_within lk_RX8_74 ⟨rfl, rfl, (Nat.le_of_ble_eq_true rfl), (Nat.le_of_ble_eq_true rfl), (Nat.le_of_ble_eq_true rfl), (Nat.le_of_ble_eq_true rfl)⟩ [] rfl hl.1 (Nat.le_of_ble_eq_true rfl) dX8_isPlace_7 ?_
  exact hret _ _ _ dX8_isPlace_10 rfl
def s_X8_isStretch (fr : Int32) (to : Int32) : Int32 := if (s_X8_within fr (-600) 600) = 0 then 0 else (if (s_X8_within to (-600) 600) = 0 then 0 else (if to < fr then 0 else 1))
abbrev rm_X8_isStretch : Room := { frames := 2, cells := 0, slots := 0, locals := 42 }
set_option maxRecDepth 100000 in
set_option maxHeartbeats 4000000 in
theorem c_X8_isStretch (l : Launch) (D : va_G) (cI cZ : ClassId) (fr to : Int32) : Met l yX8_isStretch [.code yX8_isStretch cX8_isStretch 2 (some .boolean)] rm_X8_isStretch (PcR D cI cZ [.int fr, .int to] []) (QcR (some (.int (s_X8_isStretch fr to)))) 0 0 zN := by
  refine mtRz (by first | rfl | (unfold s_X8_isStretch; repeat (first | rfl | split))) (by decide) (Nat.le_of_ble_eq_true rfl) (fun p e s m args below meth c Q S hT hP hret ls hl => ?_)
  have S : CallFix p m c cX8_isStretch 2 s args zt RX8 := S
  obtain ⟨hx, hb, hml, hown, hts⟩ := id S
  have hl : lv_has ls 2 [(0, .int fr), (1, .int to)] := hl
  refine lv_iload_n hx hb dX8_isStretch_0 rfl (lv_at hl 0 rfl) ?_
  refine kRS (st1 := [.int (s_X8_within fr (-600) 600)]) S hT hP (c_X8_isPlace l D cI cZ fr) rfl rfl mw_X8_isPlace lk_RX8_158 ⟨rfl, rfl, (Nat.le_of_ble_eq_true rfl), (Nat.le_of_ble_eq_true rfl), (Nat.le_of_ble_eq_true rfl), (Nat.le_of_ble_eq_true rfl)⟩ [] rfl hl.1 (Nat.le_of_ble_eq_true rfl) dX8_isStretch_1 ?_
  refine lv_if_eq (tgt := 23) hx hb dX8_isStretch_4 (by decide) (fun c1 => ?_) (fun c1 => ?_)
  · refine lv_iconst (v := 0) hx hb dX8_isStretch_23 (by decide) ?_
    exact hret _ _ _ dX8_isStretch_24 (by unfold s_X8_isStretch; rw [if_pos c1])
  · refine lv_iload_n hx hb dX8_isStretch_7 rfl (lv_at hl 1 rfl) ?_
    refine kRS (st1 := [.int (s_X8_within to (-600) 600)]) S hT hP (c_X8_isPlace l D cI cZ to) rfl rfl mw_X8_isPlace lk_RX8_158 ⟨rfl, rfl, (Nat.le_of_ble_eq_true rfl), (Nat.le_of_ble_eq_true rfl), (Nat.le_of_ble_eq_true rfl), (Nat.le_of_ble_eq_true rfl)⟩ [] rfl hl.1 (Nat.le_of_ble_eq_true rfl) dX8_isStretch_8 ?_
    refine lv_if_eq (tgt := 23) hx hb dX8_isStretch_11 (by decide) (fun c2 => ?_) (fun c2 => ?_)
    · refine lv_iconst (v := 0) hx hb dX8_isStretch_23 (by decide) ?_
      exact hret _ _ _ dX8_isStretch_24 (by unfold s_X8_isStretch; rw [if_neg c1, if_pos c2])
    · refine lv_iload_n hx hb dX8_isStretch_14 rfl (lv_at hl 1 rfl) ?_
      refine lv_iload_n hx hb dX8_isStretch_15 rfl (lv_at hl 0 rfl) ?_
      refine lv_icmp_lt (tgt := 23) hx hb dX8_isStretch_16 (by decide) (fun c3 => ?_) (fun c3 => ?_)
      · refine lv_iconst (v := 0) hx hb dX8_isStretch_23 (by decide) ?_
        exact hret _ _ _ dX8_isStretch_24 (by unfold s_X8_isStretch; rw [if_neg c1, if_neg c2, if_pos c3])
      · refine lv_iconst (v := 1) hx hb dX8_isStretch_19 (by decide) ?_
        refine lv_goto (tgt := 24) hx hb dX8_isStretch_20 (by decide) ?_
        exact hret _ _ _ dX8_isStretch_24 (by unfold s_X8_isStretch; rw [if_neg c1, if_neg c2, if_neg c3])
def s_X8_thingOf (sgn : Int32) : Int32 := if (s_X8_within (sgn - 97) 0 5) = 0 then (-6) else sgn - 97
abbrev rm_X8_thingOf : Room := { frames := 2, cells := 0, slots := 0, locals := 42 }
set_option maxRecDepth 100000 in
set_option maxHeartbeats 4000000 in
theorem c_X8_thingOf (l : Launch) (D : va_G) (cI cZ : ClassId) (sgn : Int32) : Met l yX8_thingOf [.code yX8_thingOf cX8_thingOf 1 (some .int)] rm_X8_thingOf (PcR D cI cZ [.int sgn] []) (QcR (some (.int (s_X8_thingOf sgn)))) 0 0 zN := by
  refine mtRi (by decide) (Nat.le_of_ble_eq_true rfl) (fun p e s m args below meth c Q S hT hP hret ls hl => ?_)
  have S : CallFix p m c cX8_thingOf 1 s args zt RX8 := S
  obtain ⟨hx, hb, hml, hown, hts⟩ := id S
  have hl : lv_has ls 1 [(0, .int sgn)] := hl
  refine lv_iload_n hx hb dX8_thingOf_0 rfl (lv_at hl 0 rfl) ?_
  refine lv_bipush (v := 97) hx hb dX8_thingOf_1 (by decide) ?_
  refine lv_isub hx hb dX8_thingOf_3 ?_
  refine kRS (st1 := [.int (s_X8_within (sgn - 97) 0 5)]) S hT hP (c_X8_isThing l D cI cZ (sgn - 97)) rfl rfl mw_X8_isThing lk_RX8_105 ⟨rfl, rfl, (Nat.le_of_ble_eq_true rfl), (Nat.le_of_ble_eq_true rfl), (Nat.le_of_ble_eq_true rfl), (Nat.le_of_ble_eq_true rfl)⟩ [] rfl hl.1 (Nat.le_of_ble_eq_true rfl) dX8_thingOf_4 ?_
  refine lv_if_eq (tgt := 17) hx hb dX8_thingOf_7 (by decide) (fun c1 => ?_) (fun c1 => ?_)
  · refine lv_bipush (v := (-6)) hx hb dX8_thingOf_17 (by decide) ?_
    exact hret _ _ _ dX8_thingOf_19 (by unfold s_X8_thingOf; rw [if_pos c1])
  · refine lv_iload_n hx hb dX8_thingOf_10 rfl (lv_at hl 0 rfl) ?_
    refine lv_bipush (v := 97) hx hb dX8_thingOf_11 (by decide) ?_
    refine lv_isub hx hb dX8_thingOf_13 ?_
    refine lv_goto (tgt := 19) hx hb dX8_thingOf_14 (by decide) ?_
    exact hret _ _ _ dX8_thingOf_19 (by unfold s_X8_thingOf; rw [if_neg c1])
def s_X8_has (set : Int32) (t : Int32) : Int32 := if t < 0 then 0 else (if 6 ≤ t then 0 else (if ((set >>> (t &&& 31)) &&& 1) = 0 then 0 else 1))
abbrev rm_X8_has : Room := { frames := 0, cells := 0, slots := 0, locals := 0 }
set_option maxRecDepth 100000 in
set_option maxHeartbeats 4000000 in
theorem c_X8_has (l : Launch) (D : va_G) (cI cZ : ClassId) (set t : Int32) : Met l yX8_has [.code yX8_has cX8_has 2 (some .boolean)] rm_X8_has (PcR D cI cZ [.int set, .int t] []) (QcR (some (.int (s_X8_has set t)))) 0 0 zN := by
  refine mtRz (by first | rfl | (unfold s_X8_has; repeat (first | rfl | split))) (by decide) (Nat.le_of_ble_eq_true rfl) (fun p e s m args below meth c Q S hT hP hret ls hl => ?_)
  have S : CallFix p m c cX8_has 2 s args zt RX8 := S
  obtain ⟨hx, hb, hml, hown, hts⟩ := id S
  have hl : lv_has ls 2 [(0, .int set), (1, .int t)] := hl
  refine lv_iload_n hx hb dX8_has_0 rfl (lv_at hl 1 rfl) ?_
  refine lv_if_lt (tgt := 22) hx hb dX8_has_1 (by decide) (fun c1 => ?_) (fun c1 => ?_)
  · refine lv_iconst (v := 0) hx hb dX8_has_22 (by decide) ?_
    exact hret _ _ _ dX8_has_23 (by unfold s_X8_has; rw [if_pos c1])
  · refine lv_iload_n hx hb dX8_has_4 rfl (lv_at hl 1 rfl) ?_
    refine lv_bipush (v := 6) hx hb dX8_has_5 (by decide) ?_
    refine lv_icmp_ge (tgt := 22) hx hb dX8_has_7 (by decide) (fun c2 => ?_) (fun c2 => ?_)
    · refine lv_iconst (v := 0) hx hb dX8_has_22 (by decide) ?_
      exact hret _ _ _ dX8_has_23 (by unfold s_X8_has; rw [if_neg c1, if_pos c2])
    · refine lv_iload_n hx hb dX8_has_10 rfl (lv_at hl 0 rfl) ?_
      refine lv_iload_n hx hb dX8_has_11 rfl (lv_at hl 1 rfl) ?_
      refine lv_ishr hx hb dX8_has_12 ?_
      refine lv_iconst (v := 1) hx hb dX8_has_13 (by decide) ?_
      refine lv_iand hx hb dX8_has_14 ?_
      refine lv_if_eq (tgt := 22) hx hb dX8_has_15 (by decide) (fun c3 => ?_) (fun c3 => ?_)
      · refine lv_iconst (v := 0) hx hb dX8_has_22 (by decide) ?_
        exact hret _ _ _ dX8_has_23 (by unfold s_X8_has; rw [if_neg c1, if_neg c2, if_pos c3])
      · refine lv_iconst (v := 1) hx hb dX8_has_18 (by decide) ?_
        refine lv_goto (tgt := 23) hx hb dX8_has_19 (by decide) ?_
        exact hret _ _ _ dX8_has_23 (by unfold s_X8_has; rw [if_neg c1, if_neg c2, if_neg c3])
def s_X8_without (set : Int32) (t : Int32) : Int32 := if s_X8_within t 0 5 = 0 then set else set &&& ((1 <<< (t &&& 31)) ^^^ (-1))
abbrev rm_X8_without : Room := { frames := 2, cells := 0, slots := 0, locals := 42 }
set_option maxRecDepth 100000 in
set_option maxHeartbeats 4000000 in
theorem c_X8_without (l : Launch) (D : va_G) (cI cZ : ClassId) (set t : Int32) : Met l yX8_without [.code yX8_without cX8_without 2 (some .int)] rm_X8_without (PcR D cI cZ [.int set, .int t] []) (QcR (some (.int (s_X8_without set t)))) 0 0 zN := by
  refine mtRi (by decide) (Nat.le_of_ble_eq_true rfl) (fun p e s m args below meth c Q S hT hP hret ls hl => ?_)
  have S : CallFix p m c cX8_without 2 s args zt RX8 := S
  obtain ⟨hx, hb, hml, hown, hts⟩ := id S
  have hl : lv_has ls 2 [(0, .int set), (1, .int t)] := hl
  refine lv_iload_n hx hb dX8_without_0 rfl (lv_at hl 1 rfl) ?_
  refine kRS (st1 := [.int (s_X8_within t 0 5)]) S hT hP (c_X8_isThing l D cI cZ t) rfl rfl mw_X8_isThing lk_RX8_105 ⟨rfl, rfl, (Nat.le_of_ble_eq_true rfl), (Nat.le_of_ble_eq_true rfl), (Nat.le_of_ble_eq_true rfl), (Nat.le_of_ble_eq_true rfl)⟩ [] rfl hl.1 (Nat.le_of_ble_eq_true rfl) dX8_without_1 ?_
  refine lv_if_eq (tgt := 17) hx hb dX8_without_4 (by decide) (fun c1 => ?_) (fun c1 => ?_)
  · refine lv_iload_n hx hb dX8_without_17 rfl (lv_at hl 0 rfl) ?_
    exact hret _ _ _ dX8_without_18 (by unfold s_X8_without; rw [if_pos c1])
  · refine lv_iload_n hx hb dX8_without_7 rfl (lv_at hl 0 rfl) ?_
    refine lv_iconst (v := 1) hx hb dX8_without_8 (by decide) ?_
    refine lv_iload_n hx hb dX8_without_9 rfl (lv_at hl 1 rfl) ?_
    refine lv_ishl hx hb dX8_without_10 ?_
    refine lv_iconst (v := (-1)) hx hb dX8_without_11 (by decide) ?_
    refine lv_ixor hx hb dX8_without_12 ?_
    refine lv_iand hx hb dX8_without_13 ?_
    refine lv_goto (tgt := 18) hx hb dX8_without_14 (by decide) ?_
    exact hret _ _ _ dX8_without_18 (by unfold s_X8_without; rw [if_neg c1])
def s_X8_oneOf (what : Int32) (a1 : Int32) (a2 : Int32) (a3 : Int32) : Int32 := if what = 0 then a1 else (if what = 1 then a2 else a3)
abbrev rm_X8_oneOf : Room := { frames := 0, cells := 0, slots := 0, locals := 0 }
set_option maxRecDepth 100000 in
set_option maxHeartbeats 4000000 in
theorem c_X8_oneOf (l : Launch) (D : va_G) (cI cZ : ClassId) (what a1 a2 a3 : Int32) : Met l yX8_oneOf [.code yX8_oneOf cX8_oneOf 4 (some .int)] rm_X8_oneOf (PcR D cI cZ [.int what, .int a1, .int a2, .int a3] []) (QcR (some (.int (s_X8_oneOf what a1 a2 a3)))) 0 0 zN := by
  refine mtRi (by decide) (Nat.le_of_ble_eq_true rfl) (fun p e s m args below meth c Q S hT hP hret ls hl => ?_)
  have S : CallFix p m c cX8_oneOf 4 s args zt RX8 := S
  obtain ⟨hx, hb, hml, hown, hts⟩ := id S
  have hl : lv_has ls 4 [(0, .int what), (1, .int a1), (2, .int a2), (3, .int a3)] := hl
  refine lv_iload_n hx hb dX8_oneOf_0 rfl (lv_at hl 0 rfl) ?_
  refine lv_if_ne (tgt := 6) hx hb dX8_oneOf_1 (by decide) (fun c1 => ?_) (fun c1 => ?_)
  · refine lv_iload_n hx hb dX8_oneOf_6 rfl (lv_at hl 0 rfl) ?_
    refine lv_iconst (v := 1) hx hb dX8_oneOf_7 (by decide) ?_
    refine lv_icmp_ne (tgt := 15) hx hb dX8_oneOf_8 (by decide) (fun c2 => ?_) (fun c2 => ?_)
    · refine lv_iload_n hx hb dX8_oneOf_15 rfl (lv_at hl 3 rfl) ?_
      exact hret _ _ _ dX8_oneOf_16 (by unfold s_X8_oneOf; rw [if_neg c1, if_neg c2])
    · refine lv_iload_n hx hb dX8_oneOf_11 rfl (lv_at hl 2 rfl) ?_
      refine lv_goto (tgt := 16) hx hb dX8_oneOf_12 (by decide) ?_
      exact hret _ _ _ dX8_oneOf_16 (by unfold s_X8_oneOf; rw [if_neg c1, if_pos c2])
  · refine lv_iload_n hx hb dX8_oneOf_4 rfl (lv_at hl 1 rfl) ?_
    exact hret _ _ _ dX8_oneOf_5 (by unfold s_X8_oneOf; rw [if_pos c1])
def s_X8_cell (n : Nat) (f : Nat → Int32) (i : Int32) : Int32 := if i < 0 then 0 else (if nI n ≤ i then 0 else f i.toNatClampNeg)
abbrev rm_X8_cell : Room := { frames := 0, cells := 0, slots := 0, locals := 0 }
set_option maxRecDepth 100000 in
set_option maxHeartbeats 4000000 in
theorem c_X8_cell (l : Launch) (D : va_G) (cI cZ : ClassId) (r n : Nat) (f : Nat → Int32) (i : Int32) (hn31 : n < 2 ^ 31) : Met l yX8_cell [.code yX8_cell cX8_cell 2 (some .int)] rm_X8_cell (PcR D cI cZ [.ref r, .int i] [(r, .inl (cI, n, .inl f))]) (QcR (some (.int (s_X8_cell n f i)))) 0 0 zN := by
  refine mtRi (by decide) (Nat.le_of_ble_eq_true rfl) (fun p e s m args below meth c Q S hT hP hret ls hl => ?_)
  have S : CallFix p m c cX8_cell 2 s args zt RX8 := S
  obtain ⟨hx, hb, hml, hown, hts⟩ := id S
  have hl : lv_has ls 2 [(0, .ref r), (1, .int i)] := hl
  refine lv_aload_n hx hb dX8_cell_0 rfl (lv_at hl 0 rfl) ?_
  refine lv_ifnull hx hb dX8_cell_1 ?_
  refine lv_iload_n hx hb dX8_cell_4 rfl (lv_at hl 1 rfl) ?_
  refine lv_if_lt (tgt := 20) hx hb dX8_cell_5 (by decide) (fun c1 => ?_) (fun c1 => ?_)
  · refine lv_iconst (v := 0) hx hb dX8_cell_20 (by decide) ?_
    exact hret _ _ _ dX8_cell_21 (by unfold s_X8_cell; rw [if_pos c1])
  · refine lv_iload_n hx hb dX8_cell_8 rfl (lv_at hl 1 rfl) ?_
    refine lv_aload_n hx hb dX8_cell_9 rfl (lv_at hl 0 rfl) ?_
    refine va_alen (D := D) (v := nI n) hx hb hT.1 hP 0 0 rfl rfl rfl dX8_cell_10 ?_
    refine lv_icmp_ge (tgt := 20) hx hb dX8_cell_11 (by decide) (fun c2 => ?_) (fun c2 => ?_)
    · refine lv_iconst (v := 0) hx hb dX8_cell_20 (by decide) ?_
      exact hret _ _ _ dX8_cell_21 (by unfold s_X8_cell; rw [if_neg c1, if_pos c2])
    · refine lv_aload_n hx hb dX8_cell_14 rfl (lv_at hl 0 rfl) ?_
      refine lv_iload_n hx hb dX8_cell_15 rfl (lv_at hl 1 rfl) ?_
      refine va_iald (D := D) hx hb hT.1 hP 0 0 rfl rfl (zvin c1 c2 hn31) dX8_cell_16 ?_
      refine lv_goto (tgt := 21) hx hb dX8_cell_17 (by decide) ?_
      exact hret _ _ _ dX8_cell_21 (by unfold s_X8_cell; rw [if_neg c1, if_neg c2])
def s_X8_put_f (n : Nat) (f : Nat → Int32) (i : Int32) (v : Int32) : Nat → Int32 := if i < 0 then f else (if nI n ≤ i then f else upd f i.toNatClampNeg v)
abbrev rm_X8_put : Room := { frames := 0, cells := 0, slots := 0, locals := 0 }
set_option maxRecDepth 100000 in
set_option maxHeartbeats 4000000 in
theorem c_X8_put (l : Launch) (D : va_G) (cI cZ : ClassId) (r n : Nat) (f : Nat → Int32) (i v : Int32) (hn31 : n < 2 ^ 31) : Met l yX8_put [.code yX8_put cX8_put 3 none] rm_X8_put (PcW D cI cZ [.ref r, .int i, .int v] [(r, .inl (cI, n, .inl f))]) (QcE D (S := Unit) none (fun _ => True) (fun _ => [(r, .inl (cI, n, .inl (s_X8_put_f n f i v)))]) (zA [(r, .inl (cI, n, .inl f))])) 0 0 (zA [(r, .inl (cI, n, .inl f))]) := by
  refine mtWv (by decide) (Nat.le_of_ble_eq_true rfl) (fun p e s m args below meth c Q A S hT hP hD hS hret ls hl => ?_)
  have S : CallFix p m c cX8_put 3 s args zt RX8 := S
  obtain ⟨hx, hb, hml, hown, hts⟩ := id S
  have hl : lv_has ls 3 [(0, .ref r), (1, .int i), (2, .int v)] := hl
  refine lv_aload_n hx hb dX8_put_0 rfl (lv_at hl 0 rfl) ?_
  refine lv_ifnull hx hb dX8_put_1 ?_
  refine lv_iload_n hx hb dX8_put_4 rfl (lv_at hl 1 rfl) ?_
  refine lv_if_lt (tgt := 18) hx hb dX8_put_5 (by decide) (fun c1 => ?_) (fun c1 => ?_)
  · have eo1 : s_X8_put_f n f i v = f := (by unfold s_X8_put_f; rw [if_pos c1])
    exact hret _ _ s.heap [] () dX8_put_18  trivial (by show va_P D vwCl [(r, .inl (cI, n, .inl (s_X8_put_f n f i v)))] s.heap; rw [eo1]; exact hP) hS
  · refine lv_iload_n hx hb dX8_put_8 rfl (lv_at hl 1 rfl) ?_
    refine lv_aload_n hx hb dX8_put_9 rfl (lv_at hl 0 rfl) ?_
    refine va_alen (D := D) (v := nI n) hx hb hT.1 hP 0 0 rfl rfl rfl dX8_put_10 ?_
    refine lv_icmp_ge (tgt := 18) hx hb dX8_put_11 (by decide) (fun c2 => ?_) (fun c2 => ?_)
    · have eo1 : s_X8_put_f n f i v = f := (by unfold s_X8_put_f; rw [if_neg c1, if_pos c2])
      exact hret _ _ s.heap [] () dX8_put_18  trivial (by show va_P D vwCl [(r, .inl (cI, n, .inl (s_X8_put_f n f i v)))] s.heap; rw [eo1]; exact hP) hS
    · refine lv_aload_n hx hb dX8_put_14 rfl (lv_at hl 0 rfl) ?_
      refine lv_iload_n hx hb dX8_put_15 rfl (lv_at hl 1 rfl) ?_
      refine lv_iload_n hx hb dX8_put_16 rfl (lv_at hl 2 rfl) ?_
      refine va_iast (D := D) hx hb hT.1 hP hD hS 0 0 rfl rfl (zvin c1 c2 hn31) dX8_put_17 (fun H locs hP hD hS => ?_)
      have hP : va_P D vwCl [(r, .inl (cI, n, .inl (upd f i.toNatClampNeg v)))] H := hP
      have hD : va_D A [(r, .inl (cI, n, .inl (upd f i.toNatClampNeg v)))] := hD
      have eo1 : s_X8_put_f n f i v = upd f i.toNatClampNeg v := (by unfold s_X8_put_f; rw [if_neg c1, if_neg c2])
      exact hret _ _ H locs () dX8_put_18  trivial (by show va_P D vwCl [(r, .inl (cI, n, .inl (s_X8_put_f n f i v)))] H; rw [eo1]; exact hP) hS
def lp_X8_copy_2 (n : Nat) (f : Nat → Int32) : Nat → Nat → (Nat → Int32) → (Nat → Int32)
  | 0, _, f1_2 => f1_2
  | fu + 1, k, f1_2 => if nI n ≤ nI k then f1_2 else (if nI n ≤ nI k then f1_2 else lp_X8_copy_2 n f fu (k + 1) (upd f1_2 k (f k)))
theorem zcopy_j (n : Nat) (f : Nat → Int32) (hn : n < 2 ^ 31) : ∀ (q k : Nat) (g : Nat → Int32), k ≤ n → n - k < q → ∀ j, lp_X8_copy_2 n f q k g j = if k ≤ j ∧ j < n then f j else g j
  | 0, k, g, _, hq, _ => absurd hq (Nat.not_lt_zero _)
  | q + 1, k, g, hk, hq, j => by
    rw [lp_X8_copy_2]
    by_cases c : nI n ≤ nI k
    · rw [if_pos c]
      have := zNle c hn (by omega)
      rw [if_neg (by omega)]
    · have hkn := zNnle c hn (by omega)
      rw [if_neg c, if_neg c, zcopy_j n f hn q (k + 1) _ (by omega) (by omega) j]
      by_cases e : j = k
      · subst e
        rw [if_neg (by omega), if_pos ⟨Nat.le_refl _, hkn⟩]
        simp [upd]
      · by_cases e2 : k ≤ j ∧ j < n
        · rw [if_pos e2, if_pos ⟨by omega, e2.2⟩]
        · rw [if_neg e2, if_neg (by omega)]
          simp [upd, e]
theorem zcopy_end (n : Nat) (f g : Nat → Int32) (j : Nat) (hn : n < 2 ^ 31) (hj : j < n) : lp_X8_copy_2 n f (n + 1) 0 g j = f j := by
  rw [zcopy_j n f hn (n + 1) 0 g (by omega) (by omega) j, if_pos ⟨Nat.zero_le _, hj⟩]
abbrev rm_X8_copy : Room := { frames := 0, cells := 0, slots := 0, locals := 0 }
set_option maxRecDepth 100000 in
set_option maxHeartbeats 4000000 in
theorem c_X8_copy (l : Launch) (D : va_G) (cI cZ : ClassId) (r r2 n : Nat) (f g : Nat → Int32) (hn31 : n < 2 ^ 31) : Met l yX8_copy [.code yX8_copy cX8_copy 3 none] rm_X8_copy (PcW D cI cZ [.ref r, .ref r2] [(r, .inl (cI, n, .inl f)), (r2, .inl (cI, n, .inl g))]) (QcE D (S := Unit) none (fun _ => True) (fun _ => [(r, .inl (cI, n, .inl f)), (r2, .inl (cI, n, .inl f))]) (zA [(r, .inl (cI, n, .inl f)), (r2, .inl (cI, n, .inl g))])) 0 0 (zA [(r, .inl (cI, n, .inl f)), (r2, .inl (cI, n, .inl g))]) := by
  refine mtWv (by decide) (Nat.le_of_ble_eq_true rfl) (fun p e s m args below meth c Q A S hT hP hD hS hret ls hl => ?_)
  have S : CallFix p m c cX8_copy 3 s args zt RX8 := S
  obtain ⟨hx, hb, hml, hown, hts⟩ := id S
  have hl : lv_has ls 3 [(0, .ref r), (1, .ref r2)] := hl
  refine lv_iconst (v := 0) hx hb dX8_copy_0 (by decide) ?_
  refine lv_istore_n (lv' := [(2, .int 0), (0, .ref r), (1, .ref r2)]) hx hb dX8_copy_1 rfl hl (by decide) rfl (fun ls hl => ?_)
  have X2 : ∀ (y1 : Nat → Int32), y1 = (lp_X8_copy_2 n f (n + 1) 0 g) → ∀ (ls : Array Slot), lv_has ls 3 [(0, .ref r), (1, .ref r2)] → ∀ (H : Heap) (locs : List Loc), va_P D vwCl [(r, .inl (cI, n, .inl f)), (r2, .inl (cI, n, .inl y1))] H → va_D A [(r, .inl (cI, n, .inl f)), (r2, .inl (cI, n, .inl y1))] → va_S A s.heap H locs → W p l e rm_X8_copy s m args below meth c H locs 0 0 Q (F0 m 34 ls []) := by
    intro y1 ey1 ls hl H locs hP hD hS
    subst ey1
    have hP := z_fun (k := 1) (g := f) hP rfl (fun j hj => zcopy_end n f g j hn31 hj)
    have hD := hD.set (p := 1) (e := .inl (cI, n, .inl f)) rfl
    have hP : va_P D vwCl [(r, .inl (cI, n, .inl f)), (r2, .inl (cI, n, .inl f))] H := hP
    have hD : va_D A [(r, .inl (cI, n, .inl f)), (r2, .inl (cI, n, .inl f))] := hD
    exact hret _ _ H locs () dX8_copy_34  trivial hP hS
  have L3 : ∀ (n6 : Nat) (k : Nat) (f1_2 : Nat → Int32), n - k < n6 → (k ≤ n) → lp_X8_copy_2 n f n6 k f1_2 = lp_X8_copy_2 n f (n + 1) 0 g → ∀ (ls : Array Slot), lv_has ls 3 [(0, .ref r), (1, .ref r2), (2, .int (nI k))] → ∀ (H : Heap) (locs : List Loc), va_P D vwCl [(r, .inl (cI, n, .inl f)), (r2, .inl (cI, n, .inl f1_2))] H → va_D A [(r, .inl (cI, n, .inl f)), (r2, .inl (cI, n, .inl f1_2))] → va_S A s.heap H locs → W p l e rm_X8_copy s m args below meth c H locs 0 0 Q (F0 m 2 ls []) := by
    intro n6
    induction n6 with
    | zero => intro k f1_2 hm; exact absurd hm (Nat.not_lt_zero _)
    | succ n6 ih5 =>
      intro k f1_2 hm7 hk hv4 ls hl H locs hP hD hS
      refine lv_aload_n hx hb dX8_copy_2 rfl (lv_at hl 0 rfl) ?_
      refine lv_ifnull hx hb dX8_copy_3 ?_
      refine lv_aload_n hx hb dX8_copy_6 rfl (lv_at hl 1 rfl) ?_
      refine lv_ifnull hx hb dX8_copy_7 ?_
      refine lv_iload_n hx hb dX8_copy_10 rfl (lv_at hl 2 rfl) ?_
      refine lv_aload_n hx hb dX8_copy_11 rfl (lv_at hl 0 rfl) ?_
      refine va_alen (D := D) (v := nI n) hx hb hT.1 hP 0 0 rfl rfl rfl dX8_copy_12 ?_
      refine lv_icmp_ge (tgt := 34) hx hb dX8_copy_13 (by decide) (fun c8 => ?_) (fun c8 => ?_)
      · have nc8 := zNle (a := n) (b := k) c8 (by omega) (by omega)
        exact X2 _ (by rw [← hv4, lp_X8_copy_2, if_pos c8]) ls (lv_sub hl [0, 1] rfl) H locs hP hD hS
      · have nc8 := zNnle (a := n) (b := k) c8 (by omega) (by omega)
        refine lv_iload_n hx hb dX8_copy_16 rfl (lv_at hl 2 rfl) ?_
        refine lv_aload_n hx hb dX8_copy_17 rfl (lv_at hl 1 rfl) ?_
        refine va_alen (D := D) (v := nI n) hx hb hT.1 hP 1 0 rfl rfl rfl dX8_copy_18 ?_
        refine lv_icmp_ge (tgt := 34) hx hb dX8_copy_19 (by decide) (fun c9 => ?_) (fun c9 => ?_)
        · have nc9 := zNle (a := n) (b := k) c9 (by omega) (by omega)
          exact X2 _ (by rw [← hv4, lp_X8_copy_2, if_pos c9]) ls (lv_sub hl [0, 1] rfl) H locs hP hD hS
        · have nc9 := zNnle (a := n) (b := k) c9 (by omega) (by omega)
          refine lv_aload_n hx hb dX8_copy_22 rfl (lv_at hl 1 rfl) ?_
          refine lv_iload_n hx hb dX8_copy_23 rfl (lv_at hl 2 rfl) ?_
          refine lv_aload_n hx hb dX8_copy_24 rfl (lv_at hl 0 rfl) ?_
          refine lv_iload_n hx hb dX8_copy_25 rfl (lv_at hl 2 rfl) ?_
          refine zald (D := D) (k := k) hx hb hT.1 hP 0 0 rfl rfl (by omega) (by omega) dX8_copy_26 ?_
          refine zast (D := D) (k := k) hx hb hT.1 hP hD hS 1 0 rfl rfl (by omega) (by omega) dX8_copy_27 (fun H locs hP hD hS => ?_)
          have hP : va_P D vwCl [(r, .inl (cI, n, .inl f)), (r2, .inl (cI, n, .inl (upd f1_2 k (f k))))] H := hP
          have hD : va_D A [(r, .inl (cI, n, .inl f)), (r2, .inl (cI, n, .inl (upd f1_2 k (f k))))] := hD
          refine lv_iinc (v := nI (k + 1)) (lv' := [(2, .int (nI (k + 1))), (0, .ref r), (1, .ref r2)]) hx hb dX8_copy_28 hl (k := 2) rfl (nI_1 k) (by decide) rfl (fun ls hl => ?_)
          refine lv_goto (tgt := 2) hx hb dX8_copy_31 (by decide) ?_
          exact ih5 (k + 1) (upd f1_2 k (f k)) (by omega) (by omega) (by rw [← hv4, lp_X8_copy_2, if_neg c9, if_neg c9]) ls (lv_sub hl [1, 2, 0] rfl) H locs hP hD hS
  exact L3 (n + 1) 0 g (by omega) (by omega) rfl ls (lv_sub hl [1, 2, 0] rfl) s.heap [] hP hD hS
end
section
abbrev rm_X7_number : Room := { frames := 1, cells := 0, slots := 0, locals := 21 }
set_option maxRecDepth 100000 in
set_option maxHeartbeats 4000000 in
theorem c_X7_number (l : Launch) (D : va_G) (cI cZ : ClassId) (h hn hw ht hs hp sn : Nat) (kp : Int32) (nm wd wt sT sP : Nat → Int32) (w : Int32) : Met l yX7_number [.code yX7_number cX7_number 2 (some .int)] rm_X7_number (PcR D cI cZ [.ref h, .int w] [(h, .inr (7, [.ref hn, .ref hw, .ref ht, .ref hs, .ref hp, .int (nI sn), .int kp])), (hn, .inl (cI, 6, .inl nm)), (hw, .inl (cI, 10, .inl wd)), (ht, .inl (cI, 6, .inl wt)), (hs, .inl (cI, 6, .inl sT)), (hp, .inl (cI, 6, .inl sP))]) (QcR (some (.int (s_X8_cell 6 nm w)))) 0 0 zN := by
  refine mtRi (by decide) (Nat.le_of_ble_eq_true rfl) (fun p e s m args below meth c Q S hT hP hret ls hl => ?_)
  have S : CallFix p m c cX7_number 2 s args zt RX7 := S
  obtain ⟨hx, hb, hml, hown, hts⟩ := id S
  have hl : lv_has ls 2 [(0, .ref h), (1, .int w)] := hl
  refine lv_aload_n hx hb dX7_number_0 rfl (lv_at hl 0 rfl) ?_
  refine va_get (D := D) (ci := 7) (v := .ref hn) (C := RX7) (T := TX7) (N := 7) hx hb hts in_X7 hown hT.1 hP 0 rfl rfl 0 (by decide) (hts _ fl_RX7_9) (fun _ h9 => h9) rfl dX7_number_1 ?_
  refine lv_iload_n hx hb dX7_number_4 rfl (lv_at hl 1 rfl) ?_
  refine kRM (st1 := [.int (s_X8_cell 6 nm w)]) S hT hP (c_X8_cell l D cI cZ hn 6 nm w (by first | assumption | decide | omega)) rfl rfl mw_X8_cell ln_RX7_30 ⟨rfl, rfl, (Nat.le_of_ble_eq_true rfl), (Nat.le_of_ble_eq_true rfl), (Nat.le_of_ble_eq_true rfl), (Nat.le_of_ble_eq_true rfl)⟩ [1] rfl hl.1 (Nat.le_of_ble_eq_true rfl) dX7_number_5 ?_
  exact hret _ _ _ dX7_number_8 rfl
abbrev rm_X7_changeNumber : Room := { frames := 1, cells := 0, slots := 0, locals := 22 }
set_option maxRecDepth 100000 in
set_option maxHeartbeats 4000000 in
theorem c_X7_changeNumber (l : Launch) (D : va_G) (cI cZ : ClassId) (h hn hw ht hs hp sn : Nat) (kp : Int32) (nm wd wt sT sP : Nat → Int32) (w v : Int32) : Met l yX7_changeNumber [.code yX7_changeNumber cX7_changeNumber 3 none] rm_X7_changeNumber (PcW D cI cZ [.ref h, .int w, .int v] [(h, .inr (7, [.ref hn, .ref hw, .ref ht, .ref hs, .ref hp, .int (nI sn), .int kp])), (hn, .inl (cI, 6, .inl nm)), (hw, .inl (cI, 10, .inl wd)), (ht, .inl (cI, 6, .inl wt)), (hs, .inl (cI, 6, .inl sT)), (hp, .inl (cI, 6, .inl sP))]) (QcE D (S := Unit) none (fun _ => True) (fun _ => [(h, .inr (7, [.ref hn, .ref hw, .ref ht, .ref hs, .ref hp, .int (nI sn), .int kp])), (hn, .inl (cI, 6, .inl (s_X8_put_f 6 nm w v))), (hw, .inl (cI, 10, .inl wd)), (ht, .inl (cI, 6, .inl wt)), (hs, .inl (cI, 6, .inl sT)), (hp, .inl (cI, 6, .inl sP))]) (zA [(h, .inr (7, [.ref hn, .ref hw, .ref ht, .ref hs, .ref hp, .int (nI sn), .int kp])), (hn, .inl (cI, 6, .inl nm)), (hw, .inl (cI, 10, .inl wd)), (ht, .inl (cI, 6, .inl wt)), (hs, .inl (cI, 6, .inl sT)), (hp, .inl (cI, 6, .inl sP))])) 0 0 (zA [(h, .inr (7, [.ref hn, .ref hw, .ref ht, .ref hs, .ref hp, .int (nI sn), .int kp])), (hn, .inl (cI, 6, .inl nm)), (hw, .inl (cI, 10, .inl wd)), (ht, .inl (cI, 6, .inl wt)), (hs, .inl (cI, 6, .inl sT)), (hp, .inl (cI, 6, .inl sP))]) := by
  refine mtWv (by decide) (Nat.le_of_ble_eq_true rfl) (fun p e s m args below meth c Q A S hT hP hD hS hret ls hl => ?_)
  have S : CallFix p m c cX7_changeNumber 3 s args zt RX7 := S
  obtain ⟨hx, hb, hml, hown, hts⟩ := id S
  have hl : lv_has ls 3 [(0, .ref h), (1, .int w), (2, .int v)] := hl
  refine lv_aload_n hx hb dX7_changeNumber_0 rfl (lv_at hl 0 rfl) ?_
  refine va_get (D := D) (ci := 7) (v := .ref hn) (C := RX7) (T := TX7) (N := 7) hx hb hts in_X7 hown hT.1 hP 0 rfl rfl 0 (by decide) (hts _ fl_RX7_9) (fun _ h9 => h9) rfl dX7_changeNumber_1 ?_
  refine lv_iload_n hx hb dX7_changeNumber_4 rfl (lv_at hl 1 rfl) ?_
  refine lv_iload_n hx hb dX7_changeNumber_5 rfl (lv_at hl 2 rfl) ?_
  refine kEM (st1 := []) (fun _ => [(h, .inr (7, [.ref hn, .ref hw, .ref ht, .ref hs, .ref hp, .int (nI sn), .int kp])), (hn, .inl (cI, 6, .inl (s_X8_put_f 6 nm w v))), (hw, .inl (cI, 10, .inl wd)), (ht, .inl (cI, 6, .inl wt)), (hs, .inl (cI, 6, .inl sT)), (hp, .inl (cI, 6, .inl sP))]) S hT hP hD hS (c_X8_put l D cI cZ hn 6 nm w v (by first | assumption | decide | omega)) rfl rfl mw_X8_put ln_RX7_34 ⟨rfl, rfl, (Nat.le_of_ble_eq_true rfl), (Nat.le_of_ble_eq_true rfl), (Nat.le_of_ble_eq_true rfl), (Nat.le_of_ble_eq_true rfl)⟩ [1] [0, 2, 3, 4, 5] (by decide) rfl (fun _ => rfl) (fun _ => rfl) 6 (fun _ => rfl) (by decide) (fun _ => rfl) hl.1 (Nat.le_of_ble_eq_true rfl) dX7_changeNumber_6 (fun _ H locs _ hP hD hS => ?_)
  have hP : va_P D vwCl [(h, .inr (7, [.ref hn, .ref hw, .ref ht, .ref hs, .ref hp, .int (nI sn), .int kp])), (hn, .inl (cI, 6, .inl (s_X8_put_f 6 nm w v))), (hw, .inl (cI, 10, .inl wd)), (ht, .inl (cI, 6, .inl wt)), (hs, .inl (cI, 6, .inl sT)), (hp, .inl (cI, 6, .inl sP))] H := hP
  have hD : va_D A [(h, .inr (7, [.ref hn, .ref hw, .ref ht, .ref hs, .ref hp, .int (nI sn), .int kp])), (hn, .inl (cI, 6, .inl (s_X8_put_f 6 nm w v))), (hw, .inl (cI, 10, .inl wd)), (ht, .inl (cI, 6, .inl wt)), (hs, .inl (cI, 6, .inl sT)), (hp, .inl (cI, 6, .inl sP))] := hD
  exact hret _ _ H locs () dX7_changeNumber_9  trivial hP hS
abbrev rm_X7_windAt : Room := { frames := 1, cells := 0, slots := 0, locals := 21 }
set_option maxRecDepth 100000 in
set_option maxHeartbeats 4000000 in
theorem c_X7_windAt (l : Launch) (D : va_G) (cI cZ : ClassId) (h hn hw ht hs hp sn : Nat) (kp : Int32) (nm wd wt sT sP : Nat → Int32) (hh lt : Int32) : Met l yX7_windAt [.code yX7_windAt cX7_windAt 3 (some .int)] rm_X7_windAt (PcR D cI cZ [.ref h, .int hh, .int lt] [(h, .inr (7, [.ref hn, .ref hw, .ref ht, .ref hs, .ref hp, .int (nI sn), .int kp])), (hn, .inl (cI, 6, .inl nm)), (hw, .inl (cI, 10, .inl wd)), (ht, .inl (cI, 6, .inl wt)), (hs, .inl (cI, 6, .inl sT)), (hp, .inl (cI, 6, .inl sP))]) (QcR (some (.int (s_X8_cell 10 wd ((lt * 5) + hh))))) 0 0 zN := by
  refine mtRi (by decide) (Nat.le_of_ble_eq_true rfl) (fun p e s m args below meth c Q S hT hP hret ls hl => ?_)
  have S : CallFix p m c cX7_windAt 3 s args zt RX7 := S
  obtain ⟨hx, hb, hml, hown, hts⟩ := id S
  have hl : lv_has ls 3 [(0, .ref h), (1, .int hh), (2, .int lt)] := hl
  refine lv_aload_n hx hb dX7_windAt_0 rfl (lv_at hl 0 rfl) ?_
  refine va_get (D := D) (ci := 7) (v := .ref hw) (C := RX7) (T := TX7) (N := 7) hx hb hts in_X7 hown hT.1 hP 0 rfl rfl 1 (by decide) (hts _ fl_RX7_15) (fun _ h9 => h9) rfl dX7_windAt_1 ?_
  refine lv_iload_n hx hb dX7_windAt_4 rfl (lv_at hl 2 rfl) ?_
  refine lv_iconst (v := 5) hx hb dX7_windAt_5 (by decide) ?_
  refine lv_imul hx hb dX7_windAt_6 ?_
  refine lv_iload_n hx hb dX7_windAt_7 rfl (lv_at hl 1 rfl) ?_
  refine lv_iadd hx hb dX7_windAt_8 ?_
  refine kRM (st1 := [.int (s_X8_cell 10 wd ((lt * 5) + hh))]) S hT hP (c_X8_cell l D cI cZ hw 10 wd ((lt * 5) + hh) (by first | assumption | decide | omega)) rfl rfl mw_X8_cell ln_RX7_30 ⟨rfl, rfl, (Nat.le_of_ble_eq_true rfl), (Nat.le_of_ble_eq_true rfl), (Nat.le_of_ble_eq_true rfl), (Nat.le_of_ble_eq_true rfl)⟩ [2] rfl hl.1 (Nat.le_of_ble_eq_true rfl) dX7_windAt_9 ?_
  exact hret _ _ _ dX7_windAt_12 rfl
abbrev rm_X7_changeWind : Room := { frames := 1, cells := 0, slots := 0, locals := 22 }
set_option maxRecDepth 100000 in
set_option maxHeartbeats 4000000 in
theorem c_X7_changeWind (l : Launch) (D : va_G) (cI cZ : ClassId) (h hn hw ht hs hp sn : Nat) (kp : Int32) (nm wd wt sT sP : Nat → Int32) (hh lt v : Int32) : Met l yX7_changeWind [.code yX7_changeWind cX7_changeWind 4 none] rm_X7_changeWind (PcW D cI cZ [.ref h, .int hh, .int lt, .int v] [(h, .inr (7, [.ref hn, .ref hw, .ref ht, .ref hs, .ref hp, .int (nI sn), .int kp])), (hn, .inl (cI, 6, .inl nm)), (hw, .inl (cI, 10, .inl wd)), (ht, .inl (cI, 6, .inl wt)), (hs, .inl (cI, 6, .inl sT)), (hp, .inl (cI, 6, .inl sP))]) (QcE D (S := Unit) none (fun _ => True) (fun _ => [(h, .inr (7, [.ref hn, .ref hw, .ref ht, .ref hs, .ref hp, .int (nI sn), .int kp])), (hn, .inl (cI, 6, .inl nm)), (hw, .inl (cI, 10, .inl (s_X8_put_f 10 wd ((lt * 5) + hh) v))), (ht, .inl (cI, 6, .inl wt)), (hs, .inl (cI, 6, .inl sT)), (hp, .inl (cI, 6, .inl sP))]) (zA [(h, .inr (7, [.ref hn, .ref hw, .ref ht, .ref hs, .ref hp, .int (nI sn), .int kp])), (hn, .inl (cI, 6, .inl nm)), (hw, .inl (cI, 10, .inl wd)), (ht, .inl (cI, 6, .inl wt)), (hs, .inl (cI, 6, .inl sT)), (hp, .inl (cI, 6, .inl sP))])) 0 0 (zA [(h, .inr (7, [.ref hn, .ref hw, .ref ht, .ref hs, .ref hp, .int (nI sn), .int kp])), (hn, .inl (cI, 6, .inl nm)), (hw, .inl (cI, 10, .inl wd)), (ht, .inl (cI, 6, .inl wt)), (hs, .inl (cI, 6, .inl sT)), (hp, .inl (cI, 6, .inl sP))]) := by
  refine mtWv (by decide) (Nat.le_of_ble_eq_true rfl) (fun p e s m args below meth c Q A S hT hP hD hS hret ls hl => ?_)
  have S : CallFix p m c cX7_changeWind 4 s args zt RX7 := S
  obtain ⟨hx, hb, hml, hown, hts⟩ := id S
  have hl : lv_has ls 4 [(0, .ref h), (1, .int hh), (2, .int lt), (3, .int v)] := hl
  refine lv_aload_n hx hb dX7_changeWind_0 rfl (lv_at hl 0 rfl) ?_
  refine va_get (D := D) (ci := 7) (v := .ref hw) (C := RX7) (T := TX7) (N := 7) hx hb hts in_X7 hown hT.1 hP 0 rfl rfl 1 (by decide) (hts _ fl_RX7_15) (fun _ h9 => h9) rfl dX7_changeWind_1 ?_
  refine lv_iload_n hx hb dX7_changeWind_4 rfl (lv_at hl 2 rfl) ?_
  refine lv_iconst (v := 5) hx hb dX7_changeWind_5 (by decide) ?_
  refine lv_imul hx hb dX7_changeWind_6 ?_
  refine lv_iload_n hx hb dX7_changeWind_7 rfl (lv_at hl 1 rfl) ?_
  refine lv_iadd hx hb dX7_changeWind_8 ?_
  refine lv_iload_n hx hb dX7_changeWind_9 rfl (lv_at hl 3 rfl) ?_
  refine kEM (st1 := []) (fun _ => [(h, .inr (7, [.ref hn, .ref hw, .ref ht, .ref hs, .ref hp, .int (nI sn), .int kp])), (hn, .inl (cI, 6, .inl nm)), (hw, .inl (cI, 10, .inl (s_X8_put_f 10 wd ((lt * 5) + hh) v))), (ht, .inl (cI, 6, .inl wt)), (hs, .inl (cI, 6, .inl sT)), (hp, .inl (cI, 6, .inl sP))]) S hT hP hD hS (c_X8_put l D cI cZ hw 10 wd ((lt * 5) + hh) v (by first | assumption | decide | omega)) rfl rfl mw_X8_put ln_RX7_34 ⟨rfl, rfl, (Nat.le_of_ble_eq_true rfl), (Nat.le_of_ble_eq_true rfl), (Nat.le_of_ble_eq_true rfl), (Nat.le_of_ble_eq_true rfl)⟩ [2] [0, 1, 3, 4, 5] (by decide) rfl (fun _ => rfl) (fun _ => rfl) 6 (fun _ => rfl) (by decide) (fun _ => rfl) hl.1 (Nat.le_of_ble_eq_true rfl) dX7_changeWind_10 (fun _ H locs _ hP hD hS => ?_)
  have hP : va_P D vwCl [(h, .inr (7, [.ref hn, .ref hw, .ref ht, .ref hs, .ref hp, .int (nI sn), .int kp])), (hn, .inl (cI, 6, .inl nm)), (hw, .inl (cI, 10, .inl (s_X8_put_f 10 wd ((lt * 5) + hh) v))), (ht, .inl (cI, 6, .inl wt)), (hs, .inl (cI, 6, .inl sT)), (hp, .inl (cI, 6, .inl sP))] H := hP
  have hD : va_D A [(h, .inr (7, [.ref hn, .ref hw, .ref ht, .ref hs, .ref hp, .int (nI sn), .int kp])), (hn, .inl (cI, 6, .inl nm)), (hw, .inl (cI, 10, .inl (s_X8_put_f 10 wd ((lt * 5) + hh) v))), (ht, .inl (cI, 6, .inl wt)), (hs, .inl (cI, 6, .inl sT)), (hp, .inl (cI, 6, .inl sP))] := hD
  exact hret _ _ H locs () dX7_changeWind_13  trivial hP hS
abbrev rm_X7_weight : Room := { frames := 1, cells := 0, slots := 0, locals := 21 }
set_option maxRecDepth 100000 in
set_option maxHeartbeats 4000000 in
theorem c_X7_weight (l : Launch) (D : va_G) (cI cZ : ClassId) (h hn hw ht hs hp sn : Nat) (kp : Int32) (nm wd wt sT sP : Nat → Int32) (t : Int32) : Met l yX7_weight [.code yX7_weight cX7_weight 2 (some .int)] rm_X7_weight (PcR D cI cZ [.ref h, .int t] [(h, .inr (7, [.ref hn, .ref hw, .ref ht, .ref hs, .ref hp, .int (nI sn), .int kp])), (hn, .inl (cI, 6, .inl nm)), (hw, .inl (cI, 10, .inl wd)), (ht, .inl (cI, 6, .inl wt)), (hs, .inl (cI, 6, .inl sT)), (hp, .inl (cI, 6, .inl sP))]) (QcR (some (.int (s_X8_cell 6 wt t)))) 0 0 zN := by
  refine mtRi (by decide) (Nat.le_of_ble_eq_true rfl) (fun p e s m args below meth c Q S hT hP hret ls hl => ?_)
  have S : CallFix p m c cX7_weight 2 s args zt RX7 := S
  obtain ⟨hx, hb, hml, hown, hts⟩ := id S
  have hl : lv_has ls 2 [(0, .ref h), (1, .int t)] := hl
  refine lv_aload_n hx hb dX7_weight_0 rfl (lv_at hl 0 rfl) ?_
  refine va_get (D := D) (ci := 7) (v := .ref ht) (C := RX7) (T := TX7) (N := 7) hx hb hts in_X7 hown hT.1 hP 0 rfl rfl 2 (by decide) (hts _ fl_RX7_18) (fun _ h9 => h9) rfl dX7_weight_1 ?_
  refine lv_iload_n hx hb dX7_weight_4 rfl (lv_at hl 1 rfl) ?_
  refine kRM (st1 := [.int (s_X8_cell 6 wt t)]) S hT hP (c_X8_cell l D cI cZ ht 6 wt t (by first | assumption | decide | omega)) rfl rfl mw_X8_cell ln_RX7_30 ⟨rfl, rfl, (Nat.le_of_ble_eq_true rfl), (Nat.le_of_ble_eq_true rfl), (Nat.le_of_ble_eq_true rfl), (Nat.le_of_ble_eq_true rfl)⟩ [3] rfl hl.1 (Nat.le_of_ble_eq_true rfl) dX7_weight_5 ?_
  exact hret _ _ _ dX7_weight_8 rfl
abbrev rm_X7_changeWeight : Room := { frames := 1, cells := 0, slots := 0, locals := 22 }
set_option maxRecDepth 100000 in
set_option maxHeartbeats 4000000 in
theorem c_X7_changeWeight (l : Launch) (D : va_G) (cI cZ : ClassId) (h hn hw ht hs hp sn : Nat) (kp : Int32) (nm wd wt sT sP : Nat → Int32) (t v : Int32) : Met l yX7_changeWeight [.code yX7_changeWeight cX7_changeWeight 3 none] rm_X7_changeWeight (PcW D cI cZ [.ref h, .int t, .int v] [(h, .inr (7, [.ref hn, .ref hw, .ref ht, .ref hs, .ref hp, .int (nI sn), .int kp])), (hn, .inl (cI, 6, .inl nm)), (hw, .inl (cI, 10, .inl wd)), (ht, .inl (cI, 6, .inl wt)), (hs, .inl (cI, 6, .inl sT)), (hp, .inl (cI, 6, .inl sP))]) (QcE D (S := Unit) none (fun _ => True) (fun _ => [(h, .inr (7, [.ref hn, .ref hw, .ref ht, .ref hs, .ref hp, .int (nI sn), .int kp])), (hn, .inl (cI, 6, .inl nm)), (hw, .inl (cI, 10, .inl wd)), (ht, .inl (cI, 6, .inl (s_X8_put_f 6 wt t v))), (hs, .inl (cI, 6, .inl sT)), (hp, .inl (cI, 6, .inl sP))]) (zA [(h, .inr (7, [.ref hn, .ref hw, .ref ht, .ref hs, .ref hp, .int (nI sn), .int kp])), (hn, .inl (cI, 6, .inl nm)), (hw, .inl (cI, 10, .inl wd)), (ht, .inl (cI, 6, .inl wt)), (hs, .inl (cI, 6, .inl sT)), (hp, .inl (cI, 6, .inl sP))])) 0 0 (zA [(h, .inr (7, [.ref hn, .ref hw, .ref ht, .ref hs, .ref hp, .int (nI sn), .int kp])), (hn, .inl (cI, 6, .inl nm)), (hw, .inl (cI, 10, .inl wd)), (ht, .inl (cI, 6, .inl wt)), (hs, .inl (cI, 6, .inl sT)), (hp, .inl (cI, 6, .inl sP))]) := by
  refine mtWv (by decide) (Nat.le_of_ble_eq_true rfl) (fun p e s m args below meth c Q A S hT hP hD hS hret ls hl => ?_)
  have S : CallFix p m c cX7_changeWeight 3 s args zt RX7 := S
  obtain ⟨hx, hb, hml, hown, hts⟩ := id S
  have hl : lv_has ls 3 [(0, .ref h), (1, .int t), (2, .int v)] := hl
  refine lv_aload_n hx hb dX7_changeWeight_0 rfl (lv_at hl 0 rfl) ?_
  refine va_get (D := D) (ci := 7) (v := .ref ht) (C := RX7) (T := TX7) (N := 7) hx hb hts in_X7 hown hT.1 hP 0 rfl rfl 2 (by decide) (hts _ fl_RX7_18) (fun _ h9 => h9) rfl dX7_changeWeight_1 ?_
  refine lv_iload_n hx hb dX7_changeWeight_4 rfl (lv_at hl 1 rfl) ?_
  refine lv_iload_n hx hb dX7_changeWeight_5 rfl (lv_at hl 2 rfl) ?_
  refine kEM (st1 := []) (fun _ => [(h, .inr (7, [.ref hn, .ref hw, .ref ht, .ref hs, .ref hp, .int (nI sn), .int kp])), (hn, .inl (cI, 6, .inl nm)), (hw, .inl (cI, 10, .inl wd)), (ht, .inl (cI, 6, .inl (s_X8_put_f 6 wt t v))), (hs, .inl (cI, 6, .inl sT)), (hp, .inl (cI, 6, .inl sP))]) S hT hP hD hS (c_X8_put l D cI cZ ht 6 wt t v (by first | assumption | decide | omega)) rfl rfl mw_X8_put ln_RX7_34 ⟨rfl, rfl, (Nat.le_of_ble_eq_true rfl), (Nat.le_of_ble_eq_true rfl), (Nat.le_of_ble_eq_true rfl), (Nat.le_of_ble_eq_true rfl)⟩ [3] [0, 1, 2, 4, 5] (by decide) rfl (fun _ => rfl) (fun _ => rfl) 6 (fun _ => rfl) (by decide) (fun _ => rfl) hl.1 (Nat.le_of_ble_eq_true rfl) dX7_changeWeight_6 (fun _ H locs _ hP hD hS => ?_)
  have hP : va_P D vwCl [(h, .inr (7, [.ref hn, .ref hw, .ref ht, .ref hs, .ref hp, .int (nI sn), .int kp])), (hn, .inl (cI, 6, .inl nm)), (hw, .inl (cI, 10, .inl wd)), (ht, .inl (cI, 6, .inl (s_X8_put_f 6 wt t v))), (hs, .inl (cI, 6, .inl sT)), (hp, .inl (cI, 6, .inl sP))] H := hP
  have hD : va_D A [(h, .inr (7, [.ref hn, .ref hw, .ref ht, .ref hs, .ref hp, .int (nI sn), .int kp])), (hn, .inl (cI, 6, .inl nm)), (hw, .inl (cI, 10, .inl wd)), (ht, .inl (cI, 6, .inl (s_X8_put_f 6 wt t v))), (hs, .inl (cI, 6, .inl sT)), (hp, .inl (cI, 6, .inl sP))] := hD
  exact hret _ _ H locs () dX7_changeWeight_9  trivial hP hS
abbrev rm_X7_sights : Room := { frames := 0, cells := 0, slots := 0, locals := 0 }
set_option maxRecDepth 100000 in
set_option maxHeartbeats 4000000 in
theorem c_X7_sights (l : Launch) (D : va_G) (cI cZ : ClassId) (h hn hw ht hs hp sn : Nat) (kp : Int32) (nm wd wt sT sP : Nat → Int32) : Met l yX7_sights [.code yX7_sights cX7_sights 1 (some .int)] rm_X7_sights (PcR D cI cZ [.ref h] [(h, .inr (7, [.ref hn, .ref hw, .ref ht, .ref hs, .ref hp, .int (nI sn), .int kp])), (hn, .inl (cI, 6, .inl nm)), (hw, .inl (cI, 10, .inl wd)), (ht, .inl (cI, 6, .inl wt)), (hs, .inl (cI, 6, .inl sT)), (hp, .inl (cI, 6, .inl sP))]) (QcR (some (.int (nI sn)))) 0 0 zN := by
  refine mtRi (by decide) (Nat.le_of_ble_eq_true rfl) (fun p e s m args below meth c Q S hT hP hret ls hl => ?_)
  have S : CallFix p m c cX7_sights 1 s args zt RX7 := S
  obtain ⟨hx, hb, hml, hown, hts⟩ := id S
  have hl : lv_has ls 1 [(0, .ref h)] := hl
  refine lv_aload_n hx hb dX7_sights_0 rfl (lv_at hl 0 rfl) ?_
  refine va_get (D := D) (ci := 7) (v := .int (nI sn)) (C := RX7) (T := TX7) (N := 7) hx hb hts in_X7 hown hT.1 hP 0 rfl rfl 5 (by decide) (hts _ fl_RX7_38) (fun _ h9 => h9) rfl dX7_sights_1 ?_
  exact hret _ _ _ dX7_sights_4 rfl
abbrev rm_X7_sightThing : Room := { frames := 1, cells := 0, slots := 0, locals := 21 }
set_option maxRecDepth 100000 in
set_option maxHeartbeats 4000000 in
theorem c_X7_sightThing (l : Launch) (D : va_G) (cI cZ : ClassId) (h hn hw ht hs hp sn : Nat) (kp : Int32) (nm wd wt sT sP : Nat → Int32) (t : Int32) : Met l yX7_sightThing [.code yX7_sightThing cX7_sightThing 2 (some .int)] rm_X7_sightThing (PcR D cI cZ [.ref h, .int t] [(h, .inr (7, [.ref hn, .ref hw, .ref ht, .ref hs, .ref hp, .int (nI sn), .int kp])), (hn, .inl (cI, 6, .inl nm)), (hw, .inl (cI, 10, .inl wd)), (ht, .inl (cI, 6, .inl wt)), (hs, .inl (cI, 6, .inl sT)), (hp, .inl (cI, 6, .inl sP))]) (QcR (some (.int (s_X8_cell 6 sT t)))) 0 0 zN := by
  refine mtRi (by decide) (Nat.le_of_ble_eq_true rfl) (fun p e s m args below meth c Q S hT hP hret ls hl => ?_)
  have S : CallFix p m c cX7_sightThing 2 s args zt RX7 := S
  obtain ⟨hx, hb, hml, hown, hts⟩ := id S
  have hl : lv_has ls 2 [(0, .ref h), (1, .int t)] := hl
  refine lv_aload_n hx hb dX7_sightThing_0 rfl (lv_at hl 0 rfl) ?_
  refine va_get (D := D) (ci := 7) (v := .ref hs) (C := RX7) (T := TX7) (N := 7) hx hb hts in_X7 hown hT.1 hP 0 rfl rfl 3 (by decide) (hts _ fl_RX7_21) (fun _ h9 => h9) rfl dX7_sightThing_1 ?_
  refine lv_iload_n hx hb dX7_sightThing_4 rfl (lv_at hl 1 rfl) ?_
  refine kRM (st1 := [.int (s_X8_cell 6 sT t)]) S hT hP (c_X8_cell l D cI cZ hs 6 sT t (by first | assumption | decide | omega)) rfl rfl mw_X8_cell ln_RX7_30 ⟨rfl, rfl, (Nat.le_of_ble_eq_true rfl), (Nat.le_of_ble_eq_true rfl), (Nat.le_of_ble_eq_true rfl), (Nat.le_of_ble_eq_true rfl)⟩ [4] rfl hl.1 (Nat.le_of_ble_eq_true rfl) dX7_sightThing_5 ?_
  exact hret _ _ _ dX7_sightThing_8 rfl
abbrev rm_X7_sightPlace : Room := { frames := 1, cells := 0, slots := 0, locals := 21 }
set_option maxRecDepth 100000 in
set_option maxHeartbeats 4000000 in
theorem c_X7_sightPlace (l : Launch) (D : va_G) (cI cZ : ClassId) (h hn hw ht hs hp sn : Nat) (kp : Int32) (nm wd wt sT sP : Nat → Int32) (t : Int32) : Met l yX7_sightPlace [.code yX7_sightPlace cX7_sightPlace 2 (some .int)] rm_X7_sightPlace (PcR D cI cZ [.ref h, .int t] [(h, .inr (7, [.ref hn, .ref hw, .ref ht, .ref hs, .ref hp, .int (nI sn), .int kp])), (hn, .inl (cI, 6, .inl nm)), (hw, .inl (cI, 10, .inl wd)), (ht, .inl (cI, 6, .inl wt)), (hs, .inl (cI, 6, .inl sT)), (hp, .inl (cI, 6, .inl sP))]) (QcR (some (.int (s_X8_cell 6 sP t)))) 0 0 zN := by
  refine mtRi (by decide) (Nat.le_of_ble_eq_true rfl) (fun p e s m args below meth c Q S hT hP hret ls hl => ?_)
  have S : CallFix p m c cX7_sightPlace 2 s args zt RX7 := S
  obtain ⟨hx, hb, hml, hown, hts⟩ := id S
  have hl : lv_has ls 2 [(0, .ref h), (1, .int t)] := hl
  refine lv_aload_n hx hb dX7_sightPlace_0 rfl (lv_at hl 0 rfl) ?_
  refine va_get (D := D) (ci := 7) (v := .ref hp) (C := RX7) (T := TX7) (N := 7) hx hb hts in_X7 hown hT.1 hP 0 rfl rfl 4 (by decide) (hts _ fl_RX7_24) (fun _ h9 => h9) rfl dX7_sightPlace_1 ?_
  refine lv_iload_n hx hb dX7_sightPlace_4 rfl (lv_at hl 1 rfl) ?_
  refine kRM (st1 := [.int (s_X8_cell 6 sP t)]) S hT hP (c_X8_cell l D cI cZ hp 6 sP t (by first | assumption | decide | omega)) rfl rfl mw_X8_cell ln_RX7_30 ⟨rfl, rfl, (Nat.le_of_ble_eq_true rfl), (Nat.le_of_ble_eq_true rfl), (Nat.le_of_ble_eq_true rfl), (Nat.le_of_ble_eq_true rfl)⟩ [5] rfl hl.1 (Nat.le_of_ble_eq_true rfl) dX7_sightPlace_5 ?_
  exact hret _ _ _ dX7_sightPlace_8 rfl
abbrev rm_X7_addSight : Room := { frames := 1, cells := 0, slots := 0, locals := 22 }
set_option maxRecDepth 100000 in
set_option maxHeartbeats 4000000 in
theorem c_X7_addSight (l : Launch) (D : va_G) (cI cZ : ClassId) (h hn hw ht hs hp sn : Nat) (kp : Int32) (nm wd wt sT sP : Nat → Int32) (t pl : Int32) : Met l yX7_addSight [.code yX7_addSight cX7_addSight 3 none] rm_X7_addSight (PcW D cI cZ [.ref h, .int t, .int pl] [(h, .inr (7, [.ref hn, .ref hw, .ref ht, .ref hs, .ref hp, .int (nI sn), .int kp])), (hn, .inl (cI, 6, .inl nm)), (hw, .inl (cI, 10, .inl wd)), (ht, .inl (cI, 6, .inl wt)), (hs, .inl (cI, 6, .inl sT)), (hp, .inl (cI, 6, .inl sP))]) (QcE D (S := Unit) none (fun _ => True) (fun _ => [(h, .inr (7, [.ref hn, .ref hw, .ref ht, .ref hs, .ref hp, .int (nI (sn + 1)), .int kp])), (hn, .inl (cI, 6, .inl nm)), (hw, .inl (cI, 10, .inl wd)), (ht, .inl (cI, 6, .inl wt)), (hs, .inl (cI, 6, .inl (s_X8_put_f 6 sT (nI sn) t))), (hp, .inl (cI, 6, .inl (s_X8_put_f 6 sP (nI sn) pl)))]) (zA [(h, .inr (7, [.ref hn, .ref hw, .ref ht, .ref hs, .ref hp, .int (nI sn), .int kp])), (hn, .inl (cI, 6, .inl nm)), (hw, .inl (cI, 10, .inl wd)), (ht, .inl (cI, 6, .inl wt)), (hs, .inl (cI, 6, .inl sT)), (hp, .inl (cI, 6, .inl sP))])) 0 0 (zA [(h, .inr (7, [.ref hn, .ref hw, .ref ht, .ref hs, .ref hp, .int (nI sn), .int kp])), (hn, .inl (cI, 6, .inl nm)), (hw, .inl (cI, 10, .inl wd)), (ht, .inl (cI, 6, .inl wt)), (hs, .inl (cI, 6, .inl sT)), (hp, .inl (cI, 6, .inl sP))]) := by
  refine mtWv (by decide) (Nat.le_of_ble_eq_true rfl) (fun p e s m args below meth c Q A S hT hP hD hS hret ls hl => ?_)
  have S : CallFix p m c cX7_addSight 3 s args zt RX7 := S
  obtain ⟨hx, hb, hml, hown, hts⟩ := id S
  have hl : lv_has ls 3 [(0, .ref h), (1, .int t), (2, .int pl)] := hl
  refine lv_aload_n hx hb dX7_addSight_0 rfl (lv_at hl 0 rfl) ?_
  refine va_get (D := D) (ci := 7) (v := .ref hs) (C := RX7) (T := TX7) (N := 7) hx hb hts in_X7 hown hT.1 hP 0 rfl rfl 3 (by decide) (hts _ fl_RX7_21) (fun _ h9 => h9) rfl dX7_addSight_1 ?_
  refine lv_aload_n hx hb dX7_addSight_4 rfl (lv_at hl 0 rfl) ?_
  refine va_get (D := D) (ci := 7) (v := .int (nI sn)) (C := RX7) (T := TX7) (N := 7) hx hb hts in_X7 hown hT.1 hP 0 rfl rfl 5 (by decide) (hts _ fl_RX7_38) (fun _ h9 => h9) rfl dX7_addSight_5 ?_
  refine lv_iload_n hx hb dX7_addSight_8 rfl (lv_at hl 1 rfl) ?_
  refine kEM (st1 := []) (fun _ => [(h, .inr (7, [.ref hn, .ref hw, .ref ht, .ref hs, .ref hp, .int (nI sn), .int kp])), (hn, .inl (cI, 6, .inl nm)), (hw, .inl (cI, 10, .inl wd)), (ht, .inl (cI, 6, .inl wt)), (hs, .inl (cI, 6, .inl (s_X8_put_f 6 sT (nI sn) t))), (hp, .inl (cI, 6, .inl sP))]) S hT hP hD hS (c_X8_put l D cI cZ hs 6 sT (nI sn) t (by first | assumption | decide | omega)) rfl rfl mw_X8_put ln_RX7_34 ⟨rfl, rfl, (Nat.le_of_ble_eq_true rfl), (Nat.le_of_ble_eq_true rfl), (Nat.le_of_ble_eq_true rfl), (Nat.le_of_ble_eq_true rfl)⟩ [4] [0, 1, 2, 3, 5] (by decide) rfl (fun _ => rfl) (fun _ => rfl) 6 (fun _ => rfl) (by decide) (fun _ => rfl) hl.1 (Nat.le_of_ble_eq_true rfl) dX7_addSight_9 (fun _ H locs _ hP hD hS => ?_)
  have hP : va_P D vwCl [(h, .inr (7, [.ref hn, .ref hw, .ref ht, .ref hs, .ref hp, .int (nI sn), .int kp])), (hn, .inl (cI, 6, .inl nm)), (hw, .inl (cI, 10, .inl wd)), (ht, .inl (cI, 6, .inl wt)), (hs, .inl (cI, 6, .inl (s_X8_put_f 6 sT (nI sn) t))), (hp, .inl (cI, 6, .inl sP))] H := hP
  have hD : va_D A [(h, .inr (7, [.ref hn, .ref hw, .ref ht, .ref hs, .ref hp, .int (nI sn), .int kp])), (hn, .inl (cI, 6, .inl nm)), (hw, .inl (cI, 10, .inl wd)), (ht, .inl (cI, 6, .inl wt)), (hs, .inl (cI, 6, .inl (s_X8_put_f 6 sT (nI sn) t))), (hp, .inl (cI, 6, .inl sP))] := hD
  refine lv_aload_n hx hb dX7_addSight_12 rfl (lv_at hl 0 rfl) ?_
  refine va_get (D := D) (ci := 7) (v := .ref hp) (C := RX7) (T := TX7) (N := 7) hx hb hts in_X7 hown hT.1 hP 0 rfl rfl 4 (by decide) (hts _ fl_RX7_24) (fun _ h9 => h9) rfl dX7_addSight_13 ?_
  refine lv_aload_n hx hb dX7_addSight_16 rfl (lv_at hl 0 rfl) ?_
  refine va_get (D := D) (ci := 7) (v := .int (nI sn)) (C := RX7) (T := TX7) (N := 7) hx hb hts in_X7 hown hT.1 hP 0 rfl rfl 5 (by decide) (hts _ fl_RX7_38) (fun _ h9 => h9) rfl dX7_addSight_17 ?_
  refine lv_iload_n hx hb dX7_addSight_20 rfl (lv_at hl 2 rfl) ?_
  refine kEM (st1 := []) (fun _ => [(h, .inr (7, [.ref hn, .ref hw, .ref ht, .ref hs, .ref hp, .int (nI sn), .int kp])), (hn, .inl (cI, 6, .inl nm)), (hw, .inl (cI, 10, .inl wd)), (ht, .inl (cI, 6, .inl wt)), (hs, .inl (cI, 6, .inl (s_X8_put_f 6 sT (nI sn) t))), (hp, .inl (cI, 6, .inl (s_X8_put_f 6 sP (nI sn) pl)))]) S hT hP hD hS (c_X8_put l D cI cZ hp 6 sP (nI sn) pl (by first | assumption | decide | omega)) rfl rfl mw_X8_put ln_RX7_34 ⟨rfl, rfl, (Nat.le_of_ble_eq_true rfl), (Nat.le_of_ble_eq_true rfl), (Nat.le_of_ble_eq_true rfl), (Nat.le_of_ble_eq_true rfl)⟩ [5] [0, 1, 2, 3, 4] (by decide) rfl (fun _ => rfl) (fun _ => rfl) 6 (fun _ => rfl) (by decide) (fun _ => rfl) hl.1 (Nat.le_of_ble_eq_true rfl) dX7_addSight_21 (fun _ H locs _ hP hD hS => ?_)
  have hP : va_P D vwCl [(h, .inr (7, [.ref hn, .ref hw, .ref ht, .ref hs, .ref hp, .int (nI sn), .int kp])), (hn, .inl (cI, 6, .inl nm)), (hw, .inl (cI, 10, .inl wd)), (ht, .inl (cI, 6, .inl wt)), (hs, .inl (cI, 6, .inl (s_X8_put_f 6 sT (nI sn) t))), (hp, .inl (cI, 6, .inl (s_X8_put_f 6 sP (nI sn) pl)))] H := hP
  have hD : va_D A [(h, .inr (7, [.ref hn, .ref hw, .ref ht, .ref hs, .ref hp, .int (nI sn), .int kp])), (hn, .inl (cI, 6, .inl nm)), (hw, .inl (cI, 10, .inl wd)), (ht, .inl (cI, 6, .inl wt)), (hs, .inl (cI, 6, .inl (s_X8_put_f 6 sT (nI sn) t))), (hp, .inl (cI, 6, .inl (s_X8_put_f 6 sP (nI sn) pl)))] := hD
  refine lv_aload_n hx hb dX7_addSight_24 rfl (lv_at hl 0 rfl) ?_
  refine lv_dup hx hb dX7_addSight_25 rfl ?_
  refine va_get (D := D) (ci := 7) (v := .int (nI sn)) (C := RX7) (T := TX7) (N := 7) hx hb hts in_X7 hown hT.1 hP 0 rfl rfl 5 (by decide) (hts _ fl_RX7_38) (fun _ h9 => h9) rfl dX7_addSight_26 ?_
  refine lv_iconst (v := 1) hx hb dX7_addSight_29 (by decide) ?_
  refine lv_iadd hx hb dX7_addSight_30 ?_
  refine zI (y := nI (sn + 1)) (nI_1 sn) ?_
  refine va_put (D := D) (ci := 7) (v := .int (nI (sn + 1))) (ty := .int) (C := RX7) (T := TX7) (N := 7) hx hb hts in_X7 tyX7 tyX7_ok nmX7 hown hT.1 hP hD hS 0 rfl rfl 5 (by decide) (hts _ fl_RX7_38) (fun _ h9 => h9) rfl (by decide +kernel) rfl rfl (Nat.le_of_ble_eq_true rfl) dX7_addSight_31 (fun H locs hP hD hS => ?_)
  have hP : va_P D vwCl [(h, .inr (7, [.ref hn, .ref hw, .ref ht, .ref hs, .ref hp, .int (nI (sn + 1)), .int kp])), (hn, .inl (cI, 6, .inl nm)), (hw, .inl (cI, 10, .inl wd)), (ht, .inl (cI, 6, .inl wt)), (hs, .inl (cI, 6, .inl (s_X8_put_f 6 sT (nI sn) t))), (hp, .inl (cI, 6, .inl (s_X8_put_f 6 sP (nI sn) pl)))] H := hP
  have hD : va_D A [(h, .inr (7, [.ref hn, .ref hw, .ref ht, .ref hs, .ref hp, .int (nI (sn + 1)), .int kp])), (hn, .inl (cI, 6, .inl nm)), (hw, .inl (cI, 10, .inl wd)), (ht, .inl (cI, 6, .inl wt)), (hs, .inl (cI, 6, .inl (s_X8_put_f 6 sT (nI sn) t))), (hp, .inl (cI, 6, .inl (s_X8_put_f 6 sP (nI sn) pl)))] := hD
  exact hret _ _ H locs () dX7_addSight_34  trivial hP hS
abbrev rm_X7_forgetSights : Room := { frames := 0, cells := 0, slots := 0, locals := 0 }
set_option maxRecDepth 100000 in
set_option maxHeartbeats 4000000 in
theorem c_X7_forgetSights (l : Launch) (D : va_G) (cI cZ : ClassId) (h hn hw ht hs hp sn : Nat) (kp : Int32) (nm wd wt sT sP : Nat → Int32) : Met l yX7_forgetSights [.code yX7_forgetSights cX7_forgetSights 1 none] rm_X7_forgetSights (PcW D cI cZ [.ref h] [(h, .inr (7, [.ref hn, .ref hw, .ref ht, .ref hs, .ref hp, .int (nI sn), .int kp])), (hn, .inl (cI, 6, .inl nm)), (hw, .inl (cI, 10, .inl wd)), (ht, .inl (cI, 6, .inl wt)), (hs, .inl (cI, 6, .inl sT)), (hp, .inl (cI, 6, .inl sP))]) (QcE D (S := Unit) none (fun _ => True) (fun _ => [(h, .inr (7, [.ref hn, .ref hw, .ref ht, .ref hs, .ref hp, .int 0, .int kp])), (hn, .inl (cI, 6, .inl nm)), (hw, .inl (cI, 10, .inl wd)), (ht, .inl (cI, 6, .inl wt)), (hs, .inl (cI, 6, .inl sT)), (hp, .inl (cI, 6, .inl sP))]) (zA [(h, .inr (7, [.ref hn, .ref hw, .ref ht, .ref hs, .ref hp, .int (nI sn), .int kp])), (hn, .inl (cI, 6, .inl nm)), (hw, .inl (cI, 10, .inl wd)), (ht, .inl (cI, 6, .inl wt)), (hs, .inl (cI, 6, .inl sT)), (hp, .inl (cI, 6, .inl sP))])) 0 0 (zA [(h, .inr (7, [.ref hn, .ref hw, .ref ht, .ref hs, .ref hp, .int (nI sn), .int kp])), (hn, .inl (cI, 6, .inl nm)), (hw, .inl (cI, 10, .inl wd)), (ht, .inl (cI, 6, .inl wt)), (hs, .inl (cI, 6, .inl sT)), (hp, .inl (cI, 6, .inl sP))]) := by
  refine mtWv (by decide) (Nat.le_of_ble_eq_true rfl) (fun p e s m args below meth c Q A S hT hP hD hS hret ls hl => ?_)
  have S : CallFix p m c cX7_forgetSights 1 s args zt RX7 := S
  obtain ⟨hx, hb, hml, hown, hts⟩ := id S
  have hl : lv_has ls 1 [(0, .ref h)] := hl
  refine lv_aload_n hx hb dX7_forgetSights_0 rfl (lv_at hl 0 rfl) ?_
  refine lv_iconst (v := 0) hx hb dX7_forgetSights_1 (by decide) ?_
  refine va_put (D := D) (ci := 7) (v := .int 0) (ty := .int) (C := RX7) (T := TX7) (N := 7) hx hb hts in_X7 tyX7 tyX7_ok nmX7 hown hT.1 hP hD hS 0 rfl rfl 5 (by decide) (hts _ fl_RX7_38) (fun _ h9 => h9) rfl (by decide +kernel) rfl rfl (Nat.le_of_ble_eq_true rfl) dX7_forgetSights_2 (fun H locs hP hD hS => ?_)
  have hP : va_P D vwCl [(h, .inr (7, [.ref hn, .ref hw, .ref ht, .ref hs, .ref hp, .int 0, .int kp])), (hn, .inl (cI, 6, .inl nm)), (hw, .inl (cI, 10, .inl wd)), (ht, .inl (cI, 6, .inl wt)), (hs, .inl (cI, 6, .inl sT)), (hp, .inl (cI, 6, .inl sP))] H := hP
  have hD : va_D A [(h, .inr (7, [.ref hn, .ref hw, .ref ht, .ref hs, .ref hp, .int 0, .int kp])), (hn, .inl (cI, 6, .inl nm)), (hw, .inl (cI, 10, .inl wd)), (ht, .inl (cI, 6, .inl wt)), (hs, .inl (cI, 6, .inl sT)), (hp, .inl (cI, 6, .inl sP))] := hD
  exact hret _ _ H locs () dX7_forgetSights_5  trivial hP hS
def lp_X7_loaded_4 (wt : Nat → Int32) : Nat → Nat → Int32 → Int32
  | 0, _, x1_4 => x1_4
  | fu + 1, k, x1_4 => if 6 ≤ nI k then x1_4 else (if (s_X8_cell 6 wt (nI k)) ≤ 0 then lp_X7_loaded_4 wt fu (k + 1) (x1_4 ||| 0) else lp_X7_loaded_4 wt fu (k + 1) (x1_4 ||| (1 <<< ((nI k) &&& 31))))
abbrev rm_X7_loaded : Room := { frames := 2, cells := 0, slots := 0, locals := 42 }
set_option maxRecDepth 100000 in
set_option maxHeartbeats 4000000 in
theorem c_X7_loaded (l : Launch) (D : va_G) (cI cZ : ClassId) (h hn hw ht hs hp sn : Nat) (kp : Int32) (nm wd wt sT sP : Nat → Int32) : Met l yX7_loaded [.code yX7_loaded cX7_loaded 3 (some .int)] rm_X7_loaded (PcR D cI cZ [.ref h] [(h, .inr (7, [.ref hn, .ref hw, .ref ht, .ref hs, .ref hp, .int (nI sn), .int kp])), (hn, .inl (cI, 6, .inl nm)), (hw, .inl (cI, 10, .inl wd)), (ht, .inl (cI, 6, .inl wt)), (hs, .inl (cI, 6, .inl sT)), (hp, .inl (cI, 6, .inl sP))]) (QcR (some (.int (lp_X7_loaded_4 wt 7 0 0)))) 0 0 zN := by
  refine mtRi (by decide) (Nat.le_of_ble_eq_true rfl) (fun p e s m args below meth c Q S hT hP hret ls hl => ?_)
  have S : CallFix p m c cX7_loaded 3 s args zt RX7 := S
  obtain ⟨hx, hb, hml, hown, hts⟩ := id S
  have hl : lv_has ls 3 [(0, .ref h)] := hl
  refine lv_iconst (v := 0) hx hb dX7_loaded_0 (by decide) ?_
  refine lv_istore_n (lv' := [(1, .int 0), (0, .ref h)]) hx hb dX7_loaded_1 rfl hl (by decide) rfl (fun ls hl => ?_)
  refine lv_iconst (v := 0) hx hb dX7_loaded_2 (by decide) ?_
  refine lv_istore_n (lv' := [(2, .int 0), (1, .int 0), (0, .ref h)]) hx hb dX7_loaded_3 rfl hl (by decide) rfl (fun ls hl => ?_)
  have X2 : ∀ (y1 : Int32), y1 = (lp_X7_loaded_4 wt 7 0 0) → ∀ (ls : Array Slot), lv_has ls 3 [(0, .ref h), (1, .int y1)] → W p l e rm_X7_loaded s m args below meth c s.heap [] 0 0 Q (F0 m 34 ls []) := by
    intro y1 ey1 ls hl
    subst ey1
    refine lv_iload_n hx hb dX7_loaded_34 rfl (lv_at hl 1 rfl) ?_
    exact hret _ _ _ dX7_loaded_35 rfl
  have L3 : ∀ (n6 : Nat) (k : Nat) (x1_4 : Int32), 6 - k < n6 → (k ≤ 6) → lp_X7_loaded_4 wt n6 k x1_4 = lp_X7_loaded_4 wt 7 0 0 → ∀ (ls : Array Slot), lv_has ls 3 [(0, .ref h), (1, .int x1_4), (2, .int (nI k))] → W p l e rm_X7_loaded s m args below meth c s.heap [] 0 0 Q (F0 m 4 ls []) := by
    intro n6
    induction n6 with
    | zero => intro k x1_4 hm; exact absurd hm (Nat.not_lt_zero _)
    | succ n6 ih5 =>
      intro k x1_4 hm7 hk hv4 ls hl
      refine lv_iload_n hx hb dX7_loaded_4 rfl (lv_at hl 2 rfl) ?_
      refine lv_bipush (v := 6) hx hb dX7_loaded_5 (by decide) ?_
      refine lv_icmp_ge (tgt := 34) hx hb dX7_loaded_7 (by decide) (fun c8 => ?_) (fun c8 => ?_)
      · have nc8 := zNle (a := 6) (b := k) c8 (by omega) (by omega)
        exact X2 _ (by rw [← hv4, lp_X7_loaded_4, if_pos c8]) ls (lv_sub hl [0, 1] rfl)
      · have nc8 := zNnle (a := 6) (b := k) c8 (by omega) (by omega)
        refine lv_iload_n hx hb dX7_loaded_10 rfl (lv_at hl 1 rfl) ?_
        refine lv_aload_n hx hb dX7_loaded_11 rfl (lv_at hl 0 rfl) ?_
        refine lv_iload_n hx hb dX7_loaded_12 rfl (lv_at hl 2 rfl) ?_
        refine kRV (q0 := 0) (st1 := [.int (s_X8_cell 6 wt (nI k)), .int x1_4]) S hT hP (c_X7_weight l D cI cZ h hn hw ht hs hp sn kp nm wd wt sT sP (nI k)) rfl rfl mw_X7_weight lk_RX7_42 ⟨rfl, rfl, (Nat.le_of_ble_eq_true rfl), (Nat.le_of_ble_eq_true rfl), (Nat.le_of_ble_eq_true rfl), (Nat.le_of_ble_eq_true rfl)⟩ [0, 1, 2, 3, 4, 5] rfl rfl rfl hl.1 (Nat.le_of_ble_eq_true rfl) dX7_loaded_13 ?_
        refine lv_if_le (tgt := 25) hx hb dX7_loaded_16 (by decide) (fun c9 => ?_) (fun c9 => ?_)
        · refine lv_iconst (v := 0) hx hb dX7_loaded_25 (by decide) ?_
          refine lv_ior hx hb dX7_loaded_26 ?_
          refine lv_istore_n (lv' := [(1, .int (x1_4 ||| 0)), (0, .ref h), (2, .int (nI k))]) hx hb dX7_loaded_27 rfl hl (by decide) rfl (fun ls hl => ?_)
          refine lv_iinc (v := nI (k + 1)) (lv' := [(2, .int (nI (k + 1))), (1, .int (x1_4 ||| 0)), (0, .ref h)]) hx hb dX7_loaded_28 hl (k := 2) rfl (nI_1 k) (by decide) rfl (fun ls hl => ?_)
          refine lv_goto (tgt := 4) hx hb dX7_loaded_31 (by decide) ?_
          exact ih5 (k + 1) (x1_4 ||| 0) (by omega) (by omega) (by rw [← hv4, lp_X7_loaded_4, if_neg c8, if_pos c9]) ls (lv_sub hl [2, 1, 0] rfl)
        · refine lv_iconst (v := 1) hx hb dX7_loaded_19 (by decide) ?_
          refine lv_iload_n hx hb dX7_loaded_20 rfl (lv_at hl 2 rfl) ?_
          refine lv_ishl hx hb dX7_loaded_21 ?_
          refine lv_goto (tgt := 26) hx hb dX7_loaded_22 (by decide) ?_
          refine lv_ior hx hb dX7_loaded_26 ?_
          refine lv_istore_n (lv' := [(1, .int (x1_4 ||| (1 <<< ((nI k) &&& 31)))), (0, .ref h), (2, .int (nI k))]) hx hb dX7_loaded_27 rfl hl (by decide) rfl (fun ls hl => ?_)
          refine lv_iinc (v := nI (k + 1)) (lv' := [(2, .int (nI (k + 1))), (1, .int (x1_4 ||| (1 <<< ((nI k) &&& 31)))), (0, .ref h)]) hx hb dX7_loaded_28 hl (k := 2) rfl (nI_1 k) (by decide) rfl (fun ls hl => ?_)
          refine lv_goto (tgt := 4) hx hb dX7_loaded_31 (by decide) ?_
          exact ih5 (k + 1) (x1_4 ||| (1 <<< ((nI k) &&& 31))) (by omega) (by omega) (by rw [← hv4, lp_X7_loaded_4, if_neg c8, if_neg c9]) ls (lv_sub hl [2, 1, 0] rfl)
  exact L3 7 0 0 (by omega) (by omega) rfl ls (lv_sub hl [2, 1, 0] rfl)
def lp_X7_heaviest_5 (wt : Nat → Int32) (ab : Int32) : Nat → Nat → Int32 → Int32
  | 0, _, x2_5 => x2_5
  | fu + 1, k, x2_5 => if 6 ≤ nI k then x2_5 else (if (s_X8_has ab (nI k)) = 0 then lp_X7_heaviest_5 wt ab fu (k + 1) x2_5 else (if x2_5 = (-6) then lp_X7_heaviest_5 wt ab fu (k + 1) (nI k) else (if (s_X8_cell 6 wt (nI k)) ≤ s_X8_cell 6 wt x2_5 then lp_X7_heaviest_5 wt ab fu (k + 1) x2_5 else lp_X7_heaviest_5 wt ab fu (k + 1) (nI k))))
abbrev rm_X7_heaviest : Room := { frames := 2, cells := 0, slots := 0, locals := 42 }
set_option maxRecDepth 100000 in
set_option maxHeartbeats 4000000 in
theorem c_X7_heaviest (l : Launch) (D : va_G) (cI cZ : ClassId) (h hn hw ht hs hp sn : Nat) (kp : Int32) (nm wd wt sT sP : Nat → Int32) (ab : Int32) : Met l yX7_heaviest [.code yX7_heaviest cX7_heaviest 4 (some .int)] rm_X7_heaviest (PcR D cI cZ [.ref h, .int ab] [(h, .inr (7, [.ref hn, .ref hw, .ref ht, .ref hs, .ref hp, .int (nI sn), .int kp])), (hn, .inl (cI, 6, .inl nm)), (hw, .inl (cI, 10, .inl wd)), (ht, .inl (cI, 6, .inl wt)), (hs, .inl (cI, 6, .inl sT)), (hp, .inl (cI, 6, .inl sP))]) (QcR (some (.int (lp_X7_heaviest_5 wt ab 7 0 (-6))))) 0 0 zN := by
  refine mtRi (by decide) (Nat.le_of_ble_eq_true rfl) (fun p e s m args below meth c Q S hT hP hret ls hl => ?_)
  have S : CallFix p m c cX7_heaviest 4 s args zt RX7 := S
  obtain ⟨hx, hb, hml, hown, hts⟩ := id S
  have hl : lv_has ls 4 [(0, .ref h), (1, .int ab)] := hl
  refine lv_bipush (v := (-6)) hx hb dX7_heaviest_0 (by decide) ?_
  refine lv_istore_n (lv' := [(2, .int (-6)), (0, .ref h), (1, .int ab)]) hx hb dX7_heaviest_2 rfl hl (by decide) rfl (fun ls hl => ?_)
  refine lv_iconst (v := 0) hx hb dX7_heaviest_3 (by decide) ?_
  refine lv_istore_n (lv' := [(3, .int 0), (2, .int (-6)), (0, .ref h), (1, .int ab)]) hx hb dX7_heaviest_4 rfl hl (by decide) rfl (fun ls hl => ?_)
  have X2 : ∀ (y1 : Int32), y1 = (lp_X7_heaviest_5 wt ab 7 0 (-6)) → ∀ (ls : Array Slot), lv_has ls 4 [(0, .ref h), (1, .int ab), (2, .int y1)] → W p l e rm_X7_heaviest s m args below meth c s.heap [] 0 0 Q (F0 m 46 ls []) := by
    intro y1 ey1 ls hl
    subst ey1
    refine lv_iload_n hx hb dX7_heaviest_46 rfl (lv_at hl 2 rfl) ?_
    exact hret _ _ _ dX7_heaviest_47 rfl
  have L3 : ∀ (n6 : Nat) (k : Nat) (x2_5 : Int32), 6 - k < n6 → (k ≤ 6) → lp_X7_heaviest_5 wt ab n6 k x2_5 = lp_X7_heaviest_5 wt ab 7 0 (-6) → ∀ (ls : Array Slot), lv_has ls 4 [(0, .ref h), (1, .int ab), (2, .int x2_5), (3, .int (nI k))] → W p l e rm_X7_heaviest s m args below meth c s.heap [] 0 0 Q (F0 m 5 ls []) := by
    intro n6
    induction n6 with
    | zero => intro k x2_5 hm; exact absurd hm (Nat.not_lt_zero _)
    | succ n6 ih5 =>
      intro k x2_5 hm7 hk hv4 ls hl
      refine lv_iload_n hx hb dX7_heaviest_5 rfl (lv_at hl 3 rfl) ?_
      refine lv_bipush (v := 6) hx hb dX7_heaviest_6 (by decide) ?_
      refine lv_icmp_ge (tgt := 46) hx hb dX7_heaviest_8 (by decide) (fun c8 => ?_) (fun c8 => ?_)
      · have nc8 := zNle (a := 6) (b := k) c8 (by omega) (by omega)
        exact X2 _ (by rw [← hv4, lp_X7_heaviest_5, if_pos c8]) ls (lv_sub hl [0, 1, 2] rfl)
      · have nc8 := zNnle (a := 6) (b := k) c8 (by omega) (by omega)
        refine lv_iload_n hx hb dX7_heaviest_11 rfl (lv_at hl 1 rfl) ?_
        refine lv_iload_n hx hb dX7_heaviest_12 rfl (lv_at hl 3 rfl) ?_
        refine kRM (st1 := [.int (s_X8_has ab (nI k))]) S hT hP (c_X8_has l D cI cZ ab (nI k)) rfl rfl mw_X8_has ln_RX7_46 ⟨rfl, rfl, (Nat.le_of_ble_eq_true rfl), (Nat.le_of_ble_eq_true rfl), (Nat.le_of_ble_eq_true rfl), (Nat.le_of_ble_eq_true rfl)⟩ [] rfl hl.1 (Nat.le_of_ble_eq_true rfl) dX7_heaviest_13 ?_
        refine lv_if_eq (tgt := 40) hx hb dX7_heaviest_16 (by decide) (fun c9 => ?_) (fun c9 => ?_)
        · refine lv_iinc (v := nI (k + 1)) (lv' := [(3, .int (nI (k + 1))), (0, .ref h), (1, .int ab), (2, .int x2_5)]) hx hb dX7_heaviest_40 hl (k := 3) rfl (nI_1 k) (by decide) rfl (fun ls hl => ?_)
          refine lv_goto (tgt := 5) hx hb dX7_heaviest_43 (by decide) ?_
          exact ih5 (k + 1) x2_5 (by omega) (by omega) (by rw [← hv4, lp_X7_heaviest_5, if_neg c8, if_pos c9]) ls (lv_sub hl [1, 2, 3, 0] rfl)
        · refine lv_iload_n hx hb dX7_heaviest_19 rfl (lv_at hl 2 rfl) ?_
          refine lv_bipush (v := (-6)) hx hb dX7_heaviest_20 (by decide) ?_
          refine lv_icmp_eq (tgt := 38) hx hb dX7_heaviest_22 (by decide) (fun c10 => ?_) (fun c10 => ?_)
          · refine lv_iload_n hx hb dX7_heaviest_38 rfl (lv_at hl 3 rfl) ?_
            refine lv_istore_n (lv' := [(2, .int (nI k)), (0, .ref h), (1, .int ab), (3, .int (nI k))]) hx hb dX7_heaviest_39 rfl hl (by decide) rfl (fun ls hl => ?_)
            refine lv_iinc (v := nI (k + 1)) (lv' := [(3, .int (nI (k + 1))), (2, .int (nI k)), (0, .ref h), (1, .int ab)]) hx hb dX7_heaviest_40 hl (k := 3) rfl (nI_1 k) (by decide) rfl (fun ls hl => ?_)
            refine lv_goto (tgt := 5) hx hb dX7_heaviest_43 (by decide) ?_
            exact ih5 (k + 1) (nI k) (by omega) (by omega) (by rw [← hv4, lp_X7_heaviest_5, if_neg c8, if_neg c9, if_pos c10]) ls (lv_sub hl [2, 3, 1, 0] rfl)
          · refine lv_aload_n hx hb dX7_heaviest_25 rfl (lv_at hl 0 rfl) ?_
            refine lv_iload_n hx hb dX7_heaviest_26 rfl (lv_at hl 3 rfl) ?_
            refine kRV (q0 := 0) (st1 := [.int (s_X8_cell 6 wt (nI k))]) S hT hP (c_X7_weight l D cI cZ h hn hw ht hs hp sn kp nm wd wt sT sP (nI k)) rfl rfl mw_X7_weight lk_RX7_42 ⟨rfl, rfl, (Nat.le_of_ble_eq_true rfl), (Nat.le_of_ble_eq_true rfl), (Nat.le_of_ble_eq_true rfl), (Nat.le_of_ble_eq_true rfl)⟩ [0, 1, 2, 3, 4, 5] rfl rfl rfl hl.1 (Nat.le_of_ble_eq_true rfl) dX7_heaviest_27 ?_
            refine lv_aload_n hx hb dX7_heaviest_30 rfl (lv_at hl 0 rfl) ?_
            refine lv_iload_n hx hb dX7_heaviest_31 rfl (lv_at hl 2 rfl) ?_
            refine kRV (q0 := 0) (st1 := [.int (s_X8_cell 6 wt x2_5), .int (s_X8_cell 6 wt (nI k))]) S hT hP (c_X7_weight l D cI cZ h hn hw ht hs hp sn kp nm wd wt sT sP x2_5) rfl rfl mw_X7_weight lk_RX7_42 ⟨rfl, rfl, (Nat.le_of_ble_eq_true rfl), (Nat.le_of_ble_eq_true rfl), (Nat.le_of_ble_eq_true rfl), (Nat.le_of_ble_eq_true rfl)⟩ [0, 1, 2, 3, 4, 5] rfl rfl rfl hl.1 (Nat.le_of_ble_eq_true rfl) dX7_heaviest_32 ?_
            refine lv_icmp_le (tgt := 40) hx hb dX7_heaviest_35 (by decide) (fun c11 => ?_) (fun c11 => ?_)
            · refine lv_iinc (v := nI (k + 1)) (lv' := [(3, .int (nI (k + 1))), (0, .ref h), (1, .int ab), (2, .int x2_5)]) hx hb dX7_heaviest_40 hl (k := 3) rfl (nI_1 k) (by decide) rfl (fun ls hl => ?_)
              refine lv_goto (tgt := 5) hx hb dX7_heaviest_43 (by decide) ?_
              exact ih5 (k + 1) x2_5 (by omega) (by omega) (by rw [← hv4, lp_X7_heaviest_5, if_neg c8, if_neg c9, if_neg c10, if_pos c11]) ls (lv_sub hl [1, 2, 3, 0] rfl)
            · refine lv_iload_n hx hb dX7_heaviest_38 rfl (lv_at hl 3 rfl) ?_
              refine lv_istore_n (lv' := [(2, .int (nI k)), (0, .ref h), (1, .int ab), (3, .int (nI k))]) hx hb dX7_heaviest_39 rfl hl (by decide) rfl (fun ls hl => ?_)
              refine lv_iinc (v := nI (k + 1)) (lv' := [(3, .int (nI (k + 1))), (2, .int (nI k)), (0, .ref h), (1, .int ab)]) hx hb dX7_heaviest_40 hl (k := 3) rfl (nI_1 k) (by decide) rfl (fun ls hl => ?_)
              refine lv_goto (tgt := 5) hx hb dX7_heaviest_43 (by decide) ?_
              exact ih5 (k + 1) (nI k) (by omega) (by omega) (by rw [← hv4, lp_X7_heaviest_5, if_neg c8, if_neg c9, if_neg c10, if_neg c11]) ls (lv_sub hl [2, 3, 1, 0] rfl)
  exact L3 7 0 (-6) (by omega) (by omega) rfl ls (lv_sub hl [2, 3, 1, 0] rfl)
def lp_X7_height_5 (wt : Nat → Int32) (ab : Int32) : Nat → Nat → Int32 → Int32
  | 0, _, x3_5 => x3_5
  | fu + 1, k, x3_5 => if 6 ≤ nI k then x3_5 else (if (s_X8_has ab (nI k)) = 0 then lp_X7_height_5 wt ab fu (k + 1) (x3_5 - 0) else lp_X7_height_5 wt ab fu (k + 1) (x3_5 - (s_X8_cell 6 wt (nI k))))
def s_X7_height (nm : Nat → Int32) (wt : Nat → Int32) (gas : Int32) (ab : Int32) : Int32 := if s_X8_cell 6 nm 3 < 1 then 0 else (if 0 ≤ (lp_X7_height_5 wt ab 7 0 gas) then if 4 < ((lp_X7_height_5 wt ab 7 0 gas) / (s_X8_cell 6 nm 3)) then 4 else (lp_X7_height_5 wt ab 7 0 gas) / (s_X8_cell 6 nm 3) else 0)
abbrev rm_X7_height : Room := { frames := 2, cells := 0, slots := 0, locals := 42 }
set_option maxRecDepth 100000 in
set_option maxHeartbeats 4000000 in
theorem c_X7_height (l : Launch) (D : va_G) (cI cZ : ClassId) (h hn hw ht hs hp sn : Nat) (kp : Int32) (nm wd wt sT sP : Nat → Int32) (gas ab : Int32) : Met l yX7_height [.code yX7_height cX7_height 5 (some .int)] rm_X7_height (PcR D cI cZ [.ref h, .int gas, .int ab] [(h, .inr (7, [.ref hn, .ref hw, .ref ht, .ref hs, .ref hp, .int (nI sn), .int kp])), (hn, .inl (cI, 6, .inl nm)), (hw, .inl (cI, 10, .inl wd)), (ht, .inl (cI, 6, .inl wt)), (hs, .inl (cI, 6, .inl sT)), (hp, .inl (cI, 6, .inl sP))]) (QcR (some (.int (s_X7_height nm wt gas ab)))) 0 0 zN := by
  refine mtRi (by decide) (Nat.le_of_ble_eq_true rfl) (fun p e s m args below meth c Q S hT hP hret ls hl => ?_)
  have S : CallFix p m c cX7_height 5 s args zt RX7 := S
  obtain ⟨hx, hb, hml, hown, hts⟩ := id S
  have hl : lv_has ls 5 [(0, .ref h), (1, .int gas), (2, .int ab)] := hl
  refine lv_iload_n hx hb dX7_height_0 rfl (lv_at hl 1 rfl) ?_
  refine lv_istore_n (lv' := [(3, .int gas), (0, .ref h), (1, .int gas), (2, .int ab)]) hx hb dX7_height_1 rfl hl (by decide) rfl (fun ls hl => ?_)
  refine lv_iconst (v := 0) hx hb dX7_height_2 (by decide) ?_
  refine lv_istore (lv' := [(4, .int 0), (3, .int gas), (0, .ref h), (1, .int gas), (2, .int ab)]) hx hb dX7_height_3 hl (by decide) rfl (fun ls hl => ?_)
  have X2 : ∀ (y1 : Int32), y1 = (lp_X7_height_5 wt ab 7 0 gas) → ∀ (ls : Array Slot), lv_has ls 5 [(0, .ref h), (1, .int gas), (2, .int ab), (3, .int y1)] → W p l e rm_X7_height s m args below meth c s.heap [] 0 0 Q (F0 m 40 ls []) := by
    intro y1 ey1 ls hl
    subst ey1
    refine lv_aload_n hx hb dX7_height_40 rfl (lv_at hl 0 rfl) ?_
    refine lv_iconst (v := 3) hx hb dX7_height_41 (by decide) ?_
    refine kRV (q0 := 0) (st1 := [.int (s_X8_cell 6 nm 3)]) S hT hP (c_X7_number l D cI cZ h hn hw ht hs hp sn kp nm wd wt sT sP 3) rfl rfl mw_X7_number lk_RX7_50 ⟨rfl, rfl, (Nat.le_of_ble_eq_true rfl), (Nat.le_of_ble_eq_true rfl), (Nat.le_of_ble_eq_true rfl), (Nat.le_of_ble_eq_true rfl)⟩ [0, 1, 2, 3, 4, 5] rfl rfl rfl hl.1 (Nat.le_of_ble_eq_true rfl) dX7_height_42 ?_
    refine lv_istore (lv' := [(4, .int (s_X8_cell 6 nm 3)), (0, .ref h), (1, .int gas), (2, .int ab), (3, .int (lp_X7_height_5 wt ab 7 0 gas))]) hx hb dX7_height_45 hl (by decide) rfl (fun ls hl => ?_)
    refine lv_iload hx hb dX7_height_47 (lv_at hl 0 rfl) ?_
    refine lv_iconst (v := 1) hx hb dX7_height_49 (by decide) ?_
    refine lv_icmp_lt (tgt := 57) hx hb dX7_height_50 (by decide) (fun c3 => ?_) (fun c3 => ?_)
    · refine lv_iconst (v := 0) hx hb dX7_height_57 (by decide) ?_
      exact hret _ _ _ dX7_height_58 (by unfold s_X7_height; rw [if_pos c3])
    · refine lv_iload_n hx hb dX7_height_53 rfl (lv_at hl 4 rfl) ?_
      refine lv_if_ge (tgt := 59) hx hb dX7_height_54 (by decide) (fun c4 => ?_) (fun c4 => ?_)
      · refine lv_iload_n hx hb dX7_height_59 rfl (lv_at hl 4 rfl) ?_
        refine lv_iload hx hb dX7_height_60 (lv_at hl 0 rfl) ?_
        refine lv_idiv hx hb dX7_height_62 (zpos1 c3) ?_
        refine lv_iconst (v := 4) hx hb dX7_height_63 (by decide) ?_
        refine va_mmin hx hb (by rw [hml]; exact hl.1.symm) hown (hts _ lm_RX7_53) (hts _ sm_Math_min) (hts _ ini_Math) (hts _ cd_Math_min) (Nat.le_of_ble_eq_true rfl) (Nat.le_of_ble_eq_true rfl) (Nat.le_of_ble_eq_true rfl) (Nat.le_of_ble_eq_true rfl) dX7_height_64 ?_
        exact hret _ _ _ dX7_height_67 (by unfold s_X7_height; rw [if_neg c3, if_pos c4])
      · refine lv_iconst (v := 0) hx hb dX7_height_57 (by decide) ?_
        exact hret _ _ _ dX7_height_58 (by unfold s_X7_height; rw [if_neg c3, if_neg c4])
  have L5 : ∀ (n8 : Nat) (k : Nat) (x3_5 : Int32), 6 - k < n8 → (k ≤ 6) → lp_X7_height_5 wt ab n8 k x3_5 = lp_X7_height_5 wt ab 7 0 gas → ∀ (ls : Array Slot), lv_has ls 5 [(0, .ref h), (1, .int gas), (2, .int ab), (3, .int x3_5), (4, .int (nI k))] → W p l e rm_X7_height s m args below meth c s.heap [] 0 0 Q (F0 m 5 ls []) := by
    intro n8
    induction n8 with
    | zero => intro k x3_5 hm; exact absurd hm (Nat.not_lt_zero _)
    | succ n8 ih7 =>
      intro k x3_5 hm9 hk hv6 ls hl
      refine lv_iload hx hb dX7_height_5 (lv_at hl 4 rfl) ?_
      refine lv_bipush (v := 6) hx hb dX7_height_7 (by decide) ?_
      refine lv_icmp_ge (tgt := 40) hx hb dX7_height_9 (by decide) (fun c10 => ?_) (fun c10 => ?_)
      · have nc10 := zNle (a := 6) (b := k) c10 (by omega) (by omega)
        exact X2 _ (by rw [← hv6, lp_X7_height_5, if_pos c10]) ls (lv_sub hl [0, 1, 2, 3] rfl)
      · have nc10 := zNnle (a := 6) (b := k) c10 (by omega) (by omega)
        refine lv_iload_n hx hb dX7_height_12 rfl (lv_at hl 3 rfl) ?_
        refine lv_iload_n hx hb dX7_height_13 rfl (lv_at hl 2 rfl) ?_
        refine lv_iload hx hb dX7_height_14 (lv_at hl 4 rfl) ?_
        refine kRM (st1 := [.int (s_X8_has ab (nI k)), .int x3_5]) S hT hP (c_X8_has l D cI cZ ab (nI k)) rfl rfl mw_X8_has ln_RX7_46 ⟨rfl, rfl, (Nat.le_of_ble_eq_true rfl), (Nat.le_of_ble_eq_true rfl), (Nat.le_of_ble_eq_true rfl), (Nat.le_of_ble_eq_true rfl)⟩ [] rfl hl.1 (Nat.le_of_ble_eq_true rfl) dX7_height_16 ?_
        refine lv_if_eq (tgt := 31) hx hb dX7_height_19 (by decide) (fun c11 => ?_) (fun c11 => ?_)
        · refine lv_iconst (v := 0) hx hb dX7_height_31 (by decide) ?_
          refine lv_isub hx hb dX7_height_32 ?_
          refine lv_istore_n (lv' := [(3, .int (x3_5 - 0)), (0, .ref h), (1, .int gas), (2, .int ab), (4, .int (nI k))]) hx hb dX7_height_33 rfl hl (by decide) rfl (fun ls hl => ?_)
          refine lv_iinc (v := nI (k + 1)) (lv' := [(4, .int (nI (k + 1))), (3, .int (x3_5 - 0)), (0, .ref h), (1, .int gas), (2, .int ab)]) hx hb dX7_height_34 hl (k := 4) rfl (nI_1 k) (by decide) rfl (fun ls hl => ?_)
          refine lv_goto (tgt := 5) hx hb dX7_height_37 (by decide) ?_
          exact ih7 (k + 1) (x3_5 - 0) (by omega) (by omega) (by rw [← hv6, lp_X7_height_5, if_neg c10, if_pos c11]) ls (lv_sub hl [2, 3, 4, 1, 0] rfl)
        · refine lv_aload_n hx hb dX7_height_22 rfl (lv_at hl 0 rfl) ?_
          refine lv_iload hx hb dX7_height_23 (lv_at hl 4 rfl) ?_
          refine kRV (q0 := 0) (st1 := [.int (s_X8_cell 6 wt (nI k)), .int x3_5]) S hT hP (c_X7_weight l D cI cZ h hn hw ht hs hp sn kp nm wd wt sT sP (nI k)) rfl rfl mw_X7_weight lk_RX7_42 ⟨rfl, rfl, (Nat.le_of_ble_eq_true rfl), (Nat.le_of_ble_eq_true rfl), (Nat.le_of_ble_eq_true rfl), (Nat.le_of_ble_eq_true rfl)⟩ [0, 1, 2, 3, 4, 5] rfl rfl rfl hl.1 (Nat.le_of_ble_eq_true rfl) dX7_height_25 ?_
          refine lv_goto (tgt := 32) hx hb dX7_height_28 (by decide) ?_
          refine lv_isub hx hb dX7_height_32 ?_
          refine lv_istore_n (lv' := [(3, .int (x3_5 - (s_X8_cell 6 wt (nI k)))), (0, .ref h), (1, .int gas), (2, .int ab), (4, .int (nI k))]) hx hb dX7_height_33 rfl hl (by decide) rfl (fun ls hl => ?_)
          refine lv_iinc (v := nI (k + 1)) (lv' := [(4, .int (nI (k + 1))), (3, .int (x3_5 - (s_X8_cell 6 wt (nI k)))), (0, .ref h), (1, .int gas), (2, .int ab)]) hx hb dX7_height_34 hl (k := 4) rfl (nI_1 k) (by decide) rfl (fun ls hl => ?_)
          refine lv_goto (tgt := 5) hx hb dX7_height_37 (by decide) ?_
          exact ih7 (k + 1) (x3_5 - (s_X8_cell 6 wt (nI k))) (by omega) (by omega) (by rw [← hv6, lp_X7_height_5, if_neg c10, if_neg c11]) ls (lv_sub hl [2, 3, 4, 1, 0] rfl)
  exact L5 7 0 gas (by omega) (by omega) rfl ls (lv_sub hl [2, 3, 4, 1, 0] rfl)
end
section
abbrev rm_X7_drift : Room := { frames := 3, cells := 0, slots := 0, locals := 66 }
set_option maxRecDepth 100000 in
set_option maxHeartbeats 4000000 in
theorem c_X7_drift (l : Launch) (D : va_G) (cI cZ : ClassId) (h hn hw ht hs hp sn : Nat) (kp : Int32) (nm wd wt sT sP : Nat → Int32) (gas ab mn : Int32) : Met l yX7_drift [.code yX7_drift cX7_drift 4 (some .int)] rm_X7_drift (PcR D cI cZ [.ref h, .int gas, .int ab, .int mn] [(h, .inr (7, [.ref hn, .ref hw, .ref ht, .ref hs, .ref hp, .int (nI sn), .int kp])), (hn, .inl (cI, 6, .inl nm)), (hw, .inl (cI, 10, .inl wd)), (ht, .inl (cI, 6, .inl wt)), (hs, .inl (cI, 6, .inl sT)), (hp, .inl (cI, 6, .inl sP))]) (QcR (some (.int (s_X8_cell 10 wd (((if mn < s_X8_cell 6 nm 0 then 0 else 1) * 5) + (s_X7_height nm wt gas ab)))))) 0 0 zN := by
  refine mtRi (by decide) (Nat.le_of_ble_eq_true rfl) (fun p e s m args below meth c Q S hT hP hret ls hl => ?_)
  have S : CallFix p m c cX7_drift 4 s args zt RX7 := S
  obtain ⟨hx, hb, hml, hown, hts⟩ := id S
  have hl : lv_has ls 4 [(0, .ref h), (1, .int gas), (2, .int ab), (3, .int mn)] := hl
  refine lv_aload_n hx hb dX7_drift_0 rfl (lv_at hl 0 rfl) ?_
  refine lv_aload_n hx hb dX7_drift_1 rfl (lv_at hl 0 rfl) ?_
  refine lv_iload_n hx hb dX7_drift_2 rfl (lv_at hl 1 rfl) ?_
  refine lv_iload_n hx hb dX7_drift_3 rfl (lv_at hl 2 rfl) ?_
  refine kRV (q0 := 0) (st1 := [.int (s_X7_height nm wt gas ab), .ref h]) S hT hP (c_X7_height l D cI cZ h hn hw ht hs hp sn kp nm wd wt sT sP gas ab) rfl rfl mw_X7_height lk_RX7_59 ⟨rfl, rfl, (Nat.le_of_ble_eq_true rfl), (Nat.le_of_ble_eq_true rfl), (Nat.le_of_ble_eq_true rfl), (Nat.le_of_ble_eq_true rfl)⟩ [0, 1, 2, 3, 4, 5] rfl rfl rfl hl.1 (Nat.le_of_ble_eq_true rfl) dX7_drift_4 ?_
  refine lv_iload_n hx hb dX7_drift_7 rfl (lv_at hl 3 rfl) ?_
  refine lv_aload_n hx hb dX7_drift_8 rfl (lv_at hl 0 rfl) ?_
  refine lv_iconst (v := 0) hx hb dX7_drift_9 (by decide) ?_
  refine kRV (q0 := 0) (st1 := [.int (s_X8_cell 6 nm 0), .int mn, .int (s_X7_height nm wt gas ab), .ref h]) S hT hP (c_X7_number l D cI cZ h hn hw ht hs hp sn kp nm wd wt sT sP 0) rfl rfl mw_X7_number lk_RX7_50 ⟨rfl, rfl, (Nat.le_of_ble_eq_true rfl), (Nat.le_of_ble_eq_true rfl), (Nat.le_of_ble_eq_true rfl), (Nat.le_of_ble_eq_true rfl)⟩ [0, 1, 2, 3, 4, 5] rfl rfl rfl hl.1 (Nat.le_of_ble_eq_true rfl) dX7_drift_10 ?_
  have J2 : ∀ (z1 : Int32), z1 = (if mn < s_X8_cell 6 nm 0 then 0 else 1) → W p l e rm_X7_drift s m args below meth c s.heap [] 0 0 Q (F0 m 21 ls [.int z1, .int (s_X7_height nm wt gas ab), .ref h]) := by
    intro z1 ez1
    subst ez1
    refine kRV (q0 := 0) (st1 := [.int (s_X8_cell 10 wd (((if mn < s_X8_cell 6 nm 0 then 0 else 1) * 5) + (s_X7_height nm wt gas ab)))]) S hT hP (c_X7_windAt l D cI cZ h hn hw ht hs hp sn kp nm wd wt sT sP (s_X7_height nm wt gas ab) (if mn < s_X8_cell 6 nm 0 then 0 else 1)) rfl rfl mw_X7_windAt lk_RX7_62 ⟨rfl, rfl, (Nat.le_of_ble_eq_true rfl), (Nat.le_of_ble_eq_true rfl), (Nat.le_of_ble_eq_true rfl), (Nat.le_of_ble_eq_true rfl)⟩ [0, 1, 2, 3, 4, 5] rfl rfl rfl hl.1 (Nat.le_of_ble_eq_true rfl) dX7_drift_21 ?_
    exact hret _ _ _ dX7_drift_24 rfl
  refine lv_icmp_lt (tgt := 20) hx hb dX7_drift_13 (by decide) (fun c3 => ?_) (fun c3 => ?_)
  · refine lv_iconst (v := 0) hx hb dX7_drift_20 (by decide) ?_
    exact J2 _ (by rw [if_pos c3])
  · refine lv_iconst (v := 1) hx hb dX7_drift_16 (by decide) ?_
    refine lv_goto (tgt := 21) hx hb dX7_drift_17 (by decide) ?_
    exact J2 _ (by rw [if_neg c3])
abbrev rm_X7_leaked : Room := { frames := 2, cells := 0, slots := 0, locals := 42 }
set_option maxRecDepth 100000 in
set_option maxHeartbeats 4000000 in
theorem c_X7_leaked (l : Launch) (D : va_G) (cI cZ : ClassId) (h hn hw ht hs hp sn : Nat) (kp : Int32) (nm wd wt sT sP : Nat → Int32) (gas : Int32) : Met l yX7_leaked [.code yX7_leaked cX7_leaked 2 (some .int)] rm_X7_leaked (PcR D cI cZ [.ref h, .int gas] [(h, .inr (7, [.ref hn, .ref hw, .ref ht, .ref hs, .ref hp, .int (nI sn), .int kp])), (hn, .inl (cI, 6, .inl nm)), (hw, .inl (cI, 10, .inl wd)), (ht, .inl (cI, 6, .inl wt)), (hs, .inl (cI, 6, .inl sT)), (hp, .inl (cI, 6, .inl sP))]) (QcR (some (.int (if (gas - (s_X8_cell 6 nm 2)) < 0 then 0 else gas - (s_X8_cell 6 nm 2))))) 0 0 zN := by
  refine mtRi (by decide) (Nat.le_of_ble_eq_true rfl) (fun p e s m args below meth c Q S hT hP hret ls hl => ?_)
  have S : CallFix p m c cX7_leaked 2 s args zt RX7 := S
  obtain ⟨hx, hb, hml, hown, hts⟩ := id S
  have hl : lv_has ls 2 [(0, .ref h), (1, .int gas)] := hl
  refine lv_iload_n hx hb dX7_leaked_0 rfl (lv_at hl 1 rfl) ?_
  refine lv_aload_n hx hb dX7_leaked_1 rfl (lv_at hl 0 rfl) ?_
  refine lv_iconst (v := 2) hx hb dX7_leaked_2 (by decide) ?_
  refine kRV (q0 := 0) (st1 := [.int (s_X8_cell 6 nm 2), .int gas]) S hT hP (c_X7_number l D cI cZ h hn hw ht hs hp sn kp nm wd wt sT sP 2) rfl rfl mw_X7_number lk_RX7_50 ⟨rfl, rfl, (Nat.le_of_ble_eq_true rfl), (Nat.le_of_ble_eq_true rfl), (Nat.le_of_ble_eq_true rfl), (Nat.le_of_ble_eq_true rfl)⟩ [0, 1, 2, 3, 4, 5] rfl rfl rfl hl.1 (Nat.le_of_ble_eq_true rfl) dX7_leaked_3 ?_
  refine lv_isub hx hb dX7_leaked_6 ?_
  refine lv_iconst (v := 0) hx hb dX7_leaked_7 (by decide) ?_
  refine va_mmax hx hb (by rw [hml]; exact hl.1.symm) hown (hts _ lm_RX7_65) (hts _ sm_Math_max) (hts _ ini_Math) (hts _ cd_Math_max) (Nat.le_of_ble_eq_true rfl) (Nat.le_of_ble_eq_true rfl) (Nat.le_of_ble_eq_true rfl) (Nat.le_of_ble_eq_true rfl) dX7_leaked_8 ?_
  exact hret _ _ _ dX7_leaked_11 rfl
abbrev rm_X7_become : Room := { frames := 1, cells := 0, slots := 0, locals := 22 }
set_option maxRecDepth 100000 in
set_option maxHeartbeats 4000000 in
theorem c_X7_become (l : Launch) (D : va_G) (cI cZ : ClassId) (h hn hw ht hs hp sn : Nat) (kp : Int32) (nm wd wt sT sP : Nat → Int32) (h2 hn2 hw2 ht2 hs2 hp2 sn2 : Nat) (kp2 : Int32) (nm2 wd2 wt2 sT2 sP2 : Nat → Int32) : Met l yX7_become [.code yX7_become cX7_become 2 none] rm_X7_become (PcW D cI cZ [.ref h, .ref h2] [(h, .inr (7, [.ref hn, .ref hw, .ref ht, .ref hs, .ref hp, .int (nI sn), .int kp])), (hn, .inl (cI, 6, .inl nm)), (hw, .inl (cI, 10, .inl wd)), (ht, .inl (cI, 6, .inl wt)), (hs, .inl (cI, 6, .inl sT)), (hp, .inl (cI, 6, .inl sP)), (h2, .inr (7, [.ref hn2, .ref hw2, .ref ht2, .ref hs2, .ref hp2, .int (nI sn2), .int kp2])), (hn2, .inl (cI, 6, .inl nm2)), (hw2, .inl (cI, 10, .inl wd2)), (ht2, .inl (cI, 6, .inl wt2)), (hs2, .inl (cI, 6, .inl sT2)), (hp2, .inl (cI, 6, .inl sP2))]) (QcE D (S := Unit) none (fun _ => True) (fun _ => [(h, .inr (7, [.ref hn, .ref hw, .ref ht, .ref hs, .ref hp, .int (nI sn2), .int kp])), (hn, .inl (cI, 6, .inl nm2)), (hw, .inl (cI, 10, .inl wd2)), (ht, .inl (cI, 6, .inl wt2)), (hs, .inl (cI, 6, .inl sT2)), (hp, .inl (cI, 6, .inl sP2)), (h2, .inr (7, [.ref hn2, .ref hw2, .ref ht2, .ref hs2, .ref hp2, .int (nI sn2), .int kp2])), (hn2, .inl (cI, 6, .inl nm2)), (hw2, .inl (cI, 10, .inl wd2)), (ht2, .inl (cI, 6, .inl wt2)), (hs2, .inl (cI, 6, .inl sT2)), (hp2, .inl (cI, 6, .inl sP2))]) (zA [(h, .inr (7, [.ref hn, .ref hw, .ref ht, .ref hs, .ref hp, .int (nI sn), .int kp])), (hn, .inl (cI, 6, .inl nm)), (hw, .inl (cI, 10, .inl wd)), (ht, .inl (cI, 6, .inl wt)), (hs, .inl (cI, 6, .inl sT)), (hp, .inl (cI, 6, .inl sP)), (h2, .inr (7, [.ref hn2, .ref hw2, .ref ht2, .ref hs2, .ref hp2, .int (nI sn2), .int kp2])), (hn2, .inl (cI, 6, .inl nm2)), (hw2, .inl (cI, 10, .inl wd2)), (ht2, .inl (cI, 6, .inl wt2)), (hs2, .inl (cI, 6, .inl sT2)), (hp2, .inl (cI, 6, .inl sP2))])) 0 0 (zA [(h, .inr (7, [.ref hn, .ref hw, .ref ht, .ref hs, .ref hp, .int (nI sn), .int kp])), (hn, .inl (cI, 6, .inl nm)), (hw, .inl (cI, 10, .inl wd)), (ht, .inl (cI, 6, .inl wt)), (hs, .inl (cI, 6, .inl sT)), (hp, .inl (cI, 6, .inl sP)), (h2, .inr (7, [.ref hn2, .ref hw2, .ref ht2, .ref hs2, .ref hp2, .int (nI sn2), .int kp2])), (hn2, .inl (cI, 6, .inl nm2)), (hw2, .inl (cI, 10, .inl wd2)), (ht2, .inl (cI, 6, .inl wt2)), (hs2, .inl (cI, 6, .inl sT2)), (hp2, .inl (cI, 6, .inl sP2))]) := by
  refine mtWv (by decide) (Nat.le_of_ble_eq_true rfl) (fun p e s m args below meth c Q A S hT hP hD hS hret ls hl => ?_)
  have S : CallFix p m c cX7_become 2 s args zt RX7 := S
  obtain ⟨hx, hb, hml, hown, hts⟩ := id S
  have hl : lv_has ls 2 [(0, .ref h), (1, .ref h2)] := hl
  refine lv_aload_n hx hb dX7_become_0 rfl (lv_at hl 1 rfl) ?_
  refine va_get (D := D) (ci := 7) (v := .ref hn2) (C := RX7) (T := TX7) (N := 7) hx hb hts in_X7 hown hT.1 hP 6 rfl rfl 0 (by decide) (hts _ fl_RX7_9) (fun _ h9 => h9) rfl dX7_become_1 ?_
  refine lv_aload_n hx hb dX7_become_4 rfl (lv_at hl 0 rfl) ?_
  refine va_get (D := D) (ci := 7) (v := .ref hn) (C := RX7) (T := TX7) (N := 7) hx hb hts in_X7 hown hT.1 hP 0 rfl rfl 0 (by decide) (hts _ fl_RX7_9) (fun _ h9 => h9) rfl dX7_become_5 ?_
  refine kEM (st1 := []) (fun _ => [(h, .inr (7, [.ref hn, .ref hw, .ref ht, .ref hs, .ref hp, .int (nI sn), .int kp])), (hn, .inl (cI, 6, .inl nm2)), (hw, .inl (cI, 10, .inl wd)), (ht, .inl (cI, 6, .inl wt)), (hs, .inl (cI, 6, .inl sT)), (hp, .inl (cI, 6, .inl sP)), (h2, .inr (7, [.ref hn2, .ref hw2, .ref ht2, .ref hs2, .ref hp2, .int (nI sn2), .int kp2])), (hn2, .inl (cI, 6, .inl nm2)), (hw2, .inl (cI, 10, .inl wd2)), (ht2, .inl (cI, 6, .inl wt2)), (hs2, .inl (cI, 6, .inl sT2)), (hp2, .inl (cI, 6, .inl sP2))]) S hT hP hD hS (c_X8_copy l D cI cZ hn2 hn 6 nm2 nm (by first | assumption | decide | omega)) rfl rfl mw_X8_copy ln_RX7_68 ⟨rfl, rfl, (Nat.le_of_ble_eq_true rfl), (Nat.le_of_ble_eq_true rfl), (Nat.le_of_ble_eq_true rfl), (Nat.le_of_ble_eq_true rfl)⟩ [7, 1] [0, 2, 3, 4, 5, 6, 8, 9, 10, 11] (by decide) rfl (fun _ => rfl) (fun _ => rfl) 12 (fun _ => rfl) (by decide) (fun _ => rfl) hl.1 (Nat.le_of_ble_eq_true rfl) dX7_become_8 (fun _ H locs _ hP hD hS => ?_)
  have hP : va_P D vwCl [(h, .inr (7, [.ref hn, .ref hw, .ref ht, .ref hs, .ref hp, .int (nI sn), .int kp])), (hn, .inl (cI, 6, .inl nm2)), (hw, .inl (cI, 10, .inl wd)), (ht, .inl (cI, 6, .inl wt)), (hs, .inl (cI, 6, .inl sT)), (hp, .inl (cI, 6, .inl sP)), (h2, .inr (7, [.ref hn2, .ref hw2, .ref ht2, .ref hs2, .ref hp2, .int (nI sn2), .int kp2])), (hn2, .inl (cI, 6, .inl nm2)), (hw2, .inl (cI, 10, .inl wd2)), (ht2, .inl (cI, 6, .inl wt2)), (hs2, .inl (cI, 6, .inl sT2)), (hp2, .inl (cI, 6, .inl sP2))] H := hP
  have hD : va_D A [(h, .inr (7, [.ref hn, .ref hw, .ref ht, .ref hs, .ref hp, .int (nI sn), .int kp])), (hn, .inl (cI, 6, .inl nm2)), (hw, .inl (cI, 10, .inl wd)), (ht, .inl (cI, 6, .inl wt)), (hs, .inl (cI, 6, .inl sT)), (hp, .inl (cI, 6, .inl sP)), (h2, .inr (7, [.ref hn2, .ref hw2, .ref ht2, .ref hs2, .ref hp2, .int (nI sn2), .int kp2])), (hn2, .inl (cI, 6, .inl nm2)), (hw2, .inl (cI, 10, .inl wd2)), (ht2, .inl (cI, 6, .inl wt2)), (hs2, .inl (cI, 6, .inl sT2)), (hp2, .inl (cI, 6, .inl sP2))] := hD
  refine lv_aload_n hx hb dX7_become_11 rfl (lv_at hl 1 rfl) ?_
  refine va_get (D := D) (ci := 7) (v := .ref hw2) (C := RX7) (T := TX7) (N := 7) hx hb hts in_X7 hown hT.1 hP 6 rfl rfl 1 (by decide) (hts _ fl_RX7_15) (fun _ h9 => h9) rfl dX7_become_12 ?_
  refine lv_aload_n hx hb dX7_become_15 rfl (lv_at hl 0 rfl) ?_
  refine va_get (D := D) (ci := 7) (v := .ref hw) (C := RX7) (T := TX7) (N := 7) hx hb hts in_X7 hown hT.1 hP 0 rfl rfl 1 (by decide) (hts _ fl_RX7_15) (fun _ h9 => h9) rfl dX7_become_16 ?_
  refine kEM (st1 := []) (fun _ => [(h, .inr (7, [.ref hn, .ref hw, .ref ht, .ref hs, .ref hp, .int (nI sn), .int kp])), (hn, .inl (cI, 6, .inl nm2)), (hw, .inl (cI, 10, .inl wd2)), (ht, .inl (cI, 6, .inl wt)), (hs, .inl (cI, 6, .inl sT)), (hp, .inl (cI, 6, .inl sP)), (h2, .inr (7, [.ref hn2, .ref hw2, .ref ht2, .ref hs2, .ref hp2, .int (nI sn2), .int kp2])), (hn2, .inl (cI, 6, .inl nm2)), (hw2, .inl (cI, 10, .inl wd2)), (ht2, .inl (cI, 6, .inl wt2)), (hs2, .inl (cI, 6, .inl sT2)), (hp2, .inl (cI, 6, .inl sP2))]) S hT hP hD hS (c_X8_copy l D cI cZ hw2 hw 10 wd2 wd (by first | assumption | decide | omega)) rfl rfl mw_X8_copy ln_RX7_68 ⟨rfl, rfl, (Nat.le_of_ble_eq_true rfl), (Nat.le_of_ble_eq_true rfl), (Nat.le_of_ble_eq_true rfl), (Nat.le_of_ble_eq_true rfl)⟩ [8, 2] [0, 1, 3, 4, 5, 6, 7, 9, 10, 11] (by decide) rfl (fun _ => rfl) (fun _ => rfl) 12 (fun _ => rfl) (by decide) (fun _ => rfl) hl.1 (Nat.le_of_ble_eq_true rfl) dX7_become_19 (fun _ H locs _ hP hD hS => ?_)
  have hP : va_P D vwCl [(h, .inr (7, [.ref hn, .ref hw, .ref ht, .ref hs, .ref hp, .int (nI sn), .int kp])), (hn, .inl (cI, 6, .inl nm2)), (hw, .inl (cI, 10, .inl wd2)), (ht, .inl (cI, 6, .inl wt)), (hs, .inl (cI, 6, .inl sT)), (hp, .inl (cI, 6, .inl sP)), (h2, .inr (7, [.ref hn2, .ref hw2, .ref ht2, .ref hs2, .ref hp2, .int (nI sn2), .int kp2])), (hn2, .inl (cI, 6, .inl nm2)), (hw2, .inl (cI, 10, .inl wd2)), (ht2, .inl (cI, 6, .inl wt2)), (hs2, .inl (cI, 6, .inl sT2)), (hp2, .inl (cI, 6, .inl sP2))] H := hP
  have hD : va_D A [(h, .inr (7, [.ref hn, .ref hw, .ref ht, .ref hs, .ref hp, .int (nI sn), .int kp])), (hn, .inl (cI, 6, .inl nm2)), (hw, .inl (cI, 10, .inl wd2)), (ht, .inl (cI, 6, .inl wt)), (hs, .inl (cI, 6, .inl sT)), (hp, .inl (cI, 6, .inl sP)), (h2, .inr (7, [.ref hn2, .ref hw2, .ref ht2, .ref hs2, .ref hp2, .int (nI sn2), .int kp2])), (hn2, .inl (cI, 6, .inl nm2)), (hw2, .inl (cI, 10, .inl wd2)), (ht2, .inl (cI, 6, .inl wt2)), (hs2, .inl (cI, 6, .inl sT2)), (hp2, .inl (cI, 6, .inl sP2))] := hD
  refine lv_aload_n hx hb dX7_become_22 rfl (lv_at hl 1 rfl) ?_
  refine va_get (D := D) (ci := 7) (v := .ref ht2) (C := RX7) (T := TX7) (N := 7) hx hb hts in_X7 hown hT.1 hP 6 rfl rfl 2 (by decide) (hts _ fl_RX7_18) (fun _ h9 => h9) rfl dX7_become_23 ?_
  refine lv_aload_n hx hb dX7_become_26 rfl (lv_at hl 0 rfl) ?_
  refine va_get (D := D) (ci := 7) (v := .ref ht) (C := RX7) (T := TX7) (N := 7) hx hb hts in_X7 hown hT.1 hP 0 rfl rfl 2 (by decide) (hts _ fl_RX7_18) (fun _ h9 => h9) rfl dX7_become_27 ?_
  refine kEM (st1 := []) (fun _ => [(h, .inr (7, [.ref hn, .ref hw, .ref ht, .ref hs, .ref hp, .int (nI sn), .int kp])), (hn, .inl (cI, 6, .inl nm2)), (hw, .inl (cI, 10, .inl wd2)), (ht, .inl (cI, 6, .inl wt2)), (hs, .inl (cI, 6, .inl sT)), (hp, .inl (cI, 6, .inl sP)), (h2, .inr (7, [.ref hn2, .ref hw2, .ref ht2, .ref hs2, .ref hp2, .int (nI sn2), .int kp2])), (hn2, .inl (cI, 6, .inl nm2)), (hw2, .inl (cI, 10, .inl wd2)), (ht2, .inl (cI, 6, .inl wt2)), (hs2, .inl (cI, 6, .inl sT2)), (hp2, .inl (cI, 6, .inl sP2))]) S hT hP hD hS (c_X8_copy l D cI cZ ht2 ht 6 wt2 wt (by first | assumption | decide | omega)) rfl rfl mw_X8_copy ln_RX7_68 ⟨rfl, rfl, (Nat.le_of_ble_eq_true rfl), (Nat.le_of_ble_eq_true rfl), (Nat.le_of_ble_eq_true rfl), (Nat.le_of_ble_eq_true rfl)⟩ [9, 3] [0, 1, 2, 4, 5, 6, 7, 8, 10, 11] (by decide) rfl (fun _ => rfl) (fun _ => rfl) 12 (fun _ => rfl) (by decide) (fun _ => rfl) hl.1 (Nat.le_of_ble_eq_true rfl) dX7_become_30 (fun _ H locs _ hP hD hS => ?_)
  have hP : va_P D vwCl [(h, .inr (7, [.ref hn, .ref hw, .ref ht, .ref hs, .ref hp, .int (nI sn), .int kp])), (hn, .inl (cI, 6, .inl nm2)), (hw, .inl (cI, 10, .inl wd2)), (ht, .inl (cI, 6, .inl wt2)), (hs, .inl (cI, 6, .inl sT)), (hp, .inl (cI, 6, .inl sP)), (h2, .inr (7, [.ref hn2, .ref hw2, .ref ht2, .ref hs2, .ref hp2, .int (nI sn2), .int kp2])), (hn2, .inl (cI, 6, .inl nm2)), (hw2, .inl (cI, 10, .inl wd2)), (ht2, .inl (cI, 6, .inl wt2)), (hs2, .inl (cI, 6, .inl sT2)), (hp2, .inl (cI, 6, .inl sP2))] H := hP
  have hD : va_D A [(h, .inr (7, [.ref hn, .ref hw, .ref ht, .ref hs, .ref hp, .int (nI sn), .int kp])), (hn, .inl (cI, 6, .inl nm2)), (hw, .inl (cI, 10, .inl wd2)), (ht, .inl (cI, 6, .inl wt2)), (hs, .inl (cI, 6, .inl sT)), (hp, .inl (cI, 6, .inl sP)), (h2, .inr (7, [.ref hn2, .ref hw2, .ref ht2, .ref hs2, .ref hp2, .int (nI sn2), .int kp2])), (hn2, .inl (cI, 6, .inl nm2)), (hw2, .inl (cI, 10, .inl wd2)), (ht2, .inl (cI, 6, .inl wt2)), (hs2, .inl (cI, 6, .inl sT2)), (hp2, .inl (cI, 6, .inl sP2))] := hD
  refine lv_aload_n hx hb dX7_become_33 rfl (lv_at hl 1 rfl) ?_
  refine va_get (D := D) (ci := 7) (v := .ref hs2) (C := RX7) (T := TX7) (N := 7) hx hb hts in_X7 hown hT.1 hP 6 rfl rfl 3 (by decide) (hts _ fl_RX7_21) (fun _ h9 => h9) rfl dX7_become_34 ?_
  refine lv_aload_n hx hb dX7_become_37 rfl (lv_at hl 0 rfl) ?_
  refine va_get (D := D) (ci := 7) (v := .ref hs) (C := RX7) (T := TX7) (N := 7) hx hb hts in_X7 hown hT.1 hP 0 rfl rfl 3 (by decide) (hts _ fl_RX7_21) (fun _ h9 => h9) rfl dX7_become_38 ?_
  refine kEM (st1 := []) (fun _ => [(h, .inr (7, [.ref hn, .ref hw, .ref ht, .ref hs, .ref hp, .int (nI sn), .int kp])), (hn, .inl (cI, 6, .inl nm2)), (hw, .inl (cI, 10, .inl wd2)), (ht, .inl (cI, 6, .inl wt2)), (hs, .inl (cI, 6, .inl sT2)), (hp, .inl (cI, 6, .inl sP)), (h2, .inr (7, [.ref hn2, .ref hw2, .ref ht2, .ref hs2, .ref hp2, .int (nI sn2), .int kp2])), (hn2, .inl (cI, 6, .inl nm2)), (hw2, .inl (cI, 10, .inl wd2)), (ht2, .inl (cI, 6, .inl wt2)), (hs2, .inl (cI, 6, .inl sT2)), (hp2, .inl (cI, 6, .inl sP2))]) S hT hP hD hS (c_X8_copy l D cI cZ hs2 hs 6 sT2 sT (by first | assumption | decide | omega)) rfl rfl mw_X8_copy ln_RX7_68 ⟨rfl, rfl, (Nat.le_of_ble_eq_true rfl), (Nat.le_of_ble_eq_true rfl), (Nat.le_of_ble_eq_true rfl), (Nat.le_of_ble_eq_true rfl)⟩ [10, 4] [0, 1, 2, 3, 5, 6, 7, 8, 9, 11] (by decide) rfl (fun _ => rfl) (fun _ => rfl) 12 (fun _ => rfl) (by decide) (fun _ => rfl) hl.1 (Nat.le_of_ble_eq_true rfl) dX7_become_41 (fun _ H locs _ hP hD hS => ?_)
  have hP : va_P D vwCl [(h, .inr (7, [.ref hn, .ref hw, .ref ht, .ref hs, .ref hp, .int (nI sn), .int kp])), (hn, .inl (cI, 6, .inl nm2)), (hw, .inl (cI, 10, .inl wd2)), (ht, .inl (cI, 6, .inl wt2)), (hs, .inl (cI, 6, .inl sT2)), (hp, .inl (cI, 6, .inl sP)), (h2, .inr (7, [.ref hn2, .ref hw2, .ref ht2, .ref hs2, .ref hp2, .int (nI sn2), .int kp2])), (hn2, .inl (cI, 6, .inl nm2)), (hw2, .inl (cI, 10, .inl wd2)), (ht2, .inl (cI, 6, .inl wt2)), (hs2, .inl (cI, 6, .inl sT2)), (hp2, .inl (cI, 6, .inl sP2))] H := hP
  have hD : va_D A [(h, .inr (7, [.ref hn, .ref hw, .ref ht, .ref hs, .ref hp, .int (nI sn), .int kp])), (hn, .inl (cI, 6, .inl nm2)), (hw, .inl (cI, 10, .inl wd2)), (ht, .inl (cI, 6, .inl wt2)), (hs, .inl (cI, 6, .inl sT2)), (hp, .inl (cI, 6, .inl sP)), (h2, .inr (7, [.ref hn2, .ref hw2, .ref ht2, .ref hs2, .ref hp2, .int (nI sn2), .int kp2])), (hn2, .inl (cI, 6, .inl nm2)), (hw2, .inl (cI, 10, .inl wd2)), (ht2, .inl (cI, 6, .inl wt2)), (hs2, .inl (cI, 6, .inl sT2)), (hp2, .inl (cI, 6, .inl sP2))] := hD
  refine lv_aload_n hx hb dX7_become_44 rfl (lv_at hl 1 rfl) ?_
  refine va_get (D := D) (ci := 7) (v := .ref hp2) (C := RX7) (T := TX7) (N := 7) hx hb hts in_X7 hown hT.1 hP 6 rfl rfl 4 (by decide) (hts _ fl_RX7_24) (fun _ h9 => h9) rfl dX7_become_45 ?_
  refine lv_aload_n hx hb dX7_become_48 rfl (lv_at hl 0 rfl) ?_
  refine va_get (D := D) (ci := 7) (v := .ref hp) (C := RX7) (T := TX7) (N := 7) hx hb hts in_X7 hown hT.1 hP 0 rfl rfl 4 (by decide) (hts _ fl_RX7_24) (fun _ h9 => h9) rfl dX7_become_49 ?_
  refine kEM (st1 := []) (fun _ => [(h, .inr (7, [.ref hn, .ref hw, .ref ht, .ref hs, .ref hp, .int (nI sn), .int kp])), (hn, .inl (cI, 6, .inl nm2)), (hw, .inl (cI, 10, .inl wd2)), (ht, .inl (cI, 6, .inl wt2)), (hs, .inl (cI, 6, .inl sT2)), (hp, .inl (cI, 6, .inl sP2)), (h2, .inr (7, [.ref hn2, .ref hw2, .ref ht2, .ref hs2, .ref hp2, .int (nI sn2), .int kp2])), (hn2, .inl (cI, 6, .inl nm2)), (hw2, .inl (cI, 10, .inl wd2)), (ht2, .inl (cI, 6, .inl wt2)), (hs2, .inl (cI, 6, .inl sT2)), (hp2, .inl (cI, 6, .inl sP2))]) S hT hP hD hS (c_X8_copy l D cI cZ hp2 hp 6 sP2 sP (by first | assumption | decide | omega)) rfl rfl mw_X8_copy ln_RX7_68 ⟨rfl, rfl, (Nat.le_of_ble_eq_true rfl), (Nat.le_of_ble_eq_true rfl), (Nat.le_of_ble_eq_true rfl), (Nat.le_of_ble_eq_true rfl)⟩ [11, 5] [0, 1, 2, 3, 4, 6, 7, 8, 9, 10] (by decide) rfl (fun _ => rfl) (fun _ => rfl) 12 (fun _ => rfl) (by decide) (fun _ => rfl) hl.1 (Nat.le_of_ble_eq_true rfl) dX7_become_52 (fun _ H locs _ hP hD hS => ?_)
  have hP : va_P D vwCl [(h, .inr (7, [.ref hn, .ref hw, .ref ht, .ref hs, .ref hp, .int (nI sn), .int kp])), (hn, .inl (cI, 6, .inl nm2)), (hw, .inl (cI, 10, .inl wd2)), (ht, .inl (cI, 6, .inl wt2)), (hs, .inl (cI, 6, .inl sT2)), (hp, .inl (cI, 6, .inl sP2)), (h2, .inr (7, [.ref hn2, .ref hw2, .ref ht2, .ref hs2, .ref hp2, .int (nI sn2), .int kp2])), (hn2, .inl (cI, 6, .inl nm2)), (hw2, .inl (cI, 10, .inl wd2)), (ht2, .inl (cI, 6, .inl wt2)), (hs2, .inl (cI, 6, .inl sT2)), (hp2, .inl (cI, 6, .inl sP2))] H := hP
  have hD : va_D A [(h, .inr (7, [.ref hn, .ref hw, .ref ht, .ref hs, .ref hp, .int (nI sn), .int kp])), (hn, .inl (cI, 6, .inl nm2)), (hw, .inl (cI, 10, .inl wd2)), (ht, .inl (cI, 6, .inl wt2)), (hs, .inl (cI, 6, .inl sT2)), (hp, .inl (cI, 6, .inl sP2)), (h2, .inr (7, [.ref hn2, .ref hw2, .ref ht2, .ref hs2, .ref hp2, .int (nI sn2), .int kp2])), (hn2, .inl (cI, 6, .inl nm2)), (hw2, .inl (cI, 10, .inl wd2)), (ht2, .inl (cI, 6, .inl wt2)), (hs2, .inl (cI, 6, .inl sT2)), (hp2, .inl (cI, 6, .inl sP2))] := hD
  refine lv_aload_n hx hb dX7_become_55 rfl (lv_at hl 0 rfl) ?_
  refine lv_aload_n hx hb dX7_become_56 rfl (lv_at hl 1 rfl) ?_
  refine va_get (D := D) (ci := 7) (v := .int (nI sn2)) (C := RX7) (T := TX7) (N := 7) hx hb hts in_X7 hown hT.1 hP 6 rfl rfl 5 (by decide) (hts _ fl_RX7_38) (fun _ h9 => h9) rfl dX7_become_57 ?_
  refine va_put (D := D) (ci := 7) (v := .int (nI sn2)) (ty := .int) (C := RX7) (T := TX7) (N := 7) hx hb hts in_X7 tyX7 tyX7_ok nmX7 hown hT.1 hP hD hS 0 rfl rfl 5 (by decide) (hts _ fl_RX7_38) (fun _ h9 => h9) rfl (by decide +kernel) rfl rfl (Nat.le_of_ble_eq_true rfl) dX7_become_60 (fun H locs hP hD hS => ?_)
  have hP : va_P D vwCl [(h, .inr (7, [.ref hn, .ref hw, .ref ht, .ref hs, .ref hp, .int (nI sn2), .int kp])), (hn, .inl (cI, 6, .inl nm2)), (hw, .inl (cI, 10, .inl wd2)), (ht, .inl (cI, 6, .inl wt2)), (hs, .inl (cI, 6, .inl sT2)), (hp, .inl (cI, 6, .inl sP2)), (h2, .inr (7, [.ref hn2, .ref hw2, .ref ht2, .ref hs2, .ref hp2, .int (nI sn2), .int kp2])), (hn2, .inl (cI, 6, .inl nm2)), (hw2, .inl (cI, 10, .inl wd2)), (ht2, .inl (cI, 6, .inl wt2)), (hs2, .inl (cI, 6, .inl sT2)), (hp2, .inl (cI, 6, .inl sP2))] H := hP
  have hD : va_D A [(h, .inr (7, [.ref hn, .ref hw, .ref ht, .ref hs, .ref hp, .int (nI sn2), .int kp])), (hn, .inl (cI, 6, .inl nm2)), (hw, .inl (cI, 10, .inl wd2)), (ht, .inl (cI, 6, .inl wt2)), (hs, .inl (cI, 6, .inl sT2)), (hp, .inl (cI, 6, .inl sP2)), (h2, .inr (7, [.ref hn2, .ref hw2, .ref ht2, .ref hs2, .ref hp2, .int (nI sn2), .int kp2])), (hn2, .inl (cI, 6, .inl nm2)), (hw2, .inl (cI, 10, .inl wd2)), (ht2, .inl (cI, 6, .inl wt2)), (hs2, .inl (cI, 6, .inl sT2)), (hp2, .inl (cI, 6, .inl sP2))] := hD
  exact hret _ _ H locs () dX7_become_63  trivial hP hS
abbrev rm_X7_keep : Room := { frames := 2, cells := 0, slots := 0, locals := 43 }
set_option maxRecDepth 100000 in
set_option maxHeartbeats 4000000 in
theorem c_X7_keep (l : Launch) (D : va_G) (cI cZ : ClassId) (h hn hw ht hs hp sn : Nat) (kp : Int32) (nm wd wt sT sP : Nat → Int32) (h2 hn2 hw2 ht2 hs2 hp2 sn2 : Nat) (kp2 : Int32) (nm2 wd2 wt2 sT2 sP2 : Nat → Int32) : Met l yX7_keep [.code yX7_keep cX7_keep 2 none] rm_X7_keep (PcW D cI cZ [.ref h, .ref h2] [(h, .inr (7, [.ref hn, .ref hw, .ref ht, .ref hs, .ref hp, .int (nI sn), .int kp])), (hn, .inl (cI, 6, .inl nm)), (hw, .inl (cI, 10, .inl wd)), (ht, .inl (cI, 6, .inl wt)), (hs, .inl (cI, 6, .inl sT)), (hp, .inl (cI, 6, .inl sP)), (h2, .inr (7, [.ref hn2, .ref hw2, .ref ht2, .ref hs2, .ref hp2, .int (nI sn2), .int kp2])), (hn2, .inl (cI, 6, .inl nm2)), (hw2, .inl (cI, 10, .inl wd2)), (ht2, .inl (cI, 6, .inl wt2)), (hs2, .inl (cI, 6, .inl sT2)), (hp2, .inl (cI, 6, .inl sP2))]) (QcE D (S := Unit) none (fun _ => True) (fun _ => [(h, .inr (7, [.ref hn, .ref hw, .ref ht, .ref hs, .ref hp, .int (nI sn2), .int 1])), (hn, .inl (cI, 6, .inl nm2)), (hw, .inl (cI, 10, .inl wd2)), (ht, .inl (cI, 6, .inl wt2)), (hs, .inl (cI, 6, .inl sT2)), (hp, .inl (cI, 6, .inl sP2)), (h2, .inr (7, [.ref hn2, .ref hw2, .ref ht2, .ref hs2, .ref hp2, .int (nI sn2), .int kp2])), (hn2, .inl (cI, 6, .inl nm2)), (hw2, .inl (cI, 10, .inl wd2)), (ht2, .inl (cI, 6, .inl wt2)), (hs2, .inl (cI, 6, .inl sT2)), (hp2, .inl (cI, 6, .inl sP2))]) (zA [(h, .inr (7, [.ref hn, .ref hw, .ref ht, .ref hs, .ref hp, .int (nI sn), .int kp])), (hn, .inl (cI, 6, .inl nm)), (hw, .inl (cI, 10, .inl wd)), (ht, .inl (cI, 6, .inl wt)), (hs, .inl (cI, 6, .inl sT)), (hp, .inl (cI, 6, .inl sP)), (h2, .inr (7, [.ref hn2, .ref hw2, .ref ht2, .ref hs2, .ref hp2, .int (nI sn2), .int kp2])), (hn2, .inl (cI, 6, .inl nm2)), (hw2, .inl (cI, 10, .inl wd2)), (ht2, .inl (cI, 6, .inl wt2)), (hs2, .inl (cI, 6, .inl sT2)), (hp2, .inl (cI, 6, .inl sP2))])) 0 0 (zA [(h, .inr (7, [.ref hn, .ref hw, .ref ht, .ref hs, .ref hp, .int (nI sn), .int kp])), (hn, .inl (cI, 6, .inl nm)), (hw, .inl (cI, 10, .inl wd)), (ht, .inl (cI, 6, .inl wt)), (hs, .inl (cI, 6, .inl sT)), (hp, .inl (cI, 6, .inl sP)), (h2, .inr (7, [.ref hn2, .ref hw2, .ref ht2, .ref hs2, .ref hp2, .int (nI sn2), .int kp2])), (hn2, .inl (cI, 6, .inl nm2)), (hw2, .inl (cI, 10, .inl wd2)), (ht2, .inl (cI, 6, .inl wt2)), (hs2, .inl (cI, 6, .inl sT2)), (hp2, .inl (cI, 6, .inl sP2))]) := by
  refine mtWv (by decide) (Nat.le_of_ble_eq_true rfl) (fun p e s m args below meth c Q A S hT hP hD hS hret ls hl => ?_)
  have S : CallFix p m c cX7_keep 2 s args zt RX7 := S
  obtain ⟨hx, hb, hml, hown, hts⟩ := id S
  have hl : lv_has ls 2 [(0, .ref h), (1, .ref h2)] := hl
  refine lv_aload_n hx hb dX7_keep_0 rfl (lv_at hl 0 rfl) ?_
  refine lv_aload_n hx hb dX7_keep_1 rfl (lv_at hl 1 rfl) ?_
  refine kEV (q0 := 0) (st1 := []) (fun _ => [(h, .inr (7, [.ref hn, .ref hw, .ref ht, .ref hs, .ref hp, .int (nI sn2), .int kp])), (hn, .inl (cI, 6, .inl nm2)), (hw, .inl (cI, 10, .inl wd2)), (ht, .inl (cI, 6, .inl wt2)), (hs, .inl (cI, 6, .inl sT2)), (hp, .inl (cI, 6, .inl sP2)), (h2, .inr (7, [.ref hn2, .ref hw2, .ref ht2, .ref hs2, .ref hp2, .int (nI sn2), .int kp2])), (hn2, .inl (cI, 6, .inl nm2)), (hw2, .inl (cI, 10, .inl wd2)), (ht2, .inl (cI, 6, .inl wt2)), (hs2, .inl (cI, 6, .inl sT2)), (hp2, .inl (cI, 6, .inl sP2))]) S hT hP hD hS (c_X7_become l D cI cZ h hn hw ht hs hp sn kp nm wd wt sT sP h2 hn2 hw2 ht2 hs2 hp2 sn2 kp2 nm2 wd2 wt2 sT2 sP2) rfl rfl mw_X7_become lk_RX7_72 ⟨rfl, rfl, (Nat.le_of_ble_eq_true rfl), (Nat.le_of_ble_eq_true rfl), (Nat.le_of_ble_eq_true rfl), (Nat.le_of_ble_eq_true rfl)⟩ [0, 1, 2, 3, 4, 5, 6, 7, 8, 9, 10, 11] [] (by decide) rfl (fun _ => rfl) (fun _ => rfl) 12 (fun _ => rfl) (by decide) (fun _ => rfl) rfl rfl hl.1 (Nat.le_of_ble_eq_true rfl) dX7_keep_2 (fun _ H locs _ hP hD hS => ?_)
  have hP : va_P D vwCl [(h, .inr (7, [.ref hn, .ref hw, .ref ht, .ref hs, .ref hp, .int (nI sn2), .int kp])), (hn, .inl (cI, 6, .inl nm2)), (hw, .inl (cI, 10, .inl wd2)), (ht, .inl (cI, 6, .inl wt2)), (hs, .inl (cI, 6, .inl sT2)), (hp, .inl (cI, 6, .inl sP2)), (h2, .inr (7, [.ref hn2, .ref hw2, .ref ht2, .ref hs2, .ref hp2, .int (nI sn2), .int kp2])), (hn2, .inl (cI, 6, .inl nm2)), (hw2, .inl (cI, 10, .inl wd2)), (ht2, .inl (cI, 6, .inl wt2)), (hs2, .inl (cI, 6, .inl sT2)), (hp2, .inl (cI, 6, .inl sP2))] H := hP
  have hD : va_D A [(h, .inr (7, [.ref hn, .ref hw, .ref ht, .ref hs, .ref hp, .int (nI sn2), .int kp])), (hn, .inl (cI, 6, .inl nm2)), (hw, .inl (cI, 10, .inl wd2)), (ht, .inl (cI, 6, .inl wt2)), (hs, .inl (cI, 6, .inl sT2)), (hp, .inl (cI, 6, .inl sP2)), (h2, .inr (7, [.ref hn2, .ref hw2, .ref ht2, .ref hs2, .ref hp2, .int (nI sn2), .int kp2])), (hn2, .inl (cI, 6, .inl nm2)), (hw2, .inl (cI, 10, .inl wd2)), (ht2, .inl (cI, 6, .inl wt2)), (hs2, .inl (cI, 6, .inl sT2)), (hp2, .inl (cI, 6, .inl sP2))] := hD
  refine lv_aload_n hx hb dX7_keep_5 rfl (lv_at hl 0 rfl) ?_
  refine lv_iconst (v := 1) hx hb dX7_keep_6 (by decide) ?_
  refine va_put (D := D) (ci := 7) (v := .int 1) (ty := .boolean) (C := RX7) (T := TX7) (N := 7) hx hb hts in_X7 tyX7 tyX7_ok nmX7 hown hT.1 hP hD hS 0 rfl rfl 6 (by decide) (hts _ fl_RX7_76) (fun _ h9 => h9) rfl (by decide +kernel) rfl rfl (Nat.le_of_ble_eq_true rfl) dX7_keep_7 (fun H locs hP hD hS => ?_)
  have hP : va_P D vwCl [(h, .inr (7, [.ref hn, .ref hw, .ref ht, .ref hs, .ref hp, .int (nI sn2), .int 1])), (hn, .inl (cI, 6, .inl nm2)), (hw, .inl (cI, 10, .inl wd2)), (ht, .inl (cI, 6, .inl wt2)), (hs, .inl (cI, 6, .inl sT2)), (hp, .inl (cI, 6, .inl sP2)), (h2, .inr (7, [.ref hn2, .ref hw2, .ref ht2, .ref hs2, .ref hp2, .int (nI sn2), .int kp2])), (hn2, .inl (cI, 6, .inl nm2)), (hw2, .inl (cI, 10, .inl wd2)), (ht2, .inl (cI, 6, .inl wt2)), (hs2, .inl (cI, 6, .inl sT2)), (hp2, .inl (cI, 6, .inl sP2))] H := hP
  have hD : va_D A [(h, .inr (7, [.ref hn, .ref hw, .ref ht, .ref hs, .ref hp, .int (nI sn2), .int 1])), (hn, .inl (cI, 6, .inl nm2)), (hw, .inl (cI, 10, .inl wd2)), (ht, .inl (cI, 6, .inl wt2)), (hs, .inl (cI, 6, .inl sT2)), (hp, .inl (cI, 6, .inl sP2)), (h2, .inr (7, [.ref hn2, .ref hw2, .ref ht2, .ref hs2, .ref hp2, .int (nI sn2), .int kp2])), (hn2, .inl (cI, 6, .inl nm2)), (hw2, .inl (cI, 10, .inl wd2)), (ht2, .inl (cI, 6, .inl wt2)), (hs2, .inl (cI, 6, .inl sT2)), (hp2, .inl (cI, 6, .inl sP2))] := hD
  exact hret _ _ H locs () dX7_keep_10  trivial hP hS
abbrev rm_X7_isKept : Room := { frames := 0, cells := 0, slots := 0, locals := 0 }
set_option maxRecDepth 100000 in
set_option maxHeartbeats 4000000 in
theorem c_X7_isKept (l : Launch) (D : va_G) (cI cZ : ClassId) (h hn hw ht hs hp sn : Nat) (kp : Int32) (nm wd wt sT sP : Nat → Int32) : Met l yX7_isKept [.code yX7_isKept cX7_isKept 1 (some .boolean)] rm_X7_isKept (PcR D cI cZ [.ref h] [(h, .inr (7, [.ref hn, .ref hw, .ref ht, .ref hs, .ref hp, .int (nI sn), .int kp])), (hn, .inl (cI, 6, .inl nm)), (hw, .inl (cI, 10, .inl wd)), (ht, .inl (cI, 6, .inl wt)), (hs, .inl (cI, 6, .inl sT)), (hp, .inl (cI, 6, .inl sP))]) (QcR (some (.int kp))) 0 0 zN := by
  refine mtRz (by first | rfl | (unfold kp; repeat (first | rfl | split))) (by decide) (Nat.le_of_ble_eq_true rfl) (fun p e s m args below meth c Q S hT hP hret ls hl => ?_)
  have S : CallFix p m c cX7_isKept 1 s args zt RX7 := S
  obtain ⟨hx, hb, hml, hown, hts⟩ := id S
  have hl : lv_has ls 1 [(0, .ref h)] := hl
  refine lv_aload_n hx hb dX7_isKept_0 rfl (lv_at hl 0 rfl) ?_
  refine va_get (D := D) (ci := 7) (v := .int kp) (C := RX7) (T := TX7) (N := 7) hx hb hts in_X7 hown hT.1 hP 0 rfl rfl 6 (by decide) (hts _ fl_RX7_76) (fun _ h9 => h9) rfl dX7_isKept_1 ?_
  exact hret _ _ _ dX7_isKept_4 rfl
end
section
abbrev rm_X4_length : Room := { frames := 0, cells := 0, slots := 0, locals := 0 }
set_option maxRecDepth 100000 in
set_option maxHeartbeats 4000000 in
theorem c_X4_length (l : Launch) (D : va_G) (cI cZ : ClassId) (pd pg len : Nat) (sg : Nat → Int32) : Met l yX4_length [.code yX4_length cX4_length 1 (some .int)] rm_X4_length (PcR D cI cZ [.ref pd] [(pd, .inr (4, [.ref pg, .int (nI len)])), (pg, .inl (cI, 60, .inl sg))]) (QcR (some (.int (nI len)))) 0 0 zN := by
  refine mtRi (by decide) (Nat.le_of_ble_eq_true rfl) (fun p e s m args below meth c Q S hT hP hret ls hl => ?_)
  have S : CallFix p m c cX4_length 1 s args zt RX4 := S
  obtain ⟨hx, hb, hml, hown, hts⟩ := id S
  have hl : lv_has ls 1 [(0, .ref pd)] := hl
  refine lv_aload_n hx hb dX4_length_0 rfl (lv_at hl 0 rfl) ?_
  refine va_get (D := D) (ci := 4) (v := .int (nI len)) (C := RX4) (T := TX4) (N := 2) hx hb hts in_X4 hown hT.1 hP 0 rfl rfl 1 (by decide) (hts _ fl_RX4_15) (fun _ h9 => h9) rfl dX4_length_1 ?_
  exact hret _ _ _ dX4_length_4 rfl
abbrev rm_X4_sign : Room := { frames := 1, cells := 0, slots := 0, locals := 21 }
set_option maxRecDepth 100000 in
set_option maxHeartbeats 4000000 in
theorem c_X4_sign (l : Launch) (D : va_G) (cI cZ : ClassId) (pd pg len : Nat) (sg : Nat → Int32) (i : Int32) : Met l yX4_sign [.code yX4_sign cX4_sign 2 (some .int)] rm_X4_sign (PcR D cI cZ [.ref pd, .int i] [(pd, .inr (4, [.ref pg, .int (nI len)])), (pg, .inl (cI, 60, .inl sg))]) (QcR (some (.int (s_X8_cell 60 sg i)))) 0 0 zN := by
  refine mtRi (by decide) (Nat.le_of_ble_eq_true rfl) (fun p e s m args below meth c Q S hT hP hret ls hl => ?_)
  have S : CallFix p m c cX4_sign 2 s args zt RX4 := S
  obtain ⟨hx, hb, hml, hown, hts⟩ := id S
  have hl : lv_has ls 2 [(0, .ref pd), (1, .int i)] := hl
  refine lv_aload_n hx hb dX4_sign_0 rfl (lv_at hl 0 rfl) ?_
  refine va_get (D := D) (ci := 4) (v := .ref pg) (C := RX4) (T := TX4) (N := 2) hx hb hts in_X4 hown hT.1 hP 0 rfl rfl 0 (by decide) (hts _ fl_RX4_9) (fun _ h9 => h9) rfl dX4_sign_1 ?_
  refine lv_iload_n hx hb dX4_sign_4 rfl (lv_at hl 1 rfl) ?_
  refine kRM (st1 := [.int (s_X8_cell 60 sg i)]) S hT hP (c_X8_cell l D cI cZ pg 60 sg i (by first | assumption | decide | omega)) rfl rfl mw_X8_cell ln_RX4_19 ⟨rfl, rfl, (Nat.le_of_ble_eq_true rfl), (Nat.le_of_ble_eq_true rfl), (Nat.le_of_ble_eq_true rfl), (Nat.le_of_ble_eq_true rfl)⟩ [1] rfl hl.1 (Nat.le_of_ble_eq_true rfl) dX4_sign_5 ?_
  exact hret _ _ _ dX4_sign_8 rfl
abbrev rm_X4_write : Room := { frames := 1, cells := 0, slots := 0, locals := 22 }
set_option maxRecDepth 100000 in
set_option maxHeartbeats 4000000 in
theorem c_X4_write (l : Launch) (D : va_G) (cI cZ : ClassId) (pd pg len : Nat) (sg : Nat → Int32) (sgn : Int32) : Met l yX4_write [.code yX4_write cX4_write 2 none] rm_X4_write (PcW D cI cZ [.ref pd, .int sgn] [(pd, .inr (4, [.ref pg, .int (nI len)])), (pg, .inl (cI, 60, .inl sg))]) (QcE D (S := Unit) none (fun _ => True) (fun _ => [(pd, .inr (4, [.ref pg, .int (nI (len + 1))])), (pg, .inl (cI, 60, .inl (s_X8_put_f 60 sg (nI len) sgn)))]) (zA [(pd, .inr (4, [.ref pg, .int (nI len)])), (pg, .inl (cI, 60, .inl sg))])) 0 0 (zA [(pd, .inr (4, [.ref pg, .int (nI len)])), (pg, .inl (cI, 60, .inl sg))]) := by
  refine mtWv (by decide) (Nat.le_of_ble_eq_true rfl) (fun p e s m args below meth c Q A S hT hP hD hS hret ls hl => ?_)
  have S : CallFix p m c cX4_write 2 s args zt RX4 := S
  obtain ⟨hx, hb, hml, hown, hts⟩ := id S
  have hl : lv_has ls 2 [(0, .ref pd), (1, .int sgn)] := hl
  refine lv_aload_n hx hb dX4_write_0 rfl (lv_at hl 0 rfl) ?_
  refine va_get (D := D) (ci := 4) (v := .ref pg) (C := RX4) (T := TX4) (N := 2) hx hb hts in_X4 hown hT.1 hP 0 rfl rfl 0 (by decide) (hts _ fl_RX4_9) (fun _ h9 => h9) rfl dX4_write_1 ?_
  refine lv_aload_n hx hb dX4_write_4 rfl (lv_at hl 0 rfl) ?_
  refine va_get (D := D) (ci := 4) (v := .int (nI len)) (C := RX4) (T := TX4) (N := 2) hx hb hts in_X4 hown hT.1 hP 0 rfl rfl 1 (by decide) (hts _ fl_RX4_15) (fun _ h9 => h9) rfl dX4_write_5 ?_
  refine lv_iload_n hx hb dX4_write_8 rfl (lv_at hl 1 rfl) ?_
  refine kEM (st1 := []) (fun _ => [(pd, .inr (4, [.ref pg, .int (nI len)])), (pg, .inl (cI, 60, .inl (s_X8_put_f 60 sg (nI len) sgn)))]) S hT hP hD hS (c_X8_put l D cI cZ pg 60 sg (nI len) sgn (by first | assumption | decide | omega)) rfl rfl mw_X8_put ln_RX4_23 ⟨rfl, rfl, (Nat.le_of_ble_eq_true rfl), (Nat.le_of_ble_eq_true rfl), (Nat.le_of_ble_eq_true rfl), (Nat.le_of_ble_eq_true rfl)⟩ [1] [0] (by decide) rfl (fun _ => rfl) (fun _ => rfl) 2 (fun _ => rfl) (by decide) (fun _ => rfl) hl.1 (Nat.le_of_ble_eq_true rfl) dX4_write_9 (fun _ H locs _ hP hD hS => ?_)
  have hP : va_P D vwCl [(pd, .inr (4, [.ref pg, .int (nI len)])), (pg, .inl (cI, 60, .inl (s_X8_put_f 60 sg (nI len) sgn)))] H := hP
  have hD : va_D A [(pd, .inr (4, [.ref pg, .int (nI len)])), (pg, .inl (cI, 60, .inl (s_X8_put_f 60 sg (nI len) sgn)))] := hD
  refine lv_aload_n hx hb dX4_write_12 rfl (lv_at hl 0 rfl) ?_
  refine lv_dup hx hb dX4_write_13 rfl ?_
  refine va_get (D := D) (ci := 4) (v := .int (nI len)) (C := RX4) (T := TX4) (N := 2) hx hb hts in_X4 hown hT.1 hP 0 rfl rfl 1 (by decide) (hts _ fl_RX4_15) (fun _ h9 => h9) rfl dX4_write_14 ?_
  refine lv_iconst (v := 1) hx hb dX4_write_17 (by decide) ?_
  refine lv_iadd hx hb dX4_write_18 ?_
  refine zI (y := nI (len + 1)) (nI_1 len) ?_
  refine va_put (D := D) (ci := 4) (v := .int (nI (len + 1))) (ty := .int) (C := RX4) (T := TX4) (N := 2) hx hb hts in_X4 tyX4 tyX4_ok nmX4 hown hT.1 hP hD hS 0 rfl rfl 1 (by decide) (hts _ fl_RX4_15) (fun _ h9 => h9) rfl (by decide +kernel) rfl rfl (Nat.le_of_ble_eq_true rfl) dX4_write_19 (fun H locs hP hD hS => ?_)
  have hP : va_P D vwCl [(pd, .inr (4, [.ref pg, .int (nI (len + 1))])), (pg, .inl (cI, 60, .inl (s_X8_put_f 60 sg (nI len) sgn)))] H := hP
  have hD : va_D A [(pd, .inr (4, [.ref pg, .int (nI (len + 1))])), (pg, .inl (cI, 60, .inl (s_X8_put_f 60 sg (nI len) sgn)))] := hD
  exact hret _ _ H locs () dX4_write_22  trivial hP hS
abbrev rm_X4_clear : Room := { frames := 0, cells := 0, slots := 0, locals := 0 }
set_option maxRecDepth 100000 in
set_option maxHeartbeats 4000000 in
theorem c_X4_clear (l : Launch) (D : va_G) (cI cZ : ClassId) (pd pg len : Nat) (sg : Nat → Int32) : Met l yX4_clear [.code yX4_clear cX4_clear 1 none] rm_X4_clear (PcW D cI cZ [.ref pd] [(pd, .inr (4, [.ref pg, .int (nI len)])), (pg, .inl (cI, 60, .inl sg))]) (QcE D (S := Unit) none (fun _ => True) (fun _ => [(pd, .inr (4, [.ref pg, .int 0])), (pg, .inl (cI, 60, .inl sg))]) (zA [(pd, .inr (4, [.ref pg, .int (nI len)])), (pg, .inl (cI, 60, .inl sg))])) 0 0 (zA [(pd, .inr (4, [.ref pg, .int (nI len)])), (pg, .inl (cI, 60, .inl sg))]) := by
  refine mtWv (by decide) (Nat.le_of_ble_eq_true rfl) (fun p e s m args below meth c Q A S hT hP hD hS hret ls hl => ?_)
  have S : CallFix p m c cX4_clear 1 s args zt RX4 := S
  obtain ⟨hx, hb, hml, hown, hts⟩ := id S
  have hl : lv_has ls 1 [(0, .ref pd)] := hl
  refine lv_aload_n hx hb dX4_clear_0 rfl (lv_at hl 0 rfl) ?_
  refine lv_iconst (v := 0) hx hb dX4_clear_1 (by decide) ?_
  refine va_put (D := D) (ci := 4) (v := .int 0) (ty := .int) (C := RX4) (T := TX4) (N := 2) hx hb hts in_X4 tyX4 tyX4_ok nmX4 hown hT.1 hP hD hS 0 rfl rfl 1 (by decide) (hts _ fl_RX4_15) (fun _ h9 => h9) rfl (by decide +kernel) rfl rfl (Nat.le_of_ble_eq_true rfl) dX4_clear_2 (fun H locs hP hD hS => ?_)
  have hP : va_P D vwCl [(pd, .inr (4, [.ref pg, .int 0])), (pg, .inl (cI, 60, .inl sg))] H := hP
  have hD : va_D A [(pd, .inr (4, [.ref pg, .int 0])), (pg, .inl (cI, 60, .inl sg))] := hD
  exact hret _ _ H locs () dX4_clear_5  trivial hP hS
def lp_X4_count_4 (len : Nat) (sg : Nat → Int32) (sgn : Int32) : Nat → Nat → Int32 → Int32
  | 0, _, x2_4 => x2_4
  | fu + 1, k, x2_4 => if nI len ≤ nI k then x2_4 else (if (s_X8_cell 60 sg (nI k)) = sgn then lp_X4_count_4 len sg sgn fu (k + 1) (x2_4 + 1) else lp_X4_count_4 len sg sgn fu (k + 1) (x2_4 + 0))
abbrev rm_X4_count : Room := { frames := 2, cells := 0, slots := 0, locals := 42 }
set_option maxRecDepth 100000 in
set_option maxHeartbeats 4000000 in
theorem c_X4_count (l : Launch) (D : va_G) (cI cZ : ClassId) (pd pg len : Nat) (sg : Nat → Int32) (sgn : Int32) (hlen : len ≤ 60) : Met l yX4_count [.code yX4_count cX4_count 4 (some .int)] rm_X4_count (PcR D cI cZ [.ref pd, .int sgn] [(pd, .inr (4, [.ref pg, .int (nI len)])), (pg, .inl (cI, 60, .inl sg))]) (QcR (some (.int (lp_X4_count_4 len sg sgn (len + 1) 0 0)))) 0 0 zN := by
  refine mtRi (by decide) (Nat.le_of_ble_eq_true rfl) (fun p e s m args below meth c Q S hT hP hret ls hl => ?_)
  have S : CallFix p m c cX4_count 4 s args zt RX4 := S
  obtain ⟨hx, hb, hml, hown, hts⟩ := id S
  have hl : lv_has ls 4 [(0, .ref pd), (1, .int sgn)] := hl
  refine lv_iconst (v := 0) hx hb dX4_count_0 (by decide) ?_
  refine lv_istore_n (lv' := [(2, .int 0), (0, .ref pd), (1, .int sgn)]) hx hb dX4_count_1 rfl hl (by decide) rfl (fun ls hl => ?_)
  refine lv_iconst (v := 0) hx hb dX4_count_2 (by decide) ?_
  refine lv_istore_n (lv' := [(3, .int 0), (2, .int 0), (0, .ref pd), (1, .int sgn)]) hx hb dX4_count_3 rfl hl (by decide) rfl (fun ls hl => ?_)
  have X2 : ∀ (y1 : Int32), y1 = (lp_X4_count_4 len sg sgn (len + 1) 0 0) → ∀ (ls : Array Slot), lv_has ls 4 [(0, .ref pd), (1, .int sgn), (2, .int y1)] → W p l e rm_X4_count s m args below meth c s.heap [] 0 0 Q (F0 m 35 ls []) := by
    intro y1 ey1 ls hl
    subst ey1
    refine lv_iload_n hx hb dX4_count_35 rfl (lv_at hl 2 rfl) ?_
    exact hret _ _ _ dX4_count_36 rfl
  have L3 : ∀ (n6 : Nat) (k : Nat) (x2_4 : Int32), len - k < n6 → (k ≤ len) → lp_X4_count_4 len sg sgn n6 k x2_4 = lp_X4_count_4 len sg sgn (len + 1) 0 0 → ∀ (ls : Array Slot), lv_has ls 4 [(0, .ref pd), (1, .int sgn), (2, .int x2_4), (3, .int (nI k))] → W p l e rm_X4_count s m args below meth c s.heap [] 0 0 Q (F0 m 4 ls []) := by
    intro n6
    induction n6 with
    | zero => intro k x2_4 hm; exact absurd hm (Nat.not_lt_zero _)
    | succ n6 ih5 =>
      intro k x2_4 hm7 hk hv4 ls hl
      refine lv_iload_n hx hb dX4_count_4 rfl (lv_at hl 3 rfl) ?_
      refine lv_aload_n hx hb dX4_count_5 rfl (lv_at hl 0 rfl) ?_
      refine va_get (D := D) (ci := 4) (v := .int (nI len)) (C := RX4) (T := TX4) (N := 2) hx hb hts in_X4 hown hT.1 hP 0 rfl rfl 1 (by decide) (hts _ fl_RX4_15) (fun _ h9 => h9) rfl dX4_count_6 ?_
      refine lv_icmp_ge (tgt := 35) hx hb dX4_count_9 (by decide) (fun c8 => ?_) (fun c8 => ?_)
      · have nc8 := zNle (a := len) (b := k) c8 (by omega) (by omega)
        exact X2 _ (by rw [← hv4, lp_X4_count_4, if_pos c8]) ls (lv_sub hl [0, 1, 2] rfl)
      · have nc8 := zNnle (a := len) (b := k) c8 (by omega) (by omega)
        refine lv_iload_n hx hb dX4_count_12 rfl (lv_at hl 2 rfl) ?_
        refine lv_aload_n hx hb dX4_count_13 rfl (lv_at hl 0 rfl) ?_
        refine lv_iload_n hx hb dX4_count_14 rfl (lv_at hl 3 rfl) ?_
        refine kRV (q0 := 0) (st1 := [.int (s_X8_cell 60 sg (nI k)), .int x2_4]) S hT hP (c_X4_sign l D cI cZ pd pg len sg (nI k)) rfl rfl mw_X4_sign lk_RX4_27 ⟨rfl, rfl, (Nat.le_of_ble_eq_true rfl), (Nat.le_of_ble_eq_true rfl), (Nat.le_of_ble_eq_true rfl), (Nat.le_of_ble_eq_true rfl)⟩ [0, 1] rfl rfl rfl hl.1 (Nat.le_of_ble_eq_true rfl) dX4_count_15 ?_
        refine lv_iload_n hx hb dX4_count_18 rfl (lv_at hl 1 rfl) ?_
        refine lv_icmp_ne (tgt := 26) hx hb dX4_count_19 (by decide) (fun c9 => ?_) (fun c9 => ?_)
        · refine lv_iconst (v := 0) hx hb dX4_count_26 (by decide) ?_
          refine lv_iadd hx hb dX4_count_27 ?_
          refine lv_istore_n (lv' := [(2, .int (x2_4 + 0)), (0, .ref pd), (1, .int sgn), (3, .int (nI k))]) hx hb dX4_count_28 rfl hl (by decide) rfl (fun ls hl => ?_)
          refine lv_iinc (v := nI (k + 1)) (lv' := [(3, .int (nI (k + 1))), (2, .int (x2_4 + 0)), (0, .ref pd), (1, .int sgn)]) hx hb dX4_count_29 hl (k := 3) rfl (nI_1 k) (by decide) rfl (fun ls hl => ?_)
          refine lv_goto (tgt := 4) hx hb dX4_count_32 (by decide) ?_
          exact ih5 (k + 1) (x2_4 + 0) (by omega) (by omega) (by rw [← hv4, lp_X4_count_4, if_neg c8, if_neg c9]) ls (lv_sub hl [2, 3, 1, 0] rfl)
        · refine lv_iconst (v := 1) hx hb dX4_count_22 (by decide) ?_
          refine lv_goto (tgt := 27) hx hb dX4_count_23 (by decide) ?_
          refine lv_iadd hx hb dX4_count_27 ?_
          refine lv_istore_n (lv' := [(2, .int (x2_4 + 1)), (0, .ref pd), (1, .int sgn), (3, .int (nI k))]) hx hb dX4_count_28 rfl hl (by decide) rfl (fun ls hl => ?_)
          refine lv_iinc (v := nI (k + 1)) (lv' := [(3, .int (nI (k + 1))), (2, .int (x2_4 + 1)), (0, .ref pd), (1, .int sgn)]) hx hb dX4_count_29 hl (k := 3) rfl (nI_1 k) (by decide) rfl (fun ls hl => ?_)
          refine lv_goto (tgt := 4) hx hb dX4_count_32 (by decide) ?_
          exact ih5 (k + 1) (x2_4 + 1) (by omega) (by omega) (by rw [← hv4, lp_X4_count_4, if_neg c8, if_pos c9]) ls (lv_sub hl [2, 3, 1, 0] rfl)
  exact L3 (len + 1) 0 0 (by omega) (by omega) rfl ls (lv_sub hl [2, 3, 1, 0] rfl)
def lp_X4_hasThrow_2 (len : Nat) (sg : Nat → Int32) : Nat → Nat → Int32
  | 0, _ => 0
  | fu + 1, k => if nI len ≤ nI k then 0 else (if (s_X8_thingOf (s_X8_cell 60 sg (nI k))) = (-6) then lp_X4_hasThrow_2 len sg fu (k + 1) else 1)
abbrev rm_X4_hasThrow : Room := { frames := 3, cells := 0, slots := 0, locals := 62 }
set_option maxRecDepth 100000 in
set_option maxHeartbeats 4000000 in
theorem c_X4_hasThrow (l : Launch) (D : va_G) (cI cZ : ClassId) (pd pg len : Nat) (sg : Nat → Int32) (hlen : len ≤ 60) : Met l yX4_hasThrow [.code yX4_hasThrow cX4_hasThrow 2 (some .boolean)] rm_X4_hasThrow (PcR D cI cZ [.ref pd] [(pd, .inr (4, [.ref pg, .int (nI len)])), (pg, .inl (cI, 60, .inl sg))]) (QcR (some (.int (lp_X4_hasThrow_2 len sg (len + 1) 0)))) 0 0 zN := by
  refine mtRz (by first | rfl | (unfold len; repeat (first | rfl | split))) (by decide) (Nat.le_of_ble_eq_true rfl) (fun p e s m args below meth c Q S hT hP hret ls hl => ?_)
  have S : CallFix p m c cX4_hasThrow 2 s args zt RX4 := S
  obtain ⟨hx, hb, hml, hown, hts⟩ := id S
  have hl : lv_has ls 2 [(0, .ref pd)] := hl
  refine lv_iconst (v := 0) hx hb dX4_hasThrow_0 (by decide) ?_
  refine lv_istore_n (lv' := [(1, .int 0), (0, .ref pd)]) hx hb dX4_hasThrow_1 rfl hl (by decide) rfl (fun ls hl => ?_)
  have L1 : ∀ (n4 : Nat) (k : Nat), len - k < n4 → (k ≤ len) → lp_X4_hasThrow_2 len sg n4 k = lp_X4_hasThrow_2 len sg (len + 1) 0 → ∀ (ls : Array Slot), lv_has ls 2 [(0, .ref pd), (1, .int (nI k))] → W p l e rm_X4_hasThrow s m args below meth c s.heap [] 0 0 Q (F0 m 2 ls []) := by
    intro n4
    induction n4 with
    | zero => intro k hm; exact absurd hm (Nat.not_lt_zero _)
    | succ n4 ih3 =>
      intro k hm5 hk hv2 ls hl
      refine lv_iload_n hx hb dX4_hasThrow_2 rfl (lv_at hl 1 rfl) ?_
      refine lv_aload_n hx hb dX4_hasThrow_3 rfl (lv_at hl 0 rfl) ?_
      refine va_get (D := D) (ci := 4) (v := .int (nI len)) (C := RX4) (T := TX4) (N := 2) hx hb hts in_X4 hown hT.1 hP 0 rfl rfl 1 (by decide) (hts _ fl_RX4_15) (fun _ h9 => h9) rfl dX4_hasThrow_4 ?_
      refine lv_icmp_ge (tgt := 31) hx hb dX4_hasThrow_7 (by decide) (fun c6 => ?_) (fun c6 => ?_)
      · have nc6 := zNle (a := len) (b := k) c6 (by omega) (by omega)
        refine lv_iconst (v := 0) hx hb dX4_hasThrow_31 (by decide) ?_
        exact hret _ _ _ dX4_hasThrow_32 rfl
      · have nc6 := zNnle (a := len) (b := k) c6 (by omega) (by omega)
        refine lv_aload_n hx hb dX4_hasThrow_10 rfl (lv_at hl 0 rfl) ?_
        refine lv_iload_n hx hb dX4_hasThrow_11 rfl (lv_at hl 1 rfl) ?_
        refine kRV (q0 := 0) (st1 := [.int (s_X8_cell 60 sg (nI k))]) S hT hP (c_X4_sign l D cI cZ pd pg len sg (nI k)) rfl rfl mw_X4_sign lk_RX4_27 ⟨rfl, rfl, (Nat.le_of_ble_eq_true rfl), (Nat.le_of_ble_eq_true rfl), (Nat.le_of_ble_eq_true rfl), (Nat.le_of_ble_eq_true rfl)⟩ [0, 1] rfl rfl rfl hl.1 (Nat.le_of_ble_eq_true rfl) dX4_hasThrow_12 ?_
        refine kRM (st1 := [.int (s_X8_thingOf (s_X8_cell 60 sg (nI k)))]) S hT hP (c_X8_thingOf l D cI cZ (s_X8_cell 60 sg (nI k))) rfl rfl mw_X8_thingOf ln_RX4_31 ⟨rfl, rfl, (Nat.le_of_ble_eq_true rfl), (Nat.le_of_ble_eq_true rfl), (Nat.le_of_ble_eq_true rfl), (Nat.le_of_ble_eq_true rfl)⟩ [] rfl hl.1 (Nat.le_of_ble_eq_true rfl) dX4_hasThrow_15 ?_
        refine lv_bipush (v := (-6)) hx hb dX4_hasThrow_18 (by decide) ?_
        refine lv_icmp_eq (tgt := 25) hx hb dX4_hasThrow_20 (by decide) (fun c7 => ?_) (fun c7 => ?_)
        · refine lv_iinc (v := nI (k + 1)) (lv' := [(1, .int (nI (k + 1))), (0, .ref pd)]) hx hb dX4_hasThrow_25 hl (k := 1) rfl (nI_1 k) (by decide) rfl (fun ls hl => ?_)
          refine lv_goto (tgt := 2) hx hb dX4_hasThrow_28 (by decide) ?_
          exact ih3 (k + 1) (by omega) (by omega) (by rw [← hv2, lp_X4_hasThrow_2, if_neg c6, if_pos c7]) ls (lv_sub hl [1, 0] rfl)
        · refine lv_iconst (v := 1) hx hb dX4_hasThrow_23 (by decide) ?_
          exact hret _ _ _ dX4_hasThrow_24 rfl
  exact L1 (len + 1) 0 (by omega) (by omega) rfl ls (lv_sub hl [1, 0] rfl)
def lp_X4_fines_4 (len : Nat) (sg : Nat → Int32) : Nat → Nat → Int32 → Int32
  | 0, _, x1_4 => x1_4
  | fu + 1, k, x1_4 => if nI len ≤ nI k then x1_4 else (if (s_X8_thingOf (s_X8_cell 60 sg (nI k))) = (-6) then lp_X4_fines_4 len sg fu (k + 1) (x1_4 + 0) else (if (if nI k ≤ 0 then 0 else (if (s_X8_cell 60 sg ((nI k) - 1)) = 33 then 1 else 0)) = 0 then lp_X4_fines_4 len sg fu (k + 1) (x1_4 + 1) else lp_X4_fines_4 len sg fu (k + 1) (x1_4 + 0)))
abbrev rm_X4_fines : Room := { frames := 3, cells := 0, slots := 0, locals := 62 }
set_option maxRecDepth 100000 in
set_option maxHeartbeats 4000000 in
theorem c_X4_fines (l : Launch) (D : va_G) (cI cZ : ClassId) (pd pg len : Nat) (sg : Nat → Int32) (hlen : len ≤ 60) : Met l yX4_fines [.code yX4_fines cX4_fines 4 (some .int)] rm_X4_fines (PcR D cI cZ [.ref pd] [(pd, .inr (4, [.ref pg, .int (nI len)])), (pg, .inl (cI, 60, .inl sg))]) (QcR (some (.int (lp_X4_fines_4 len sg (len + 1) 0 0)))) 0 0 zN := by
  refine mtRi (by decide) (Nat.le_of_ble_eq_true rfl) (fun p e s m args below meth c Q S hT hP hret ls hl => ?_)
  have S : CallFix p m c cX4_fines 4 s args zt RX4 := S
  obtain ⟨hx, hb, hml, hown, hts⟩ := id S
  have hl : lv_has ls 4 [(0, .ref pd)] := hl
  refine lv_iconst (v := 0) hx hb dX4_fines_0 (by decide) ?_
  refine lv_istore_n (lv' := [(1, .int 0), (0, .ref pd)]) hx hb dX4_fines_1 rfl hl (by decide) rfl (fun ls hl => ?_)
  refine lv_iconst (v := 0) hx hb dX4_fines_2 (by decide) ?_
  refine lv_istore_n (lv' := [(2, .int 0), (1, .int 0), (0, .ref pd)]) hx hb dX4_fines_3 rfl hl (by decide) rfl (fun ls hl => ?_)
  have X2 : ∀ (y1 : Int32), y1 = (lp_X4_fines_4 len sg (len + 1) 0 0) → ∀ (ls : Array Slot), lv_has ls 4 [(0, .ref pd), (1, .int y1)] → W p l e rm_X4_fines s m args below meth c s.heap [] 0 0 Q (F0 m 65 ls []) := by
    intro y1 ey1 ls hl
    subst ey1
    refine lv_iload_n hx hb dX4_fines_65 rfl (lv_at hl 1 rfl) ?_
    exact hret _ _ _ dX4_fines_66 rfl
  have L3 : ∀ (n6 : Nat) (k : Nat) (x1_4 : Int32), len - k < n6 → (k ≤ len) → lp_X4_fines_4 len sg n6 k x1_4 = lp_X4_fines_4 len sg (len + 1) 0 0 → ∀ (ls : Array Slot), lv_has ls 4 [(0, .ref pd), (1, .int x1_4), (2, .int (nI k))] → W p l e rm_X4_fines s m args below meth c s.heap [] 0 0 Q (F0 m 4 ls []) := by
    intro n6
    induction n6 with
    | zero => intro k x1_4 hm; exact absurd hm (Nat.not_lt_zero _)
    | succ n6 ih5 =>
      intro k x1_4 hm7 hk hv4 ls hl
      refine lv_iload_n hx hb dX4_fines_4 rfl (lv_at hl 2 rfl) ?_
      refine lv_aload_n hx hb dX4_fines_5 rfl (lv_at hl 0 rfl) ?_
      refine va_get (D := D) (ci := 4) (v := .int (nI len)) (C := RX4) (T := TX4) (N := 2) hx hb hts in_X4 hown hT.1 hP 0 rfl rfl 1 (by decide) (hts _ fl_RX4_15) (fun _ h9 => h9) rfl dX4_fines_6 ?_
      refine lv_icmp_ge (tgt := 65) hx hb dX4_fines_9 (by decide) (fun c8 => ?_) (fun c8 => ?_)
      · have nc8 := zNle (a := len) (b := k) c8 (by omega) (by omega)
        exact X2 _ (by rw [← hv4, lp_X4_fines_4, if_pos c8]) ls (lv_sub hl [0, 1] rfl)
      · have nc8 := zNnle (a := len) (b := k) c8 (by omega) (by omega)
        refine lv_iload_n hx hb dX4_fines_12 rfl (lv_at hl 2 rfl) ?_
        have J10 : ∀ (z9 : Int32), z9 = (if nI k ≤ 0 then 0 else (if (s_X8_cell 60 sg ((nI k) - 1)) = 33 then 1 else 0)) → W p l e rm_X4_fines s m args below meth c s.heap [] 0 0 Q (F0 m 33 ls [.int z9]) := by
          intro z9 ez9
          subst ez9
          refine lv_istore_n (lv' := [(3, .int (if nI k ≤ 0 then 0 else (if (s_X8_cell 60 sg ((nI k) - 1)) = 33 then 1 else 0))), (0, .ref pd), (1, .int x1_4), (2, .int (nI k))]) hx hb dX4_fines_33 rfl hl (by decide) rfl (fun ls hl => ?_)
          refine lv_iload_n hx hb dX4_fines_34 rfl (lv_at hl 2 rfl) ?_
          refine lv_aload_n hx hb dX4_fines_35 rfl (lv_at hl 1 rfl) ?_
          refine lv_iload_n hx hb dX4_fines_36 rfl (lv_at hl 3 rfl) ?_
          refine kRV (q0 := 0) (st1 := [.int (s_X8_cell 60 sg (nI k)), .int x1_4]) S hT hP (c_X4_sign l D cI cZ pd pg len sg (nI k)) rfl rfl mw_X4_sign lk_RX4_27 ⟨rfl, rfl, (Nat.le_of_ble_eq_true rfl), (Nat.le_of_ble_eq_true rfl), (Nat.le_of_ble_eq_true rfl), (Nat.le_of_ble_eq_true rfl)⟩ [0, 1] rfl rfl rfl hl.1 (Nat.le_of_ble_eq_true rfl) dX4_fines_37 ?_
          refine kRM (st1 := [.int (s_X8_thingOf (s_X8_cell 60 sg (nI k))), .int x1_4]) S hT hP (c_X8_thingOf l D cI cZ (s_X8_cell 60 sg (nI k))) rfl rfl mw_X8_thingOf ln_RX4_31 ⟨rfl, rfl, (Nat.le_of_ble_eq_true rfl), (Nat.le_of_ble_eq_true rfl), (Nat.le_of_ble_eq_true rfl), (Nat.le_of_ble_eq_true rfl)⟩ [] rfl hl.1 (Nat.le_of_ble_eq_true rfl) dX4_fines_40 ?_
          refine lv_bipush (v := (-6)) hx hb dX4_fines_43 (by decide) ?_
          refine lv_icmp_eq (tgt := 56) hx hb dX4_fines_45 (by decide) (fun c11 => ?_) (fun c11 => ?_)
          · refine lv_iconst (v := 0) hx hb dX4_fines_56 (by decide) ?_
            refine lv_iadd hx hb dX4_fines_57 ?_
            refine lv_istore_n (lv' := [(1, .int (x1_4 + 0)), (3, .int (if nI k ≤ 0 then 0 else (if (s_X8_cell 60 sg ((nI k) - 1)) = 33 then 1 else 0))), (0, .ref pd), (2, .int (nI k))]) hx hb dX4_fines_58 rfl hl (by decide) rfl (fun ls hl => ?_)
            refine lv_iinc (v := nI (k + 1)) (lv' := [(2, .int (nI (k + 1))), (1, .int (x1_4 + 0)), (3, .int (if nI k ≤ 0 then 0 else (if (s_X8_cell 60 sg ((nI k) - 1)) = 33 then 1 else 0))), (0, .ref pd)]) hx hb dX4_fines_59 hl (k := 3) rfl (nI_1 k) (by decide) rfl (fun ls hl => ?_)
            refine lv_goto (tgt := 4) hx hb dX4_fines_62 (by decide) ?_
            exact ih5 (k + 1) (x1_4 + 0) (by omega) (by omega) (by rw [← hv4, lp_X4_fines_4, if_neg c8, if_pos c11]) ls (lv_sub hl [3, 1, 0] rfl)
          · refine lv_iload_n hx hb dX4_fines_48 rfl (lv_at hl 0 rfl) ?_
            refine lv_if_ne (tgt := 56) hx hb dX4_fines_49 (by decide) (fun c12 => ?_) (fun c12 => ?_)
            · refine lv_iconst (v := 0) hx hb dX4_fines_56 (by decide) ?_
              refine lv_iadd hx hb dX4_fines_57 ?_
              refine lv_istore_n (lv' := [(1, .int (x1_4 + 0)), (3, .int (if nI k ≤ 0 then 0 else (if (s_X8_cell 60 sg ((nI k) - 1)) = 33 then 1 else 0))), (0, .ref pd), (2, .int (nI k))]) hx hb dX4_fines_58 rfl hl (by decide) rfl (fun ls hl => ?_)
              refine lv_iinc (v := nI (k + 1)) (lv' := [(2, .int (nI (k + 1))), (1, .int (x1_4 + 0)), (3, .int (if nI k ≤ 0 then 0 else (if (s_X8_cell 60 sg ((nI k) - 1)) = 33 then 1 else 0))), (0, .ref pd)]) hx hb dX4_fines_59 hl (k := 3) rfl (nI_1 k) (by decide) rfl (fun ls hl => ?_)
              refine lv_goto (tgt := 4) hx hb dX4_fines_62 (by decide) ?_
              exact ih5 (k + 1) (x1_4 + 0) (by omega) (by omega) (by rw [← hv4, lp_X4_fines_4, if_neg c8, if_neg c11, if_neg c12]) ls (lv_sub hl [3, 1, 0] rfl)
            · refine lv_iconst (v := 1) hx hb dX4_fines_52 (by decide) ?_
              refine lv_goto (tgt := 57) hx hb dX4_fines_53 (by decide) ?_
              refine lv_iadd hx hb dX4_fines_57 ?_
              refine lv_istore_n (lv' := [(1, .int (x1_4 + 1)), (3, .int (if nI k ≤ 0 then 0 else (if (s_X8_cell 60 sg ((nI k) - 1)) = 33 then 1 else 0))), (0, .ref pd), (2, .int (nI k))]) hx hb dX4_fines_58 rfl hl (by decide) rfl (fun ls hl => ?_)
              refine lv_iinc (v := nI (k + 1)) (lv' := [(2, .int (nI (k + 1))), (1, .int (x1_4 + 1)), (3, .int (if nI k ≤ 0 then 0 else (if (s_X8_cell 60 sg ((nI k) - 1)) = 33 then 1 else 0))), (0, .ref pd)]) hx hb dX4_fines_59 hl (k := 3) rfl (nI_1 k) (by decide) rfl (fun ls hl => ?_)
              refine lv_goto (tgt := 4) hx hb dX4_fines_62 (by decide) ?_
              exact ih5 (k + 1) (x1_4 + 1) (by omega) (by omega) (by rw [← hv4, lp_X4_fines_4, if_neg c8, if_neg c11, if_pos c12]) ls (lv_sub hl [3, 1, 0] rfl)
        refine lv_if_le (tgt := 32) hx hb dX4_fines_13 (by decide) (fun c13 => ?_) (fun c13 => ?_)
        · have nc13 := zNle (a := k) (b := 0) c13 (by omega) (by omega)
          refine lv_iconst (v := 0) hx hb dX4_fines_32 (by decide) ?_
          exact J10 _ (by rw [if_pos c13])
        · have nc13 := zNnle (a := k) (b := 0) c13 (by omega) (by omega)
          refine lv_aload_n hx hb dX4_fines_16 rfl (lv_at hl 0 rfl) ?_
          refine lv_iload_n hx hb dX4_fines_17 rfl (lv_at hl 2 rfl) ?_
          refine lv_iconst (v := 1) hx hb dX4_fines_18 (by decide) ?_
          refine lv_isub hx hb dX4_fines_19 ?_
          refine kRV (q0 := 0) (st1 := [.int (s_X8_cell 60 sg ((nI k) - 1))]) S hT hP (c_X4_sign l D cI cZ pd pg len sg ((nI k) - 1)) rfl rfl mw_X4_sign lk_RX4_27 ⟨rfl, rfl, (Nat.le_of_ble_eq_true rfl), (Nat.le_of_ble_eq_true rfl), (Nat.le_of_ble_eq_true rfl), (Nat.le_of_ble_eq_true rfl)⟩ [0, 1] rfl rfl rfl hl.1 (Nat.le_of_ble_eq_true rfl) dX4_fines_20 ?_
          refine lv_bipush (v := 33) hx hb dX4_fines_23 (by decide) ?_
          refine lv_icmp_ne (tgt := 32) hx hb dX4_fines_25 (by decide) (fun c14 => ?_) (fun c14 => ?_)
          · refine lv_iconst (v := 0) hx hb dX4_fines_32 (by decide) ?_
            exact J10 _ (by rw [if_neg c13, if_neg c14])
          · refine lv_iconst (v := 1) hx hb dX4_fines_28 (by decide) ?_
            refine lv_goto (tgt := 33) hx hb dX4_fines_29 (by decide) ?_
            exact J10 _ (by rw [if_neg c13, if_pos c14])
  exact L3 (len + 1) 0 0 (by omega) (by omega) rfl ls (lv_sub hl [2, 1, 0] rfl)
end
section
abbrev rm_X0_start : Room := { frames := 0, cells := 0, slots := 0, locals := 0 }
set_option maxRecDepth 100000 in
set_option maxHeartbeats 4000000 in
theorem c_X0_start (l : Launch) (D : va_G) (cI cZ : ClassId) (bb : Nat) (pl gs ab mn g0 th m0 : Int32) : Met l yX0_start [.code yX0_start cX0_start 4 none] rm_X0_start (PcW D cI cZ [.ref bb, .int g0, .int th, .int m0] [(bb, .inr (0, [.int pl, .int gs, .int ab, .int mn]))]) (QcE D (S := Unit) none (fun _ => True) (fun _ => [(bb, .inr (0, [.int 0, .int g0, .int th, .int m0]))]) (zA [(bb, .inr (0, [.int pl, .int gs, .int ab, .int mn]))])) 0 0 (zA [(bb, .inr (0, [.int pl, .int gs, .int ab, .int mn]))]) := by
  refine mtWv (by decide) (Nat.le_of_ble_eq_true rfl) (fun p e s m args below meth c Q A S hT hP hD hS hret ls hl => ?_)
  have S : CallFix p m c cX0_start 4 s args zt RX0 := S
  obtain ⟨hx, hb, hml, hown, hts⟩ := id S
  have hl : lv_has ls 4 [(0, .ref bb), (1, .int g0), (2, .int th), (3, .int m0)] := hl
  refine lv_aload_n hx hb dX0_start_0 rfl (lv_at hl 0 rfl) ?_
  refine lv_iconst (v := 0) hx hb dX0_start_1 (by decide) ?_
  refine va_put (D := D) (ci := 0) (v := .int 0) (ty := .int) (C := RX0) (T := TX0) (N := 4) hx hb hts in_X0 tyX0 tyX0_ok nmX0 hown hT.1 hP hD hS 0 rfl rfl 0 (by decide) (hts _ fl_RX0_7) (fun _ h9 => h9) rfl (by decide +kernel) rfl rfl (Nat.le_of_ble_eq_true rfl) dX0_start_2 (fun H locs hP hD hS => ?_)
  have hP : va_P D vwCl [(bb, .inr (0, [.int 0, .int gs, .int ab, .int mn]))] H := hP
  have hD : va_D A [(bb, .inr (0, [.int 0, .int gs, .int ab, .int mn]))] := hD
  refine lv_aload_n hx hb dX0_start_5 rfl (lv_at hl 0 rfl) ?_
  refine lv_iload_n hx hb dX0_start_6 rfl (lv_at hl 1 rfl) ?_
  refine va_put (D := D) (ci := 0) (v := .int g0) (ty := .int) (C := RX0) (T := TX0) (N := 4) hx hb hts in_X0 tyX0 tyX0_ok nmX0 hown hT.1 hP hD hS 0 rfl rfl 1 (by decide) (hts _ fl_RX0_13) (fun _ h9 => h9) rfl (by decide +kernel) rfl rfl (Nat.le_of_ble_eq_true rfl) dX0_start_7 (fun H locs hP hD hS => ?_)
  have hP : va_P D vwCl [(bb, .inr (0, [.int 0, .int g0, .int ab, .int mn]))] H := hP
  have hD : va_D A [(bb, .inr (0, [.int 0, .int g0, .int ab, .int mn]))] := hD
  refine lv_aload_n hx hb dX0_start_10 rfl (lv_at hl 0 rfl) ?_
  refine lv_iload_n hx hb dX0_start_11 rfl (lv_at hl 2 rfl) ?_
  refine va_put (D := D) (ci := 0) (v := .int th) (ty := .int) (C := RX0) (T := TX0) (N := 4) hx hb hts in_X0 tyX0 tyX0_ok nmX0 hown hT.1 hP hD hS 0 rfl rfl 2 (by decide) (hts _ fl_RX0_16) (fun _ h9 => h9) rfl (by decide +kernel) rfl rfl (Nat.le_of_ble_eq_true rfl) dX0_start_12 (fun H locs hP hD hS => ?_)
  have hP : va_P D vwCl [(bb, .inr (0, [.int 0, .int g0, .int th, .int mn]))] H := hP
  have hD : va_D A [(bb, .inr (0, [.int 0, .int g0, .int th, .int mn]))] := hD
  refine lv_aload_n hx hb dX0_start_15 rfl (lv_at hl 0 rfl) ?_
  refine lv_iload_n hx hb dX0_start_16 rfl (lv_at hl 3 rfl) ?_
  refine va_put (D := D) (ci := 0) (v := .int m0) (ty := .int) (C := RX0) (T := TX0) (N := 4) hx hb hts in_X0 tyX0 tyX0_ok nmX0 hown hT.1 hP hD hS 0 rfl rfl 3 (by decide) (hts _ fl_RX0_19) (fun _ h9 => h9) rfl (by decide +kernel) rfl rfl (Nat.le_of_ble_eq_true rfl) dX0_start_17 (fun H locs hP hD hS => ?_)
  have hP : va_P D vwCl [(bb, .inr (0, [.int 0, .int g0, .int th, .int m0]))] H := hP
  have hD : va_D A [(bb, .inr (0, [.int 0, .int g0, .int th, .int m0]))] := hD
  exact hret _ _ H locs () dX0_start_20  trivial hP hS
abbrev rm_X0_fly : Room := { frames := 4, cells := 0, slots := 0, locals := 89 }
set_option maxRecDepth 100000 in
set_option maxHeartbeats 4000000 in
theorem c_X0_fly (l : Launch) (D : va_G) (cI cZ : ClassId) (bb : Nat) (pl gs ab mn : Int32) (h hn hw ht hs hp sn : Nat) (kp : Int32) (nm wd wt sT sP : Nat → Int32) : Met l yX0_fly [.code yX0_fly cX0_fly 2 none] rm_X0_fly (PcW D cI cZ [.ref bb, .ref h] [(bb, .inr (0, [.int pl, .int gs, .int ab, .int mn])), (h, .inr (7, [.ref hn, .ref hw, .ref ht, .ref hs, .ref hp, .int (nI sn), .int kp])), (hn, .inl (cI, 6, .inl nm)), (hw, .inl (cI, 10, .inl wd)), (ht, .inl (cI, 6, .inl wt)), (hs, .inl (cI, 6, .inl sT)), (hp, .inl (cI, 6, .inl sP))]) (QcE D (S := Unit) none (fun _ => True) (fun _ => [(bb, .inr (0, [.int (pl + (s_X8_cell 10 wd (((if mn < s_X8_cell 6 nm 0 then 0 else 1) * 5) + (s_X7_height nm wt gs ab)))), .int (if (gs - (s_X8_cell 6 nm 2)) < 0 then 0 else gs - (s_X8_cell 6 nm 2)), .int ab, .int (mn + 1)])), (h, .inr (7, [.ref hn, .ref hw, .ref ht, .ref hs, .ref hp, .int (nI sn), .int kp])), (hn, .inl (cI, 6, .inl nm)), (hw, .inl (cI, 10, .inl wd)), (ht, .inl (cI, 6, .inl wt)), (hs, .inl (cI, 6, .inl sT)), (hp, .inl (cI, 6, .inl sP))]) (zA [(bb, .inr (0, [.int pl, .int gs, .int ab, .int mn])), (h, .inr (7, [.ref hn, .ref hw, .ref ht, .ref hs, .ref hp, .int (nI sn), .int kp])), (hn, .inl (cI, 6, .inl nm)), (hw, .inl (cI, 10, .inl wd)), (ht, .inl (cI, 6, .inl wt)), (hs, .inl (cI, 6, .inl sT)), (hp, .inl (cI, 6, .inl sP))])) 0 0 (zA [(bb, .inr (0, [.int pl, .int gs, .int ab, .int mn])), (h, .inr (7, [.ref hn, .ref hw, .ref ht, .ref hs, .ref hp, .int (nI sn), .int kp])), (hn, .inl (cI, 6, .inl nm)), (hw, .inl (cI, 10, .inl wd)), (ht, .inl (cI, 6, .inl wt)), (hs, .inl (cI, 6, .inl sT)), (hp, .inl (cI, 6, .inl sP))]) := by
  refine mtWv (by decide) (Nat.le_of_ble_eq_true rfl) (fun p e s m args below meth c Q A S hT hP hD hS hret ls hl => ?_)
  have S : CallFix p m c cX0_fly 2 s args zt RX0 := S
  obtain ⟨hx, hb, hml, hown, hts⟩ := id S
  have hl : lv_has ls 2 [(0, .ref bb), (1, .ref h)] := hl
  refine lv_aload_n hx hb dX0_fly_0 rfl (lv_at hl 0 rfl) ?_
  refine lv_dup hx hb dX0_fly_1 rfl ?_
  refine va_get (D := D) (ci := 0) (v := .int pl) (C := RX0) (T := TX0) (N := 4) hx hb hts in_X0 hown hT.1 hP 0 rfl rfl 0 (by decide) (hts _ fl_RX0_7) (fun _ h9 => h9) rfl dX0_fly_2 ?_
  refine lv_aload_n hx hb dX0_fly_5 rfl (lv_at hl 1 rfl) ?_
  refine lv_aload_n hx hb dX0_fly_6 rfl (lv_at hl 0 rfl) ?_
  refine va_get (D := D) (ci := 0) (v := .int gs) (C := RX0) (T := TX0) (N := 4) hx hb hts in_X0 hown hT.1 hP 0 rfl rfl 1 (by decide) (hts _ fl_RX0_13) (fun _ h9 => h9) rfl dX0_fly_7 ?_
  refine lv_aload_n hx hb dX0_fly_10 rfl (lv_at hl 0 rfl) ?_
  refine va_get (D := D) (ci := 0) (v := .int ab) (C := RX0) (T := TX0) (N := 4) hx hb hts in_X0 hown hT.1 hP 0 rfl rfl 2 (by decide) (hts _ fl_RX0_16) (fun _ h9 => h9) rfl dX0_fly_11 ?_
  refine lv_aload_n hx hb dX0_fly_14 rfl (lv_at hl 0 rfl) ?_
  refine va_get (D := D) (ci := 0) (v := .int mn) (C := RX0) (T := TX0) (N := 4) hx hb hts in_X0 hown hT.1 hP 0 rfl rfl 3 (by decide) (hts _ fl_RX0_19) (fun _ h9 => h9) rfl dX0_fly_15 ?_
  refine kRV (q0 := 1) (st1 := [.int (s_X8_cell 10 wd (((if mn < s_X8_cell 6 nm 0 then 0 else 1) * 5) + (s_X7_height nm wt gs ab))), .int pl, .ref bb]) S hT hP (c_X7_drift l D cI cZ h hn hw ht hs hp sn kp nm wd wt sT sP gs ab mn) rfl rfl mw_X7_drift lk_RX0_22 ⟨rfl, rfl, (Nat.le_of_ble_eq_true rfl), (Nat.le_of_ble_eq_true rfl), (Nat.le_of_ble_eq_true rfl), (Nat.le_of_ble_eq_true rfl)⟩ [1, 2, 3, 4, 5, 6] rfl rfl rfl hl.1 (Nat.le_of_ble_eq_true rfl) dX0_fly_18 ?_
  refine lv_iadd hx hb dX0_fly_21 ?_
  refine va_put (D := D) (ci := 0) (v := .int (pl + (s_X8_cell 10 wd (((if mn < s_X8_cell 6 nm 0 then 0 else 1) * 5) + (s_X7_height nm wt gs ab))))) (ty := .int) (C := RX0) (T := TX0) (N := 4) hx hb hts in_X0 tyX0 tyX0_ok nmX0 hown hT.1 hP hD hS 0 rfl rfl 0 (by decide) (hts _ fl_RX0_7) (fun _ h9 => h9) rfl (by decide +kernel) rfl rfl (Nat.le_of_ble_eq_true rfl) dX0_fly_22 (fun H locs hP hD hS => ?_)
  have hP : va_P D vwCl [(bb, .inr (0, [.int (pl + (s_X8_cell 10 wd (((if mn < s_X8_cell 6 nm 0 then 0 else 1) * 5) + (s_X7_height nm wt gs ab)))), .int gs, .int ab, .int mn])), (h, .inr (7, [.ref hn, .ref hw, .ref ht, .ref hs, .ref hp, .int (nI sn), .int kp])), (hn, .inl (cI, 6, .inl nm)), (hw, .inl (cI, 10, .inl wd)), (ht, .inl (cI, 6, .inl wt)), (hs, .inl (cI, 6, .inl sT)), (hp, .inl (cI, 6, .inl sP))] H := hP
  have hD : va_D A [(bb, .inr (0, [.int (pl + (s_X8_cell 10 wd (((if mn < s_X8_cell 6 nm 0 then 0 else 1) * 5) + (s_X7_height nm wt gs ab)))), .int gs, .int ab, .int mn])), (h, .inr (7, [.ref hn, .ref hw, .ref ht, .ref hs, .ref hp, .int (nI sn), .int kp])), (hn, .inl (cI, 6, .inl nm)), (hw, .inl (cI, 10, .inl wd)), (ht, .inl (cI, 6, .inl wt)), (hs, .inl (cI, 6, .inl sT)), (hp, .inl (cI, 6, .inl sP))] := hD
  refine lv_aload_n hx hb dX0_fly_25 rfl (lv_at hl 0 rfl) ?_
  refine lv_aload_n hx hb dX0_fly_26 rfl (lv_at hl 1 rfl) ?_
  refine lv_aload_n hx hb dX0_fly_27 rfl (lv_at hl 0 rfl) ?_
  refine va_get (D := D) (ci := 0) (v := .int gs) (C := RX0) (T := TX0) (N := 4) hx hb hts in_X0 hown hT.1 hP 0 rfl rfl 1 (by decide) (hts _ fl_RX0_13) (fun _ h9 => h9) rfl dX0_fly_28 ?_
  refine kRV (q0 := 1) (st1 := [.int (if (gs - (s_X8_cell 6 nm 2)) < 0 then 0 else gs - (s_X8_cell 6 nm 2)), .ref bb]) S hT hP (c_X7_leaked l D cI cZ h hn hw ht hs hp sn kp nm wd wt sT sP gs) rfl rfl mw_X7_leaked lk_RX0_28 ⟨rfl, rfl, (Nat.le_of_ble_eq_true rfl), (Nat.le_of_ble_eq_true rfl), (Nat.le_of_ble_eq_true rfl), (Nat.le_of_ble_eq_true rfl)⟩ [1, 2, 3, 4, 5, 6] rfl rfl rfl hl.1 (Nat.le_of_ble_eq_true rfl) dX0_fly_31 ?_
  refine va_put (D := D) (ci := 0) (v := .int (if (gs - (s_X8_cell 6 nm 2)) < 0 then 0 else gs - (s_X8_cell 6 nm 2))) (ty := .int) (C := RX0) (T := TX0) (N := 4) hx hb hts in_X0 tyX0 tyX0_ok nmX0 hown hT.1 hP hD hS 0 rfl rfl 1 (by decide) (hts _ fl_RX0_13) (fun _ h9 => h9) rfl (by decide +kernel) rfl rfl (Nat.le_of_ble_eq_true rfl) dX0_fly_34 (fun H locs hP hD hS => ?_)
  have hP : va_P D vwCl [(bb, .inr (0, [.int (pl + (s_X8_cell 10 wd (((if mn < s_X8_cell 6 nm 0 then 0 else 1) * 5) + (s_X7_height nm wt gs ab)))), .int (if (gs - (s_X8_cell 6 nm 2)) < 0 then 0 else gs - (s_X8_cell 6 nm 2)), .int ab, .int mn])), (h, .inr (7, [.ref hn, .ref hw, .ref ht, .ref hs, .ref hp, .int (nI sn), .int kp])), (hn, .inl (cI, 6, .inl nm)), (hw, .inl (cI, 10, .inl wd)), (ht, .inl (cI, 6, .inl wt)), (hs, .inl (cI, 6, .inl sT)), (hp, .inl (cI, 6, .inl sP))] H := hP
  have hD : va_D A [(bb, .inr (0, [.int (pl + (s_X8_cell 10 wd (((if mn < s_X8_cell 6 nm 0 then 0 else 1) * 5) + (s_X7_height nm wt gs ab)))), .int (if (gs - (s_X8_cell 6 nm 2)) < 0 then 0 else gs - (s_X8_cell 6 nm 2)), .int ab, .int mn])), (h, .inr (7, [.ref hn, .ref hw, .ref ht, .ref hs, .ref hp, .int (nI sn), .int kp])), (hn, .inl (cI, 6, .inl nm)), (hw, .inl (cI, 10, .inl wd)), (ht, .inl (cI, 6, .inl wt)), (hs, .inl (cI, 6, .inl sT)), (hp, .inl (cI, 6, .inl sP))] := hD
  refine lv_aload_n hx hb dX0_fly_37 rfl (lv_at hl 0 rfl) ?_
  refine lv_dup hx hb dX0_fly_38 rfl ?_
  refine va_get (D := D) (ci := 0) (v := .int mn) (C := RX0) (T := TX0) (N := 4) hx hb hts in_X0 hown hT.1 hP 0 rfl rfl 3 (by decide) (hts _ fl_RX0_19) (fun _ h9 => h9) rfl dX0_fly_39 ?_
  refine lv_iconst (v := 1) hx hb dX0_fly_42 (by decide) ?_
  refine lv_iadd hx hb dX0_fly_43 ?_
  refine va_put (D := D) (ci := 0) (v := .int (mn + 1)) (ty := .int) (C := RX0) (T := TX0) (N := 4) hx hb hts in_X0 tyX0 tyX0_ok nmX0 hown hT.1 hP hD hS 0 rfl rfl 3 (by decide) (hts _ fl_RX0_19) (fun _ h9 => h9) rfl (by decide +kernel) rfl rfl (Nat.le_of_ble_eq_true rfl) dX0_fly_44 (fun H locs hP hD hS => ?_)
  have hP : va_P D vwCl [(bb, .inr (0, [.int (pl + (s_X8_cell 10 wd (((if mn < s_X8_cell 6 nm 0 then 0 else 1) * 5) + (s_X7_height nm wt gs ab)))), .int (if (gs - (s_X8_cell 6 nm 2)) < 0 then 0 else gs - (s_X8_cell 6 nm 2)), .int ab, .int (mn + 1)])), (h, .inr (7, [.ref hn, .ref hw, .ref ht, .ref hs, .ref hp, .int (nI sn), .int kp])), (hn, .inl (cI, 6, .inl nm)), (hw, .inl (cI, 10, .inl wd)), (ht, .inl (cI, 6, .inl wt)), (hs, .inl (cI, 6, .inl sT)), (hp, .inl (cI, 6, .inl sP))] H := hP
  have hD : va_D A [(bb, .inr (0, [.int (pl + (s_X8_cell 10 wd (((if mn < s_X8_cell 6 nm 0 then 0 else 1) * 5) + (s_X7_height nm wt gs ab)))), .int (if (gs - (s_X8_cell 6 nm 2)) < 0 then 0 else gs - (s_X8_cell 6 nm 2)), .int ab, .int (mn + 1)])), (h, .inr (7, [.ref hn, .ref hw, .ref ht, .ref hs, .ref hp, .int (nI sn), .int kp])), (hn, .inl (cI, 6, .inl nm)), (hw, .inl (cI, 10, .inl wd)), (ht, .inl (cI, 6, .inl wt)), (hs, .inl (cI, 6, .inl sT)), (hp, .inl (cI, 6, .inl sP))] := hD
  exact hret _ _ H locs () dX0_fly_47  trivial hP hS
abbrev rm_X0_lose : Room := { frames := 3, cells := 0, slots := 0, locals := 63 }
set_option maxRecDepth 100000 in
set_option maxHeartbeats 4000000 in
theorem c_X0_lose (l : Launch) (D : va_G) (cI cZ : ClassId) (bb : Nat) (pl gs ab mn t : Int32) : Met l yX0_lose [.code yX0_lose cX0_lose 2 none] rm_X0_lose (PcW D cI cZ [.ref bb, .int t] [(bb, .inr (0, [.int pl, .int gs, .int ab, .int mn]))]) (QcE D (S := Unit) none (fun _ => True) (fun _ => [(bb, .inr (0, [.int pl, .int gs, .int (s_X8_without ab t), .int mn]))]) (zA [(bb, .inr (0, [.int pl, .int gs, .int ab, .int mn]))])) 0 0 (zA [(bb, .inr (0, [.int pl, .int gs, .int ab, .int mn]))]) := by
  refine mtWv (by decide) (Nat.le_of_ble_eq_true rfl) (fun p e s m args below meth c Q A S hT hP hD hS hret ls hl => ?_)
  have S : CallFix p m c cX0_lose 2 s args zt RX0 := S
  obtain ⟨hx, hb, hml, hown, hts⟩ := id S
  have hl : lv_has ls 2 [(0, .ref bb), (1, .int t)] := hl
  refine lv_aload_n hx hb dX0_lose_0 rfl (lv_at hl 0 rfl) ?_
  refine lv_aload_n hx hb dX0_lose_1 rfl (lv_at hl 0 rfl) ?_
  refine va_get (D := D) (ci := 0) (v := .int ab) (C := RX0) (T := TX0) (N := 4) hx hb hts in_X0 hown hT.1 hP 0 rfl rfl 2 (by decide) (hts _ fl_RX0_16) (fun _ h9 => h9) rfl dX0_lose_2 ?_
  refine lv_iload_n hx hb dX0_lose_5 rfl (lv_at hl 1 rfl) ?_
  refine kRM (st1 := [.int (s_X8_without ab t), .ref bb]) S hT hP (c_X8_without l D cI cZ ab t) rfl rfl mw_X8_without ln_RX0_32 ⟨rfl, rfl, (Nat.le_of_ble_eq_true rfl), (Nat.le_of_ble_eq_true rfl), (Nat.le_of_ble_eq_true rfl), (Nat.le_of_ble_eq_true rfl)⟩ [] rfl hl.1 (Nat.le_of_ble_eq_true rfl) dX0_lose_6 ?_
  refine va_put (D := D) (ci := 0) (v := .int (s_X8_without ab t)) (ty := .int) (C := RX0) (T := TX0) (N := 4) hx hb hts in_X0 tyX0 tyX0_ok nmX0 hown hT.1 hP hD hS 0 rfl rfl 2 (by decide) (hts _ fl_RX0_16) (fun _ h9 => h9) rfl (by decide +kernel) rfl rfl (Nat.le_of_ble_eq_true rfl) dX0_lose_9 (fun H locs hP hD hS => ?_)
  have hP : va_P D vwCl [(bb, .inr (0, [.int pl, .int gs, .int (s_X8_without ab t), .int mn]))] H := hP
  have hD : va_D A [(bb, .inr (0, [.int pl, .int gs, .int (s_X8_without ab t), .int mn]))] := hD
  exact hret _ _ H locs () dX0_lose_12  trivial hP hS
abbrev rm_X0_place : Room := { frames := 0, cells := 0, slots := 0, locals := 0 }
set_option maxRecDepth 100000 in
set_option maxHeartbeats 4000000 in
theorem c_X0_place (l : Launch) (D : va_G) (cI cZ : ClassId) (bb : Nat) (pl gs ab mn : Int32) : Met l yX0_place [.code yX0_place cX0_place 1 (some .int)] rm_X0_place (PcR D cI cZ [.ref bb] [(bb, .inr (0, [.int pl, .int gs, .int ab, .int mn]))]) (QcR (some (.int pl))) 0 0 zN := by
  refine mtRi (by decide) (Nat.le_of_ble_eq_true rfl) (fun p e s m args below meth c Q S hT hP hret ls hl => ?_)
  have S : CallFix p m c cX0_place 1 s args zt RX0 := S
  obtain ⟨hx, hb, hml, hown, hts⟩ := id S
  have hl : lv_has ls 1 [(0, .ref bb)] := hl
  refine lv_aload_n hx hb dX0_place_0 rfl (lv_at hl 0 rfl) ?_
  refine va_get (D := D) (ci := 0) (v := .int pl) (C := RX0) (T := TX0) (N := 4) hx hb hts in_X0 hown hT.1 hP 0 rfl rfl 0 (by decide) (hts _ fl_RX0_7) (fun _ h9 => h9) rfl dX0_place_1 ?_
  exact hret _ _ _ dX0_place_4 rfl
abbrev rm_X0_gas : Room := { frames := 0, cells := 0, slots := 0, locals := 0 }
set_option maxRecDepth 100000 in
set_option maxHeartbeats 4000000 in
theorem c_X0_gas (l : Launch) (D : va_G) (cI cZ : ClassId) (bb : Nat) (pl gs ab mn : Int32) : Met l yX0_gas [.code yX0_gas cX0_gas 1 (some .int)] rm_X0_gas (PcR D cI cZ [.ref bb] [(bb, .inr (0, [.int pl, .int gs, .int ab, .int mn]))]) (QcR (some (.int gs))) 0 0 zN := by
  refine mtRi (by decide) (Nat.le_of_ble_eq_true rfl) (fun p e s m args below meth c Q S hT hP hret ls hl => ?_)
  have S : CallFix p m c cX0_gas 1 s args zt RX0 := S
  obtain ⟨hx, hb, hml, hown, hts⟩ := id S
  have hl : lv_has ls 1 [(0, .ref bb)] := hl
  refine lv_aload_n hx hb dX0_gas_0 rfl (lv_at hl 0 rfl) ?_
  refine va_get (D := D) (ci := 0) (v := .int gs) (C := RX0) (T := TX0) (N := 4) hx hb hts in_X0 hown hT.1 hP 0 rfl rfl 1 (by decide) (hts _ fl_RX0_13) (fun _ h9 => h9) rfl dX0_gas_1 ?_
  exact hret _ _ _ dX0_gas_4 rfl
abbrev rm_X0_aboard : Room := { frames := 0, cells := 0, slots := 0, locals := 0 }
set_option maxRecDepth 100000 in
set_option maxHeartbeats 4000000 in
theorem c_X0_aboard (l : Launch) (D : va_G) (cI cZ : ClassId) (bb : Nat) (pl gs ab mn : Int32) : Met l yX0_aboard [.code yX0_aboard cX0_aboard 1 (some .int)] rm_X0_aboard (PcR D cI cZ [.ref bb] [(bb, .inr (0, [.int pl, .int gs, .int ab, .int mn]))]) (QcR (some (.int ab))) 0 0 zN := by
  refine mtRi (by decide) (Nat.le_of_ble_eq_true rfl) (fun p e s m args below meth c Q S hT hP hret ls hl => ?_)
  have S : CallFix p m c cX0_aboard 1 s args zt RX0 := S
  obtain ⟨hx, hb, hml, hown, hts⟩ := id S
  have hl : lv_has ls 1 [(0, .ref bb)] := hl
  refine lv_aload_n hx hb dX0_aboard_0 rfl (lv_at hl 0 rfl) ?_
  refine va_get (D := D) (ci := 0) (v := .int ab) (C := RX0) (T := TX0) (N := 4) hx hb hts in_X0 hown hT.1 hP 0 rfl rfl 2 (by decide) (hts _ fl_RX0_16) (fun _ h9 => h9) rfl dX0_aboard_1 ?_
  exact hret _ _ _ dX0_aboard_4 rfl
end
section
theorem zz_look : True := trivial
end
