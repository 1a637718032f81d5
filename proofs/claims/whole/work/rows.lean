section
-- ===== PART A: goes FIRST, ahead of the names: the tables' words, and 'selects' of the private methods out of them =====
/-- a private method of a class that the tables say can be made, by its rows of tables_1 -/
def lw_okq (q : MethodName × Nat) : Prop := (q.1.cls ≠ "java/lang/invoke/MethodHandle" ∧ q.1.cls ≠ "java/lang/invoke/VarHandle") ∧ Cond.instantiable q.1.cls q.2 ∈ tables_1 ∧ Cond.privateMethod q.1 ∈ tables_1 ∧ Cond.instanceMethod q.1 ∈ tables_1
theorem lw_p0 : lw_okq (⟨"LoomPanel", "isValueOrNone", "(I)Z"⟩, 5) := ⟨⟨by decide +kernel, by decide +kernel⟩, List.mem_of_getElem? (i := 6) (by decide +kernel), List.mem_of_getElem? (i := 152) (by decide +kernel), List.mem_of_getElem? (i := 153) (by decide +kernel)⟩
theorem lw_p1 : lw_okq (⟨"LoomPanel", "answerOf", "(IIII)I"⟩, 5) := ⟨⟨by decide +kernel, by decide +kernel⟩, List.mem_of_getElem? (i := 6) (by decide +kernel), List.mem_of_getElem? (i := 157) (by decide +kernel), List.mem_of_getElem? (i := 158) (by decide +kernel)⟩
theorem lw_p2 : lw_okq (⟨"LoomPanel", "makes", "(II)I"⟩, 5) := ⟨⟨by decide +kernel, by decide +kernel⟩, List.mem_of_getElem? (i := 6) (by decide +kernel), List.mem_of_getElem? (i := 165) (by decide +kernel), List.mem_of_getElem? (i := 166) (by decide +kernel)⟩
theorem lw_p3 : lw_okq (⟨"LoomPanel", "sum", "(I)I"⟩, 5) := ⟨⟨by decide +kernel, by decide +kernel⟩, List.mem_of_getElem? (i := 6) (by decide +kernel), List.mem_of_getElem? (i := 176) (by decide +kernel), List.mem_of_getElem? (i := 177) (by decide +kernel)⟩
theorem lw_p4 : lw_okq (⟨"LoomPanel", "totalOf", "(I)J"⟩, 5) := ⟨⟨by decide +kernel, by decide +kernel⟩, List.mem_of_getElem? (i := 6) (by decide +kernel), List.mem_of_getElem? (i := 180) (by decide +kernel), List.mem_of_getElem? (i := 181) (by decide +kernel)⟩
theorem lw_p5 : lw_okq (⟨"LoomPanel", "widen", "(I)I"⟩, 5) := ⟨⟨by decide +kernel, by decide +kernel⟩, List.mem_of_getElem? (i := 6) (by decide +kernel), List.mem_of_getElem? (i := 193) (by decide +kernel), List.mem_of_getElem? (i := 194) (by decide +kernel)⟩
theorem lw_p6 : lw_okq (⟨"LoomPanel", "narrow", "(I)I"⟩, 5) := ⟨⟨by decide +kernel, by decide +kernel⟩, List.mem_of_getElem? (i := 6) (by decide +kernel), List.mem_of_getElem? (i := 207) (by decide +kernel), List.mem_of_getElem? (i := 208) (by decide +kernel)⟩
theorem lw_p7 : lw_okq (⟨"LoomPanel", "tap", "(II)I"⟩, 5) := ⟨⟨by decide +kernel, by decide +kernel⟩, List.mem_of_getElem? (i := 6) (by decide +kernel), List.mem_of_getElem? (i := 211) (by decide +kernel), List.mem_of_getElem? (i := 212) (by decide +kernel)⟩
theorem lw_p8 : lw_okq (⟨"LoomPanel", "lay", "(III)I"⟩, 5) := ⟨⟨by decide +kernel, by decide +kernel⟩, List.mem_of_getElem? (i := 6) (by decide +kernel), List.mem_of_getElem? (i := 219) (by decide +kernel), List.mem_of_getElem? (i := 220) (by decide +kernel)⟩
theorem lw_p9 : lw_okq (⟨"LoomPanel", "askedByLay", "(I)I"⟩, 5) := ⟨⟨by decide +kernel, by decide +kernel⟩, List.mem_of_getElem? (i := 6) (by decide +kernel), List.mem_of_getElem? (i := 223) (by decide +kernel), List.mem_of_getElem? (i := 224) (by decide +kernel)⟩
theorem lw_p10 : lw_okq (⟨"LoomPanel", "isNoneOr", "(II)Z"⟩, 5) := ⟨⟨by decide +kernel, by decide +kernel⟩, List.mem_of_getElem? (i := 6) (by decide +kernel), List.mem_of_getElem? (i := 227) (by decide +kernel), List.mem_of_getElem? (i := 228) (by decide +kernel)⟩
theorem lw_p11 : lw_okq (⟨"LoomPanel", "levels", "(I)I"⟩, 5) := ⟨⟨by decide +kernel, by decide +kernel⟩, List.mem_of_getElem? (i := 6) (by decide +kernel), List.mem_of_getElem? (i := 234) (by decide +kernel), List.mem_of_getElem? (i := 235) (by decide +kernel)⟩
theorem lw_p12 : lw_okq (⟨"LoomPanel", "levelsTimes", "(IJ)I"⟩, 5) := ⟨⟨by decide +kernel, by decide +kernel⟩, List.mem_of_getElem? (i := 6) (by decide +kernel), List.mem_of_getElem? (i := 238) (by decide +kernel), List.mem_of_getElem? (i := 239) (by decide +kernel)⟩
theorem lw_p13 : lw_okq (⟨"LoomPanel", "drive", "(IZ)I"⟩, 5) := ⟨⟨by decide +kernel, by decide +kernel⟩, List.mem_of_getElem? (i := 6) (by decide +kernel), List.mem_of_getElem? (i := 242) (by decide +kernel), List.mem_of_getElem? (i := 243) (by decide +kernel)⟩
theorem lw_p14 : lw_okq (⟨"LoomPanel", "pair", "(IIZ)I"⟩, 5) := ⟨⟨by decide +kernel, by decide +kernel⟩, List.mem_of_getElem? (i := 6) (by decide +kernel), List.mem_of_getElem? (i := 246) (by decide +kernel), List.mem_of_getElem? (i := 247) (by decide +kernel)⟩
theorem lw_p15 : lw_okq (⟨"LoomPanel", "power", "(I)I"⟩, 5) := ⟨⟨by decide +kernel, by decide +kernel⟩, List.mem_of_getElem? (i := 6) (by decide +kernel), List.mem_of_getElem? (i := 250) (by decide +kernel), List.mem_of_getElem? (i := 251) (by decide +kernel)⟩
def lw_privs_1 : List (MethodName × Nat) := [(⟨"LoomPanel", "isValueOrNone", "(I)Z"⟩, 5), (⟨"LoomPanel", "answerOf", "(IIII)I"⟩, 5), (⟨"LoomPanel", "makes", "(II)I"⟩, 5), (⟨"LoomPanel", "sum", "(I)I"⟩, 5), (⟨"LoomPanel", "totalOf", "(I)J"⟩, 5), (⟨"LoomPanel", "widen", "(I)I"⟩, 5), (⟨"LoomPanel", "narrow", "(I)I"⟩, 5), (⟨"LoomPanel", "tap", "(II)I"⟩, 5), (⟨"LoomPanel", "lay", "(III)I"⟩, 5), (⟨"LoomPanel", "askedByLay", "(I)I"⟩, 5), (⟨"LoomPanel", "isNoneOr", "(II)Z"⟩, 5), (⟨"LoomPanel", "levels", "(I)I"⟩, 5), (⟨"LoomPanel", "levelsTimes", "(IJ)I"⟩, 5), (⟨"LoomPanel", "drive", "(IZ)I"⟩, 5), (⟨"LoomPanel", "pair", "(IIZ)I"⟩, 5), (⟨"LoomPanel", "power", "(I)I"⟩, 5)]
theorem lw_r1 : ∀ q ∈ lw_privs_1, lw_okq q := List.forall_mem_cons.mpr ⟨lw_p0, List.forall_mem_cons.mpr ⟨lw_p1, List.forall_mem_cons.mpr ⟨lw_p2, List.forall_mem_cons.mpr ⟨lw_p3, List.forall_mem_cons.mpr ⟨lw_p4, List.forall_mem_cons.mpr ⟨lw_p5, List.forall_mem_cons.mpr ⟨lw_p6, List.forall_mem_cons.mpr ⟨lw_p7, List.forall_mem_cons.mpr ⟨lw_p8, List.forall_mem_cons.mpr ⟨lw_p9, List.forall_mem_cons.mpr ⟨lw_p10, List.forall_mem_cons.mpr ⟨lw_p11, List.forall_mem_cons.mpr ⟨lw_p12, List.forall_mem_cons.mpr ⟨lw_p13, List.forall_mem_cons.mpr ⟨lw_p14, List.forall_mem_cons.mpr ⟨lw_p15, fun _ h => absurd h List.not_mem_nil⟩⟩⟩⟩⟩⟩⟩⟩⟩⟩⟩⟩⟩⟩⟩⟩
theorem lw_p16 : lw_okq (⟨"LoomPanel", "join", "(II)I"⟩, 5) := ⟨⟨by decide +kernel, by decide +kernel⟩, List.mem_of_getElem? (i := 6) (by decide +kernel), List.mem_of_getElem? (i := 255) (by decide +kernel), List.mem_of_getElem? (i := 256) (by decide +kernel)⟩
theorem lw_p17 : lw_okq (⟨"LoomPanel", "holdsOnlyLives", "(I)Z"⟩, 5) := ⟨⟨by decide +kernel, by decide +kernel⟩, List.mem_of_getElem? (i := 6) (by decide +kernel), List.mem_of_getElem? (i := 259) (by decide +kernel), List.mem_of_getElem? (i := 260) (by decide +kernel)⟩
theorem lw_p18 : lw_okq (⟨"LoomPanel", "copy", "(I)I"⟩, 5) := ⟨⟨by decide +kernel, by decide +kernel⟩, List.mem_of_getElem? (i := 6) (by decide +kernel), List.mem_of_getElem? (i := 264) (by decide +kernel), List.mem_of_getElem? (i := 265) (by decide +kernel)⟩
theorem lw_p19 : lw_okq (⟨"LoomPanel", "makeCable", "(I)I"⟩, 5) := ⟨⟨by decide +kernel, by decide +kernel⟩, List.mem_of_getElem? (i := 6) (by decide +kernel), List.mem_of_getElem? (i := 268) (by decide +kernel), List.mem_of_getElem? (i := 269) (by decide +kernel)⟩
theorem lw_p20 : lw_okq (⟨"LoomPanel", "check", "(II)I"⟩, 5) := ⟨⟨by decide +kernel, by decide +kernel⟩, List.mem_of_getElem? (i := 6) (by decide +kernel), List.mem_of_getElem? (i := 272) (by decide +kernel), List.mem_of_getElem? (i := 273) (by decide +kernel)⟩
theorem lw_p21 : lw_okq (⟨"LoomPanel", "noted", "(I)I"⟩, 5) := ⟨⟨by decide +kernel, by decide +kernel⟩, List.mem_of_getElem? (i := 6) (by decide +kernel), List.mem_of_getElem? (i := 279) (by decide +kernel), List.mem_of_getElem? (i := 280) (by decide +kernel)⟩
theorem lw_p22 : lw_okq (⟨"LoomPanel$Patches", "hasStep", "(II)Z"⟩, 4) := ⟨⟨by decide +kernel, by decide +kernel⟩, List.mem_of_getElem? (i := 38) (by decide +kernel), List.mem_of_getElem? (i := 311) (by decide +kernel), List.mem_of_getElem? (i := 312) (by decide +kernel)⟩
theorem lw_p23 : lw_okq (⟨"LoomPanelModel", "make", "(II)I"⟩, 13) := ⟨⟨by decide +kernel, by decide +kernel⟩, List.mem_of_getElem? (i := 365) (by decide +kernel), List.mem_of_getElem? (i := 418) (by decide +kernel), List.mem_of_getElem? (i := 419) (by decide +kernel)⟩
theorem lw_p24 : lw_okq (⟨"LoomPanelModel", "isValue", "(I)Z"⟩, 13) := ⟨⟨by decide +kernel, by decide +kernel⟩, List.mem_of_getElem? (i := 365) (by decide +kernel), List.mem_of_getElem? (i := 434) (by decide +kernel), List.mem_of_getElem? (i := 435) (by decide +kernel)⟩
theorem lw_p25 : lw_okq (⟨"LoomPanelModel", "isRow", "(I)Z"⟩, 13) := ⟨⟨by decide +kernel, by decide +kernel⟩, List.mem_of_getElem? (i := 365) (by decide +kernel), List.mem_of_getElem? (i := 438) (by decide +kernel), List.mem_of_getElem? (i := 439) (by decide +kernel)⟩
theorem lw_p26 : lw_okq (⟨"LoomPanelModel", "isOf", "(II)Z"⟩, 13) := ⟨⟨by decide +kernel, by decide +kernel⟩, List.mem_of_getElem? (i := 365) (by decide +kernel), List.mem_of_getElem? (i := 449) (by decide +kernel), List.mem_of_getElem? (i := 450) (by decide +kernel)⟩
theorem lw_p27 : lw_okq (⟨"LoomPanelModel", "mayBe", "(I)Z"⟩, 13) := ⟨⟨by decide +kernel, by decide +kernel⟩, List.mem_of_getElem? (i := 365) (by decide +kernel), List.mem_of_getElem? (i := 460) (by decide +kernel), List.mem_of_getElem? (i := 461) (by decide +kernel)⟩
theorem lw_p28 : lw_okq (⟨"LoomPanelModel", "work", "(IIII)I"⟩, 13) := ⟨⟨by decide +kernel, by decide +kernel⟩, List.mem_of_getElem? (i := 365) (by decide +kernel), List.mem_of_getElem? (i := 464) (by decide +kernel), List.mem_of_getElem? (i := 465) (by decide +kernel)⟩
theorem lw_p29 : lw_okq (⟨"LoomPanelModel", "makes", "(II)I"⟩, 13) := ⟨⟨by decide +kernel, by decide +kernel⟩, List.mem_of_getElem? (i := 365) (by decide +kernel), List.mem_of_getElem? (i := 468) (by decide +kernel), List.mem_of_getElem? (i := 469) (by decide +kernel)⟩
theorem lw_p30 : lw_okq (⟨"LoomPanelModel", "tap", "(II)I"⟩, 13) := ⟨⟨by decide +kernel, by decide +kernel⟩, List.mem_of_getElem? (i := 365) (by decide +kernel), List.mem_of_getElem? (i := 475) (by decide +kernel), List.mem_of_getElem? (i := 476) (by decide +kernel)⟩
theorem lw_p31 : lw_okq (⟨"LoomPanelModel", "hasPlaces", "(I)Z"⟩, 13) := ⟨⟨by decide +kernel, by decide +kernel⟩, List.mem_of_getElem? (i := 365) (by decide +kernel), List.mem_of_getElem? (i := 479) (by decide +kernel), List.mem_of_getElem? (i := 480) (by decide +kernel)⟩
def lw_privs_2 : List (MethodName × Nat) := [(⟨"LoomPanel", "join", "(II)I"⟩, 5), (⟨"LoomPanel", "holdsOnlyLives", "(I)Z"⟩, 5), (⟨"LoomPanel", "copy", "(I)I"⟩, 5), (⟨"LoomPanel", "makeCable", "(I)I"⟩, 5), (⟨"LoomPanel", "check", "(II)I"⟩, 5), (⟨"LoomPanel", "noted", "(I)I"⟩, 5), (⟨"LoomPanel$Patches", "hasStep", "(II)Z"⟩, 4), (⟨"LoomPanelModel", "make", "(II)I"⟩, 13), (⟨"LoomPanelModel", "isValue", "(I)Z"⟩, 13), (⟨"LoomPanelModel", "isRow", "(I)Z"⟩, 13), (⟨"LoomPanelModel", "isOf", "(II)Z"⟩, 13), (⟨"LoomPanelModel", "mayBe", "(I)Z"⟩, 13), (⟨"LoomPanelModel", "work", "(IIII)I"⟩, 13), (⟨"LoomPanelModel", "makes", "(II)I"⟩, 13), (⟨"LoomPanelModel", "tap", "(II)I"⟩, 13), (⟨"LoomPanelModel", "hasPlaces", "(I)Z"⟩, 13)]
theorem lw_r2 : ∀ q ∈ lw_privs_2, lw_okq q := List.forall_mem_cons.mpr ⟨lw_p16, List.forall_mem_cons.mpr ⟨lw_p17, List.forall_mem_cons.mpr ⟨lw_p18, List.forall_mem_cons.mpr ⟨lw_p19, List.forall_mem_cons.mpr ⟨lw_p20, List.forall_mem_cons.mpr ⟨lw_p21, List.forall_mem_cons.mpr ⟨lw_p22, List.forall_mem_cons.mpr ⟨lw_p23, List.forall_mem_cons.mpr ⟨lw_p24, List.forall_mem_cons.mpr ⟨lw_p25, List.forall_mem_cons.mpr ⟨lw_p26, List.forall_mem_cons.mpr ⟨lw_p27, List.forall_mem_cons.mpr ⟨lw_p28, List.forall_mem_cons.mpr ⟨lw_p29, List.forall_mem_cons.mpr ⟨lw_p30, List.forall_mem_cons.mpr ⟨lw_p31, fun _ h => absurd h List.not_mem_nil⟩⟩⟩⟩⟩⟩⟩⟩⟩⟩⟩⟩⟩⟩⟩⟩
theorem lw_p32 : lw_okq (⟨"LoomPanelModel", "lay", "(III)I"⟩, 13) := ⟨⟨by decide +kernel, by decide +kernel⟩, List.mem_of_getElem? (i := 365) (by decide +kernel), List.mem_of_getElem? (i := 483) (by decide +kernel), List.mem_of_getElem? (i := 484) (by decide +kernel)⟩
theorem lw_p33 : lw_okq (⟨"LoomPanelModel", "takes", "(II)Z"⟩, 13) := ⟨⟨by decide +kernel, by decide +kernel⟩, List.mem_of_getElem? (i := 365) (by decide +kernel), List.mem_of_getElem? (i := 487) (by decide +kernel), List.mem_of_getElem? (i := 488) (by decide +kernel)⟩
theorem lw_p34 : lw_okq (⟨"LoomPanelModel", "sum", "(I)I"⟩, 13) := ⟨⟨by decide +kernel, by decide +kernel⟩, List.mem_of_getElem? (i := 365) (by decide +kernel), List.mem_of_getElem? (i := 491) (by decide +kernel), List.mem_of_getElem? (i := 492) (by decide +kernel)⟩
theorem lw_p35 : lw_okq (⟨"LoomPanelModel", "sumOf", "(I)J"⟩, 13) := ⟨⟨by decide +kernel, by decide +kernel⟩, List.mem_of_getElem? (i := 365) (by decide +kernel), List.mem_of_getElem? (i := 495) (by decide +kernel), List.mem_of_getElem? (i := 496) (by decide +kernel)⟩
theorem lw_p36 : lw_okq (⟨"LoomPanelModel", "turned", "(II)I"⟩, 13) := ⟨⟨by decide +kernel, by decide +kernel⟩, List.mem_of_getElem? (i := 365) (by decide +kernel), List.mem_of_getElem? (i := 499) (by decide +kernel), List.mem_of_getElem? (i := 500) (by decide +kernel)⟩
theorem lw_p37 : lw_okq (⟨"LoomPanelModel", "levelsOf", "(II)I"⟩, 13) := ⟨⟨by decide +kernel, by decide +kernel⟩, List.mem_of_getElem? (i := 365) (by decide +kernel), List.mem_of_getElem? (i := 503) (by decide +kernel), List.mem_of_getElem? (i := 504) (by decide +kernel)⟩
theorem lw_p38 : lw_okq (⟨"LoomPanelModel", "drive", "(II)I"⟩, 13) := ⟨⟨by decide +kernel, by decide +kernel⟩, List.mem_of_getElem? (i := 365) (by decide +kernel), List.mem_of_getElem? (i := 507) (by decide +kernel), List.mem_of_getElem? (i := 508) (by decide +kernel)⟩
theorem lw_p39 : lw_okq (⟨"LoomPanelModel", "pair", "(III)I"⟩, 13) := ⟨⟨by decide +kernel, by decide +kernel⟩, List.mem_of_getElem? (i := 365) (by decide +kernel), List.mem_of_getElem? (i := 511) (by decide +kernel), List.mem_of_getElem? (i := 512) (by decide +kernel)⟩
theorem lw_p40 : lw_okq (⟨"LoomPanelModel", "power", "(I)I"⟩, 13) := ⟨⟨by decide +kernel, by decide +kernel⟩, List.mem_of_getElem? (i := 365) (by decide +kernel), List.mem_of_getElem? (i := 515) (by decide +kernel), List.mem_of_getElem? (i := 516) (by decide +kernel)⟩
theorem lw_p41 : lw_okq (⟨"LoomPanelModel", "join", "(II)I"⟩, 13) := ⟨⟨by decide +kernel, by decide +kernel⟩, List.mem_of_getElem? (i := 365) (by decide +kernel), List.mem_of_getElem? (i := 519) (by decide +kernel), List.mem_of_getElem? (i := 520) (by decide +kernel)⟩
theorem lw_p42 : lw_okq (⟨"LoomPanelModel", "copy", "(I)I"⟩, 13) := ⟨⟨by decide +kernel, by decide +kernel⟩, List.mem_of_getElem? (i := 365) (by decide +kernel), List.mem_of_getElem? (i := 523) (by decide +kernel), List.mem_of_getElem? (i := 524) (by decide +kernel)⟩
theorem lw_p43 : lw_okq (⟨"LoomPanelModel", "noted", "(I)I"⟩, 13) := ⟨⟨by decide +kernel, by decide +kernel⟩, List.mem_of_getElem? (i := 365) (by decide +kernel), List.mem_of_getElem? (i := 527) (by decide +kernel), List.mem_of_getElem? (i := 528) (by decide +kernel)⟩
def lw_privs_3 : List (MethodName × Nat) := [(⟨"LoomPanelModel", "lay", "(III)I"⟩, 13), (⟨"LoomPanelModel", "takes", "(II)Z"⟩, 13), (⟨"LoomPanelModel", "sum", "(I)I"⟩, 13), (⟨"LoomPanelModel", "sumOf", "(I)J"⟩, 13), (⟨"LoomPanelModel", "turned", "(II)I"⟩, 13), (⟨"LoomPanelModel", "levelsOf", "(II)I"⟩, 13), (⟨"LoomPanelModel", "drive", "(II)I"⟩, 13), (⟨"LoomPanelModel", "pair", "(III)I"⟩, 13), (⟨"LoomPanelModel", "power", "(I)I"⟩, 13), (⟨"LoomPanelModel", "join", "(II)I"⟩, 13), (⟨"LoomPanelModel", "copy", "(I)I"⟩, 13), (⟨"LoomPanelModel", "noted", "(I)I"⟩, 13)]
theorem lw_r3 : ∀ q ∈ lw_privs_3, lw_okq q := List.forall_mem_cons.mpr ⟨lw_p32, List.forall_mem_cons.mpr ⟨lw_p33, List.forall_mem_cons.mpr ⟨lw_p34, List.forall_mem_cons.mpr ⟨lw_p35, List.forall_mem_cons.mpr ⟨lw_p36, List.forall_mem_cons.mpr ⟨lw_p37, List.forall_mem_cons.mpr ⟨lw_p38, List.forall_mem_cons.mpr ⟨lw_p39, List.forall_mem_cons.mpr ⟨lw_p40, List.forall_mem_cons.mpr ⟨lw_p41, List.forall_mem_cons.mpr ⟨lw_p42, List.forall_mem_cons.mpr ⟨lw_p43, fun _ h => absurd h List.not_mem_nil⟩⟩⟩⟩⟩⟩⟩⟩⟩⟩⟩⟩
def lw_privs : List (MethodName × Nat) := lw_privs_1 ++ (lw_privs_2 ++ (lw_privs_3))
def lw_tbl : List Cond := k2_sels lw_privs ++ tables_1
theorem lw_privs_ok : ∀ q ∈ lw_privs, lw_okq q := by
  show ∀ q ∈ lw_privs_1 ++ (lw_privs_2 ++ (lw_privs_3)), lw_okq q
  exact List.forall_mem_append.mpr ⟨lw_r1, List.forall_mem_append.mpr ⟨lw_r2, lw_r3⟩⟩
-- ===== end of PART A; then your names; then what follows =====
end
section
/-! ===== BEGIN words of one list among another's, by their places ===== -/
theorem goodIn_r {big : List Cond} (ws : List Cond) (ps : List Nat) (hp : ws = ps.filterMap (fun i => big[i]?)) (h : ws.all goodWord = true) : GoodIn big ws := by
  intro w hw
  have h1 := List.all_eq_true.mp h w hw
  rw [hp] at hw
  obtain ⟨i, -, hi⟩ := List.mem_filterMap.mp hw
  have hm : w ∈ big := by first | exact List.mem_of_getElem? hi | exact List.getElem?_mem hi
  exact ⟨hm, good_of_word h1⟩
theorem goodIn_app {big a b : List Cond} (ha : GoodIn big a) (hb : GoodIn big b) : GoodIn big (a ++ b) := fun w h => (List.mem_append.mp h).elim (ha w) (hb w)
theorem goodIn_ca {big a b : List Cond} {c : Cond} (ha : GoodIn big (c :: a)) (hb : GoodIn big b) : GoodIn big (c :: (a ++ b)) := fun w h => (List.mem_cons.mp h).elim (fun e => ha w (List.mem_cons.mpr (Or.inl e))) (fun h => (List.mem_append.mp h).elim (fun h => ha w (List.mem_cons.mpr (Or.inr h))) (hb w))
theorem goodIn_sub {big ws : List Cond} (hm : ∀ w ∈ ws, w ∈ big) (h : ws.all goodWord = true) : GoodIn big ws := fun w hw => ⟨hm w hw, good_of_word (List.all_eq_true.mp h w hw)⟩
/-! ===== END ===== -/

/-! ===== BEGIN printed: names, fields, word lists, decode rows ===== -/
def RX0 : String := "LoomPanel$Patches"
def TX0 : u_T := fun k => match k with
  | 0 => ("LoomPanel$Patches", "lengths", "[I", true)
  | 1 => ("LoomPanel$Patches", "acts", "[I", true)
  | 2 => ("LoomPanel$Patches", "ys", "[I", true)
  | _ => ("LoomPanel$Patches", "ns", "[I", true)
def tyX0 : Nat → FieldType := fun k => match k with
  | 0 => .array .int
  | 1 => .array .int
  | 2 => .array .int
  | _ => .array .int
abbrev wsX00 : List Cond := u_ws RX0 TX0 4
theorem nmX0 : ∀ a, a < 4 → ∀ b, b < 4 → a ≠ b → (TX0 a).2.1 ≠ (TX0 b).2.1 := by decide +kernel
theorem tyX0_ok : ∀ k, k < 4 → parseFieldDescriptor (TX0 k).2.2.1 = some (tyX0 k) := by decide +kernel
abbrev cX0_init : ByteArray := prog_2_method_1_code
def yX0_init : MethodName := ⟨RX0, "<init>", "()V"⟩
abbrev cX0_has : ByteArray := prog_2_method_2_code
def yX0_has : MethodName := ⟨RX0, "has", "(I)Z"⟩
abbrev cX0_hasStep : ByteArray := prog_2_method_3_code
def yX0_hasStep : MethodName := ⟨RX0, "hasStep", "(II)Z"⟩
abbrev cX0_lengthOf : ByteArray := prog_2_method_4_code
def yX0_lengthOf : MethodName := ⟨RX0, "lengthOf", "(I)I"⟩
abbrev cX0_actOf : ByteArray := prog_2_method_5_code
def yX0_actOf : MethodName := ⟨RX0, "actOf", "(II)I"⟩
abbrev cX0_yOf : ByteArray := prog_2_method_6_code
def yX0_yOf : MethodName := ⟨RX0, "yOf", "(II)I"⟩
abbrev cX0_nOf : ByteArray := prog_2_method_7_code
def yX0_nOf : MethodName := ⟨RX0, "nOf", "(II)I"⟩
abbrev cX0_append : ByteArray := prog_2_method_8_code
def yX0_append : MethodName := ⟨RX0, "append", "(IIII)I"⟩
abbrev cX0_drop : ByteArray := prog_2_method_9_code
def yX0_drop : MethodName := ⟨RX0, "drop", "(I)I"⟩
abbrev cX0_dropAll : ByteArray := prog_2_method_10_code
def yX0_dropAll : MethodName := ⟨RX0, "dropAll", "()V"⟩
def RX1 : String := "LoomPanel$Values"
def TX1 : u_T := fun k => match k with
  | 0 => ("LoomPanel$Values", "forms", "[I", true)
  | 1 => ("LoomPanel$Values", "lengths", "[I", true)
  | 2 => ("LoomPanel$Values", "levels", "[I", true)
  | 3 => ("LoomPanel$Values", "cells", "[J", true)
  | _ => ("LoomPanel$Values", "made", "I", false)
def tyX1 : Nat → FieldType := fun k => match k with
  | 0 => .array .int
  | 1 => .array .int
  | 2 => .array .int
  | 3 => .array .long
  | _ => .int
abbrev wsX10 : List Cond := u_ws RX1 TX1 5
theorem nmX1 : ∀ a, a < 5 → ∀ b, b < 5 → a ≠ b → (TX1 a).2.1 ≠ (TX1 b).2.1 := by decide +kernel
theorem tyX1_ok : ∀ k, k < 5 → parseFieldDescriptor (TX1 k).2.2.1 = some (tyX1 k) := by decide +kernel
abbrev cX1_init : ByteArray := prog_3_method_1_code
def yX1_init : MethodName := ⟨RX1, "<init>", "()V"⟩
abbrev cX1_made : ByteArray := prog_3_method_2_code
def yX1_made : MethodName := ⟨RX1, "made", "()I"⟩
abbrev cX1_has : ByteArray := prog_3_method_3_code
def yX1_has : MethodName := ⟨RX1, "has", "(I)Z"⟩
abbrev cX1_hasPlace : ByteArray := prog_3_method_4_code
def yX1_hasPlace : MethodName := ⟨RX1, "hasPlace", "(II)Z"⟩
abbrev cX1_formOf : ByteArray := prog_3_method_5_code
def yX1_formOf : MethodName := ⟨RX1, "formOf", "(I)I"⟩
abbrev cX1_isA : ByteArray := prog_3_method_6_code
def yX1_isA : MethodName := ⟨RX1, "isA", "(II)Z"⟩
abbrev cX1_isNumbers : ByteArray := prog_3_method_7_code
def yX1_isNumbers : MethodName := ⟨RX1, "isNumbers", "(I)Z"⟩
abbrev cX1_lengthOf : ByteArray := prog_3_method_8_code
def yX1_lengthOf : MethodName := ⟨RX1, "lengthOf", "(I)I"⟩
abbrev cX1_levelOf : ByteArray := prog_3_method_9_code
def yX1_levelOf : MethodName := ⟨RX1, "levelOf", "(I)I"⟩
abbrev cX1_cellOf : ByteArray := prog_3_method_10_code
def yX1_cellOf : MethodName := ⟨RX1, "cellOf", "(II)J"⟩
abbrev cX1_placed : ByteArray := prog_3_method_11_code
def yX1_placed : MethodName := ⟨RX1, "placed", "(II)I"⟩
abbrev cX1_put : ByteArray := prog_3_method_12_code
def yX1_put : MethodName := ⟨RX1, "put", "(IIJ)V"⟩
abbrev cX1_lowestBits : ByteArray := prog_3_method_13_code
def yX1_lowestBits : MethodName := ⟨RX1, "lowestBits", "(IJ)J"⟩
abbrev cX1_add : ByteArray := prog_3_method_14_code
def yX1_add : MethodName := ⟨RX1, "add", "(II)I"⟩
abbrev cX1_addWire : ByteArray := prog_3_method_15_code
def yX1_addWire : MethodName := ⟨RX1, "addWire", "(II)I"⟩
abbrev cX1_addSingle : ByteArray := prog_3_method_16_code
def yX1_addSingle : MethodName := ⟨RX1, "addSingle", "(IJ)I"⟩
abbrev cX1_addCopy : ByteArray := prog_3_method_17_code
def yX1_addCopy : MethodName := ⟨RX1, "addCopy", "(II)I"⟩
abbrev cX1_copyCells : ByteArray := prog_3_method_18_code
def yX1_copyCells : MethodName := ⟨RX1, "copyCells", "(III)V"⟩
abbrev cX1_forgetAll : ByteArray := prog_3_method_19_code
def yX1_forgetAll : MethodName := ⟨RX1, "forgetAll", "()I"⟩
def RX2 : String := "LoomPanel"
def TX2 : u_T := fun k => match k with
  | 0 => ("LoomPanel", "values", "LLoomPanel$Values;", true)
  | 1 => ("LoomPanel", "patches", "LLoomPanel$Patches;", true)
  | 2 => ("LoomPanel", "stoppedAt", "I", false)
  | 3 => ("LoomPanel", "faultsSoFar", "I", false)
  | _ => ("LoomPanel", "latestFault", "I", false)
def tyX2 : Nat → FieldType := fun k => match k with
  | 0 => .object "LoomPanel$Values"
  | 1 => .object "LoomPanel$Patches"
  | 2 => .int
  | 3 => .int
  | _ => .int
abbrev wsX20 : List Cond := u_ws RX2 TX2 5
theorem nmX2 : ∀ a, a < 5 → ∀ b, b < 5 → a ≠ b → (TX2 a).2.1 ≠ (TX2 b).2.1 := by decide +kernel
theorem tyX2_ok : ∀ k, k < 5 → parseFieldDescriptor (TX2 k).2.2.1 = some (tyX2 k) := by decide +kernel
abbrev cX2_init : ByteArray := prog_1_method_1_code
def yX2_init : MethodName := ⟨RX2, "<init>", "()V"⟩
abbrev cX2_row : ByteArray := prog_1_method_2_code
def yX2_row : MethodName := ⟨RX2, "row", "(II)I"⟩
abbrev cX2_board : ByteArray := prog_1_method_3_code
def yX2_board : MethodName := ⟨RX2, "board", "(II)I"⟩
abbrev cX2_wire : ByteArray := prog_1_method_4_code
def yX2_wire : MethodName := ⟨RX2, "wire", "(ZI)I"⟩
abbrev cX2_set : ByteArray := prog_1_method_5_code
def yX2_set : MethodName := ⟨RX2, "set", "(IIJ)I"⟩
abbrev cX2_number : ByteArray := prog_1_method_6_code
def yX2_number : MethodName := ⟨RX2, "number", "(II)J"⟩
abbrev cX2_act : ByteArray := prog_1_method_7_code
def yX2_act : MethodName := ⟨RX2, "act", "(IIII)I"⟩
abbrev cX2_step : ByteArray := prog_1_method_8_code
def yX2_step : MethodName := ⟨RX2, "step", "(IIII)I"⟩
abbrev cX2_play : ByteArray := prog_1_method_9_code
def yX2_play : MethodName := ⟨RX2, "play", "(II)I"⟩
abbrev cX2_stopped : ByteArray := prog_1_method_10_code
def yX2_stopped : MethodName := ⟨RX2, "stopped", "()I"⟩
abbrev cX2_empty : ByteArray := prog_1_method_11_code
def yX2_empty : MethodName := ⟨RX2, "empty", "(I)I"⟩
abbrev cX2_is : ByteArray := prog_1_method_12_code
def yX2_is : MethodName := ⟨RX2, "is", "(II)I"⟩
abbrev cX2_views : ByteArray := prog_1_method_13_code
def yX2_views : MethodName := ⟨RX2, "views", "(I)I"⟩
abbrev cX2_size : ByteArray := prog_1_method_14_code
def yX2_size : MethodName := ⟨RX2, "size", "(I)I"⟩
abbrev cX2_count : ByteArray := prog_1_method_15_code
def yX2_count : MethodName := ⟨RX2, "count", "(I)I"⟩
abbrev cX2_clear : ByteArray := prog_1_method_16_code
def yX2_clear : MethodName := ⟨RX2, "clear", "()I"⟩
abbrev cX2_isLength : ByteArray := prog_1_method_17_code
def yX2_isLength : MethodName := ⟨RX2, "isLength", "(I)Z"⟩
abbrev cX2_isAct : ByteArray := prog_1_method_18_code
def yX2_isAct : MethodName := ⟨RX2, "isAct", "(I)Z"⟩
abbrev cX2_isView : ByteArray := prog_1_method_19_code
def yX2_isView : MethodName := ⟨RX2, "isView", "(I)Z"⟩
abbrev cX2_isBoardForm : ByteArray := prog_1_method_20_code
def yX2_isBoardForm : MethodName := ⟨RX2, "isBoardForm", "(I)Z"⟩
abbrev cX2_isValueOrNone : ByteArray := prog_1_method_21_code
def yX2_isValueOrNone : MethodName := ⟨RX2, "isValueOrNone", "(I)Z"⟩
abbrev cX2_viewsOfForm : ByteArray := prog_1_method_22_code
def yX2_viewsOfForm : MethodName := ⟨RX2, "viewsOfForm", "(I)I"⟩
abbrev cX2_takenBy : ByteArray := prog_1_method_23_code
def yX2_takenBy : MethodName := ⟨RX2, "takenBy", "(I)I"⟩
abbrev cX2_fault : ByteArray := prog_1_method_24_code
def yX2_fault : MethodName := ⟨RX2, "fault", "(I)I"⟩
abbrev cX2_isFault : ByteArray := prog_1_method_25_code
def yX2_isFault : MethodName := ⟨RX2, "isFault", "(I)Z"⟩
abbrev cX2_noted : ByteArray := prog_1_method_26_code
def yX2_noted : MethodName := ⟨RX2, "noted", "(I)I"⟩
abbrev cX2_makes : ByteArray := prog_1_method_27_code
def yX2_makes : MethodName := ⟨RX2, "makes", "(II)I"⟩
abbrev cX2_answerOf : ByteArray := prog_1_method_28_code
def yX2_answerOf : MethodName := ⟨RX2, "answerOf", "(IIII)I"⟩
abbrev cX2_sum : ByteArray := prog_1_method_29_code
def yX2_sum : MethodName := ⟨RX2, "sum", "(I)I"⟩
abbrev cX2_totalOf : ByteArray := prog_1_method_30_code
def yX2_totalOf : MethodName := ⟨RX2, "totalOf", "(I)J"⟩
abbrev cX2_widen : ByteArray := prog_1_method_31_code
def yX2_widen : MethodName := ⟨RX2, "widen", "(I)I"⟩
abbrev cX2_narrow : ByteArray := prog_1_method_32_code
def yX2_narrow : MethodName := ⟨RX2, "narrow", "(I)I"⟩
abbrev cX2_tap : ByteArray := prog_1_method_33_code
def yX2_tap : MethodName := ⟨RX2, "tap", "(II)I"⟩
abbrev cX2_lay : ByteArray := prog_1_method_34_code
def yX2_lay : MethodName := ⟨RX2, "lay", "(III)I"⟩
abbrev cX2_askedByLay : ByteArray := prog_1_method_35_code
def yX2_askedByLay : MethodName := ⟨RX2, "askedByLay", "(I)I"⟩
abbrev cX2_isNoneOr : ByteArray := prog_1_method_36_code
def yX2_isNoneOr : MethodName := ⟨RX2, "isNoneOr", "(II)Z"⟩
abbrev cX2_levels : ByteArray := prog_1_method_37_code
def yX2_levels : MethodName := ⟨RX2, "levels", "(I)I"⟩
abbrev cX2_power : ByteArray := prog_1_method_38_code
def yX2_power : MethodName := ⟨RX2, "power", "(I)I"⟩
abbrev cX2_levelsTimes : ByteArray := prog_1_method_39_code
def yX2_levelsTimes : MethodName := ⟨RX2, "levelsTimes", "(IJ)I"⟩
abbrev cX2_drive : ByteArray := prog_1_method_40_code
def yX2_drive : MethodName := ⟨RX2, "drive", "(IZ)I"⟩
abbrev cX2_pair : ByteArray := prog_1_method_41_code
def yX2_pair : MethodName := ⟨RX2, "pair", "(IIZ)I"⟩
abbrev cX2_join : ByteArray := prog_1_method_42_code
def yX2_join : MethodName := ⟨RX2, "join", "(II)I"⟩
abbrev cX2_holdsOnlyLives : ByteArray := prog_1_method_43_code
def yX2_holdsOnlyLives : MethodName := ⟨RX2, "holdsOnlyLives", "(I)Z"⟩
abbrev cX2_copy : ByteArray := prog_1_method_44_code
def yX2_copy : MethodName := ⟨RX2, "copy", "(I)I"⟩
abbrev cX2_makeCable : ByteArray := prog_1_method_45_code
def yX2_makeCable : MethodName := ⟨RX2, "makeCable", "(I)I"⟩
abbrev cX2_check : ByteArray := prog_1_method_46_code
def yX2_check : MethodName := ⟨RX2, "check", "(II)I"⟩
def RX3 : String := "LoomPanelModel"
def TX3 : u_T := fun k => match k with
  | 0 => ("LoomPanelModel", "values", "I", false)
  | 1 => ("LoomPanelModel", "forms", "[I", true)
  | 2 => ("LoomPanelModel", "sizes", "[I", true)
  | 3 => ("LoomPanelModel", "levels", "[I", true)
  | 4 => ("LoomPanelModel", "numbers", "[J", true)
  | 5 => ("LoomPanelModel", "lies", "[I", true)
  | 6 => ("LoomPanelModel", "steps", "[I", true)
  | 7 => ("LoomPanelModel", "stepAct", "[I", true)
  | 8 => ("LoomPanelModel", "stepOther", "[I", true)
  | 9 => ("LoomPanelModel", "stepNumber", "[I", true)
  | 10 => ("LoomPanelModel", "faults", "I", false)
  | 11 => ("LoomPanelModel", "latest", "I", false)
  | _ => ("LoomPanelModel", "stopped", "I", false)
def tyX3 : Nat → FieldType := fun k => match k with
  | 0 => .int
  | 1 => .array .int
  | 2 => .array .int
  | 3 => .array .int
  | 4 => .array .long
  | 5 => .array .int
  | 6 => .array .int
  | 7 => .array .int
  | 8 => .array .int
  | 9 => .array .int
  | 10 => .int
  | 11 => .int
  | _ => .int
abbrev wsX30 : List Cond := u_ws RX3 TX3 13
theorem nmX3 : ∀ a, a < 13 → ∀ b, b < 13 → a ≠ b → (TX3 a).2.1 ≠ (TX3 b).2.1 := by decide +kernel
theorem tyX3_ok : ∀ k, k < 13 → parseFieldDescriptor (TX3 k).2.2.1 = some (tyX3 k) := by decide +kernel
abbrev cX3_init : ByteArray := prog_5_method_1_code
def yX3_init : MethodName := ⟨RX3, "<init>", "()V"⟩
abbrev cX3_isIn : ByteArray := prog_5_method_3_code
def yX3_isIn : MethodName := ⟨RX3, "isIn", "(III)Z"⟩
abbrev cX3_isValue : ByteArray := prog_5_method_4_code
def yX3_isValue : MethodName := ⟨RX3, "isValue", "(I)Z"⟩
abbrev cX3_mayBe : ByteArray := prog_5_method_5_code
def yX3_mayBe : MethodName := ⟨RX3, "mayBe", "(I)Z"⟩
abbrev cX3_formIs : ByteArray := prog_5_method_6_code
def yX3_formIs : MethodName := ⟨RX3, "formIs", "(II)Z"⟩
abbrev cX3_isOf : ByteArray := prog_5_method_7_code
def yX3_isOf : MethodName := ⟨RX3, "isOf", "(II)Z"⟩
abbrev cX3_make : ByteArray := prog_5_method_8_code
def yX3_make : MethodName := ⟨RX3, "make", "(II)I"⟩
abbrev cX3_row : ByteArray := prog_5_method_9_code
def yX3_row : MethodName := ⟨RX3, "row", "(II)I"⟩
abbrev cX3_board : ByteArray := prog_5_method_10_code
def yX3_board : MethodName := ⟨RX3, "board", "(II)I"⟩
abbrev cX3_wire : ByteArray := prog_5_method_11_code
def yX3_wire : MethodName := ⟨RX3, "wire", "(ZI)I"⟩
abbrev cX3_isRow : ByteArray := prog_5_method_12_code
def yX3_isRow : MethodName := ⟨RX3, "isRow", "(I)Z"⟩
abbrev cX3_cut : ByteArray := prog_5_method_13_code
def yX3_cut : MethodName := ⟨RX3, "cut", "(IJ)J"⟩
abbrev cX3_set : ByteArray := prog_5_method_14_code
def yX3_set : MethodName := ⟨RX3, "set", "(IIJ)I"⟩
abbrev cX3_number : ByteArray := prog_5_method_15_code
def yX3_number : MethodName := ⟨RX3, "number", "(II)J"⟩
abbrev cX3_with : ByteArray := prog_5_method_16_code
def yX3_with : MethodName := ⟨RX3, "with", "(I)I"⟩
abbrev cX3_hasPlaces : ByteArray := prog_5_method_17_code
def yX3_hasPlaces : MethodName := ⟨RX3, "hasPlaces", "(I)Z"⟩
abbrev cX3_takes : ByteArray := prog_5_method_18_code
def yX3_takes : MethodName := ⟨RX3, "takes", "(II)Z"⟩
abbrev cX3_sumOf : ByteArray := prog_5_method_19_code
def yX3_sumOf : MethodName := ⟨RX3, "sumOf", "(I)J"⟩
abbrev cX3_sum : ByteArray := prog_5_method_20_code
def yX3_sum : MethodName := ⟨RX3, "sum", "(I)I"⟩
abbrev cX3_turned : ByteArray := prog_5_method_21_code
def yX3_turned : MethodName := ⟨RX3, "turned", "(II)I"⟩
abbrev cX3_tap : ByteArray := prog_5_method_22_code
def yX3_tap : MethodName := ⟨RX3, "tap", "(II)I"⟩
abbrev cX3_lay : ByteArray := prog_5_method_23_code
def yX3_lay : MethodName := ⟨RX3, "lay", "(III)I"⟩
abbrev cX3_levelsOf : ByteArray := prog_5_method_24_code
def yX3_levelsOf : MethodName := ⟨RX3, "levelsOf", "(II)I"⟩
abbrev cX3_drive : ByteArray := prog_5_method_25_code
def yX3_drive : MethodName := ⟨RX3, "drive", "(II)I"⟩
abbrev cX3_pair : ByteArray := prog_5_method_26_code
def yX3_pair : MethodName := ⟨RX3, "pair", "(III)I"⟩
abbrev cX3_power : ByteArray := prog_5_method_27_code
def yX3_power : MethodName := ⟨RX3, "power", "(I)I"⟩
abbrev cX3_join : ByteArray := prog_5_method_28_code
def yX3_join : MethodName := ⟨RX3, "join", "(II)I"⟩
abbrev cX3_copy : ByteArray := prog_5_method_29_code
def yX3_copy : MethodName := ⟨RX3, "copy", "(I)I"⟩
abbrev cX3_makes : ByteArray := prog_5_method_30_code
def yX3_makes : MethodName := ⟨RX3, "makes", "(II)I"⟩
abbrev cX3_work : ByteArray := prog_5_method_31_code
def yX3_work : MethodName := ⟨RX3, "work", "(IIII)I"⟩
abbrev cX3_noted : ByteArray := prog_5_method_32_code
def yX3_noted : MethodName := ⟨RX3, "noted", "(I)I"⟩
abbrev cX3_act : ByteArray := prog_5_method_33_code
def yX3_act : MethodName := ⟨RX3, "act", "(IIII)I"⟩
abbrev cX3_step : ByteArray := prog_5_method_34_code
def yX3_step : MethodName := ⟨RX3, "step", "(IIII)I"⟩
abbrev cX3_play : ByteArray := prog_5_method_35_code
def yX3_play : MethodName := ⟨RX3, "play", "(II)I"⟩
abbrev cX3_stopped : ByteArray := prog_5_method_36_code
def yX3_stopped : MethodName := ⟨RX3, "stopped", "()I"⟩
abbrev cX3_empty : ByteArray := prog_5_method_37_code
def yX3_empty : MethodName := ⟨RX3, "empty", "(I)I"⟩
abbrev cX3_is : ByteArray := prog_5_method_38_code
def yX3_is : MethodName := ⟨RX3, "is", "(II)I"⟩
abbrev cX3_views : ByteArray := prog_5_method_39_code
def yX3_views : MethodName := ⟨RX3, "views", "(I)I"⟩
abbrev cX3_size : ByteArray := prog_5_method_40_code
def yX3_size : MethodName := ⟨RX3, "size", "(I)I"⟩
abbrev cX3_count : ByteArray := prog_5_method_41_code
def yX3_count : MethodName := ⟨RX3, "count", "(I)I"⟩
abbrev cX3_clear : ByteArray := prog_5_method_42_code
def yX3_clear : MethodName := ⟨RX3, "clear", "()I"⟩
def RL : String := "LoomPanelLaw"
abbrev cL_law : ByteArray := code
def yL_law : MethodName := ⟨RL, "law", "([I)Z"⟩
def wsX0_init : List Cond := .code yX0_init cX0_init 1 none :: ([.methodLink RX0 3 objectInit, .instanceMethod objectInit, .code objectInit ⟨#[0xb1]⟩ 1 none, .arrayClass .int, .fieldLink RX0 9 "LoomPanel$Patches" "lengths" "[I", .fieldLink RX0 15 "LoomPanel$Patches" "acts" "[I", .fieldLink RX0 18 "LoomPanel$Patches" "ys" "[I", .fieldLink RX0 21 "LoomPanel$Patches" "ns" "[I"] ++ wsX00)
def wsX0_has : List Cond := .code yX0_has cX0_has 2 (some .boolean) :: ([])
def wsX0_hasStep : List Cond := .code yX0_hasStep cX0_hasStep 3 (some .boolean) :: ([.fieldLink RX0 9 "LoomPanel$Patches" "lengths" "[I", .methodLink RX0 24 yX0_has, .instanceMethod yX0_has, .selects RX0 yX0_has yX0_has, .initialized RX0, .code yX0_has cX0_has 2 (some .boolean)] ++ wsX00)
def wsX0_lengthOf : List Cond := .code yX0_lengthOf cX0_lengthOf 2 (some .int) :: ([.fieldLink RX0 9 "LoomPanel$Patches" "lengths" "[I", .methodLink RX0 24 yX0_has, .instanceMethod yX0_has, .selects RX0 yX0_has yX0_has, .initialized RX0, .code yX0_has cX0_has 2 (some .boolean)] ++ wsX00)
def wsX0_actOf : List Cond := .code yX0_actOf cX0_actOf 3 (some .int) :: ([.fieldLink RX0 15 "LoomPanel$Patches" "acts" "[I", .methodLink RX0 28 yX0_hasStep, .instanceMethod yX0_hasStep, .selects RX0 yX0_hasStep yX0_hasStep, .initialized RX0, .code yX0_hasStep cX0_hasStep 3 (some .boolean), .fieldLink RX0 9 "LoomPanel$Patches" "lengths" "[I", .methodLink RX0 24 yX0_has, .instanceMethod yX0_has, .selects RX0 yX0_has yX0_has, .code yX0_has cX0_has 2 (some .boolean)] ++ wsX00)
def wsX0_yOf : List Cond := .code yX0_yOf cX0_yOf 3 (some .int) :: ([.fieldLink RX0 18 "LoomPanel$Patches" "ys" "[I", .methodLink RX0 28 yX0_hasStep, .instanceMethod yX0_hasStep, .selects RX0 yX0_hasStep yX0_hasStep, .initialized RX0, .code yX0_hasStep cX0_hasStep 3 (some .boolean), .fieldLink RX0 9 "LoomPanel$Patches" "lengths" "[I", .methodLink RX0 24 yX0_has, .instanceMethod yX0_has, .selects RX0 yX0_has yX0_has, .code yX0_has cX0_has 2 (some .boolean)] ++ wsX00)
def wsX0_nOf : List Cond := .code yX0_nOf cX0_nOf 3 (some .int) :: ([.fieldLink RX0 21 "LoomPanel$Patches" "ns" "[I", .methodLink RX0 28 yX0_hasStep, .instanceMethod yX0_hasStep, .selects RX0 yX0_hasStep yX0_hasStep, .initialized RX0, .code yX0_hasStep cX0_hasStep 3 (some .boolean), .fieldLink RX0 9 "LoomPanel$Patches" "lengths" "[I", .methodLink RX0 24 yX0_has, .instanceMethod yX0_has, .selects RX0 yX0_has yX0_has, .code yX0_has cX0_has 2 (some .boolean)] ++ wsX00)
def wsX0_append : List Cond := .code yX0_append cX0_append 6 (some .int) :: ([.fieldLink RX0 9 "LoomPanel$Patches" "lengths" "[I", .fieldLink RX0 15 "LoomPanel$Patches" "acts" "[I", .fieldLink RX0 18 "LoomPanel$Patches" "ys" "[I", .fieldLink RX0 21 "LoomPanel$Patches" "ns" "[I", .methodLink RX0 24 yX0_has, .instanceMethod yX0_has, .selects RX0 yX0_has yX0_has, .initialized RX0, .code yX0_has cX0_has 2 (some .boolean)] ++ wsX00)
def wsX0_drop : List Cond := .code yX0_drop cX0_drop 3 (some .int) :: ([.fieldLink RX0 9 "LoomPanel$Patches" "lengths" "[I", .methodLink RX0 32 yX0_lengthOf, .instanceMethod yX0_lengthOf, .selects RX0 yX0_lengthOf yX0_lengthOf, .initialized RX0, .code yX0_lengthOf cX0_lengthOf 2 (some .int), .methodLink RX0 24 yX0_has, .instanceMethod yX0_has, .selects RX0 yX0_has yX0_has, .code yX0_has cX0_has 2 (some .boolean)] ++ wsX00)
def wsX0_dropAll : List Cond := .code yX0_dropAll cX0_dropAll 2 none :: ([.fieldLink RX0 9 "LoomPanel$Patches" "lengths" "[I"] ++ wsX00)
def wsX1_init : List Cond := .code yX1_init cX1_init 1 none :: ([.methodLink RX1 3 objectInit, .instanceMethod objectInit, .code objectInit ⟨#[0xb1]⟩ 1 none, .arrayClass .int, .fieldLink RX1 9 "LoomPanel$Values" "forms" "[I", .fieldLink RX1 15 "LoomPanel$Values" "lengths" "[I", .fieldLink RX1 18 "LoomPanel$Values" "levels" "[I", .arrayClass .long, .fieldLink RX1 21 "LoomPanel$Values" "cells" "[J", .fieldLink RX1 25 "LoomPanel$Values" "made" "I"] ++ wsX10)
def wsX1_made : List Cond := .code yX1_made cX1_made 1 (some .int) :: ([.fieldLink RX1 25 "LoomPanel$Values" "made" "I"] ++ wsX10)
def wsX1_has : List Cond := .code yX1_has cX1_has 2 (some .boolean) :: ([.fieldLink RX1 25 "LoomPanel$Values" "made" "I"] ++ wsX10)
def wsX1_hasPlace : List Cond := .code yX1_hasPlace cX1_hasPlace 3 (some .boolean) :: ([.fieldLink RX1 25 "LoomPanel$Values" "made" "I", .fieldLink RX1 15 "LoomPanel$Values" "lengths" "[I"] ++ wsX10)
def wsX1_formOf : List Cond := .code yX1_formOf cX1_formOf 2 (some .int) :: ([.fieldLink RX1 9 "LoomPanel$Values" "forms" "[I", .methodLink RX1 29 yX1_has, .instanceMethod yX1_has, .selects RX1 yX1_has yX1_has, .initialized RX1, .code yX1_has cX1_has 2 (some .boolean), .fieldLink RX1 25 "LoomPanel$Values" "made" "I"] ++ wsX10)
def wsX2_viewsOfForm : List Cond := .code yX2_viewsOfForm cX2_viewsOfForm 1 (some .int) :: ([])
def wsX1_isA : List Cond := .code yX1_isA cX1_isA 3 (some .boolean) :: ([.fieldLink RX1 9 "LoomPanel$Values" "forms" "[I", .methodLink RX1 29 yX1_has, .instanceMethod yX1_has, .selects RX1 yX1_has yX1_has, .initialized RX1, .code yX1_has cX1_has 2 (some .boolean), .fieldLink RX1 25 "LoomPanel$Values" "made" "I", .static yX2_viewsOfForm, .initialized RX2, .code yX2_viewsOfForm cX2_viewsOfForm 1 (some .int)] ++ wsX10)
def wsX1_isNumbers : List Cond := .code yX1_isNumbers cX1_isNumbers 2 (some .boolean) :: ([.fieldLink RX1 9 "LoomPanel$Values" "forms" "[I", .methodLink RX1 29 yX1_has, .instanceMethod yX1_has, .selects RX1 yX1_has yX1_has, .initialized RX1, .code yX1_has cX1_has 2 (some .boolean), .fieldLink RX1 25 "LoomPanel$Values" "made" "I"] ++ wsX10)
def wsX1_lengthOf : List Cond := .code yX1_lengthOf cX1_lengthOf 2 (some .int) :: ([.fieldLink RX1 15 "LoomPanel$Values" "lengths" "[I", .methodLink RX1 29 yX1_has, .instanceMethod yX1_has, .selects RX1 yX1_has yX1_has, .initialized RX1, .code yX1_has cX1_has 2 (some .boolean), .fieldLink RX1 25 "LoomPanel$Values" "made" "I"] ++ wsX10)
def wsX1_levelOf : List Cond := .code yX1_levelOf cX1_levelOf 2 (some .int) :: ([.fieldLink RX1 18 "LoomPanel$Values" "levels" "[I", .methodLink RX1 29 yX1_has, .instanceMethod yX1_has, .selects RX1 yX1_has yX1_has, .initialized RX1, .code yX1_has cX1_has 2 (some .boolean), .fieldLink RX1 25 "LoomPanel$Values" "made" "I"] ++ wsX10)
def wsX1_cellOf : List Cond := .code yX1_cellOf cX1_cellOf 3 (some .long) :: ([.fieldLink RX1 21 "LoomPanel$Values" "cells" "[J", .methodLink RX1 37 yX1_hasPlace, .instanceMethod yX1_hasPlace, .selects RX1 yX1_hasPlace yX1_hasPlace, .initialized RX1, .code yX1_hasPlace cX1_hasPlace 3 (some .boolean), .fieldLink RX1 25 "LoomPanel$Values" "made" "I", .fieldLink RX1 15 "LoomPanel$Values" "lengths" "[I"] ++ wsX10)
def wsX1_placed : List Cond := .code yX1_placed cX1_placed 3 (some .int) :: ([.fieldLink RX1 21 "LoomPanel$Values" "cells" "[J", .methodLink RX1 37 yX1_hasPlace, .instanceMethod yX1_hasPlace, .selects RX1 yX1_hasPlace yX1_hasPlace, .initialized RX1, .code yX1_hasPlace cX1_hasPlace 3 (some .boolean), .fieldLink RX1 25 "LoomPanel$Values" "made" "I", .fieldLink RX1 15 "LoomPanel$Values" "lengths" "[I"] ++ wsX10)
def wsX1_lowestBits : List Cond := .code yX1_lowestBits cX1_lowestBits 3 (some .long) :: ([])
def wsX1_put : List Cond := .code yX1_put cX1_put 5 none :: ([.fieldLink RX1 21 "LoomPanel$Values" "cells" "[J", .fieldLink RX1 9 "LoomPanel$Values" "forms" "[I", .methodLink RX1 37 yX1_hasPlace, .instanceMethod yX1_hasPlace, .selects RX1 yX1_hasPlace yX1_hasPlace, .initialized RX1, .code yX1_hasPlace cX1_hasPlace 3 (some .boolean), .fieldLink RX1 25 "LoomPanel$Values" "made" "I", .fieldLink RX1 15 "LoomPanel$Values" "lengths" "[I", .methodLink RX1 41 yX1_lowestBits, .static yX1_lowestBits, .code yX1_lowestBits cX1_lowestBits 3 (some .long)] ++ wsX10)
def wsX2_isLength : List Cond := .code yX2_isLength cX2_isLength 1 (some .boolean) :: ([])
def wsX2_isBoardForm : List Cond := .code yX2_isBoardForm cX2_isBoardForm 1 (some .boolean) :: ([])
def wsX1_add : List Cond := .code yX1_add cX1_add 6 (some .int) :: ([.fieldLink RX1 25 "LoomPanel$Values" "made" "I", .fieldLink RX1 9 "LoomPanel$Values" "forms" "[I", .fieldLink RX1 15 "LoomPanel$Values" "lengths" "[I", .fieldLink RX1 18 "LoomPanel$Values" "levels" "[I", .fieldLink RX1 21 "LoomPanel$Values" "cells" "[J", .static yX2_isLength, .initialized RX2, .code yX2_isLength cX2_isLength 1 (some .boolean), .static yX2_isBoardForm, .code yX2_isBoardForm cX2_isBoardForm 1 (some .boolean)] ++ wsX10)
def wsX1_addWire : List Cond := .code yX1_addWire cX1_addWire 4 (some .int) :: ([.fieldLink RX1 18 "LoomPanel$Values" "levels" "[I", .methodLink RX1 51 yX1_add, .instanceMethod yX1_add, .selects RX1 yX1_add yX1_add, .initialized RX1, .code yX1_add cX1_add 6 (some .int), .fieldLink RX1 25 "LoomPanel$Values" "made" "I", .fieldLink RX1 9 "LoomPanel$Values" "forms" "[I", .fieldLink RX1 15 "LoomPanel$Values" "lengths" "[I", .fieldLink RX1 21 "LoomPanel$Values" "cells" "[J", .static yX2_isLength, .initialized RX2, .code yX2_isLength cX2_isLength 1 (some .boolean), .static yX2_isBoardForm, .code yX2_isBoardForm cX2_isBoardForm 1 (some .boolean), .methodLink RX1 29 yX1_has, .instanceMethod yX1_has, .selects RX1 yX1_has yX1_has, .code yX1_has cX1_has 2 (some .boolean)] ++ wsX10)
def wsX1_addSingle_r1 : List Cond := [Cond.methodLink RX1 51 yX1_add, Cond.instanceMethod yX1_add, Cond.selects RX1 yX1_add yX1_add, Cond.initialized RX1, Cond.code yX1_add cX1_add 6 (some .int), Cond.fieldLink RX1 25 "LoomPanel$Values" "made" "I", Cond.fieldLink RX1 9 "LoomPanel$Values" "forms" "[I", Cond.fieldLink RX1 15 "LoomPanel$Values" "lengths" "[I", Cond.fieldLink RX1 18 "LoomPanel$Values" "levels" "[I", Cond.fieldLink RX1 21 "LoomPanel$Values" "cells" "[J", Cond.static yX2_isLength, Cond.initialized RX2, Cond.code yX2_isLength cX2_isLength 1 (some .boolean), Cond.static yX2_isBoardForm, Cond.code yX2_isBoardForm cX2_isBoardForm 1 (some .boolean), Cond.methodLink RX1 55 yX1_put, Cond.instanceMethod yX1_put, Cond.selects RX1 yX1_put yX1_put, Cond.code yX1_put cX1_put 5 none, Cond.methodLink RX1 37 yX1_hasPlace, Cond.instanceMethod yX1_hasPlace, Cond.selects RX1 yX1_hasPlace yX1_hasPlace, Cond.code yX1_hasPlace cX1_hasPlace 3 (some .boolean), Cond.methodLink RX1 41 yX1_lowestBits]
def wsX1_addSingle_r2 : List Cond := [Cond.static yX1_lowestBits, Cond.code yX1_lowestBits cX1_lowestBits 3 (some .long)]
def wsX1_addSingle : List Cond := .code yX1_addSingle cX1_addSingle 5 (some .int) :: ((wsX1_addSingle_r1 ++ wsX1_addSingle_r2) ++ wsX10)
def wsX1_copyCells_r1 : List Cond := [Cond.methodLink RX1 59 yX1_lengthOf, Cond.instanceMethod yX1_lengthOf, Cond.selects RX1 yX1_lengthOf yX1_lengthOf, Cond.initialized RX1, Cond.code yX1_lengthOf cX1_lengthOf 2 (some .int), Cond.fieldLink RX1 15 "LoomPanel$Values" "lengths" "[I", Cond.methodLink RX1 29 yX1_has, Cond.instanceMethod yX1_has, Cond.selects RX1 yX1_has yX1_has, Cond.code yX1_has cX1_has 2 (some .boolean), Cond.fieldLink RX1 25 "LoomPanel$Values" "made" "I", Cond.methodLink RX1 66 yX1_cellOf, Cond.instanceMethod yX1_cellOf, Cond.selects RX1 yX1_cellOf yX1_cellOf, Cond.code yX1_cellOf cX1_cellOf 3 (some .long), Cond.fieldLink RX1 21 "LoomPanel$Values" "cells" "[J", Cond.methodLink RX1 37 yX1_hasPlace, Cond.instanceMethod yX1_hasPlace, Cond.selects RX1 yX1_hasPlace yX1_hasPlace, Cond.code yX1_hasPlace cX1_hasPlace 3 (some .boolean), Cond.methodLink RX1 55 yX1_put, Cond.instanceMethod yX1_put, Cond.selects RX1 yX1_put yX1_put, Cond.code yX1_put cX1_put 5 none]
def wsX1_copyCells_r2 : List Cond := [Cond.fieldLink RX1 9 "LoomPanel$Values" "forms" "[I", Cond.methodLink RX1 41 yX1_lowestBits, Cond.static yX1_lowestBits, Cond.code yX1_lowestBits cX1_lowestBits 3 (some .long)]
def wsX1_copyCells : List Cond := .code yX1_copyCells cX1_copyCells 6 none :: ((wsX1_copyCells_r1 ++ wsX1_copyCells_r2) ++ wsX10)
def wsX1_addCopy_r1 : List Cond := [Cond.methodLink RX1 59 yX1_lengthOf, Cond.instanceMethod yX1_lengthOf, Cond.selects RX1 yX1_lengthOf yX1_lengthOf, Cond.initialized RX1, Cond.code yX1_lengthOf cX1_lengthOf 2 (some .int), Cond.fieldLink RX1 15 "LoomPanel$Values" "lengths" "[I", Cond.methodLink RX1 29 yX1_has, Cond.instanceMethod yX1_has, Cond.selects RX1 yX1_has yX1_has, Cond.code yX1_has cX1_has 2 (some .boolean), Cond.fieldLink RX1 25 "LoomPanel$Values" "made" "I", Cond.methodLink RX1 51 yX1_add, Cond.instanceMethod yX1_add, Cond.selects RX1 yX1_add yX1_add, Cond.code yX1_add cX1_add 6 (some .int), Cond.fieldLink RX1 9 "LoomPanel$Values" "forms" "[I", Cond.fieldLink RX1 18 "LoomPanel$Values" "levels" "[I", Cond.fieldLink RX1 21 "LoomPanel$Values" "cells" "[J", Cond.static yX2_isLength, Cond.initialized RX2, Cond.code yX2_isLength cX2_isLength 1 (some .boolean), Cond.static yX2_isBoardForm, Cond.code yX2_isBoardForm cX2_isBoardForm 1 (some .boolean), Cond.methodLink RX1 62 yX1_copyCells]
def wsX1_addCopy_r2 : List Cond := [Cond.instanceMethod yX1_copyCells, Cond.selects RX1 yX1_copyCells yX1_copyCells, Cond.code yX1_copyCells cX1_copyCells 6 none, Cond.methodLink RX1 66 yX1_cellOf, Cond.instanceMethod yX1_cellOf, Cond.selects RX1 yX1_cellOf yX1_cellOf, Cond.code yX1_cellOf cX1_cellOf 3 (some .long), Cond.methodLink RX1 37 yX1_hasPlace, Cond.instanceMethod yX1_hasPlace, Cond.selects RX1 yX1_hasPlace yX1_hasPlace, Cond.code yX1_hasPlace cX1_hasPlace 3 (some .boolean), Cond.methodLink RX1 55 yX1_put, Cond.instanceMethod yX1_put, Cond.selects RX1 yX1_put yX1_put, Cond.code yX1_put cX1_put 5 none, Cond.methodLink RX1 41 yX1_lowestBits, Cond.static yX1_lowestBits, Cond.code yX1_lowestBits cX1_lowestBits 3 (some .long)]
def wsX1_addCopy : List Cond := .code yX1_addCopy cX1_addCopy 4 (some .int) :: ((wsX1_addCopy_r1 ++ wsX1_addCopy_r2) ++ wsX10)
def wsX1_forgetAll : List Cond := .code yX1_forgetAll cX1_forgetAll 2 (some .int) :: ([.fieldLink RX1 25 "LoomPanel$Values" "made" "I"] ++ wsX10)
def wsX2_init_r1 : List Cond := [Cond.methodLink RX2 1 objectInit, Cond.instanceMethod objectInit, Cond.code objectInit ⟨#[0xb1]⟩ 1 none, Cond.classLink RX2 7 RX1, Cond.instantiable RX1 5, Cond.initialized RX1, Cond.fieldLink RX2 10 "LoomPanel" "values" "LLoomPanel$Values;", Cond.classLink RX2 16 RX0, Cond.instantiable RX0 4, Cond.initialized RX0, Cond.fieldLink RX2 19 "LoomPanel" "patches" "LLoomPanel$Patches;", Cond.fieldLink RX2 23 "LoomPanel" "stoppedAt" "I", Cond.fieldLink RX2 27 "LoomPanel" "faultsSoFar" "I", Cond.fieldLink RX2 30 "LoomPanel" "latestFault" "I", Cond.instanceMethod yX1_init, Cond.code yX1_init cX1_init 1 none, Cond.methodLink RX1 3 objectInit, Cond.arrayClass .int, Cond.fieldLink RX1 9 "LoomPanel$Values" "forms" "[I", Cond.fieldLink RX1 15 "LoomPanel$Values" "lengths" "[I", Cond.fieldLink RX1 18 "LoomPanel$Values" "levels" "[I", Cond.arrayClass .long, Cond.fieldLink RX1 21 "LoomPanel$Values" "cells" "[J", Cond.fieldLink RX1 25 "LoomPanel$Values" "made" "I"]
def wsX2_init_r2 : List Cond := [Cond.instanceMethod yX0_init, Cond.code yX0_init cX0_init 1 none, Cond.methodLink RX0 3 objectInit, Cond.fieldLink RX0 9 "LoomPanel$Patches" "lengths" "[I", Cond.fieldLink RX0 15 "LoomPanel$Patches" "acts" "[I", Cond.fieldLink RX0 18 "LoomPanel$Patches" "ys" "[I", Cond.fieldLink RX0 21 "LoomPanel$Patches" "ns" "[I"]
def wsX2_init : List Cond := .code yX2_init cX2_init 1 none :: ((wsX2_init_r1 ++ wsX2_init_r2) ++ wsX10 ++ wsX20 ++ wsX00)
def wsX2_row : List Cond := .code yX2_row cX2_row 3 (some .int) :: ([.fieldLink RX2 10 "LoomPanel" "values" "LLoomPanel$Values;", .methodLink RX2 33 yX2_isLength, .static yX2_isLength, .initialized RX2, .code yX2_isLength cX2_isLength 1 (some .boolean), .methodLink RX2 37 yX1_add, .instanceMethod yX1_add, .selects RX1 yX1_add yX1_add, .initialized RX1, .code yX1_add cX1_add 6 (some .int), .fieldLink RX1 25 "LoomPanel$Values" "made" "I", .fieldLink RX1 9 "LoomPanel$Values" "forms" "[I", .fieldLink RX1 15 "LoomPanel$Values" "lengths" "[I", .fieldLink RX1 18 "LoomPanel$Values" "levels" "[I", .fieldLink RX1 21 "LoomPanel$Values" "cells" "[J", .static yX2_isBoardForm, .code yX2_isBoardForm cX2_isBoardForm 1 (some .boolean)] ++ wsX20 ++ wsX10)
def wsX2_board : List Cond := .code yX2_board cX2_board 3 (some .int) :: ([.fieldLink RX2 10 "LoomPanel" "values" "LLoomPanel$Values;", .methodLink RX2 41 yX2_isBoardForm, .static yX2_isBoardForm, .initialized RX2, .code yX2_isBoardForm cX2_isBoardForm 1 (some .boolean), .methodLink RX2 33 yX2_isLength, .static yX2_isLength, .code yX2_isLength cX2_isLength 1 (some .boolean), .methodLink RX2 37 yX1_add, .instanceMethod yX1_add, .selects RX1 yX1_add yX1_add, .initialized RX1, .code yX1_add cX1_add 6 (some .int), .fieldLink RX1 25 "LoomPanel$Values" "made" "I", .fieldLink RX1 9 "LoomPanel$Values" "forms" "[I", .fieldLink RX1 15 "LoomPanel$Values" "lengths" "[I", .fieldLink RX1 18 "LoomPanel$Values" "levels" "[I", .fieldLink RX1 21 "LoomPanel$Values" "cells" "[J"] ++ wsX20 ++ wsX10)
def wsX2_wire : List Cond := .code yX2_wire cX2_wire 3 (some .int) :: ([.fieldLink RX2 10 "LoomPanel" "values" "LLoomPanel$Values;", .methodLink RX2 44 yX1_addWire, .instanceMethod yX1_addWire, .selects RX1 yX1_addWire yX1_addWire, .initialized RX1, .code yX1_addWire cX1_addWire 4 (some .int), .fieldLink RX1 18 "LoomPanel$Values" "levels" "[I", .methodLink RX1 51 yX1_add, .instanceMethod yX1_add, .selects RX1 yX1_add yX1_add, .code yX1_add cX1_add 6 (some .int), .fieldLink RX1 25 "LoomPanel$Values" "made" "I", .fieldLink RX1 9 "LoomPanel$Values" "forms" "[I", .fieldLink RX1 15 "LoomPanel$Values" "lengths" "[I", .fieldLink RX1 21 "LoomPanel$Values" "cells" "[J", .static yX2_isLength, .initialized RX2, .code yX2_isLength cX2_isLength 1 (some .boolean), .static yX2_isBoardForm, .code yX2_isBoardForm cX2_isBoardForm 1 (some .boolean), .methodLink RX1 29 yX1_has, .instanceMethod yX1_has, .selects RX1 yX1_has yX1_has, .code yX1_has cX1_has 2 (some .boolean)] ++ wsX20 ++ wsX10)
def wsX2_set_r1 : List Cond := [Cond.fieldLink RX2 10 "LoomPanel" "values" "LLoomPanel$Values;", Cond.methodLink RX2 47 yX1_isNumbers, Cond.instanceMethod yX1_isNumbers, Cond.selects RX1 yX1_isNumbers yX1_isNumbers, Cond.initialized RX1, Cond.code yX1_isNumbers cX1_isNumbers 2 (some .boolean), Cond.fieldLink RX1 9 "LoomPanel$Values" "forms" "[I", Cond.methodLink RX1 29 yX1_has, Cond.instanceMethod yX1_has, Cond.selects RX1 yX1_has yX1_has, Cond.code yX1_has cX1_has 2 (some .boolean), Cond.fieldLink RX1 25 "LoomPanel$Values" "made" "I", Cond.methodLink RX2 50 yX1_hasPlace, Cond.instanceMethod yX1_hasPlace, Cond.selects RX1 yX1_hasPlace yX1_hasPlace, Cond.code yX1_hasPlace cX1_hasPlace 3 (some .boolean), Cond.fieldLink RX1 15 "LoomPanel$Values" "lengths" "[I", Cond.methodLink RX2 54 yX1_put, Cond.instanceMethod yX1_put, Cond.selects RX1 yX1_put yX1_put, Cond.code yX1_put cX1_put 5 none, Cond.fieldLink RX1 21 "LoomPanel$Values" "cells" "[J", Cond.methodLink RX1 37 yX1_hasPlace, Cond.methodLink RX1 41 yX1_lowestBits]
def wsX2_set_r2 : List Cond := [Cond.static yX1_lowestBits, Cond.code yX1_lowestBits cX1_lowestBits 3 (some .long)]
def wsX2_set : List Cond := .code yX2_set cX2_set 5 (some .int) :: ((wsX2_set_r1 ++ wsX2_set_r2) ++ wsX20 ++ wsX10)
def wsX2_number_r1 : List Cond := [Cond.fieldLink RX2 10 "LoomPanel" "values" "LLoomPanel$Values;", Cond.methodLink RX2 58 yX1_isA, Cond.instanceMethod yX1_isA, Cond.selects RX1 yX1_isA yX1_isA, Cond.initialized RX1, Cond.code yX1_isA cX1_isA 3 (some .boolean), Cond.fieldLink RX1 9 "LoomPanel$Values" "forms" "[I", Cond.methodLink RX1 29 yX1_has, Cond.instanceMethod yX1_has, Cond.selects RX1 yX1_has yX1_has, Cond.code yX1_has cX1_has 2 (some .boolean), Cond.fieldLink RX1 25 "LoomPanel$Values" "made" "I", Cond.static yX2_viewsOfForm, Cond.initialized RX2, Cond.code yX2_viewsOfForm cX2_viewsOfForm 1 (some .int), Cond.methodLink RX2 61 yX1_levelOf, Cond.instanceMethod yX1_levelOf, Cond.selects RX1 yX1_levelOf yX1_levelOf, Cond.code yX1_levelOf cX1_levelOf 2 (some .int), Cond.fieldLink RX1 18 "LoomPanel$Values" "levels" "[I", Cond.methodLink RX2 47 yX1_isNumbers, Cond.instanceMethod yX1_isNumbers, Cond.selects RX1 yX1_isNumbers yX1_isNumbers, Cond.code yX1_isNumbers cX1_isNumbers 2 (some .boolean)]
def wsX2_number_r2 : List Cond := [Cond.methodLink RX2 65 yX1_cellOf, Cond.instanceMethod yX1_cellOf, Cond.selects RX1 yX1_cellOf yX1_cellOf, Cond.code yX1_cellOf cX1_cellOf 3 (some .long), Cond.fieldLink RX1 21 "LoomPanel$Values" "cells" "[J", Cond.methodLink RX1 37 yX1_hasPlace, Cond.instanceMethod yX1_hasPlace, Cond.selects RX1 yX1_hasPlace yX1_hasPlace, Cond.code yX1_hasPlace cX1_hasPlace 3 (some .boolean), Cond.fieldLink RX1 15 "LoomPanel$Values" "lengths" "[I"]
def wsX2_number : List Cond := .code yX2_number cX2_number 3 (some .long) :: ((wsX2_number_r1 ++ wsX2_number_r2) ++ wsX20 ++ wsX10)
def wsX2_isAct : List Cond := .code yX2_isAct cX2_isAct 1 (some .boolean) :: ([])
def wsX2_isValueOrNone : List Cond := .code yX2_isValueOrNone cX2_isValueOrNone 2 (some .boolean) :: ([.fieldLink RX2 10 "LoomPanel" "values" "LLoomPanel$Values;", .methodLink RX2 106 yX1_has, .instanceMethod yX1_has, .selects RX1 yX1_has yX1_has, .initialized RX1, .code yX1_has cX1_has 2 (some .boolean), .fieldLink RX1 25 "LoomPanel$Values" "made" "I"] ++ wsX20 ++ wsX10)
def wsX2_makes : List Cond := .code yX2_makes cX2_makes 3 (some .int) :: ([.fieldLink RX2 10 "LoomPanel" "values" "LLoomPanel$Values;", .methodLink RX2 58 yX1_isA, .instanceMethod yX1_isA, .selects RX1 yX1_isA yX1_isA, .initialized RX1, .code yX1_isA cX1_isA 3 (some .boolean), .fieldLink RX1 9 "LoomPanel$Values" "forms" "[I", .methodLink RX1 29 yX1_has, .instanceMethod yX1_has, .selects RX1 yX1_has yX1_has, .code yX1_has cX1_has 2 (some .boolean), .fieldLink RX1 25 "LoomPanel$Values" "made" "I", .static yX2_viewsOfForm, .initialized RX2, .code yX2_viewsOfForm cX2_viewsOfForm 1 (some .int), .methodLink RX2 116 yX1_lengthOf, .instanceMethod yX1_lengthOf, .selects RX1 yX1_lengthOf yX1_lengthOf, .code yX1_lengthOf cX1_lengthOf 2 (some .int), .fieldLink RX1 15 "LoomPanel$Values" "lengths" "[I"] ++ wsX20 ++ wsX10)
def wsX2_fault : List Cond := .code yX2_fault cX2_fault 1 (some .int) :: ([])
def wsX2_totalOf : List Cond := .code yX2_totalOf cX2_totalOf 6 (some .long) :: ([.fieldLink RX2 10 "LoomPanel" "values" "LLoomPanel$Values;", .methodLink RX2 116 yX1_lengthOf, .instanceMethod yX1_lengthOf, .selects RX1 yX1_lengthOf yX1_lengthOf, .initialized RX1, .code yX1_lengthOf cX1_lengthOf 2 (some .int), .fieldLink RX1 15 "LoomPanel$Values" "lengths" "[I", .methodLink RX1 29 yX1_has, .instanceMethod yX1_has, .selects RX1 yX1_has yX1_has, .code yX1_has cX1_has 2 (some .boolean), .fieldLink RX1 25 "LoomPanel$Values" "made" "I", .methodLink RX2 65 yX1_cellOf, .instanceMethod yX1_cellOf, .selects RX1 yX1_cellOf yX1_cellOf, .code yX1_cellOf cX1_cellOf 3 (some .long), .fieldLink RX1 21 "LoomPanel$Values" "cells" "[J", .methodLink RX1 37 yX1_hasPlace, .instanceMethod yX1_hasPlace, .selects RX1 yX1_hasPlace yX1_hasPlace, .code yX1_hasPlace cX1_hasPlace 3 (some .boolean)] ++ wsX20 ++ wsX10)
def wsX2_sum_r1 : List Cond := [Cond.fieldLink RX2 10 "LoomPanel" "values" "LLoomPanel$Values;", Cond.methodLink RX2 130 yX2_fault, Cond.static yX2_fault, Cond.initialized RX2, Cond.code yX2_fault cX2_fault 1 (some .int), Cond.methodLink RX2 47 yX1_isNumbers, Cond.instanceMethod yX1_isNumbers, Cond.selects RX1 yX1_isNumbers yX1_isNumbers, Cond.initialized RX1, Cond.code yX1_isNumbers cX1_isNumbers 2 (some .boolean), Cond.fieldLink RX1 9 "LoomPanel$Values" "forms" "[I", Cond.methodLink RX1 29 yX1_has, Cond.instanceMethod yX1_has, Cond.selects RX1 yX1_has yX1_has, Cond.code yX1_has cX1_has 2 (some .boolean), Cond.fieldLink RX1 25 "LoomPanel$Values" "made" "I", Cond.methodLink RX2 175 yX2_totalOf, Cond.instanceMethod yX2_totalOf, Cond.selects RX2 yX2_totalOf yX2_totalOf, Cond.code yX2_totalOf cX2_totalOf 6 (some .long), Cond.methodLink RX2 116 yX1_lengthOf, Cond.instanceMethod yX1_lengthOf, Cond.selects RX1 yX1_lengthOf yX1_lengthOf, Cond.code yX1_lengthOf cX1_lengthOf 2 (some .int)]
def wsX2_sum_r2 : List Cond := [Cond.fieldLink RX1 15 "LoomPanel$Values" "lengths" "[I", Cond.methodLink RX2 65 yX1_cellOf, Cond.instanceMethod yX1_cellOf, Cond.selects RX1 yX1_cellOf yX1_cellOf, Cond.code yX1_cellOf cX1_cellOf 3 (some .long), Cond.fieldLink RX1 21 "LoomPanel$Values" "cells" "[J", Cond.methodLink RX1 37 yX1_hasPlace, Cond.instanceMethod yX1_hasPlace, Cond.selects RX1 yX1_hasPlace yX1_hasPlace, Cond.code yX1_hasPlace cX1_hasPlace 3 (some .boolean), Cond.methodLink RX2 179 yX1_addSingle, Cond.instanceMethod yX1_addSingle, Cond.selects RX1 yX1_addSingle yX1_addSingle, Cond.code yX1_addSingle cX1_addSingle 5 (some .int), Cond.methodLink RX1 51 yX1_add, Cond.instanceMethod yX1_add, Cond.selects RX1 yX1_add yX1_add, Cond.code yX1_add cX1_add 6 (some .int), Cond.fieldLink RX1 18 "LoomPanel$Values" "levels" "[I", Cond.static yX2_isLength, Cond.code yX2_isLength cX2_isLength 1 (some .boolean), Cond.static yX2_isBoardForm, Cond.code yX2_isBoardForm cX2_isBoardForm 1 (some .boolean), Cond.methodLink RX1 55 yX1_put]
def wsX2_sum_r3 : List Cond := [Cond.instanceMethod yX1_put, Cond.selects RX1 yX1_put yX1_put, Cond.code yX1_put cX1_put 5 none, Cond.methodLink RX1 41 yX1_lowestBits, Cond.static yX1_lowestBits, Cond.code yX1_lowestBits cX1_lowestBits 3 (some .long), Cond.methodLink RX2 58 yX1_isA, Cond.instanceMethod yX1_isA, Cond.selects RX1 yX1_isA yX1_isA, Cond.code yX1_isA cX1_isA 3 (some .boolean), Cond.static yX2_viewsOfForm, Cond.code yX2_viewsOfForm cX2_viewsOfForm 1 (some .int), Cond.methodLink RX2 37 yX1_add, Cond.methodLink RX2 183 yX1_placed, Cond.instanceMethod yX1_placed, Cond.selects RX1 yX1_placed yX1_placed, Cond.code yX1_placed cX1_placed 3 (some .int), Cond.methodLink RX2 54 yX1_put]
def wsX2_sum : List Cond := .code yX2_sum cX2_sum 5 (some .int) :: ((wsX2_sum_r1 ++ (wsX2_sum_r2 ++ wsX2_sum_r3)) ++ wsX20 ++ wsX10)
def wsX2_widen_r1 : List Cond := [Cond.fieldLink RX2 10 "LoomPanel" "values" "LLoomPanel$Values;", Cond.methodLink RX2 130 yX2_fault, Cond.static yX2_fault, Cond.initialized RX2, Cond.code yX2_fault cX2_fault 1 (some .int), Cond.methodLink RX2 58 yX1_isA, Cond.instanceMethod yX1_isA, Cond.selects RX1 yX1_isA yX1_isA, Cond.initialized RX1, Cond.code yX1_isA cX1_isA 3 (some .boolean), Cond.fieldLink RX1 9 "LoomPanel$Values" "forms" "[I", Cond.methodLink RX1 29 yX1_has, Cond.instanceMethod yX1_has, Cond.selects RX1 yX1_has yX1_has, Cond.code yX1_has cX1_has 2 (some .boolean), Cond.fieldLink RX1 25 "LoomPanel$Values" "made" "I", Cond.static yX2_viewsOfForm, Cond.code yX2_viewsOfForm cX2_viewsOfForm 1 (some .int), Cond.methodLink RX2 186 yX1_addCopy, Cond.instanceMethod yX1_addCopy, Cond.selects RX1 yX1_addCopy yX1_addCopy, Cond.code yX1_addCopy cX1_addCopy 4 (some .int), Cond.methodLink RX1 59 yX1_lengthOf, Cond.instanceMethod yX1_lengthOf]
def wsX2_widen_r2 : List Cond := [Cond.selects RX1 yX1_lengthOf yX1_lengthOf, Cond.code yX1_lengthOf cX1_lengthOf 2 (some .int), Cond.fieldLink RX1 15 "LoomPanel$Values" "lengths" "[I", Cond.methodLink RX1 51 yX1_add, Cond.instanceMethod yX1_add, Cond.selects RX1 yX1_add yX1_add, Cond.code yX1_add cX1_add 6 (some .int), Cond.fieldLink RX1 18 "LoomPanel$Values" "levels" "[I", Cond.fieldLink RX1 21 "LoomPanel$Values" "cells" "[J", Cond.static yX2_isLength, Cond.code yX2_isLength cX2_isLength 1 (some .boolean), Cond.static yX2_isBoardForm, Cond.code yX2_isBoardForm cX2_isBoardForm 1 (some .boolean), Cond.methodLink RX1 62 yX1_copyCells, Cond.instanceMethod yX1_copyCells, Cond.selects RX1 yX1_copyCells yX1_copyCells, Cond.code yX1_copyCells cX1_copyCells 6 none, Cond.methodLink RX1 66 yX1_cellOf, Cond.instanceMethod yX1_cellOf, Cond.selects RX1 yX1_cellOf yX1_cellOf, Cond.code yX1_cellOf cX1_cellOf 3 (some .long), Cond.methodLink RX1 37 yX1_hasPlace, Cond.instanceMethod yX1_hasPlace, Cond.selects RX1 yX1_hasPlace yX1_hasPlace]
def wsX2_widen_r3 : List Cond := [Cond.code yX1_hasPlace cX1_hasPlace 3 (some .boolean), Cond.methodLink RX1 55 yX1_put, Cond.instanceMethod yX1_put, Cond.selects RX1 yX1_put yX1_put, Cond.code yX1_put cX1_put 5 none, Cond.methodLink RX1 41 yX1_lowestBits, Cond.static yX1_lowestBits, Cond.code yX1_lowestBits cX1_lowestBits 3 (some .long)]
def wsX2_widen : List Cond := .code yX2_widen cX2_widen 2 (some .int) :: ((wsX2_widen_r1 ++ (wsX2_widen_r2 ++ wsX2_widen_r3)) ++ wsX20 ++ wsX10)
def wsX2_narrow_r1 : List Cond := [Cond.fieldLink RX2 10 "LoomPanel" "values" "LLoomPanel$Values;", Cond.methodLink RX2 130 yX2_fault, Cond.static yX2_fault, Cond.initialized RX2, Cond.code yX2_fault cX2_fault 1 (some .int), Cond.methodLink RX2 58 yX1_isA, Cond.instanceMethod yX1_isA, Cond.selects RX1 yX1_isA yX1_isA, Cond.initialized RX1, Cond.code yX1_isA cX1_isA 3 (some .boolean), Cond.fieldLink RX1 9 "LoomPanel$Values" "forms" "[I", Cond.methodLink RX1 29 yX1_has, Cond.instanceMethod yX1_has, Cond.selects RX1 yX1_has yX1_has, Cond.code yX1_has cX1_has 2 (some .boolean), Cond.fieldLink RX1 25 "LoomPanel$Values" "made" "I", Cond.static yX2_viewsOfForm, Cond.code yX2_viewsOfForm cX2_viewsOfForm 1 (some .int), Cond.methodLink RX2 186 yX1_addCopy, Cond.instanceMethod yX1_addCopy, Cond.selects RX1 yX1_addCopy yX1_addCopy, Cond.code yX1_addCopy cX1_addCopy 4 (some .int), Cond.methodLink RX1 59 yX1_lengthOf, Cond.instanceMethod yX1_lengthOf]
def wsX2_narrow_r2 : List Cond := [Cond.selects RX1 yX1_lengthOf yX1_lengthOf, Cond.code yX1_lengthOf cX1_lengthOf 2 (some .int), Cond.fieldLink RX1 15 "LoomPanel$Values" "lengths" "[I", Cond.methodLink RX1 51 yX1_add, Cond.instanceMethod yX1_add, Cond.selects RX1 yX1_add yX1_add, Cond.code yX1_add cX1_add 6 (some .int), Cond.fieldLink RX1 18 "LoomPanel$Values" "levels" "[I", Cond.fieldLink RX1 21 "LoomPanel$Values" "cells" "[J", Cond.static yX2_isLength, Cond.code yX2_isLength cX2_isLength 1 (some .boolean), Cond.static yX2_isBoardForm, Cond.code yX2_isBoardForm cX2_isBoardForm 1 (some .boolean), Cond.methodLink RX1 62 yX1_copyCells, Cond.instanceMethod yX1_copyCells, Cond.selects RX1 yX1_copyCells yX1_copyCells, Cond.code yX1_copyCells cX1_copyCells 6 none, Cond.methodLink RX1 66 yX1_cellOf, Cond.instanceMethod yX1_cellOf, Cond.selects RX1 yX1_cellOf yX1_cellOf, Cond.code yX1_cellOf cX1_cellOf 3 (some .long), Cond.methodLink RX1 37 yX1_hasPlace, Cond.instanceMethod yX1_hasPlace, Cond.selects RX1 yX1_hasPlace yX1_hasPlace]
def wsX2_narrow_r3 : List Cond := [Cond.code yX1_hasPlace cX1_hasPlace 3 (some .boolean), Cond.methodLink RX1 55 yX1_put, Cond.instanceMethod yX1_put, Cond.selects RX1 yX1_put yX1_put, Cond.code yX1_put cX1_put 5 none, Cond.methodLink RX1 41 yX1_lowestBits, Cond.static yX1_lowestBits, Cond.code yX1_lowestBits cX1_lowestBits 3 (some .long)]
def wsX2_narrow : List Cond := .code yX2_narrow cX2_narrow 2 (some .int) :: ((wsX2_narrow_r1 ++ (wsX2_narrow_r2 ++ wsX2_narrow_r3)) ++ wsX20 ++ wsX10)
def wsX2_tap_r1 : List Cond := [Cond.fieldLink RX2 10 "LoomPanel" "values" "LLoomPanel$Values;", Cond.methodLink RX2 130 yX2_fault, Cond.static yX2_fault, Cond.initialized RX2, Cond.code yX2_fault cX2_fault 1 (some .int), Cond.methodLink RX2 110 yX1_formOf, Cond.instanceMethod yX1_formOf, Cond.selects RX1 yX1_formOf yX1_formOf, Cond.initialized RX1, Cond.code yX1_formOf cX1_formOf 2 (some .int), Cond.fieldLink RX1 9 "LoomPanel$Values" "forms" "[I", Cond.methodLink RX1 29 yX1_has, Cond.instanceMethod yX1_has, Cond.selects RX1 yX1_has yX1_has, Cond.code yX1_has cX1_has 2 (some .boolean), Cond.fieldLink RX1 25 "LoomPanel$Values" "made" "I", Cond.methodLink RX2 41 yX2_isBoardForm, Cond.static yX2_isBoardForm, Cond.code yX2_isBoardForm cX2_isBoardForm 1 (some .boolean), Cond.methodLink RX2 50 yX1_hasPlace, Cond.instanceMethod yX1_hasPlace, Cond.selects RX1 yX1_hasPlace yX1_hasPlace, Cond.code yX1_hasPlace cX1_hasPlace 3 (some .boolean), Cond.fieldLink RX1 15 "LoomPanel$Values" "lengths" "[I"]
def wsX2_tap_r2 : List Cond := [Cond.methodLink RX2 183 yX1_placed, Cond.instanceMethod yX1_placed, Cond.selects RX1 yX1_placed yX1_placed, Cond.code yX1_placed cX1_placed 3 (some .int), Cond.fieldLink RX1 21 "LoomPanel$Values" "cells" "[J", Cond.methodLink RX1 37 yX1_hasPlace]
def wsX2_tap : List Cond := .code yX2_tap cX2_tap 4 (some .int) :: ((wsX2_tap_r1 ++ wsX2_tap_r2) ++ wsX20 ++ wsX10)
def wsX2_askedByLay : List Cond := .code yX2_askedByLay cX2_askedByLay 2 (some .int) :: ([.fieldLink RX2 10 "LoomPanel" "values" "LLoomPanel$Values;", .methodLink RX2 58 yX1_isA, .instanceMethod yX1_isA, .selects RX1 yX1_isA yX1_isA, .initialized RX1, .code yX1_isA cX1_isA 3 (some .boolean), .fieldLink RX1 9 "LoomPanel$Values" "forms" "[I", .methodLink RX1 29 yX1_has, .instanceMethod yX1_has, .selects RX1 yX1_has yX1_has, .code yX1_has cX1_has 2 (some .boolean), .fieldLink RX1 25 "LoomPanel$Values" "made" "I", .static yX2_viewsOfForm, .initialized RX2, .code yX2_viewsOfForm cX2_viewsOfForm 1 (some .int)] ++ wsX20 ++ wsX10)
def wsX2_isNoneOr : List Cond := .code yX2_isNoneOr cX2_isNoneOr 3 (some .boolean) :: ([.fieldLink RX2 10 "LoomPanel" "values" "LLoomPanel$Values;", .methodLink RX2 58 yX1_isA, .instanceMethod yX1_isA, .selects RX1 yX1_isA yX1_isA, .initialized RX1, .code yX1_isA cX1_isA 3 (some .boolean), .fieldLink RX1 9 "LoomPanel$Values" "forms" "[I", .methodLink RX1 29 yX1_has, .instanceMethod yX1_has, .selects RX1 yX1_has yX1_has, .code yX1_has cX1_has 2 (some .boolean), .fieldLink RX1 25 "LoomPanel$Values" "made" "I", .static yX2_viewsOfForm, .initialized RX2, .code yX2_viewsOfForm cX2_viewsOfForm 1 (some .int)] ++ wsX20 ++ wsX10)
def wsX2_takenBy : List Cond := .code yX2_takenBy cX2_takenBy 1 (some .int) :: ([])
def wsX2_lay_r1 : List Cond := [Cond.fieldLink RX2 10 "LoomPanel" "values" "LLoomPanel$Values;", Cond.methodLink RX2 189 yX2_askedByLay, Cond.instanceMethod yX2_askedByLay, Cond.selects RX2 yX2_askedByLay yX2_askedByLay, Cond.initialized RX2, Cond.code yX2_askedByLay cX2_askedByLay 2 (some .int), Cond.methodLink RX2 58 yX1_isA, Cond.instanceMethod yX1_isA, Cond.selects RX1 yX1_isA yX1_isA, Cond.initialized RX1, Cond.code yX1_isA cX1_isA 3 (some .boolean), Cond.fieldLink RX1 9 "LoomPanel$Values" "forms" "[I", Cond.methodLink RX1 29 yX1_has, Cond.instanceMethod yX1_has, Cond.selects RX1 yX1_has yX1_has, Cond.code yX1_has cX1_has 2 (some .boolean), Cond.fieldLink RX1 25 "LoomPanel$Values" "made" "I", Cond.static yX2_viewsOfForm, Cond.code yX2_viewsOfForm cX2_viewsOfForm 1 (some .int), Cond.methodLink RX2 192 yX2_isNoneOr, Cond.instanceMethod yX2_isNoneOr, Cond.selects RX2 yX2_isNoneOr yX2_isNoneOr, Cond.code yX2_isNoneOr cX2_isNoneOr 3 (some .boolean), Cond.methodLink RX2 130 yX2_fault]
def wsX2_lay_r2 : List Cond := [Cond.static yX2_fault, Cond.code yX2_fault cX2_fault 1 (some .int), Cond.methodLink RX2 110 yX1_formOf, Cond.instanceMethod yX1_formOf, Cond.selects RX1 yX1_formOf yX1_formOf, Cond.code yX1_formOf cX1_formOf 2 (some .int), Cond.methodLink RX2 41 yX2_isBoardForm, Cond.static yX2_isBoardForm, Cond.code yX2_isBoardForm cX2_isBoardForm 1 (some .boolean), Cond.methodLink RX2 50 yX1_hasPlace, Cond.instanceMethod yX1_hasPlace, Cond.selects RX1 yX1_hasPlace yX1_hasPlace, Cond.code yX1_hasPlace cX1_hasPlace 3 (some .boolean), Cond.fieldLink RX1 15 "LoomPanel$Values" "lengths" "[I", Cond.methodLink RX2 195 yX2_takenBy, Cond.static yX2_takenBy, Cond.code yX2_takenBy cX2_takenBy 1 (some .int), Cond.methodLink RX2 54 yX1_put, Cond.instanceMethod yX1_put, Cond.selects RX1 yX1_put yX1_put, Cond.code yX1_put cX1_put 5 none, Cond.fieldLink RX1 21 "LoomPanel$Values" "cells" "[J", Cond.methodLink RX1 37 yX1_hasPlace, Cond.methodLink RX1 41 yX1_lowestBits]
def wsX2_lay_r3 : List Cond := [Cond.static yX1_lowestBits, Cond.code yX1_lowestBits cX1_lowestBits 3 (some .long)]
def wsX2_lay : List Cond := .code yX2_lay cX2_lay 5 (some .int) :: ((wsX2_lay_r1 ++ (wsX2_lay_r2 ++ wsX2_lay_r3)) ++ wsX20 ++ wsX10)
def wsX2_levelsTimes_r1 : List Cond := [Cond.fieldLink RX2 10 "LoomPanel" "values" "LLoomPanel$Values;", Cond.methodLink RX2 116 yX1_lengthOf, Cond.instanceMethod yX1_lengthOf, Cond.selects RX1 yX1_lengthOf yX1_lengthOf, Cond.initialized RX1, Cond.code yX1_lengthOf cX1_lengthOf 2 (some .int), Cond.fieldLink RX1 15 "LoomPanel$Values" "lengths" "[I", Cond.methodLink RX1 29 yX1_has, Cond.instanceMethod yX1_has, Cond.selects RX1 yX1_has yX1_has, Cond.code yX1_has cX1_has 2 (some .boolean), Cond.fieldLink RX1 25 "LoomPanel$Values" "made" "I", Cond.methodLink RX2 37 yX1_add, Cond.instanceMethod yX1_add, Cond.selects RX1 yX1_add yX1_add, Cond.code yX1_add cX1_add 6 (some .int), Cond.fieldLink RX1 9 "LoomPanel$Values" "forms" "[I", Cond.fieldLink RX1 18 "LoomPanel$Values" "levels" "[I", Cond.fieldLink RX1 21 "LoomPanel$Values" "cells" "[J", Cond.static yX2_isLength, Cond.initialized RX2, Cond.code yX2_isLength cX2_isLength 1 (some .boolean), Cond.static yX2_isBoardForm, Cond.code yX2_isBoardForm cX2_isBoardForm 1 (some .boolean)]
def wsX2_levelsTimes_r2 : List Cond := [Cond.methodLink RX2 183 yX1_placed, Cond.instanceMethod yX1_placed, Cond.selects RX1 yX1_placed yX1_placed, Cond.code yX1_placed cX1_placed 3 (some .int), Cond.methodLink RX1 37 yX1_hasPlace, Cond.instanceMethod yX1_hasPlace, Cond.selects RX1 yX1_hasPlace yX1_hasPlace, Cond.code yX1_hasPlace cX1_hasPlace 3 (some .boolean), Cond.methodLink RX2 61 yX1_levelOf, Cond.instanceMethod yX1_levelOf, Cond.selects RX1 yX1_levelOf yX1_levelOf, Cond.code yX1_levelOf cX1_levelOf 2 (some .int), Cond.methodLink RX2 54 yX1_put, Cond.instanceMethod yX1_put, Cond.selects RX1 yX1_put yX1_put, Cond.code yX1_put cX1_put 5 none, Cond.methodLink RX1 41 yX1_lowestBits, Cond.static yX1_lowestBits, Cond.code yX1_lowestBits cX1_lowestBits 3 (some .long)]
def wsX2_levelsTimes : List Cond := .code yX2_levelsTimes cX2_levelsTimes 7 (some .int) :: ((wsX2_levelsTimes_r1 ++ wsX2_levelsTimes_r2) ++ wsX20 ++ wsX10)
def wsX2_levels_r1 : List Cond := [Cond.fieldLink RX2 10 "LoomPanel" "values" "LLoomPanel$Values;", Cond.methodLink RX2 130 yX2_fault, Cond.static yX2_fault, Cond.initialized RX2, Cond.code yX2_fault cX2_fault 1 (some .int), Cond.methodLink RX2 58 yX1_isA, Cond.instanceMethod yX1_isA, Cond.selects RX1 yX1_isA yX1_isA, Cond.initialized RX1, Cond.code yX1_isA cX1_isA 3 (some .boolean), Cond.fieldLink RX1 9 "LoomPanel$Values" "forms" "[I", Cond.methodLink RX1 29 yX1_has, Cond.instanceMethod yX1_has, Cond.selects RX1 yX1_has yX1_has, Cond.code yX1_has cX1_has 2 (some .boolean), Cond.fieldLink RX1 25 "LoomPanel$Values" "made" "I", Cond.static yX2_viewsOfForm, Cond.code yX2_viewsOfForm cX2_viewsOfForm 1 (some .int), Cond.methodLink RX2 198 yX2_levelsTimes, Cond.instanceMethod yX2_levelsTimes, Cond.selects RX2 yX2_levelsTimes yX2_levelsTimes, Cond.code yX2_levelsTimes cX2_levelsTimes 7 (some .int), Cond.methodLink RX2 116 yX1_lengthOf, Cond.instanceMethod yX1_lengthOf]
def wsX2_levels_r2 : List Cond := [Cond.selects RX1 yX1_lengthOf yX1_lengthOf, Cond.code yX1_lengthOf cX1_lengthOf 2 (some .int), Cond.fieldLink RX1 15 "LoomPanel$Values" "lengths" "[I", Cond.methodLink RX2 37 yX1_add, Cond.instanceMethod yX1_add, Cond.selects RX1 yX1_add yX1_add, Cond.code yX1_add cX1_add 6 (some .int), Cond.fieldLink RX1 18 "LoomPanel$Values" "levels" "[I", Cond.fieldLink RX1 21 "LoomPanel$Values" "cells" "[J", Cond.static yX2_isLength, Cond.code yX2_isLength cX2_isLength 1 (some .boolean), Cond.static yX2_isBoardForm, Cond.code yX2_isBoardForm cX2_isBoardForm 1 (some .boolean), Cond.methodLink RX2 183 yX1_placed, Cond.instanceMethod yX1_placed, Cond.selects RX1 yX1_placed yX1_placed, Cond.code yX1_placed cX1_placed 3 (some .int), Cond.methodLink RX1 37 yX1_hasPlace, Cond.instanceMethod yX1_hasPlace, Cond.selects RX1 yX1_hasPlace yX1_hasPlace, Cond.code yX1_hasPlace cX1_hasPlace 3 (some .boolean), Cond.methodLink RX2 61 yX1_levelOf, Cond.instanceMethod yX1_levelOf, Cond.selects RX1 yX1_levelOf yX1_levelOf]
def wsX2_levels_r3 : List Cond := [Cond.code yX1_levelOf cX1_levelOf 2 (some .int), Cond.methodLink RX2 54 yX1_put, Cond.instanceMethod yX1_put, Cond.selects RX1 yX1_put yX1_put, Cond.code yX1_put cX1_put 5 none, Cond.methodLink RX1 41 yX1_lowestBits, Cond.static yX1_lowestBits, Cond.code yX1_lowestBits cX1_lowestBits 3 (some .long)]
def wsX2_levels : List Cond := .code yX2_levels cX2_levels 2 (some .int) :: ((wsX2_levels_r1 ++ (wsX2_levels_r2 ++ wsX2_levels_r3)) ++ wsX20 ++ wsX10)
def wsX2_drive_r1 : List Cond := [Cond.fieldLink RX2 10 "LoomPanel" "values" "LLoomPanel$Values;", Cond.methodLink RX2 130 yX2_fault, Cond.static yX2_fault, Cond.initialized RX2, Cond.code yX2_fault cX2_fault 1 (some .int), Cond.methodLink RX2 58 yX1_isA, Cond.instanceMethod yX1_isA, Cond.selects RX1 yX1_isA yX1_isA, Cond.initialized RX1, Cond.code yX1_isA cX1_isA 3 (some .boolean), Cond.fieldLink RX1 9 "LoomPanel$Values" "forms" "[I", Cond.methodLink RX1 29 yX1_has, Cond.instanceMethod yX1_has, Cond.selects RX1 yX1_has yX1_has, Cond.code yX1_has cX1_has 2 (some .boolean), Cond.fieldLink RX1 25 "LoomPanel$Values" "made" "I", Cond.static yX2_viewsOfForm, Cond.code yX2_viewsOfForm cX2_viewsOfForm 1 (some .int), Cond.methodLink RX2 116 yX1_lengthOf, Cond.instanceMethod yX1_lengthOf, Cond.selects RX1 yX1_lengthOf yX1_lengthOf, Cond.code yX1_lengthOf cX1_lengthOf 2 (some .int), Cond.fieldLink RX1 15 "LoomPanel$Values" "lengths" "[I", Cond.methodLink RX2 117 yX1_made]
def wsX2_drive_r2 : List Cond := [Cond.instanceMethod yX1_made, Cond.selects RX1 yX1_made yX1_made, Cond.code yX1_made cX1_made 1 (some .int), Cond.methodLink RX2 65 yX1_cellOf, Cond.instanceMethod yX1_cellOf, Cond.selects RX1 yX1_cellOf yX1_cellOf, Cond.code yX1_cellOf cX1_cellOf 3 (some .long), Cond.fieldLink RX1 21 "LoomPanel$Values" "cells" "[J", Cond.methodLink RX1 37 yX1_hasPlace, Cond.instanceMethod yX1_hasPlace, Cond.selects RX1 yX1_hasPlace yX1_hasPlace, Cond.code yX1_hasPlace cX1_hasPlace 3 (some .boolean), Cond.methodLink RX2 44 yX1_addWire, Cond.instanceMethod yX1_addWire, Cond.selects RX1 yX1_addWire yX1_addWire, Cond.code yX1_addWire cX1_addWire 4 (some .int), Cond.fieldLink RX1 18 "LoomPanel$Values" "levels" "[I", Cond.methodLink RX1 51 yX1_add, Cond.instanceMethod yX1_add, Cond.selects RX1 yX1_add yX1_add, Cond.code yX1_add cX1_add 6 (some .int), Cond.static yX2_isLength, Cond.code yX2_isLength cX2_isLength 1 (some .boolean), Cond.static yX2_isBoardForm]
def wsX2_drive_r3 : List Cond := [Cond.code yX2_isBoardForm cX2_isBoardForm 1 (some .boolean), Cond.methodLink RX2 37 yX1_add, Cond.methodLink RX2 54 yX1_put, Cond.instanceMethod yX1_put, Cond.selects RX1 yX1_put yX1_put, Cond.code yX1_put cX1_put 5 none, Cond.methodLink RX1 41 yX1_lowestBits, Cond.static yX1_lowestBits, Cond.code yX1_lowestBits cX1_lowestBits 3 (some .long)]
def wsX2_drive : List Cond := .code yX2_drive cX2_drive 7 (some .int) :: ((wsX2_drive_r1 ++ (wsX2_drive_r2 ++ wsX2_drive_r3)) ++ wsX20 ++ wsX10)
def wsX2_pair_r1 : List Cond := [Cond.fieldLink RX2 10 "LoomPanel" "values" "LLoomPanel$Values;", Cond.methodLink RX2 192 yX2_isNoneOr, Cond.instanceMethod yX2_isNoneOr, Cond.selects RX2 yX2_isNoneOr yX2_isNoneOr, Cond.initialized RX2, Cond.code yX2_isNoneOr cX2_isNoneOr 3 (some .boolean), Cond.methodLink RX2 58 yX1_isA, Cond.instanceMethod yX1_isA, Cond.selects RX1 yX1_isA yX1_isA, Cond.initialized RX1, Cond.code yX1_isA cX1_isA 3 (some .boolean), Cond.fieldLink RX1 9 "LoomPanel$Values" "forms" "[I", Cond.methodLink RX1 29 yX1_has, Cond.instanceMethod yX1_has, Cond.selects RX1 yX1_has yX1_has, Cond.code yX1_has cX1_has 2 (some .boolean), Cond.fieldLink RX1 25 "LoomPanel$Values" "made" "I", Cond.static yX2_viewsOfForm, Cond.code yX2_viewsOfForm cX2_viewsOfForm 1 (some .int), Cond.methodLink RX2 130 yX2_fault, Cond.static yX2_fault, Cond.code yX2_fault cX2_fault 1 (some .int), Cond.methodLink RX2 37 yX1_add, Cond.instanceMethod yX1_add]
def wsX2_pair_r2 : List Cond := [Cond.selects RX1 yX1_add yX1_add, Cond.code yX1_add cX1_add 6 (some .int), Cond.fieldLink RX1 15 "LoomPanel$Values" "lengths" "[I", Cond.fieldLink RX1 18 "LoomPanel$Values" "levels" "[I", Cond.fieldLink RX1 21 "LoomPanel$Values" "cells" "[J", Cond.static yX2_isLength, Cond.code yX2_isLength cX2_isLength 1 (some .boolean), Cond.static yX2_isBoardForm, Cond.code yX2_isBoardForm cX2_isBoardForm 1 (some .boolean), Cond.methodLink RX2 54 yX1_put, Cond.instanceMethod yX1_put, Cond.selects RX1 yX1_put yX1_put, Cond.code yX1_put cX1_put 5 none, Cond.methodLink RX1 37 yX1_hasPlace, Cond.instanceMethod yX1_hasPlace, Cond.selects RX1 yX1_hasPlace yX1_hasPlace, Cond.code yX1_hasPlace cX1_hasPlace 3 (some .boolean), Cond.methodLink RX1 41 yX1_lowestBits, Cond.static yX1_lowestBits, Cond.code yX1_lowestBits cX1_lowestBits 3 (some .long)]
def wsX2_pair : List Cond := .code yX2_pair cX2_pair 6 (some .int) :: ((wsX2_pair_r1 ++ wsX2_pair_r2) ++ wsX20 ++ wsX10)
def wsX2_power_r1 : List Cond := [Cond.fieldLink RX2 10 "LoomPanel" "values" "LLoomPanel$Values;", Cond.constantLong RX2 201 (3), Cond.methodLink RX2 130 yX2_fault, Cond.static yX2_fault, Cond.initialized RX2, Cond.code yX2_fault cX2_fault 1 (some .int), Cond.methodLink RX2 58 yX1_isA, Cond.instanceMethod yX1_isA, Cond.selects RX1 yX1_isA yX1_isA, Cond.initialized RX1, Cond.code yX1_isA cX1_isA 3 (some .boolean), Cond.fieldLink RX1 9 "LoomPanel$Values" "forms" "[I", Cond.methodLink RX1 29 yX1_has, Cond.instanceMethod yX1_has, Cond.selects RX1 yX1_has yX1_has, Cond.code yX1_has cX1_has 2 (some .boolean), Cond.fieldLink RX1 25 "LoomPanel$Values" "made" "I", Cond.static yX2_viewsOfForm, Cond.code yX2_viewsOfForm cX2_viewsOfForm 1 (some .int), Cond.methodLink RX2 61 yX1_levelOf, Cond.instanceMethod yX1_levelOf, Cond.selects RX1 yX1_levelOf yX1_levelOf, Cond.code yX1_levelOf cX1_levelOf 2 (some .int), Cond.fieldLink RX1 18 "LoomPanel$Values" "levels" "[I"]
def wsX2_power_r2 : List Cond := [Cond.methodLink RX2 179 yX1_addSingle, Cond.instanceMethod yX1_addSingle, Cond.selects RX1 yX1_addSingle yX1_addSingle, Cond.code yX1_addSingle cX1_addSingle 5 (some .int), Cond.methodLink RX1 51 yX1_add, Cond.instanceMethod yX1_add, Cond.selects RX1 yX1_add yX1_add, Cond.code yX1_add cX1_add 6 (some .int), Cond.fieldLink RX1 15 "LoomPanel$Values" "lengths" "[I", Cond.fieldLink RX1 21 "LoomPanel$Values" "cells" "[J", Cond.static yX2_isLength, Cond.code yX2_isLength cX2_isLength 1 (some .boolean), Cond.static yX2_isBoardForm, Cond.code yX2_isBoardForm cX2_isBoardForm 1 (some .boolean), Cond.methodLink RX1 55 yX1_put, Cond.instanceMethod yX1_put, Cond.selects RX1 yX1_put yX1_put, Cond.code yX1_put cX1_put 5 none, Cond.methodLink RX1 37 yX1_hasPlace, Cond.instanceMethod yX1_hasPlace, Cond.selects RX1 yX1_hasPlace yX1_hasPlace, Cond.code yX1_hasPlace cX1_hasPlace 3 (some .boolean), Cond.methodLink RX1 41 yX1_lowestBits, Cond.static yX1_lowestBits]
def wsX2_power_r3 : List Cond := [Cond.code yX1_lowestBits cX1_lowestBits 3 (some .long), Cond.methodLink RX2 198 yX2_levelsTimes, Cond.instanceMethod yX2_levelsTimes, Cond.selects RX2 yX2_levelsTimes yX2_levelsTimes, Cond.code yX2_levelsTimes cX2_levelsTimes 7 (some .int), Cond.methodLink RX2 116 yX1_lengthOf, Cond.instanceMethod yX1_lengthOf, Cond.selects RX1 yX1_lengthOf yX1_lengthOf, Cond.code yX1_lengthOf cX1_lengthOf 2 (some .int), Cond.methodLink RX2 37 yX1_add, Cond.methodLink RX2 183 yX1_placed, Cond.instanceMethod yX1_placed, Cond.selects RX1 yX1_placed yX1_placed, Cond.code yX1_placed cX1_placed 3 (some .int), Cond.methodLink RX2 54 yX1_put]
def wsX2_power : List Cond := .code yX2_power cX2_power 2 (some .int) :: ((wsX2_power_r1 ++ (wsX2_power_r2 ++ wsX2_power_r3)) ++ wsX20 ++ wsX10)
def wsX2_holdsOnlyLives_r1 : List Cond := [Cond.fieldLink RX2 10 "LoomPanel" "values" "LLoomPanel$Values;", Cond.methodLink RX2 116 yX1_lengthOf, Cond.instanceMethod yX1_lengthOf, Cond.selects RX1 yX1_lengthOf yX1_lengthOf, Cond.initialized RX1, Cond.code yX1_lengthOf cX1_lengthOf 2 (some .int), Cond.fieldLink RX1 15 "LoomPanel$Values" "lengths" "[I", Cond.methodLink RX1 29 yX1_has, Cond.instanceMethod yX1_has, Cond.selects RX1 yX1_has yX1_has, Cond.code yX1_has cX1_has 2 (some .boolean), Cond.fieldLink RX1 25 "LoomPanel$Values" "made" "I", Cond.methodLink RX2 183 yX1_placed, Cond.instanceMethod yX1_placed, Cond.selects RX1 yX1_placed yX1_placed, Cond.code yX1_placed cX1_placed 3 (some .int), Cond.fieldLink RX1 21 "LoomPanel$Values" "cells" "[J", Cond.methodLink RX1 37 yX1_hasPlace, Cond.instanceMethod yX1_hasPlace, Cond.selects RX1 yX1_hasPlace yX1_hasPlace, Cond.code yX1_hasPlace cX1_hasPlace 3 (some .boolean), Cond.methodLink RX2 192 yX2_isNoneOr, Cond.instanceMethod yX2_isNoneOr, Cond.selects RX2 yX2_isNoneOr yX2_isNoneOr]
def wsX2_holdsOnlyLives_r2 : List Cond := [Cond.initialized RX2, Cond.code yX2_isNoneOr cX2_isNoneOr 3 (some .boolean), Cond.methodLink RX2 58 yX1_isA, Cond.instanceMethod yX1_isA, Cond.selects RX1 yX1_isA yX1_isA, Cond.code yX1_isA cX1_isA 3 (some .boolean), Cond.fieldLink RX1 9 "LoomPanel$Values" "forms" "[I", Cond.static yX2_viewsOfForm, Cond.code yX2_viewsOfForm cX2_viewsOfForm 1 (some .int)]
def wsX2_holdsOnlyLives : List Cond := .code yX2_holdsOnlyLives cX2_holdsOnlyLives 4 (some .boolean) :: ((wsX2_holdsOnlyLives_r1 ++ wsX2_holdsOnlyLives_r2) ++ wsX20 ++ wsX10)
def wsX2_join_r1 : List Cond := [Cond.fieldLink RX2 10 "LoomPanel" "values" "LLoomPanel$Values;", Cond.methodLink RX2 47 yX1_isNumbers, Cond.instanceMethod yX1_isNumbers, Cond.selects RX1 yX1_isNumbers yX1_isNumbers, Cond.initialized RX1, Cond.code yX1_isNumbers cX1_isNumbers 2 (some .boolean), Cond.fieldLink RX1 9 "LoomPanel$Values" "forms" "[I", Cond.methodLink RX1 29 yX1_has, Cond.instanceMethod yX1_has, Cond.selects RX1 yX1_has yX1_has, Cond.code yX1_has cX1_has 2 (some .boolean), Cond.fieldLink RX1 25 "LoomPanel$Values" "made" "I", Cond.methodLink RX2 110 yX1_formOf, Cond.instanceMethod yX1_formOf, Cond.selects RX1 yX1_formOf yX1_formOf, Cond.code yX1_formOf cX1_formOf 2 (some .int), Cond.methodLink RX2 192 yX2_isNoneOr, Cond.instanceMethod yX2_isNoneOr, Cond.selects RX2 yX2_isNoneOr yX2_isNoneOr, Cond.initialized RX2, Cond.code yX2_isNoneOr cX2_isNoneOr 3 (some .boolean), Cond.methodLink RX2 58 yX1_isA, Cond.instanceMethod yX1_isA, Cond.selects RX1 yX1_isA yX1_isA]
def wsX2_join_r2 : List Cond := [Cond.code yX1_isA cX1_isA 3 (some .boolean), Cond.static yX2_viewsOfForm, Cond.code yX2_viewsOfForm cX2_viewsOfForm 1 (some .int), Cond.methodLink RX2 130 yX2_fault, Cond.static yX2_fault, Cond.code yX2_fault cX2_fault 1 (some .int), Cond.methodLink RX2 116 yX1_lengthOf, Cond.instanceMethod yX1_lengthOf, Cond.selects RX1 yX1_lengthOf yX1_lengthOf, Cond.code yX1_lengthOf cX1_lengthOf 2 (some .int), Cond.fieldLink RX1 15 "LoomPanel$Values" "lengths" "[I", Cond.methodLink RX2 203 yX2_holdsOnlyLives, Cond.instanceMethod yX2_holdsOnlyLives, Cond.selects RX2 yX2_holdsOnlyLives yX2_holdsOnlyLives, Cond.code yX2_holdsOnlyLives cX2_holdsOnlyLives 4 (some .boolean), Cond.methodLink RX2 183 yX1_placed, Cond.instanceMethod yX1_placed, Cond.selects RX1 yX1_placed yX1_placed, Cond.code yX1_placed cX1_placed 3 (some .int), Cond.fieldLink RX1 21 "LoomPanel$Values" "cells" "[J", Cond.methodLink RX1 37 yX1_hasPlace, Cond.instanceMethod yX1_hasPlace, Cond.selects RX1 yX1_hasPlace yX1_hasPlace, Cond.code yX1_hasPlace cX1_hasPlace 3 (some .boolean)]
def wsX2_join_r3 : List Cond := [Cond.methodLink RX2 37 yX1_add, Cond.instanceMethod yX1_add, Cond.selects RX1 yX1_add yX1_add, Cond.code yX1_add cX1_add 6 (some .int), Cond.fieldLink RX1 18 "LoomPanel$Values" "levels" "[I", Cond.static yX2_isLength, Cond.code yX2_isLength cX2_isLength 1 (some .boolean), Cond.static yX2_isBoardForm, Cond.code yX2_isBoardForm cX2_isBoardForm 1 (some .boolean), Cond.methodLink RX2 206 yX1_copyCells, Cond.instanceMethod yX1_copyCells, Cond.selects RX1 yX1_copyCells yX1_copyCells, Cond.code yX1_copyCells cX1_copyCells 6 none, Cond.methodLink RX1 59 yX1_lengthOf, Cond.methodLink RX1 66 yX1_cellOf, Cond.instanceMethod yX1_cellOf, Cond.selects RX1 yX1_cellOf yX1_cellOf, Cond.code yX1_cellOf cX1_cellOf 3 (some .long), Cond.methodLink RX1 55 yX1_put, Cond.instanceMethod yX1_put, Cond.selects RX1 yX1_put yX1_put, Cond.code yX1_put cX1_put 5 none, Cond.methodLink RX1 41 yX1_lowestBits, Cond.static yX1_lowestBits]
def wsX2_join_r4 : List Cond := [Cond.code yX1_lowestBits cX1_lowestBits 3 (some .long)]
def wsX2_join : List Cond := .code yX2_join cX2_join 8 (some .int) :: ((wsX2_join_r1 ++ (wsX2_join_r2 ++ (wsX2_join_r3 ++ wsX2_join_r4))) ++ wsX20 ++ wsX10)
def wsX2_copy_r1 : List Cond := [Cond.fieldLink RX2 10 "LoomPanel" "values" "LLoomPanel$Values;", Cond.methodLink RX2 130 yX2_fault, Cond.static yX2_fault, Cond.initialized RX2, Cond.code yX2_fault cX2_fault 1 (some .int), Cond.methodLink RX2 58 yX1_isA, Cond.instanceMethod yX1_isA, Cond.selects RX1 yX1_isA yX1_isA, Cond.initialized RX1, Cond.code yX1_isA cX1_isA 3 (some .boolean), Cond.fieldLink RX1 9 "LoomPanel$Values" "forms" "[I", Cond.methodLink RX1 29 yX1_has, Cond.instanceMethod yX1_has, Cond.selects RX1 yX1_has yX1_has, Cond.code yX1_has cX1_has 2 (some .boolean), Cond.fieldLink RX1 25 "LoomPanel$Values" "made" "I", Cond.static yX2_viewsOfForm, Cond.code yX2_viewsOfForm cX2_viewsOfForm 1 (some .int), Cond.methodLink RX2 110 yX1_formOf, Cond.instanceMethod yX1_formOf, Cond.selects RX1 yX1_formOf yX1_formOf, Cond.code yX1_formOf cX1_formOf 2 (some .int), Cond.methodLink RX2 186 yX1_addCopy, Cond.instanceMethod yX1_addCopy]
def wsX2_copy_r2 : List Cond := [Cond.selects RX1 yX1_addCopy yX1_addCopy, Cond.code yX1_addCopy cX1_addCopy 4 (some .int), Cond.methodLink RX1 59 yX1_lengthOf, Cond.instanceMethod yX1_lengthOf, Cond.selects RX1 yX1_lengthOf yX1_lengthOf, Cond.code yX1_lengthOf cX1_lengthOf 2 (some .int), Cond.fieldLink RX1 15 "LoomPanel$Values" "lengths" "[I", Cond.methodLink RX1 51 yX1_add, Cond.instanceMethod yX1_add, Cond.selects RX1 yX1_add yX1_add, Cond.code yX1_add cX1_add 6 (some .int), Cond.fieldLink RX1 18 "LoomPanel$Values" "levels" "[I", Cond.fieldLink RX1 21 "LoomPanel$Values" "cells" "[J", Cond.static yX2_isLength, Cond.code yX2_isLength cX2_isLength 1 (some .boolean), Cond.static yX2_isBoardForm, Cond.code yX2_isBoardForm cX2_isBoardForm 1 (some .boolean), Cond.methodLink RX1 62 yX1_copyCells, Cond.instanceMethod yX1_copyCells, Cond.selects RX1 yX1_copyCells yX1_copyCells, Cond.code yX1_copyCells cX1_copyCells 6 none, Cond.methodLink RX1 66 yX1_cellOf, Cond.instanceMethod yX1_cellOf, Cond.selects RX1 yX1_cellOf yX1_cellOf]
def wsX2_copy_r3 : List Cond := [Cond.code yX1_cellOf cX1_cellOf 3 (some .long), Cond.methodLink RX1 37 yX1_hasPlace, Cond.instanceMethod yX1_hasPlace, Cond.selects RX1 yX1_hasPlace yX1_hasPlace, Cond.code yX1_hasPlace cX1_hasPlace 3 (some .boolean), Cond.methodLink RX1 55 yX1_put, Cond.instanceMethod yX1_put, Cond.selects RX1 yX1_put yX1_put, Cond.code yX1_put cX1_put 5 none, Cond.methodLink RX1 41 yX1_lowestBits, Cond.static yX1_lowestBits, Cond.code yX1_lowestBits cX1_lowestBits 3 (some .long)]
def wsX2_copy : List Cond := .code yX2_copy cX2_copy 2 (some .int) :: ((wsX2_copy_r1 ++ (wsX2_copy_r2 ++ wsX2_copy_r3)) ++ wsX20 ++ wsX10)
def wsX2_makeCable : List Cond := .code yX2_makeCable cX2_makeCable 2 (some .int) :: ([.fieldLink RX2 10 "LoomPanel" "values" "LLoomPanel$Values;", .methodLink RX2 33 yX2_isLength, .static yX2_isLength, .initialized RX2, .code yX2_isLength cX2_isLength 1 (some .boolean), .methodLink RX2 37 yX1_add, .instanceMethod yX1_add, .selects RX1 yX1_add yX1_add, .initialized RX1, .code yX1_add cX1_add 6 (some .int), .fieldLink RX1 25 "LoomPanel$Values" "made" "I", .fieldLink RX1 9 "LoomPanel$Values" "forms" "[I", .fieldLink RX1 15 "LoomPanel$Values" "lengths" "[I", .fieldLink RX1 18 "LoomPanel$Values" "levels" "[I", .fieldLink RX1 21 "LoomPanel$Values" "cells" "[J", .static yX2_isBoardForm, .code yX2_isBoardForm cX2_isBoardForm 1 (some .boolean), .methodLink RX2 130 yX2_fault, .static yX2_fault, .code yX2_fault cX2_fault 1 (some .int)] ++ wsX20 ++ wsX10)
def wsX2_isView : List Cond := .code yX2_isView cX2_isView 1 (some .boolean) :: ([])
def wsX2_check_r1 : List Cond := [Cond.methodLink RX2 107 yX2_isView, Cond.static yX2_isView, Cond.initialized RX2, Cond.code yX2_isView cX2_isView 1 (some .boolean), Cond.methodLink RX2 192 yX2_isNoneOr, Cond.instanceMethod yX2_isNoneOr, Cond.selects RX2 yX2_isNoneOr yX2_isNoneOr, Cond.code yX2_isNoneOr cX2_isNoneOr 3 (some .boolean), Cond.fieldLink RX2 10 "LoomPanel" "values" "LLoomPanel$Values;", Cond.methodLink RX2 58 yX1_isA, Cond.instanceMethod yX1_isA, Cond.selects RX1 yX1_isA yX1_isA, Cond.initialized RX1, Cond.code yX1_isA cX1_isA 3 (some .boolean), Cond.fieldLink RX1 9 "LoomPanel$Values" "forms" "[I", Cond.methodLink RX1 29 yX1_has, Cond.instanceMethod yX1_has, Cond.selects RX1 yX1_has yX1_has, Cond.code yX1_has cX1_has 2 (some .boolean), Cond.fieldLink RX1 25 "LoomPanel$Values" "made" "I", Cond.static yX2_viewsOfForm, Cond.code yX2_viewsOfForm cX2_viewsOfForm 1 (some .int), Cond.methodLink RX2 130 yX2_fault, Cond.static yX2_fault]
def wsX2_check_r2 : List Cond := [Cond.code yX2_fault cX2_fault 1 (some .int)]
def wsX2_check : List Cond := .code yX2_check cX2_check 3 (some .int) :: ((wsX2_check_r1 ++ wsX2_check_r2) ++ wsX20 ++ wsX10)
def wsX2_answerOf_r1 : List Cond := [Cond.fieldLink RX2 10 "LoomPanel" "values" "LLoomPanel$Values;", Cond.methodLink RX2 117 yX1_made, Cond.instanceMethod yX1_made, Cond.selects RX1 yX1_made yX1_made, Cond.initialized RX1, Cond.code yX1_made cX1_made 1 (some .int), Cond.fieldLink RX1 25 "LoomPanel$Values" "made" "I", Cond.methodLink RX2 127 yX2_makes, Cond.instanceMethod yX2_makes, Cond.selects RX2 yX2_makes yX2_makes, Cond.initialized RX2, Cond.code yX2_makes cX2_makes 3 (some .int), Cond.methodLink RX2 58 yX1_isA, Cond.instanceMethod yX1_isA, Cond.selects RX1 yX1_isA yX1_isA, Cond.code yX1_isA cX1_isA 3 (some .boolean), Cond.fieldLink RX1 9 "LoomPanel$Values" "forms" "[I", Cond.methodLink RX1 29 yX1_has, Cond.instanceMethod yX1_has, Cond.selects RX1 yX1_has yX1_has, Cond.code yX1_has cX1_has 2 (some .boolean), Cond.static yX2_viewsOfForm, Cond.code yX2_viewsOfForm cX2_viewsOfForm 1 (some .int), Cond.methodLink RX2 116 yX1_lengthOf]
def wsX2_answerOf_r2 : List Cond := [Cond.instanceMethod yX1_lengthOf, Cond.selects RX1 yX1_lengthOf yX1_lengthOf, Cond.code yX1_lengthOf cX1_lengthOf 2 (some .int), Cond.fieldLink RX1 15 "LoomPanel$Values" "lengths" "[I", Cond.methodLink RX2 130 yX2_fault, Cond.static yX2_fault, Cond.code yX2_fault cX2_fault 1 (some .int), Cond.methodLink RX2 133 yX2_sum, Cond.instanceMethod yX2_sum, Cond.selects RX2 yX2_sum yX2_sum, Cond.code yX2_sum cX2_sum 5 (some .int), Cond.methodLink RX2 47 yX1_isNumbers, Cond.instanceMethod yX1_isNumbers, Cond.selects RX1 yX1_isNumbers yX1_isNumbers, Cond.code yX1_isNumbers cX1_isNumbers 2 (some .boolean), Cond.methodLink RX2 175 yX2_totalOf, Cond.instanceMethod yX2_totalOf, Cond.selects RX2 yX2_totalOf yX2_totalOf, Cond.code yX2_totalOf cX2_totalOf 6 (some .long), Cond.methodLink RX2 65 yX1_cellOf, Cond.instanceMethod yX1_cellOf, Cond.selects RX1 yX1_cellOf yX1_cellOf, Cond.code yX1_cellOf cX1_cellOf 3 (some .long), Cond.fieldLink RX1 21 "LoomPanel$Values" "cells" "[J"]
def wsX2_answerOf_r3 : List Cond := [Cond.methodLink RX1 37 yX1_hasPlace, Cond.instanceMethod yX1_hasPlace, Cond.selects RX1 yX1_hasPlace yX1_hasPlace, Cond.code yX1_hasPlace cX1_hasPlace 3 (some .boolean), Cond.methodLink RX2 179 yX1_addSingle, Cond.instanceMethod yX1_addSingle, Cond.selects RX1 yX1_addSingle yX1_addSingle, Cond.code yX1_addSingle cX1_addSingle 5 (some .int), Cond.methodLink RX1 51 yX1_add, Cond.instanceMethod yX1_add, Cond.selects RX1 yX1_add yX1_add, Cond.code yX1_add cX1_add 6 (some .int), Cond.fieldLink RX1 18 "LoomPanel$Values" "levels" "[I", Cond.static yX2_isLength, Cond.code yX2_isLength cX2_isLength 1 (some .boolean), Cond.static yX2_isBoardForm, Cond.code yX2_isBoardForm cX2_isBoardForm 1 (some .boolean), Cond.methodLink RX1 55 yX1_put, Cond.instanceMethod yX1_put, Cond.selects RX1 yX1_put yX1_put, Cond.code yX1_put cX1_put 5 none, Cond.methodLink RX1 41 yX1_lowestBits, Cond.static yX1_lowestBits, Cond.code yX1_lowestBits cX1_lowestBits 3 (some .long)]
def wsX2_answerOf_r4 : List Cond := [Cond.methodLink RX2 37 yX1_add, Cond.methodLink RX2 183 yX1_placed, Cond.instanceMethod yX1_placed, Cond.selects RX1 yX1_placed yX1_placed, Cond.code yX1_placed cX1_placed 3 (some .int), Cond.methodLink RX2 54 yX1_put, Cond.methodLink RX2 136 yX2_widen, Cond.instanceMethod yX2_widen, Cond.selects RX2 yX2_widen yX2_widen, Cond.code yX2_widen cX2_widen 2 (some .int), Cond.methodLink RX2 186 yX1_addCopy, Cond.instanceMethod yX1_addCopy, Cond.selects RX1 yX1_addCopy yX1_addCopy, Cond.code yX1_addCopy cX1_addCopy 4 (some .int), Cond.methodLink RX1 59 yX1_lengthOf, Cond.methodLink RX1 62 yX1_copyCells, Cond.instanceMethod yX1_copyCells, Cond.selects RX1 yX1_copyCells yX1_copyCells, Cond.code yX1_copyCells cX1_copyCells 6 none, Cond.methodLink RX1 66 yX1_cellOf, Cond.methodLink RX2 139 yX2_narrow, Cond.instanceMethod yX2_narrow, Cond.selects RX2 yX2_narrow yX2_narrow, Cond.code yX2_narrow cX2_narrow 2 (some .int)]
def wsX2_answerOf_r5 : List Cond := [Cond.methodLink RX2 142 yX2_tap, Cond.instanceMethod yX2_tap, Cond.selects RX2 yX2_tap yX2_tap, Cond.code yX2_tap cX2_tap 4 (some .int), Cond.methodLink RX2 110 yX1_formOf, Cond.instanceMethod yX1_formOf, Cond.selects RX1 yX1_formOf yX1_formOf, Cond.code yX1_formOf cX1_formOf 2 (some .int), Cond.methodLink RX2 41 yX2_isBoardForm, Cond.methodLink RX2 50 yX1_hasPlace, Cond.methodLink RX2 145 yX2_lay, Cond.instanceMethod yX2_lay, Cond.selects RX2 yX2_lay yX2_lay, Cond.code yX2_lay cX2_lay 5 (some .int), Cond.methodLink RX2 189 yX2_askedByLay, Cond.instanceMethod yX2_askedByLay, Cond.selects RX2 yX2_askedByLay yX2_askedByLay, Cond.code yX2_askedByLay cX2_askedByLay 2 (some .int), Cond.methodLink RX2 192 yX2_isNoneOr, Cond.instanceMethod yX2_isNoneOr, Cond.selects RX2 yX2_isNoneOr yX2_isNoneOr, Cond.code yX2_isNoneOr cX2_isNoneOr 3 (some .boolean), Cond.methodLink RX2 195 yX2_takenBy, Cond.static yX2_takenBy]
def wsX2_answerOf_r6 : List Cond := [Cond.code yX2_takenBy cX2_takenBy 1 (some .int), Cond.methodLink RX2 149 yX2_levels, Cond.instanceMethod yX2_levels, Cond.selects RX2 yX2_levels yX2_levels, Cond.code yX2_levels cX2_levels 2 (some .int), Cond.methodLink RX2 198 yX2_levelsTimes, Cond.instanceMethod yX2_levelsTimes, Cond.selects RX2 yX2_levelsTimes yX2_levelsTimes, Cond.code yX2_levelsTimes cX2_levelsTimes 7 (some .int), Cond.methodLink RX2 61 yX1_levelOf, Cond.instanceMethod yX1_levelOf, Cond.selects RX1 yX1_levelOf yX1_levelOf, Cond.code yX1_levelOf cX1_levelOf 2 (some .int), Cond.methodLink RX2 152 yX2_drive, Cond.instanceMethod yX2_drive, Cond.selects RX2 yX2_drive yX2_drive, Cond.code yX2_drive cX2_drive 7 (some .int), Cond.methodLink RX2 44 yX1_addWire, Cond.instanceMethod yX1_addWire, Cond.selects RX1 yX1_addWire yX1_addWire, Cond.code yX1_addWire cX1_addWire 4 (some .int), Cond.methodLink RX2 156 yX2_pair, Cond.instanceMethod yX2_pair, Cond.selects RX2 yX2_pair yX2_pair]
def wsX2_answerOf_r7 : List Cond := [Cond.code yX2_pair cX2_pair 6 (some .int), Cond.methodLink RX2 160 yX2_power, Cond.instanceMethod yX2_power, Cond.selects RX2 yX2_power yX2_power, Cond.code yX2_power cX2_power 2 (some .int), Cond.constantLong RX2 201 (3), Cond.methodLink RX2 163 yX2_join, Cond.instanceMethod yX2_join, Cond.selects RX2 yX2_join yX2_join, Cond.code yX2_join cX2_join 8 (some .int), Cond.methodLink RX2 203 yX2_holdsOnlyLives, Cond.instanceMethod yX2_holdsOnlyLives, Cond.selects RX2 yX2_holdsOnlyLives yX2_holdsOnlyLives, Cond.code yX2_holdsOnlyLives cX2_holdsOnlyLives 4 (some .boolean), Cond.methodLink RX2 206 yX1_copyCells, Cond.methodLink RX2 166 yX2_copy, Cond.instanceMethod yX2_copy, Cond.selects RX2 yX2_copy yX2_copy, Cond.code yX2_copy cX2_copy 2 (some .int), Cond.methodLink RX2 169 yX2_makeCable, Cond.instanceMethod yX2_makeCable, Cond.selects RX2 yX2_makeCable yX2_makeCable, Cond.code yX2_makeCable cX2_makeCable 2 (some .int), Cond.methodLink RX2 33 yX2_isLength]
def wsX2_answerOf_r8 : List Cond := [Cond.methodLink RX2 172 yX2_check, Cond.instanceMethod yX2_check, Cond.selects RX2 yX2_check yX2_check, Cond.code yX2_check cX2_check 3 (some .int), Cond.methodLink RX2 107 yX2_isView, Cond.static yX2_isView, Cond.code yX2_isView cX2_isView 1 (some .boolean)]
def wsX2_answerOf : List Cond := .code yX2_answerOf cX2_answerOf 5 (some .int) :: ((wsX2_answerOf_r1 ++ (wsX2_answerOf_r2 ++ (wsX2_answerOf_r3 ++ (wsX2_answerOf_r4 ++ (wsX2_answerOf_r5 ++ (wsX2_answerOf_r6 ++ (wsX2_answerOf_r7 ++ wsX2_answerOf_r8))))))) ++ wsX20 ++ wsX10)
def wsX2_isFault : List Cond := .code yX2_isFault cX2_isFault 1 (some .boolean) :: ([])
def wsX2_noted : List Cond := .code yX2_noted cX2_noted 2 (some .int) :: ([.fieldLink RX2 27 "LoomPanel" "faultsSoFar" "I", .fieldLink RX2 30 "LoomPanel" "latestFault" "I", .methodLink RX2 100 yX2_isFault, .static yX2_isFault, .initialized RX2, .code yX2_isFault cX2_isFault 1 (some .boolean)] ++ wsX20)
def wsX2_act_r1 : List Cond := [Cond.methodLink RX2 69 yX2_isAct, Cond.static yX2_isAct, Cond.initialized RX2, Cond.code yX2_isAct cX2_isAct 1 (some .boolean), Cond.methodLink RX2 72 yX2_isValueOrNone, Cond.instanceMethod yX2_isValueOrNone, Cond.selects RX2 yX2_isValueOrNone yX2_isValueOrNone, Cond.code yX2_isValueOrNone cX2_isValueOrNone 2 (some .boolean), Cond.fieldLink RX2 10 "LoomPanel" "values" "LLoomPanel$Values;", Cond.methodLink RX2 106 yX1_has, Cond.instanceMethod yX1_has, Cond.selects RX1 yX1_has yX1_has, Cond.initialized RX1, Cond.code yX1_has cX1_has 2 (some .boolean), Cond.fieldLink RX1 25 "LoomPanel$Values" "made" "I", Cond.methodLink RX2 75 yX2_answerOf, Cond.instanceMethod yX2_answerOf, Cond.selects RX2 yX2_answerOf yX2_answerOf, Cond.code yX2_answerOf cX2_answerOf 5 (some .int), Cond.methodLink RX2 117 yX1_made, Cond.instanceMethod yX1_made, Cond.selects RX1 yX1_made yX1_made, Cond.code yX1_made cX1_made 1 (some .int), Cond.methodLink RX2 127 yX2_makes]
def wsX2_act_r2 : List Cond := [Cond.instanceMethod yX2_makes, Cond.selects RX2 yX2_makes yX2_makes, Cond.code yX2_makes cX2_makes 3 (some .int), Cond.methodLink RX2 58 yX1_isA, Cond.instanceMethod yX1_isA, Cond.selects RX1 yX1_isA yX1_isA, Cond.code yX1_isA cX1_isA 3 (some .boolean), Cond.fieldLink RX1 9 "LoomPanel$Values" "forms" "[I", Cond.methodLink RX1 29 yX1_has, Cond.static yX2_viewsOfForm, Cond.code yX2_viewsOfForm cX2_viewsOfForm 1 (some .int), Cond.methodLink RX2 116 yX1_lengthOf, Cond.instanceMethod yX1_lengthOf, Cond.selects RX1 yX1_lengthOf yX1_lengthOf, Cond.code yX1_lengthOf cX1_lengthOf 2 (some .int), Cond.fieldLink RX1 15 "LoomPanel$Values" "lengths" "[I", Cond.methodLink RX2 130 yX2_fault, Cond.static yX2_fault, Cond.code yX2_fault cX2_fault 1 (some .int), Cond.methodLink RX2 133 yX2_sum, Cond.instanceMethod yX2_sum, Cond.selects RX2 yX2_sum yX2_sum, Cond.code yX2_sum cX2_sum 5 (some .int), Cond.methodLink RX2 47 yX1_isNumbers]
def wsX2_act_r3 : List Cond := [Cond.instanceMethod yX1_isNumbers, Cond.selects RX1 yX1_isNumbers yX1_isNumbers, Cond.code yX1_isNumbers cX1_isNumbers 2 (some .boolean), Cond.methodLink RX2 175 yX2_totalOf, Cond.instanceMethod yX2_totalOf, Cond.selects RX2 yX2_totalOf yX2_totalOf, Cond.code yX2_totalOf cX2_totalOf 6 (some .long), Cond.methodLink RX2 65 yX1_cellOf, Cond.instanceMethod yX1_cellOf, Cond.selects RX1 yX1_cellOf yX1_cellOf, Cond.code yX1_cellOf cX1_cellOf 3 (some .long), Cond.fieldLink RX1 21 "LoomPanel$Values" "cells" "[J", Cond.methodLink RX1 37 yX1_hasPlace, Cond.instanceMethod yX1_hasPlace, Cond.selects RX1 yX1_hasPlace yX1_hasPlace, Cond.code yX1_hasPlace cX1_hasPlace 3 (some .boolean), Cond.methodLink RX2 179 yX1_addSingle, Cond.instanceMethod yX1_addSingle, Cond.selects RX1 yX1_addSingle yX1_addSingle, Cond.code yX1_addSingle cX1_addSingle 5 (some .int), Cond.methodLink RX1 51 yX1_add, Cond.instanceMethod yX1_add, Cond.selects RX1 yX1_add yX1_add, Cond.code yX1_add cX1_add 6 (some .int)]
def wsX2_act_r4 : List Cond := [Cond.fieldLink RX1 18 "LoomPanel$Values" "levels" "[I", Cond.static yX2_isLength, Cond.code yX2_isLength cX2_isLength 1 (some .boolean), Cond.static yX2_isBoardForm, Cond.code yX2_isBoardForm cX2_isBoardForm 1 (some .boolean), Cond.methodLink RX1 55 yX1_put, Cond.instanceMethod yX1_put, Cond.selects RX1 yX1_put yX1_put, Cond.code yX1_put cX1_put 5 none, Cond.methodLink RX1 41 yX1_lowestBits, Cond.static yX1_lowestBits, Cond.code yX1_lowestBits cX1_lowestBits 3 (some .long), Cond.methodLink RX2 37 yX1_add, Cond.methodLink RX2 183 yX1_placed, Cond.instanceMethod yX1_placed, Cond.selects RX1 yX1_placed yX1_placed, Cond.code yX1_placed cX1_placed 3 (some .int), Cond.methodLink RX2 54 yX1_put, Cond.methodLink RX2 136 yX2_widen, Cond.instanceMethod yX2_widen, Cond.selects RX2 yX2_widen yX2_widen, Cond.code yX2_widen cX2_widen 2 (some .int), Cond.methodLink RX2 186 yX1_addCopy, Cond.instanceMethod yX1_addCopy]
def wsX2_act_r5 : List Cond := [Cond.selects RX1 yX1_addCopy yX1_addCopy, Cond.code yX1_addCopy cX1_addCopy 4 (some .int), Cond.methodLink RX1 59 yX1_lengthOf, Cond.methodLink RX1 62 yX1_copyCells, Cond.instanceMethod yX1_copyCells, Cond.selects RX1 yX1_copyCells yX1_copyCells, Cond.code yX1_copyCells cX1_copyCells 6 none, Cond.methodLink RX1 66 yX1_cellOf, Cond.methodLink RX2 139 yX2_narrow, Cond.instanceMethod yX2_narrow, Cond.selects RX2 yX2_narrow yX2_narrow, Cond.code yX2_narrow cX2_narrow 2 (some .int), Cond.methodLink RX2 142 yX2_tap, Cond.instanceMethod yX2_tap, Cond.selects RX2 yX2_tap yX2_tap, Cond.code yX2_tap cX2_tap 4 (some .int), Cond.methodLink RX2 110 yX1_formOf, Cond.instanceMethod yX1_formOf, Cond.selects RX1 yX1_formOf yX1_formOf, Cond.code yX1_formOf cX1_formOf 2 (some .int), Cond.methodLink RX2 41 yX2_isBoardForm, Cond.methodLink RX2 50 yX1_hasPlace, Cond.methodLink RX2 145 yX2_lay, Cond.instanceMethod yX2_lay]
def wsX2_act_r6 : List Cond := [Cond.selects RX2 yX2_lay yX2_lay, Cond.code yX2_lay cX2_lay 5 (some .int), Cond.methodLink RX2 189 yX2_askedByLay, Cond.instanceMethod yX2_askedByLay, Cond.selects RX2 yX2_askedByLay yX2_askedByLay, Cond.code yX2_askedByLay cX2_askedByLay 2 (some .int), Cond.methodLink RX2 192 yX2_isNoneOr, Cond.instanceMethod yX2_isNoneOr, Cond.selects RX2 yX2_isNoneOr yX2_isNoneOr, Cond.code yX2_isNoneOr cX2_isNoneOr 3 (some .boolean), Cond.methodLink RX2 195 yX2_takenBy, Cond.static yX2_takenBy, Cond.code yX2_takenBy cX2_takenBy 1 (some .int), Cond.methodLink RX2 149 yX2_levels, Cond.instanceMethod yX2_levels, Cond.selects RX2 yX2_levels yX2_levels, Cond.code yX2_levels cX2_levels 2 (some .int), Cond.methodLink RX2 198 yX2_levelsTimes, Cond.instanceMethod yX2_levelsTimes, Cond.selects RX2 yX2_levelsTimes yX2_levelsTimes, Cond.code yX2_levelsTimes cX2_levelsTimes 7 (some .int), Cond.methodLink RX2 61 yX1_levelOf, Cond.instanceMethod yX1_levelOf, Cond.selects RX1 yX1_levelOf yX1_levelOf]
def wsX2_act_r7 : List Cond := [Cond.code yX1_levelOf cX1_levelOf 2 (some .int), Cond.methodLink RX2 152 yX2_drive, Cond.instanceMethod yX2_drive, Cond.selects RX2 yX2_drive yX2_drive, Cond.code yX2_drive cX2_drive 7 (some .int), Cond.methodLink RX2 44 yX1_addWire, Cond.instanceMethod yX1_addWire, Cond.selects RX1 yX1_addWire yX1_addWire, Cond.code yX1_addWire cX1_addWire 4 (some .int), Cond.methodLink RX2 156 yX2_pair, Cond.instanceMethod yX2_pair, Cond.selects RX2 yX2_pair yX2_pair, Cond.code yX2_pair cX2_pair 6 (some .int), Cond.methodLink RX2 160 yX2_power, Cond.instanceMethod yX2_power, Cond.selects RX2 yX2_power yX2_power, Cond.code yX2_power cX2_power 2 (some .int), Cond.constantLong RX2 201 (3), Cond.methodLink RX2 163 yX2_join, Cond.instanceMethod yX2_join, Cond.selects RX2 yX2_join yX2_join, Cond.code yX2_join cX2_join 8 (some .int), Cond.methodLink RX2 203 yX2_holdsOnlyLives, Cond.instanceMethod yX2_holdsOnlyLives]
def wsX2_act_r8 : List Cond := [Cond.selects RX2 yX2_holdsOnlyLives yX2_holdsOnlyLives, Cond.code yX2_holdsOnlyLives cX2_holdsOnlyLives 4 (some .boolean), Cond.methodLink RX2 206 yX1_copyCells, Cond.methodLink RX2 166 yX2_copy, Cond.instanceMethod yX2_copy, Cond.selects RX2 yX2_copy yX2_copy, Cond.code yX2_copy cX2_copy 2 (some .int), Cond.methodLink RX2 169 yX2_makeCable, Cond.instanceMethod yX2_makeCable, Cond.selects RX2 yX2_makeCable yX2_makeCable, Cond.code yX2_makeCable cX2_makeCable 2 (some .int), Cond.methodLink RX2 33 yX2_isLength, Cond.methodLink RX2 172 yX2_check, Cond.instanceMethod yX2_check, Cond.selects RX2 yX2_check yX2_check, Cond.code yX2_check cX2_check 3 (some .int), Cond.methodLink RX2 107 yX2_isView, Cond.static yX2_isView, Cond.code yX2_isView cX2_isView 1 (some .boolean), Cond.methodLink RX2 79 yX2_noted, Cond.instanceMethod yX2_noted, Cond.selects RX2 yX2_noted yX2_noted, Cond.code yX2_noted cX2_noted 2 (some .int), Cond.fieldLink RX2 27 "LoomPanel" "faultsSoFar" "I"]
def wsX2_act_r9 : List Cond := [Cond.fieldLink RX2 30 "LoomPanel" "latestFault" "I", Cond.methodLink RX2 100 yX2_isFault, Cond.static yX2_isFault, Cond.code yX2_isFault cX2_isFault 1 (some .boolean)]
def wsX2_act : List Cond := .code yX2_act cX2_act 5 (some .int) :: ((wsX2_act_r1 ++ (wsX2_act_r2 ++ (wsX2_act_r3 ++ (wsX2_act_r4 ++ (wsX2_act_r5 ++ (wsX2_act_r6 ++ (wsX2_act_r7 ++ (wsX2_act_r8 ++ wsX2_act_r9)))))))) ++ wsX20 ++ wsX10)
def wsX2_step_r1 : List Cond := [Cond.fieldLink RX2 19 "LoomPanel" "patches" "LLoomPanel$Patches;", Cond.methodLink RX2 72 yX2_isValueOrNone, Cond.instanceMethod yX2_isValueOrNone, Cond.selects RX2 yX2_isValueOrNone yX2_isValueOrNone, Cond.initialized RX2, Cond.code yX2_isValueOrNone cX2_isValueOrNone 2 (some .boolean), Cond.fieldLink RX2 10 "LoomPanel" "values" "LLoomPanel$Values;", Cond.methodLink RX2 106 yX1_has, Cond.instanceMethod yX1_has, Cond.selects RX1 yX1_has yX1_has, Cond.initialized RX1, Cond.code yX1_has cX1_has 2 (some .boolean), Cond.fieldLink RX1 25 "LoomPanel$Values" "made" "I", Cond.methodLink RX2 82 yX0_has, Cond.instanceMethod yX0_has, Cond.selects RX0 yX0_has yX0_has, Cond.initialized RX0, Cond.code yX0_has cX0_has 2 (some .boolean), Cond.methodLink RX2 69 yX2_isAct, Cond.static yX2_isAct, Cond.code yX2_isAct cX2_isAct 1 (some .boolean), Cond.methodLink RX2 85 yX0_append, Cond.instanceMethod yX0_append, Cond.selects RX0 yX0_append yX0_append]
def wsX2_step_r2 : List Cond := [Cond.code yX0_append cX0_append 6 (some .int), Cond.fieldLink RX0 9 "LoomPanel$Patches" "lengths" "[I", Cond.fieldLink RX0 15 "LoomPanel$Patches" "acts" "[I", Cond.fieldLink RX0 18 "LoomPanel$Patches" "ys" "[I", Cond.fieldLink RX0 21 "LoomPanel$Patches" "ns" "[I", Cond.methodLink RX0 24 yX0_has]
def wsX2_step : List Cond := .code yX2_step cX2_step 6 (some .int) :: ((wsX2_step_r1 ++ wsX2_step_r2) ++ wsX20 ++ wsX10 ++ wsX00)
def wsX2_play_r1 : List Cond := [Cond.fieldLink RX2 19 "LoomPanel" "patches" "LLoomPanel$Patches;", Cond.fieldLink RX2 23 "LoomPanel" "stoppedAt" "I", Cond.methodLink RX2 82 yX0_has, Cond.instanceMethod yX0_has, Cond.selects RX0 yX0_has yX0_has, Cond.initialized RX0, Cond.code yX0_has cX0_has 2 (some .boolean), Cond.methodLink RX2 72 yX2_isValueOrNone, Cond.instanceMethod yX2_isValueOrNone, Cond.selects RX2 yX2_isValueOrNone yX2_isValueOrNone, Cond.initialized RX2, Cond.code yX2_isValueOrNone cX2_isValueOrNone 2 (some .boolean), Cond.fieldLink RX2 10 "LoomPanel" "values" "LLoomPanel$Values;", Cond.methodLink RX2 106 yX1_has, Cond.instanceMethod yX1_has, Cond.selects RX1 yX1_has yX1_has, Cond.initialized RX1, Cond.code yX1_has cX1_has 2 (some .boolean), Cond.fieldLink RX1 25 "LoomPanel$Values" "made" "I", Cond.methodLink RX2 88 yX0_lengthOf, Cond.instanceMethod yX0_lengthOf, Cond.selects RX0 yX0_lengthOf yX0_lengthOf, Cond.code yX0_lengthOf cX0_lengthOf 2 (some .int), Cond.fieldLink RX0 9 "LoomPanel$Patches" "lengths" "[I"]
def wsX2_play_r2 : List Cond := [Cond.methodLink RX0 24 yX0_has, Cond.methodLink RX2 91 yX0_actOf, Cond.instanceMethod yX0_actOf, Cond.selects RX0 yX0_actOf yX0_actOf, Cond.code yX0_actOf cX0_actOf 3 (some .int), Cond.fieldLink RX0 15 "LoomPanel$Patches" "acts" "[I", Cond.methodLink RX0 28 yX0_hasStep, Cond.instanceMethod yX0_hasStep, Cond.selects RX0 yX0_hasStep yX0_hasStep, Cond.code yX0_hasStep cX0_hasStep 3 (some .boolean), Cond.methodLink RX2 94 yX0_yOf, Cond.instanceMethod yX0_yOf, Cond.selects RX0 yX0_yOf yX0_yOf, Cond.code yX0_yOf cX0_yOf 3 (some .int), Cond.fieldLink RX0 18 "LoomPanel$Patches" "ys" "[I", Cond.methodLink RX2 97 yX0_nOf, Cond.instanceMethod yX0_nOf, Cond.selects RX0 yX0_nOf yX0_nOf, Cond.code yX0_nOf cX0_nOf 3 (some .int), Cond.fieldLink RX0 21 "LoomPanel$Patches" "ns" "[I", Cond.methodLink RX2 75 yX2_answerOf, Cond.instanceMethod yX2_answerOf, Cond.selects RX2 yX2_answerOf yX2_answerOf, Cond.code yX2_answerOf cX2_answerOf 5 (some .int)]
def wsX2_play_r3 : List Cond := [Cond.methodLink RX2 117 yX1_made, Cond.instanceMethod yX1_made, Cond.selects RX1 yX1_made yX1_made, Cond.code yX1_made cX1_made 1 (some .int), Cond.methodLink RX2 127 yX2_makes, Cond.instanceMethod yX2_makes, Cond.selects RX2 yX2_makes yX2_makes, Cond.code yX2_makes cX2_makes 3 (some .int), Cond.methodLink RX2 58 yX1_isA, Cond.instanceMethod yX1_isA, Cond.selects RX1 yX1_isA yX1_isA, Cond.code yX1_isA cX1_isA 3 (some .boolean), Cond.fieldLink RX1 9 "LoomPanel$Values" "forms" "[I", Cond.methodLink RX1 29 yX1_has, Cond.static yX2_viewsOfForm, Cond.code yX2_viewsOfForm cX2_viewsOfForm 1 (some .int), Cond.methodLink RX2 116 yX1_lengthOf, Cond.instanceMethod yX1_lengthOf, Cond.selects RX1 yX1_lengthOf yX1_lengthOf, Cond.code yX1_lengthOf cX1_lengthOf 2 (some .int), Cond.fieldLink RX1 15 "LoomPanel$Values" "lengths" "[I", Cond.methodLink RX2 130 yX2_fault, Cond.static yX2_fault, Cond.code yX2_fault cX2_fault 1 (some .int)]
def wsX2_play_r4 : List Cond := [Cond.methodLink RX2 133 yX2_sum, Cond.instanceMethod yX2_sum, Cond.selects RX2 yX2_sum yX2_sum, Cond.code yX2_sum cX2_sum 5 (some .int), Cond.methodLink RX2 47 yX1_isNumbers, Cond.instanceMethod yX1_isNumbers, Cond.selects RX1 yX1_isNumbers yX1_isNumbers, Cond.code yX1_isNumbers cX1_isNumbers 2 (some .boolean), Cond.methodLink RX2 175 yX2_totalOf, Cond.instanceMethod yX2_totalOf, Cond.selects RX2 yX2_totalOf yX2_totalOf, Cond.code yX2_totalOf cX2_totalOf 6 (some .long), Cond.methodLink RX2 65 yX1_cellOf, Cond.instanceMethod yX1_cellOf, Cond.selects RX1 yX1_cellOf yX1_cellOf, Cond.code yX1_cellOf cX1_cellOf 3 (some .long), Cond.fieldLink RX1 21 "LoomPanel$Values" "cells" "[J", Cond.methodLink RX1 37 yX1_hasPlace, Cond.instanceMethod yX1_hasPlace, Cond.selects RX1 yX1_hasPlace yX1_hasPlace, Cond.code yX1_hasPlace cX1_hasPlace 3 (some .boolean), Cond.methodLink RX2 179 yX1_addSingle, Cond.instanceMethod yX1_addSingle, Cond.selects RX1 yX1_addSingle yX1_addSingle]
def wsX2_play_r5 : List Cond := [Cond.code yX1_addSingle cX1_addSingle 5 (some .int), Cond.methodLink RX1 51 yX1_add, Cond.instanceMethod yX1_add, Cond.selects RX1 yX1_add yX1_add, Cond.code yX1_add cX1_add 6 (some .int), Cond.fieldLink RX1 18 "LoomPanel$Values" "levels" "[I", Cond.static yX2_isLength, Cond.code yX2_isLength cX2_isLength 1 (some .boolean), Cond.static yX2_isBoardForm, Cond.code yX2_isBoardForm cX2_isBoardForm 1 (some .boolean), Cond.methodLink RX1 55 yX1_put, Cond.instanceMethod yX1_put, Cond.selects RX1 yX1_put yX1_put, Cond.code yX1_put cX1_put 5 none, Cond.methodLink RX1 41 yX1_lowestBits, Cond.static yX1_lowestBits, Cond.code yX1_lowestBits cX1_lowestBits 3 (some .long), Cond.methodLink RX2 37 yX1_add, Cond.methodLink RX2 183 yX1_placed, Cond.instanceMethod yX1_placed, Cond.selects RX1 yX1_placed yX1_placed, Cond.code yX1_placed cX1_placed 3 (some .int), Cond.methodLink RX2 54 yX1_put, Cond.methodLink RX2 136 yX2_widen]
def wsX2_play_r6 : List Cond := [Cond.instanceMethod yX2_widen, Cond.selects RX2 yX2_widen yX2_widen, Cond.code yX2_widen cX2_widen 2 (some .int), Cond.methodLink RX2 186 yX1_addCopy, Cond.instanceMethod yX1_addCopy, Cond.selects RX1 yX1_addCopy yX1_addCopy, Cond.code yX1_addCopy cX1_addCopy 4 (some .int), Cond.methodLink RX1 59 yX1_lengthOf, Cond.methodLink RX1 62 yX1_copyCells, Cond.instanceMethod yX1_copyCells, Cond.selects RX1 yX1_copyCells yX1_copyCells, Cond.code yX1_copyCells cX1_copyCells 6 none, Cond.methodLink RX1 66 yX1_cellOf, Cond.methodLink RX2 139 yX2_narrow, Cond.instanceMethod yX2_narrow, Cond.selects RX2 yX2_narrow yX2_narrow, Cond.code yX2_narrow cX2_narrow 2 (some .int), Cond.methodLink RX2 142 yX2_tap, Cond.instanceMethod yX2_tap, Cond.selects RX2 yX2_tap yX2_tap, Cond.code yX2_tap cX2_tap 4 (some .int), Cond.methodLink RX2 110 yX1_formOf, Cond.instanceMethod yX1_formOf, Cond.selects RX1 yX1_formOf yX1_formOf]
def wsX2_play_r7 : List Cond := [Cond.code yX1_formOf cX1_formOf 2 (some .int), Cond.methodLink RX2 41 yX2_isBoardForm, Cond.methodLink RX2 50 yX1_hasPlace, Cond.methodLink RX2 145 yX2_lay, Cond.instanceMethod yX2_lay, Cond.selects RX2 yX2_lay yX2_lay, Cond.code yX2_lay cX2_lay 5 (some .int), Cond.methodLink RX2 189 yX2_askedByLay, Cond.instanceMethod yX2_askedByLay, Cond.selects RX2 yX2_askedByLay yX2_askedByLay, Cond.code yX2_askedByLay cX2_askedByLay 2 (some .int), Cond.methodLink RX2 192 yX2_isNoneOr, Cond.instanceMethod yX2_isNoneOr, Cond.selects RX2 yX2_isNoneOr yX2_isNoneOr, Cond.code yX2_isNoneOr cX2_isNoneOr 3 (some .boolean), Cond.methodLink RX2 195 yX2_takenBy, Cond.static yX2_takenBy, Cond.code yX2_takenBy cX2_takenBy 1 (some .int), Cond.methodLink RX2 149 yX2_levels, Cond.instanceMethod yX2_levels, Cond.selects RX2 yX2_levels yX2_levels, Cond.code yX2_levels cX2_levels 2 (some .int), Cond.methodLink RX2 198 yX2_levelsTimes, Cond.instanceMethod yX2_levelsTimes]
def wsX2_play_r8 : List Cond := [Cond.selects RX2 yX2_levelsTimes yX2_levelsTimes, Cond.code yX2_levelsTimes cX2_levelsTimes 7 (some .int), Cond.methodLink RX2 61 yX1_levelOf, Cond.instanceMethod yX1_levelOf, Cond.selects RX1 yX1_levelOf yX1_levelOf, Cond.code yX1_levelOf cX1_levelOf 2 (some .int), Cond.methodLink RX2 152 yX2_drive, Cond.instanceMethod yX2_drive, Cond.selects RX2 yX2_drive yX2_drive, Cond.code yX2_drive cX2_drive 7 (some .int), Cond.methodLink RX2 44 yX1_addWire, Cond.instanceMethod yX1_addWire, Cond.selects RX1 yX1_addWire yX1_addWire, Cond.code yX1_addWire cX1_addWire 4 (some .int), Cond.methodLink RX2 156 yX2_pair, Cond.instanceMethod yX2_pair, Cond.selects RX2 yX2_pair yX2_pair, Cond.code yX2_pair cX2_pair 6 (some .int), Cond.methodLink RX2 160 yX2_power, Cond.instanceMethod yX2_power, Cond.selects RX2 yX2_power yX2_power, Cond.code yX2_power cX2_power 2 (some .int), Cond.constantLong RX2 201 (3), Cond.methodLink RX2 163 yX2_join]
def wsX2_play_r9 : List Cond := [Cond.instanceMethod yX2_join, Cond.selects RX2 yX2_join yX2_join, Cond.code yX2_join cX2_join 8 (some .int), Cond.methodLink RX2 203 yX2_holdsOnlyLives, Cond.instanceMethod yX2_holdsOnlyLives, Cond.selects RX2 yX2_holdsOnlyLives yX2_holdsOnlyLives, Cond.code yX2_holdsOnlyLives cX2_holdsOnlyLives 4 (some .boolean), Cond.methodLink RX2 206 yX1_copyCells, Cond.methodLink RX2 166 yX2_copy, Cond.instanceMethod yX2_copy, Cond.selects RX2 yX2_copy yX2_copy, Cond.code yX2_copy cX2_copy 2 (some .int), Cond.methodLink RX2 169 yX2_makeCable, Cond.instanceMethod yX2_makeCable, Cond.selects RX2 yX2_makeCable yX2_makeCable, Cond.code yX2_makeCable cX2_makeCable 2 (some .int), Cond.methodLink RX2 33 yX2_isLength, Cond.methodLink RX2 172 yX2_check, Cond.instanceMethod yX2_check, Cond.selects RX2 yX2_check yX2_check, Cond.code yX2_check cX2_check 3 (some .int), Cond.methodLink RX2 107 yX2_isView, Cond.static yX2_isView, Cond.code yX2_isView cX2_isView 1 (some .boolean)]
def wsX2_play_r10 : List Cond := [Cond.methodLink RX2 79 yX2_noted, Cond.instanceMethod yX2_noted, Cond.selects RX2 yX2_noted yX2_noted, Cond.code yX2_noted cX2_noted 2 (some .int), Cond.fieldLink RX2 27 "LoomPanel" "faultsSoFar" "I", Cond.fieldLink RX2 30 "LoomPanel" "latestFault" "I", Cond.methodLink RX2 100 yX2_isFault, Cond.static yX2_isFault, Cond.code yX2_isFault cX2_isFault 1 (some .boolean)]
def wsX2_play : List Cond := .code yX2_play cX2_play 8 (some .int) :: ((wsX2_play_r1 ++ (wsX2_play_r2 ++ (wsX2_play_r3 ++ (wsX2_play_r4 ++ (wsX2_play_r5 ++ (wsX2_play_r6 ++ (wsX2_play_r7 ++ (wsX2_play_r8 ++ (wsX2_play_r9 ++ wsX2_play_r10))))))))) ++ wsX20 ++ wsX10 ++ wsX00)
def wsX2_stopped : List Cond := .code yX2_stopped cX2_stopped 1 (some .int) :: ([.fieldLink RX2 23 "LoomPanel" "stoppedAt" "I"] ++ wsX20)
def wsX2_empty : List Cond := .code yX2_empty cX2_empty 2 (some .int) :: ([.fieldLink RX2 19 "LoomPanel" "patches" "LLoomPanel$Patches;", .methodLink RX2 82 yX0_has, .instanceMethod yX0_has, .selects RX0 yX0_has yX0_has, .initialized RX0, .code yX0_has cX0_has 2 (some .boolean), .methodLink RX2 103 yX0_drop, .instanceMethod yX0_drop, .selects RX0 yX0_drop yX0_drop, .code yX0_drop cX0_drop 3 (some .int), .fieldLink RX0 9 "LoomPanel$Patches" "lengths" "[I", .methodLink RX0 32 yX0_lengthOf, .instanceMethod yX0_lengthOf, .selects RX0 yX0_lengthOf yX0_lengthOf, .code yX0_lengthOf cX0_lengthOf 2 (some .int), .methodLink RX0 24 yX0_has] ++ wsX20 ++ wsX00)
def wsX2_is : List Cond := .code yX2_is cX2_is 3 (some .int) :: ([.fieldLink RX2 10 "LoomPanel" "values" "LLoomPanel$Values;", .methodLink RX2 106 yX1_has, .instanceMethod yX1_has, .selects RX1 yX1_has yX1_has, .initialized RX1, .code yX1_has cX1_has 2 (some .boolean), .fieldLink RX1 25 "LoomPanel$Values" "made" "I", .methodLink RX2 107 yX2_isView, .static yX2_isView, .initialized RX2, .code yX2_isView cX2_isView 1 (some .boolean), .methodLink RX2 58 yX1_isA, .instanceMethod yX1_isA, .selects RX1 yX1_isA yX1_isA, .code yX1_isA cX1_isA 3 (some .boolean), .fieldLink RX1 9 "LoomPanel$Values" "forms" "[I", .methodLink RX1 29 yX1_has, .static yX2_viewsOfForm, .code yX2_viewsOfForm cX2_viewsOfForm 1 (some .int)] ++ wsX20 ++ wsX10)
def wsX2_views : List Cond := .code yX2_views cX2_views 2 (some .int) :: ([.fieldLink RX2 10 "LoomPanel" "values" "LLoomPanel$Values;", .methodLink RX2 106 yX1_has, .instanceMethod yX1_has, .selects RX1 yX1_has yX1_has, .initialized RX1, .code yX1_has cX1_has 2 (some .boolean), .fieldLink RX1 25 "LoomPanel$Values" "made" "I", .methodLink RX2 110 yX1_formOf, .instanceMethod yX1_formOf, .selects RX1 yX1_formOf yX1_formOf, .code yX1_formOf cX1_formOf 2 (some .int), .fieldLink RX1 9 "LoomPanel$Values" "forms" "[I", .methodLink RX1 29 yX1_has, .methodLink RX2 113 yX2_viewsOfForm, .static yX2_viewsOfForm, .initialized RX2, .code yX2_viewsOfForm cX2_viewsOfForm 1 (some .int)] ++ wsX20 ++ wsX10)
def wsX2_size : List Cond := .code yX2_size cX2_size 2 (some .int) :: ([.fieldLink RX2 10 "LoomPanel" "values" "LLoomPanel$Values;", .methodLink RX2 106 yX1_has, .instanceMethod yX1_has, .selects RX1 yX1_has yX1_has, .initialized RX1, .code yX1_has cX1_has 2 (some .boolean), .fieldLink RX1 25 "LoomPanel$Values" "made" "I", .methodLink RX2 116 yX1_lengthOf, .instanceMethod yX1_lengthOf, .selects RX1 yX1_lengthOf yX1_lengthOf, .code yX1_lengthOf cX1_lengthOf 2 (some .int), .fieldLink RX1 15 "LoomPanel$Values" "lengths" "[I", .methodLink RX1 29 yX1_has] ++ wsX20 ++ wsX10)
def wsX2_count : List Cond := .code yX2_count cX2_count 2 (some .int) :: ([.fieldLink RX2 10 "LoomPanel" "values" "LLoomPanel$Values;", .fieldLink RX2 27 "LoomPanel" "faultsSoFar" "I", .fieldLink RX2 30 "LoomPanel" "latestFault" "I", .methodLink RX2 117 yX1_made, .instanceMethod yX1_made, .selects RX1 yX1_made yX1_made, .initialized RX1, .code yX1_made cX1_made 1 (some .int), .fieldLink RX1 25 "LoomPanel$Values" "made" "I"] ++ wsX20 ++ wsX10)
def wsX2_clear : List Cond := .code yX2_clear cX2_clear 1 (some .int) :: ([.fieldLink RX2 19 "LoomPanel" "patches" "LLoomPanel$Patches;", .fieldLink RX2 10 "LoomPanel" "values" "LLoomPanel$Values;", .methodLink RX2 121 yX0_dropAll, .instanceMethod yX0_dropAll, .selects RX0 yX0_dropAll yX0_dropAll, .initialized RX0, .code yX0_dropAll cX0_dropAll 2 none, .fieldLink RX0 9 "LoomPanel$Patches" "lengths" "[I", .methodLink RX2 124 yX1_forgetAll, .instanceMethod yX1_forgetAll, .selects RX1 yX1_forgetAll yX1_forgetAll, .initialized RX1, .code yX1_forgetAll cX1_forgetAll 2 (some .int), .fieldLink RX1 25 "LoomPanel$Values" "made" "I"] ++ wsX20 ++ wsX00 ++ wsX10)
def wsX3_init : List Cond := .code yX3_init cX3_init 1 none :: ([.methodLink RX3 1 objectInit, .instanceMethod objectInit, .code objectInit ⟨#[0xb1]⟩ 1 none, .arrayClass .int, .fieldLink RX3 7 "LoomPanelModel" "forms" "[I", .fieldLink RX3 13 "LoomPanelModel" "sizes" "[I", .fieldLink RX3 16 "LoomPanelModel" "levels" "[I", .arrayClass .long, .fieldLink RX3 19 "LoomPanelModel" "numbers" "[J", .fieldLink RX3 23 "LoomPanelModel" "lies" "[I", .fieldLink RX3 26 "LoomPanelModel" "steps" "[I", .fieldLink RX3 29 "LoomPanelModel" "stepAct" "[I", .fieldLink RX3 32 "LoomPanelModel" "stepOther" "[I", .fieldLink RX3 35 "LoomPanelModel" "stepNumber" "[I", .fieldLink RX3 38 "LoomPanelModel" "stopped" "I"] ++ wsX30)
def wsX3_isIn : List Cond := .code yX3_isIn cX3_isIn 3 (some .boolean) :: ([])
def wsX3_isValue : List Cond := .code yX3_isValue cX3_isValue 2 (some .boolean) :: ([.fieldLink RX3 42 "LoomPanelModel" "values" "I", .methodLink RX3 45 yX3_isIn, .static yX3_isIn, .initialized RX3, .code yX3_isIn cX3_isIn 3 (some .boolean)] ++ wsX30)
def wsX3_mayBe : List Cond := .code yX3_mayBe cX3_mayBe 2 (some .boolean) :: ([.fieldLink RX3 42 "LoomPanelModel" "values" "I", .methodLink RX3 45 yX3_isIn, .static yX3_isIn, .initialized RX3, .code yX3_isIn cX3_isIn 3 (some .boolean)] ++ wsX30)
def wsX3_formIs : List Cond := .code yX3_formIs cX3_formIs 2 (some .boolean) :: ([])
def wsX3_isOf : List Cond := .code yX3_isOf cX3_isOf 3 (some .boolean) :: ([.fieldLink RX3 7 "LoomPanelModel" "forms" "[I", .methodLink RX3 49 yX3_formIs, .static yX3_formIs, .initialized RX3, .code yX3_formIs cX3_formIs 2 (some .boolean)] ++ wsX30)
def wsX3_make : List Cond := .code yX3_make cX3_make 5 (some .int) :: ([.fieldLink RX3 42 "LoomPanelModel" "values" "I", .fieldLink RX3 7 "LoomPanelModel" "forms" "[I", .fieldLink RX3 13 "LoomPanelModel" "sizes" "[I", .fieldLink RX3 16 "LoomPanelModel" "levels" "[I", .fieldLink RX3 19 "LoomPanelModel" "numbers" "[J", .fieldLink RX3 23 "LoomPanelModel" "lies" "[I"] ++ wsX30)
def wsX3_row : List Cond := .code yX3_row cX3_row 3 (some .int) :: ([.fieldLink RX3 42 "LoomPanelModel" "values" "I", .methodLink RX3 45 yX3_isIn, .static yX3_isIn, .initialized RX3, .code yX3_isIn cX3_isIn 3 (some .boolean), .methodLink RX3 53 yX3_make, .instanceMethod yX3_make, .selects RX3 yX3_make yX3_make, .code yX3_make cX3_make 5 (some .int), .fieldLink RX3 7 "LoomPanelModel" "forms" "[I", .fieldLink RX3 13 "LoomPanelModel" "sizes" "[I", .fieldLink RX3 16 "LoomPanelModel" "levels" "[I", .fieldLink RX3 19 "LoomPanelModel" "numbers" "[J", .fieldLink RX3 23 "LoomPanelModel" "lies" "[I"] ++ wsX30)
def wsX3_board : List Cond := .code yX3_board cX3_board 3 (some .int) :: ([.fieldLink RX3 42 "LoomPanelModel" "values" "I", .methodLink RX3 45 yX3_isIn, .static yX3_isIn, .initialized RX3, .code yX3_isIn cX3_isIn 3 (some .boolean), .methodLink RX3 53 yX3_make, .instanceMethod yX3_make, .selects RX3 yX3_make yX3_make, .code yX3_make cX3_make 5 (some .int), .fieldLink RX3 7 "LoomPanelModel" "forms" "[I", .fieldLink RX3 13 "LoomPanelModel" "sizes" "[I", .fieldLink RX3 16 "LoomPanelModel" "levels" "[I", .fieldLink RX3 19 "LoomPanelModel" "numbers" "[J", .fieldLink RX3 23 "LoomPanelModel" "lies" "[I"] ++ wsX30)
def wsX3_wire : List Cond := .code yX3_wire cX3_wire 4 (some .int) :: ([.fieldLink RX3 42 "LoomPanelModel" "values" "I", .fieldLink RX3 16 "LoomPanelModel" "levels" "[I", .methodLink RX3 53 yX3_make, .instanceMethod yX3_make, .selects RX3 yX3_make yX3_make, .initialized RX3, .code yX3_make cX3_make 5 (some .int), .fieldLink RX3 7 "LoomPanelModel" "forms" "[I", .fieldLink RX3 13 "LoomPanelModel" "sizes" "[I", .fieldLink RX3 19 "LoomPanelModel" "numbers" "[J", .fieldLink RX3 23 "LoomPanelModel" "lies" "[I"] ++ wsX30)
def wsX3_isRow : List Cond := .code yX3_isRow cX3_isRow 2 (some .boolean) :: ([.fieldLink RX3 7 "LoomPanelModel" "forms" "[I"] ++ wsX30)
def wsX3_cut : List Cond := .code yX3_cut cX3_cut 3 (some .long) :: ([])
def wsX3_set : List Cond := .code yX3_set cX3_set 5 (some .int) :: ([.fieldLink RX3 13 "LoomPanelModel" "sizes" "[I", .fieldLink RX3 19 "LoomPanelModel" "numbers" "[J", .fieldLink RX3 7 "LoomPanelModel" "forms" "[I", .methodLink RX3 57 yX3_isValue, .instanceMethod yX3_isValue, .selects RX3 yX3_isValue yX3_isValue, .initialized RX3, .code yX3_isValue cX3_isValue 2 (some .boolean), .fieldLink RX3 42 "LoomPanelModel" "values" "I", .methodLink RX3 45 yX3_isIn, .static yX3_isIn, .code yX3_isIn cX3_isIn 3 (some .boolean), .methodLink RX3 61 yX3_isRow, .instanceMethod yX3_isRow, .selects RX3 yX3_isRow yX3_isRow, .code yX3_isRow cX3_isRow 2 (some .boolean), .methodLink RX3 64 yX3_cut, .static yX3_cut, .code yX3_cut cX3_cut 3 (some .long)] ++ wsX30)
def wsX3_number : List Cond := .code yX3_number cX3_number 3 (some .long) :: ([.fieldLink RX3 16 "LoomPanelModel" "levels" "[I", .fieldLink RX3 13 "LoomPanelModel" "sizes" "[I", .fieldLink RX3 19 "LoomPanelModel" "numbers" "[J", .methodLink RX3 57 yX3_isValue, .instanceMethod yX3_isValue, .selects RX3 yX3_isValue yX3_isValue, .initialized RX3, .code yX3_isValue cX3_isValue 2 (some .boolean), .fieldLink RX3 42 "LoomPanelModel" "values" "I", .methodLink RX3 45 yX3_isIn, .static yX3_isIn, .code yX3_isIn cX3_isIn 3 (some .boolean), .methodLink RX3 68 yX3_isOf, .instanceMethod yX3_isOf, .selects RX3 yX3_isOf yX3_isOf, .code yX3_isOf cX3_isOf 3 (some .boolean), .fieldLink RX3 7 "LoomPanelModel" "forms" "[I", .methodLink RX3 49 yX3_formIs, .static yX3_formIs, .code yX3_formIs cX3_formIs 2 (some .boolean), .methodLink RX3 61 yX3_isRow, .instanceMethod yX3_isRow, .selects RX3 yX3_isRow yX3_isRow, .code yX3_isRow cX3_isRow 2 (some .boolean)] ++ wsX30)
def wsX3_with : List Cond := .code yX3_with cX3_with 1 (some .int) :: ([])
def wsX3_hasPlaces : List Cond := .code yX3_hasPlaces cX3_hasPlaces 2 (some .boolean) :: ([.fieldLink RX3 7 "LoomPanelModel" "forms" "[I"] ++ wsX30)
def wsX3_takes : List Cond := .code yX3_takes cX3_takes 3 (some .boolean) :: ([.fieldLink RX3 7 "LoomPanelModel" "forms" "[I", .methodLink RX3 68 yX3_isOf, .instanceMethod yX3_isOf, .selects RX3 yX3_isOf yX3_isOf, .initialized RX3, .code yX3_isOf cX3_isOf 3 (some .boolean), .methodLink RX3 49 yX3_formIs, .static yX3_formIs, .code yX3_formIs cX3_formIs 2 (some .boolean)] ++ wsX30)
def wsX3_sumOf : List Cond := .code yX3_sumOf cX3_sumOf 5 (some .long) :: ([.fieldLink RX3 13 "LoomPanelModel" "sizes" "[I", .fieldLink RX3 19 "LoomPanelModel" "numbers" "[J"] ++ wsX30)
def wsX3_sum : List Cond := .code yX3_sum cX3_sum 5 (some .int) :: ([.fieldLink RX3 19 "LoomPanelModel" "numbers" "[J", .fieldLink RX3 7 "LoomPanelModel" "forms" "[I", .fieldLink RX3 13 "LoomPanelModel" "sizes" "[I", .fieldLink RX3 23 "LoomPanelModel" "lies" "[I", .methodLink RX3 61 yX3_isRow, .instanceMethod yX3_isRow, .selects RX3 yX3_isRow yX3_isRow, .initialized RX3, .code yX3_isRow cX3_isRow 2 (some .boolean), .methodLink RX3 53 yX3_make, .instanceMethod yX3_make, .selects RX3 yX3_make yX3_make, .code yX3_make cX3_make 5 (some .int), .fieldLink RX3 42 "LoomPanelModel" "values" "I", .fieldLink RX3 16 "LoomPanelModel" "levels" "[I", .methodLink RX3 71 yX3_sumOf, .instanceMethod yX3_sumOf, .selects RX3 yX3_sumOf yX3_sumOf, .code yX3_sumOf cX3_sumOf 5 (some .long), .methodLink RX3 75 yX3_with, .static yX3_with, .code yX3_with cX3_with 1 (some .int)] ++ wsX30)
def wsX3_turned : List Cond := .code yX3_turned cX3_turned 6 (some .int) :: ([.fieldLink RX3 7 "LoomPanelModel" "forms" "[I", .fieldLink RX3 13 "LoomPanelModel" "sizes" "[I", .fieldLink RX3 19 "LoomPanelModel" "numbers" "[J", .methodLink RX3 61 yX3_isRow, .instanceMethod yX3_isRow, .selects RX3 yX3_isRow yX3_isRow, .initialized RX3, .code yX3_isRow cX3_isRow 2 (some .boolean), .methodLink RX3 45 yX3_isIn, .static yX3_isIn, .code yX3_isIn cX3_isIn 3 (some .boolean), .methodLink RX3 75 yX3_with, .static yX3_with, .code yX3_with cX3_with 1 (some .int), .methodLink RX3 53 yX3_make, .instanceMethod yX3_make, .selects RX3 yX3_make yX3_make, .code yX3_make cX3_make 5 (some .int), .fieldLink RX3 42 "LoomPanelModel" "values" "I", .fieldLink RX3 16 "LoomPanelModel" "levels" "[I", .fieldLink RX3 23 "LoomPanelModel" "lies" "[I", .methodLink RX3 64 yX3_cut, .static yX3_cut, .code yX3_cut cX3_cut 3 (some .long)] ++ wsX30)
def wsX3_tap : List Cond := .code yX3_tap cX3_tap 4 (some .int) :: ([.fieldLink RX3 13 "LoomPanelModel" "sizes" "[I", .fieldLink RX3 23 "LoomPanelModel" "lies" "[I", .methodLink RX3 75 yX3_with, .static yX3_with, .initialized RX3, .code yX3_with cX3_with 1 (some .int), .methodLink RX3 79 yX3_hasPlaces, .instanceMethod yX3_hasPlaces, .selects RX3 yX3_hasPlaces yX3_hasPlaces, .code yX3_hasPlaces cX3_hasPlaces 2 (some .boolean), .fieldLink RX3 7 "LoomPanelModel" "forms" "[I", .methodLink RX3 45 yX3_isIn, .static yX3_isIn, .code yX3_isIn cX3_isIn 3 (some .boolean)] ++ wsX30)
def wsX3_lay_r1 : List Cond := [Cond.fieldLink RX3 7 "LoomPanelModel" "forms" "[I", Cond.fieldLink RX3 13 "LoomPanelModel" "sizes" "[I", Cond.fieldLink RX3 23 "LoomPanelModel" "lies" "[I", Cond.methodLink RX3 68 yX3_isOf, Cond.instanceMethod yX3_isOf, Cond.selects RX3 yX3_isOf yX3_isOf, Cond.initialized RX3, Cond.code yX3_isOf cX3_isOf 3 (some .boolean), Cond.methodLink RX3 49 yX3_formIs, Cond.static yX3_formIs, Cond.code yX3_formIs cX3_formIs 2 (some .boolean), Cond.methodLink RX3 75 yX3_with, Cond.static yX3_with, Cond.code yX3_with cX3_with 1 (some .int), Cond.methodLink RX3 79 yX3_hasPlaces, Cond.instanceMethod yX3_hasPlaces, Cond.selects RX3 yX3_hasPlaces yX3_hasPlaces, Cond.code yX3_hasPlaces cX3_hasPlaces 2 (some .boolean), Cond.methodLink RX3 45 yX3_isIn, Cond.static yX3_isIn, Cond.code yX3_isIn cX3_isIn 3 (some .boolean), Cond.methodLink RX3 82 yX3_takes, Cond.instanceMethod yX3_takes, Cond.selects RX3 yX3_takes yX3_takes]
def wsX3_lay_r2 : List Cond := [Cond.code yX3_takes cX3_takes 3 (some .boolean)]
def wsX3_lay : List Cond := .code yX3_lay cX3_lay 5 (some .int) :: ((wsX3_lay_r1 ++ wsX3_lay_r2) ++ wsX30)
def wsX3_levelsOf : List Cond := .code yX3_levelsOf cX3_levelsOf 6 (some .int) :: ([.fieldLink RX3 13 "LoomPanelModel" "sizes" "[I", .fieldLink RX3 23 "LoomPanelModel" "lies" "[I", .fieldLink RX3 19 "LoomPanelModel" "numbers" "[J", .fieldLink RX3 16 "LoomPanelModel" "levels" "[I", .methodLink RX3 53 yX3_make, .instanceMethod yX3_make, .selects RX3 yX3_make yX3_make, .initialized RX3, .code yX3_make cX3_make 5 (some .int), .fieldLink RX3 42 "LoomPanelModel" "values" "I", .fieldLink RX3 7 "LoomPanelModel" "forms" "[I"] ++ wsX30)
def wsX3_drive : List Cond := .code yX3_drive cX3_drive 6 (some .int) :: ([.fieldLink RX3 7 "LoomPanelModel" "forms" "[I", .fieldLink RX3 42 "LoomPanelModel" "values" "I", .fieldLink RX3 13 "LoomPanelModel" "sizes" "[I", .fieldLink RX3 16 "LoomPanelModel" "levels" "[I", .fieldLink RX3 19 "LoomPanelModel" "numbers" "[J", .fieldLink RX3 23 "LoomPanelModel" "lies" "[I", .methodLink RX3 75 yX3_with, .static yX3_with, .initialized RX3, .code yX3_with cX3_with 1 (some .int), .methodLink RX3 53 yX3_make, .instanceMethod yX3_make, .selects RX3 yX3_make yX3_make, .code yX3_make cX3_make 5 (some .int)] ++ wsX30)
def wsX3_pair : List Cond := .code yX3_pair cX3_pair 6 (some .int) :: ([.fieldLink RX3 23 "LoomPanelModel" "lies" "[I", .methodLink RX3 68 yX3_isOf, .instanceMethod yX3_isOf, .selects RX3 yX3_isOf yX3_isOf, .initialized RX3, .code yX3_isOf cX3_isOf 3 (some .boolean), .fieldLink RX3 7 "LoomPanelModel" "forms" "[I", .methodLink RX3 49 yX3_formIs, .static yX3_formIs, .code yX3_formIs cX3_formIs 2 (some .boolean), .methodLink RX3 75 yX3_with, .static yX3_with, .code yX3_with cX3_with 1 (some .int), .methodLink RX3 53 yX3_make, .instanceMethod yX3_make, .selects RX3 yX3_make yX3_make, .code yX3_make cX3_make 5 (some .int), .fieldLink RX3 42 "LoomPanelModel" "values" "I", .fieldLink RX3 13 "LoomPanelModel" "sizes" "[I", .fieldLink RX3 16 "LoomPanelModel" "levels" "[I", .fieldLink RX3 19 "LoomPanelModel" "numbers" "[J"] ++ wsX30)
def wsX3_power_r1 : List Cond := [Cond.fieldLink RX3 7 "LoomPanelModel" "forms" "[I", Cond.fieldLink RX3 19 "LoomPanelModel" "numbers" "[J", Cond.fieldLink RX3 16 "LoomPanelModel" "levels" "[I", Cond.methodLink RX3 53 yX3_make, Cond.instanceMethod yX3_make, Cond.selects RX3 yX3_make yX3_make, Cond.initialized RX3, Cond.code yX3_make cX3_make 5 (some .int), Cond.fieldLink RX3 42 "LoomPanelModel" "values" "I", Cond.fieldLink RX3 13 "LoomPanelModel" "sizes" "[I", Cond.fieldLink RX3 23 "LoomPanelModel" "lies" "[I", Cond.methodLink RX3 68 yX3_isOf, Cond.instanceMethod yX3_isOf, Cond.selects RX3 yX3_isOf yX3_isOf, Cond.code yX3_isOf cX3_isOf 3 (some .boolean), Cond.methodLink RX3 49 yX3_formIs, Cond.static yX3_formIs, Cond.code yX3_formIs cX3_formIs 2 (some .boolean), Cond.methodLink RX3 85 yX3_levelsOf, Cond.instanceMethod yX3_levelsOf, Cond.selects RX3 yX3_levelsOf yX3_levelsOf, Cond.code yX3_levelsOf cX3_levelsOf 6 (some .int), Cond.methodLink RX3 75 yX3_with, Cond.static yX3_with]
def wsX3_power_r2 : List Cond := [Cond.code yX3_with cX3_with 1 (some .int)]
def wsX3_power : List Cond := .code yX3_power cX3_power 3 (some .int) :: ((wsX3_power_r1 ++ wsX3_power_r2) ++ wsX30)
def wsX3_join_r1 : List Cond := [Cond.fieldLink RX3 7 "LoomPanelModel" "forms" "[I", Cond.fieldLink RX3 13 "LoomPanelModel" "sizes" "[I", Cond.fieldLink RX3 23 "LoomPanelModel" "lies" "[I", Cond.fieldLink RX3 19 "LoomPanelModel" "numbers" "[J", Cond.methodLink RX3 68 yX3_isOf, Cond.instanceMethod yX3_isOf, Cond.selects RX3 yX3_isOf yX3_isOf, Cond.initialized RX3, Cond.code yX3_isOf cX3_isOf 3 (some .boolean), Cond.methodLink RX3 49 yX3_formIs, Cond.static yX3_formIs, Cond.code yX3_formIs cX3_formIs 2 (some .boolean), Cond.methodLink RX3 61 yX3_isRow, Cond.instanceMethod yX3_isRow, Cond.selects RX3 yX3_isRow yX3_isRow, Cond.code yX3_isRow cX3_isRow 2 (some .boolean), Cond.methodLink RX3 75 yX3_with, Cond.static yX3_with, Cond.code yX3_with cX3_with 1 (some .int), Cond.methodLink RX3 82 yX3_takes, Cond.instanceMethod yX3_takes, Cond.selects RX3 yX3_takes yX3_takes, Cond.code yX3_takes cX3_takes 3 (some .boolean), Cond.methodLink RX3 53 yX3_make]
def wsX3_join_r2 : List Cond := [Cond.instanceMethod yX3_make, Cond.selects RX3 yX3_make yX3_make, Cond.code yX3_make cX3_make 5 (some .int), Cond.fieldLink RX3 42 "LoomPanelModel" "values" "I", Cond.fieldLink RX3 16 "LoomPanelModel" "levels" "[I"]
def wsX3_join : List Cond := .code yX3_join cX3_join 9 (some .int) :: ((wsX3_join_r1 ++ wsX3_join_r2) ++ wsX30)
def wsX3_copy : List Cond := .code yX3_copy cX3_copy 4 (some .int) :: ([.fieldLink RX3 7 "LoomPanelModel" "forms" "[I", .fieldLink RX3 13 "LoomPanelModel" "sizes" "[I", .fieldLink RX3 19 "LoomPanelModel" "numbers" "[J", .fieldLink RX3 23 "LoomPanelModel" "lies" "[I", .methodLink RX3 68 yX3_isOf, .instanceMethod yX3_isOf, .selects RX3 yX3_isOf yX3_isOf, .initialized RX3, .code yX3_isOf cX3_isOf 3 (some .boolean), .methodLink RX3 49 yX3_formIs, .static yX3_formIs, .code yX3_formIs cX3_formIs 2 (some .boolean), .methodLink RX3 75 yX3_with, .static yX3_with, .code yX3_with cX3_with 1 (some .int), .methodLink RX3 53 yX3_make, .instanceMethod yX3_make, .selects RX3 yX3_make yX3_make, .code yX3_make cX3_make 5 (some .int), .fieldLink RX3 42 "LoomPanelModel" "values" "I", .fieldLink RX3 16 "LoomPanelModel" "levels" "[I"] ++ wsX30)
def wsX3_makes : List Cond := .code yX3_makes cX3_makes 4 (some .int) :: ([.fieldLink RX3 13 "LoomPanelModel" "sizes" "[I", .methodLink RX3 45 yX3_isIn, .static yX3_isIn, .initialized RX3, .code yX3_isIn cX3_isIn 3 (some .boolean), .methodLink RX3 68 yX3_isOf, .instanceMethod yX3_isOf, .selects RX3 yX3_isOf yX3_isOf, .code yX3_isOf cX3_isOf 3 (some .boolean), .fieldLink RX3 7 "LoomPanelModel" "forms" "[I", .methodLink RX3 49 yX3_formIs, .static yX3_formIs, .code yX3_formIs cX3_formIs 2 (some .boolean)] ++ wsX30)
def wsX3_work_r1 : List Cond := [Cond.fieldLink RX3 42 "LoomPanelModel" "values" "I", Cond.methodLink RX3 88 yX3_makes, Cond.instanceMethod yX3_makes, Cond.selects RX3 yX3_makes yX3_makes, Cond.initialized RX3, Cond.code yX3_makes cX3_makes 4 (some .int), Cond.fieldLink RX3 13 "LoomPanelModel" "sizes" "[I", Cond.methodLink RX3 45 yX3_isIn, Cond.static yX3_isIn, Cond.code yX3_isIn cX3_isIn 3 (some .boolean), Cond.methodLink RX3 68 yX3_isOf, Cond.instanceMethod yX3_isOf, Cond.selects RX3 yX3_isOf yX3_isOf, Cond.code yX3_isOf cX3_isOf 3 (some .boolean), Cond.fieldLink RX3 7 "LoomPanelModel" "forms" "[I", Cond.methodLink RX3 49 yX3_formIs, Cond.static yX3_formIs, Cond.code yX3_formIs cX3_formIs 2 (some .boolean), Cond.methodLink RX3 75 yX3_with, Cond.static yX3_with, Cond.code yX3_with cX3_with 1 (some .int), Cond.methodLink RX3 91 yX3_tap, Cond.instanceMethod yX3_tap, Cond.selects RX3 yX3_tap yX3_tap]
def wsX3_work_r2 : List Cond := [Cond.code yX3_tap cX3_tap 4 (some .int), Cond.fieldLink RX3 23 "LoomPanelModel" "lies" "[I", Cond.methodLink RX3 79 yX3_hasPlaces, Cond.instanceMethod yX3_hasPlaces, Cond.selects RX3 yX3_hasPlaces yX3_hasPlaces, Cond.code yX3_hasPlaces cX3_hasPlaces 2 (some .boolean), Cond.methodLink RX3 94 yX3_lay, Cond.instanceMethod yX3_lay, Cond.selects RX3 yX3_lay yX3_lay, Cond.code yX3_lay cX3_lay 5 (some .int), Cond.methodLink RX3 82 yX3_takes, Cond.instanceMethod yX3_takes, Cond.selects RX3 yX3_takes yX3_takes, Cond.code yX3_takes cX3_takes 3 (some .boolean), Cond.methodLink RX3 53 yX3_make, Cond.instanceMethod yX3_make, Cond.selects RX3 yX3_make yX3_make, Cond.code yX3_make cX3_make 5 (some .int), Cond.fieldLink RX3 16 "LoomPanelModel" "levels" "[I", Cond.fieldLink RX3 19 "LoomPanelModel" "numbers" "[J", Cond.methodLink RX3 98 yX3_sum, Cond.instanceMethod yX3_sum, Cond.selects RX3 yX3_sum yX3_sum, Cond.code yX3_sum cX3_sum 5 (some .int)]
def wsX3_work_r3 : List Cond := [Cond.methodLink RX3 61 yX3_isRow, Cond.instanceMethod yX3_isRow, Cond.selects RX3 yX3_isRow yX3_isRow, Cond.code yX3_isRow cX3_isRow 2 (some .boolean), Cond.methodLink RX3 71 yX3_sumOf, Cond.instanceMethod yX3_sumOf, Cond.selects RX3 yX3_sumOf yX3_sumOf, Cond.code yX3_sumOf cX3_sumOf 5 (some .long), Cond.methodLink RX3 101 yX3_turned, Cond.instanceMethod yX3_turned, Cond.selects RX3 yX3_turned yX3_turned, Cond.code yX3_turned cX3_turned 6 (some .int), Cond.methodLink RX3 64 yX3_cut, Cond.static yX3_cut, Cond.code yX3_cut cX3_cut 3 (some .long), Cond.methodLink RX3 85 yX3_levelsOf, Cond.instanceMethod yX3_levelsOf, Cond.selects RX3 yX3_levelsOf yX3_levelsOf, Cond.code yX3_levelsOf cX3_levelsOf 6 (some .int), Cond.methodLink RX3 104 yX3_drive, Cond.instanceMethod yX3_drive, Cond.selects RX3 yX3_drive yX3_drive, Cond.code yX3_drive cX3_drive 6 (some .int), Cond.methodLink RX3 107 yX3_pair]
def wsX3_work_r4 : List Cond := [Cond.instanceMethod yX3_pair, Cond.selects RX3 yX3_pair yX3_pair, Cond.code yX3_pair cX3_pair 6 (some .int), Cond.methodLink RX3 110 yX3_power, Cond.instanceMethod yX3_power, Cond.selects RX3 yX3_power yX3_power, Cond.code yX3_power cX3_power 3 (some .int), Cond.methodLink RX3 113 yX3_join, Cond.instanceMethod yX3_join, Cond.selects RX3 yX3_join yX3_join, Cond.code yX3_join cX3_join 9 (some .int), Cond.methodLink RX3 116 yX3_copy, Cond.instanceMethod yX3_copy, Cond.selects RX3 yX3_copy yX3_copy, Cond.code yX3_copy cX3_copy 4 (some .int)]
def wsX3_work : List Cond := .code yX3_work cX3_work 5 (some .int) :: ((wsX3_work_r1 ++ (wsX3_work_r2 ++ (wsX3_work_r3 ++ wsX3_work_r4))) ++ wsX30)
def wsX3_noted : List Cond := .code yX3_noted cX3_noted 2 (some .int) :: ([.fieldLink RX3 119 "LoomPanelModel" "faults" "I", .fieldLink RX3 122 "LoomPanelModel" "latest" "I"] ++ wsX30)
def wsX3_act_r1 : List Cond := [Cond.methodLink RX3 45 yX3_isIn, Cond.static yX3_isIn, Cond.initialized RX3, Cond.code yX3_isIn cX3_isIn 3 (some .boolean), Cond.methodLink RX3 125 yX3_mayBe, Cond.instanceMethod yX3_mayBe, Cond.selects RX3 yX3_mayBe yX3_mayBe, Cond.code yX3_mayBe cX3_mayBe 2 (some .boolean), Cond.fieldLink RX3 42 "LoomPanelModel" "values" "I", Cond.methodLink RX3 128 yX3_work, Cond.instanceMethod yX3_work, Cond.selects RX3 yX3_work yX3_work, Cond.code yX3_work cX3_work 5 (some .int), Cond.methodLink RX3 88 yX3_makes, Cond.instanceMethod yX3_makes, Cond.selects RX3 yX3_makes yX3_makes, Cond.code yX3_makes cX3_makes 4 (some .int), Cond.fieldLink RX3 13 "LoomPanelModel" "sizes" "[I", Cond.methodLink RX3 68 yX3_isOf, Cond.instanceMethod yX3_isOf, Cond.selects RX3 yX3_isOf yX3_isOf, Cond.code yX3_isOf cX3_isOf 3 (some .boolean), Cond.fieldLink RX3 7 "LoomPanelModel" "forms" "[I", Cond.methodLink RX3 49 yX3_formIs]
def wsX3_act_r2 : List Cond := [Cond.static yX3_formIs, Cond.code yX3_formIs cX3_formIs 2 (some .boolean), Cond.methodLink RX3 75 yX3_with, Cond.static yX3_with, Cond.code yX3_with cX3_with 1 (some .int), Cond.methodLink RX3 91 yX3_tap, Cond.instanceMethod yX3_tap, Cond.selects RX3 yX3_tap yX3_tap, Cond.code yX3_tap cX3_tap 4 (some .int), Cond.fieldLink RX3 23 "LoomPanelModel" "lies" "[I", Cond.methodLink RX3 79 yX3_hasPlaces, Cond.instanceMethod yX3_hasPlaces, Cond.selects RX3 yX3_hasPlaces yX3_hasPlaces, Cond.code yX3_hasPlaces cX3_hasPlaces 2 (some .boolean), Cond.methodLink RX3 94 yX3_lay, Cond.instanceMethod yX3_lay, Cond.selects RX3 yX3_lay yX3_lay, Cond.code yX3_lay cX3_lay 5 (some .int), Cond.methodLink RX3 82 yX3_takes, Cond.instanceMethod yX3_takes, Cond.selects RX3 yX3_takes yX3_takes, Cond.code yX3_takes cX3_takes 3 (some .boolean), Cond.methodLink RX3 53 yX3_make, Cond.instanceMethod yX3_make]
def wsX3_act_r3 : List Cond := [Cond.selects RX3 yX3_make yX3_make, Cond.code yX3_make cX3_make 5 (some .int), Cond.fieldLink RX3 16 "LoomPanelModel" "levels" "[I", Cond.fieldLink RX3 19 "LoomPanelModel" "numbers" "[J", Cond.methodLink RX3 98 yX3_sum, Cond.instanceMethod yX3_sum, Cond.selects RX3 yX3_sum yX3_sum, Cond.code yX3_sum cX3_sum 5 (some .int), Cond.methodLink RX3 61 yX3_isRow, Cond.instanceMethod yX3_isRow, Cond.selects RX3 yX3_isRow yX3_isRow, Cond.code yX3_isRow cX3_isRow 2 (some .boolean), Cond.methodLink RX3 71 yX3_sumOf, Cond.instanceMethod yX3_sumOf, Cond.selects RX3 yX3_sumOf yX3_sumOf, Cond.code yX3_sumOf cX3_sumOf 5 (some .long), Cond.methodLink RX3 101 yX3_turned, Cond.instanceMethod yX3_turned, Cond.selects RX3 yX3_turned yX3_turned, Cond.code yX3_turned cX3_turned 6 (some .int), Cond.methodLink RX3 64 yX3_cut, Cond.static yX3_cut, Cond.code yX3_cut cX3_cut 3 (some .long), Cond.methodLink RX3 85 yX3_levelsOf]
def wsX3_act_r4 : List Cond := [Cond.instanceMethod yX3_levelsOf, Cond.selects RX3 yX3_levelsOf yX3_levelsOf, Cond.code yX3_levelsOf cX3_levelsOf 6 (some .int), Cond.methodLink RX3 104 yX3_drive, Cond.instanceMethod yX3_drive, Cond.selects RX3 yX3_drive yX3_drive, Cond.code yX3_drive cX3_drive 6 (some .int), Cond.methodLink RX3 107 yX3_pair, Cond.instanceMethod yX3_pair, Cond.selects RX3 yX3_pair yX3_pair, Cond.code yX3_pair cX3_pair 6 (some .int), Cond.methodLink RX3 110 yX3_power, Cond.instanceMethod yX3_power, Cond.selects RX3 yX3_power yX3_power, Cond.code yX3_power cX3_power 3 (some .int), Cond.methodLink RX3 113 yX3_join, Cond.instanceMethod yX3_join, Cond.selects RX3 yX3_join yX3_join, Cond.code yX3_join cX3_join 9 (some .int), Cond.methodLink RX3 116 yX3_copy, Cond.instanceMethod yX3_copy, Cond.selects RX3 yX3_copy yX3_copy, Cond.code yX3_copy cX3_copy 4 (some .int), Cond.methodLink RX3 132 yX3_noted]
def wsX3_act_r5 : List Cond := [Cond.instanceMethod yX3_noted, Cond.selects RX3 yX3_noted yX3_noted, Cond.code yX3_noted cX3_noted 2 (some .int), Cond.fieldLink RX3 119 "LoomPanelModel" "faults" "I", Cond.fieldLink RX3 122 "LoomPanelModel" "latest" "I"]
def wsX3_act : List Cond := .code yX3_act cX3_act 5 (some .int) :: ((wsX3_act_r1 ++ (wsX3_act_r2 ++ (wsX3_act_r3 ++ (wsX3_act_r4 ++ wsX3_act_r5)))) ++ wsX30)
def wsX3_step : List Cond := .code yX3_step cX3_step 6 (some .int) :: ([.fieldLink RX3 26 "LoomPanelModel" "steps" "[I", .fieldLink RX3 29 "LoomPanelModel" "stepAct" "[I", .fieldLink RX3 32 "LoomPanelModel" "stepOther" "[I", .fieldLink RX3 35 "LoomPanelModel" "stepNumber" "[I", .methodLink RX3 45 yX3_isIn, .static yX3_isIn, .initialized RX3, .code yX3_isIn cX3_isIn 3 (some .boolean), .methodLink RX3 125 yX3_mayBe, .instanceMethod yX3_mayBe, .selects RX3 yX3_mayBe yX3_mayBe, .code yX3_mayBe cX3_mayBe 2 (some .boolean), .fieldLink RX3 42 "LoomPanelModel" "values" "I"] ++ wsX30)
def wsX3_play_r1 : List Cond := [Cond.fieldLink RX3 38 "LoomPanelModel" "stopped" "I", Cond.fieldLink RX3 26 "LoomPanelModel" "steps" "[I", Cond.fieldLink RX3 32 "LoomPanelModel" "stepOther" "[I", Cond.fieldLink RX3 29 "LoomPanelModel" "stepAct" "[I", Cond.fieldLink RX3 35 "LoomPanelModel" "stepNumber" "[I", Cond.methodLink RX3 45 yX3_isIn, Cond.static yX3_isIn, Cond.initialized RX3, Cond.code yX3_isIn cX3_isIn 3 (some .boolean), Cond.methodLink RX3 125 yX3_mayBe, Cond.instanceMethod yX3_mayBe, Cond.selects RX3 yX3_mayBe yX3_mayBe, Cond.code yX3_mayBe cX3_mayBe 2 (some .boolean), Cond.fieldLink RX3 42 "LoomPanelModel" "values" "I", Cond.methodLink RX3 128 yX3_work, Cond.instanceMethod yX3_work, Cond.selects RX3 yX3_work yX3_work, Cond.code yX3_work cX3_work 5 (some .int), Cond.methodLink RX3 88 yX3_makes, Cond.instanceMethod yX3_makes, Cond.selects RX3 yX3_makes yX3_makes, Cond.code yX3_makes cX3_makes 4 (some .int), Cond.fieldLink RX3 13 "LoomPanelModel" "sizes" "[I", Cond.methodLink RX3 68 yX3_isOf]
def wsX3_play_r2 : List Cond := [Cond.instanceMethod yX3_isOf, Cond.selects RX3 yX3_isOf yX3_isOf, Cond.code yX3_isOf cX3_isOf 3 (some .boolean), Cond.fieldLink RX3 7 "LoomPanelModel" "forms" "[I", Cond.methodLink RX3 49 yX3_formIs, Cond.static yX3_formIs, Cond.code yX3_formIs cX3_formIs 2 (some .boolean), Cond.methodLink RX3 75 yX3_with, Cond.static yX3_with, Cond.code yX3_with cX3_with 1 (some .int), Cond.methodLink RX3 91 yX3_tap, Cond.instanceMethod yX3_tap, Cond.selects RX3 yX3_tap yX3_tap, Cond.code yX3_tap cX3_tap 4 (some .int), Cond.fieldLink RX3 23 "LoomPanelModel" "lies" "[I", Cond.methodLink RX3 79 yX3_hasPlaces, Cond.instanceMethod yX3_hasPlaces, Cond.selects RX3 yX3_hasPlaces yX3_hasPlaces, Cond.code yX3_hasPlaces cX3_hasPlaces 2 (some .boolean), Cond.methodLink RX3 94 yX3_lay, Cond.instanceMethod yX3_lay, Cond.selects RX3 yX3_lay yX3_lay, Cond.code yX3_lay cX3_lay 5 (some .int), Cond.methodLink RX3 82 yX3_takes]
def wsX3_play_r3 : List Cond := [Cond.instanceMethod yX3_takes, Cond.selects RX3 yX3_takes yX3_takes, Cond.code yX3_takes cX3_takes 3 (some .boolean), Cond.methodLink RX3 53 yX3_make, Cond.instanceMethod yX3_make, Cond.selects RX3 yX3_make yX3_make, Cond.code yX3_make cX3_make 5 (some .int), Cond.fieldLink RX3 16 "LoomPanelModel" "levels" "[I", Cond.fieldLink RX3 19 "LoomPanelModel" "numbers" "[J", Cond.methodLink RX3 98 yX3_sum, Cond.instanceMethod yX3_sum, Cond.selects RX3 yX3_sum yX3_sum, Cond.code yX3_sum cX3_sum 5 (some .int), Cond.methodLink RX3 61 yX3_isRow, Cond.instanceMethod yX3_isRow, Cond.selects RX3 yX3_isRow yX3_isRow, Cond.code yX3_isRow cX3_isRow 2 (some .boolean), Cond.methodLink RX3 71 yX3_sumOf, Cond.instanceMethod yX3_sumOf, Cond.selects RX3 yX3_sumOf yX3_sumOf, Cond.code yX3_sumOf cX3_sumOf 5 (some .long), Cond.methodLink RX3 101 yX3_turned, Cond.instanceMethod yX3_turned, Cond.selects RX3 yX3_turned yX3_turned]
def wsX3_play_r4 : List Cond := [Cond.code yX3_turned cX3_turned 6 (some .int), Cond.methodLink RX3 64 yX3_cut, Cond.static yX3_cut, Cond.code yX3_cut cX3_cut 3 (some .long), Cond.methodLink RX3 85 yX3_levelsOf, Cond.instanceMethod yX3_levelsOf, Cond.selects RX3 yX3_levelsOf yX3_levelsOf, Cond.code yX3_levelsOf cX3_levelsOf 6 (some .int), Cond.methodLink RX3 104 yX3_drive, Cond.instanceMethod yX3_drive, Cond.selects RX3 yX3_drive yX3_drive, Cond.code yX3_drive cX3_drive 6 (some .int), Cond.methodLink RX3 107 yX3_pair, Cond.instanceMethod yX3_pair, Cond.selects RX3 yX3_pair yX3_pair, Cond.code yX3_pair cX3_pair 6 (some .int), Cond.methodLink RX3 110 yX3_power, Cond.instanceMethod yX3_power, Cond.selects RX3 yX3_power yX3_power, Cond.code yX3_power cX3_power 3 (some .int), Cond.methodLink RX3 113 yX3_join, Cond.instanceMethod yX3_join, Cond.selects RX3 yX3_join yX3_join, Cond.code yX3_join cX3_join 9 (some .int)]
def wsX3_play_r5 : List Cond := [Cond.methodLink RX3 116 yX3_copy, Cond.instanceMethod yX3_copy, Cond.selects RX3 yX3_copy yX3_copy, Cond.code yX3_copy cX3_copy 4 (some .int), Cond.methodLink RX3 132 yX3_noted, Cond.instanceMethod yX3_noted, Cond.selects RX3 yX3_noted yX3_noted, Cond.code yX3_noted cX3_noted 2 (some .int), Cond.fieldLink RX3 119 "LoomPanelModel" "faults" "I", Cond.fieldLink RX3 122 "LoomPanelModel" "latest" "I"]
def wsX3_play : List Cond := .code yX3_play cX3_play 7 (some .int) :: ((wsX3_play_r1 ++ (wsX3_play_r2 ++ (wsX3_play_r3 ++ (wsX3_play_r4 ++ wsX3_play_r5)))) ++ wsX30)
def wsX3_stopped : List Cond := .code yX3_stopped cX3_stopped 1 (some .int) :: ([.fieldLink RX3 38 "LoomPanelModel" "stopped" "I"] ++ wsX30)
def wsX3_empty : List Cond := .code yX3_empty cX3_empty 3 (some .int) :: ([.fieldLink RX3 26 "LoomPanelModel" "steps" "[I", .methodLink RX3 45 yX3_isIn, .static yX3_isIn, .initialized RX3, .code yX3_isIn cX3_isIn 3 (some .boolean)] ++ wsX30)
def wsX3_is : List Cond := .code yX3_is cX3_is 3 (some .int) :: ([.methodLink RX3 57 yX3_isValue, .instanceMethod yX3_isValue, .selects RX3 yX3_isValue yX3_isValue, .initialized RX3, .code yX3_isValue cX3_isValue 2 (some .boolean), .fieldLink RX3 42 "LoomPanelModel" "values" "I", .methodLink RX3 45 yX3_isIn, .static yX3_isIn, .code yX3_isIn cX3_isIn 3 (some .boolean), .methodLink RX3 68 yX3_isOf, .instanceMethod yX3_isOf, .selects RX3 yX3_isOf yX3_isOf, .code yX3_isOf cX3_isOf 3 (some .boolean), .fieldLink RX3 7 "LoomPanelModel" "forms" "[I", .methodLink RX3 49 yX3_formIs, .static yX3_formIs, .code yX3_formIs cX3_formIs 2 (some .boolean)] ++ wsX30)
def wsX3_views : List Cond := .code yX3_views cX3_views 4 (some .int) :: ([.methodLink RX3 57 yX3_isValue, .instanceMethod yX3_isValue, .selects RX3 yX3_isValue yX3_isValue, .initialized RX3, .code yX3_isValue cX3_isValue 2 (some .boolean), .fieldLink RX3 42 "LoomPanelModel" "values" "I", .methodLink RX3 45 yX3_isIn, .static yX3_isIn, .code yX3_isIn cX3_isIn 3 (some .boolean), .methodLink RX3 68 yX3_isOf, .instanceMethod yX3_isOf, .selects RX3 yX3_isOf yX3_isOf, .code yX3_isOf cX3_isOf 3 (some .boolean), .fieldLink RX3 7 "LoomPanelModel" "forms" "[I", .methodLink RX3 49 yX3_formIs, .static yX3_formIs, .code yX3_formIs cX3_formIs 2 (some .boolean)] ++ wsX30)
def wsX3_size : List Cond := .code yX3_size cX3_size 2 (some .int) :: ([.fieldLink RX3 13 "LoomPanelModel" "sizes" "[I", .methodLink RX3 57 yX3_isValue, .instanceMethod yX3_isValue, .selects RX3 yX3_isValue yX3_isValue, .initialized RX3, .code yX3_isValue cX3_isValue 2 (some .boolean), .fieldLink RX3 42 "LoomPanelModel" "values" "I", .methodLink RX3 45 yX3_isIn, .static yX3_isIn, .code yX3_isIn cX3_isIn 3 (some .boolean)] ++ wsX30)
def wsX3_count : List Cond := .code yX3_count cX3_count 2 (some .int) :: ([.fieldLink RX3 42 "LoomPanelModel" "values" "I", .fieldLink RX3 119 "LoomPanelModel" "faults" "I", .fieldLink RX3 122 "LoomPanelModel" "latest" "I"] ++ wsX30)
def wsX3_clear : List Cond := .code yX3_clear cX3_clear 3 (some .int) :: ([.fieldLink RX3 42 "LoomPanelModel" "values" "I", .fieldLink RX3 26 "LoomPanelModel" "steps" "[I"] ++ wsX30)
def wsL_law_r1 : List Cond := [Cond.classLink RL 7 RX2, Cond.instantiable RX2 5, Cond.initialized RX2, Cond.classLink RL 10 RX3, Cond.instantiable RX3 13, Cond.initialized RX3, Cond.constantLong RL 27 (4294967295), Cond.methodLink RL 9 yX2_init, Cond.instanceMethod yX2_init, Cond.code yX2_init cX2_init 1 none, Cond.methodLink RX2 1 objectInit, Cond.instanceMethod objectInit, Cond.code objectInit ⟨#[0xb1]⟩ 1 none, Cond.classLink RX2 7 RX1, Cond.instantiable RX1 5, Cond.initialized RX1, Cond.fieldLink RX2 10 "LoomPanel" "values" "LLoomPanel$Values;", Cond.classLink RX2 16 RX0, Cond.instantiable RX0 4, Cond.initialized RX0, Cond.fieldLink RX2 19 "LoomPanel" "patches" "LLoomPanel$Patches;", Cond.fieldLink RX2 23 "LoomPanel" "stoppedAt" "I", Cond.fieldLink RX2 27 "LoomPanel" "faultsSoFar" "I", Cond.fieldLink RX2 30 "LoomPanel" "latestFault" "I"]
def wsL_law_r2 : List Cond := [Cond.instanceMethod yX1_init, Cond.code yX1_init cX1_init 1 none, Cond.methodLink RX1 3 objectInit, Cond.arrayClass .int, Cond.fieldLink RX1 9 "LoomPanel$Values" "forms" "[I", Cond.fieldLink RX1 15 "LoomPanel$Values" "lengths" "[I", Cond.fieldLink RX1 18 "LoomPanel$Values" "levels" "[I", Cond.arrayClass .long, Cond.fieldLink RX1 21 "LoomPanel$Values" "cells" "[J", Cond.fieldLink RX1 25 "LoomPanel$Values" "made" "I", Cond.instanceMethod yX0_init, Cond.code yX0_init cX0_init 1 none, Cond.methodLink RX0 3 objectInit, Cond.fieldLink RX0 9 "LoomPanel$Patches" "lengths" "[I", Cond.fieldLink RX0 15 "LoomPanel$Patches" "acts" "[I", Cond.fieldLink RX0 18 "LoomPanel$Patches" "ys" "[I", Cond.fieldLink RX0 21 "LoomPanel$Patches" "ns" "[I", Cond.methodLink RL 12 yX3_init, Cond.instanceMethod yX3_init, Cond.code yX3_init cX3_init 1 none, Cond.methodLink RX3 1 objectInit, Cond.fieldLink RX3 7 "LoomPanelModel" "forms" "[I", Cond.fieldLink RX3 13 "LoomPanelModel" "sizes" "[I", Cond.fieldLink RX3 16 "LoomPanelModel" "levels" "[I"]
def wsL_law_r3 : List Cond := [Cond.fieldLink RX3 19 "LoomPanelModel" "numbers" "[J", Cond.fieldLink RX3 23 "LoomPanelModel" "lies" "[I", Cond.fieldLink RX3 26 "LoomPanelModel" "steps" "[I", Cond.fieldLink RX3 29 "LoomPanelModel" "stepAct" "[I", Cond.fieldLink RX3 32 "LoomPanelModel" "stepOther" "[I", Cond.fieldLink RX3 35 "LoomPanelModel" "stepNumber" "[I", Cond.fieldLink RX3 38 "LoomPanelModel" "stopped" "I", Cond.methodLink RL 13 yX2_row, Cond.instanceMethod yX2_row, Cond.selects RX2 yX2_row yX2_row, Cond.code yX2_row cX2_row 3 (some .int), Cond.methodLink RX2 33 yX2_isLength, Cond.static yX2_isLength, Cond.code yX2_isLength cX2_isLength 1 (some .boolean), Cond.methodLink RX2 37 yX1_add, Cond.instanceMethod yX1_add, Cond.selects RX1 yX1_add yX1_add, Cond.code yX1_add cX1_add 6 (some .int), Cond.static yX2_isBoardForm, Cond.code yX2_isBoardForm cX2_isBoardForm 1 (some .boolean), Cond.methodLink RL 17 yX3_row, Cond.instanceMethod yX3_row, Cond.selects RX3 yX3_row yX3_row, Cond.code yX3_row cX3_row 3 (some .int)]
def wsL_law_r4 : List Cond := [Cond.fieldLink RX3 42 "LoomPanelModel" "values" "I", Cond.methodLink RX3 45 yX3_isIn, Cond.static yX3_isIn, Cond.code yX3_isIn cX3_isIn 3 (some .boolean), Cond.methodLink RX3 53 yX3_make, Cond.instanceMethod yX3_make, Cond.selects RX3 yX3_make yX3_make, Cond.code yX3_make cX3_make 5 (some .int), Cond.methodLink RL 18 yX2_board, Cond.instanceMethod yX2_board, Cond.selects RX2 yX2_board yX2_board, Cond.code yX2_board cX2_board 3 (some .int), Cond.methodLink RX2 41 yX2_isBoardForm, Cond.methodLink RL 21 yX3_board, Cond.instanceMethod yX3_board, Cond.selects RX3 yX3_board yX3_board, Cond.code yX3_board cX3_board 3 (some .int), Cond.methodLink RL 22 yX2_wire, Cond.instanceMethod yX2_wire, Cond.selects RX2 yX2_wire yX2_wire, Cond.code yX2_wire cX2_wire 3 (some .int), Cond.methodLink RX2 44 yX1_addWire, Cond.instanceMethod yX1_addWire, Cond.selects RX1 yX1_addWire yX1_addWire]
def wsL_law_r5 : List Cond := [Cond.code yX1_addWire cX1_addWire 4 (some .int), Cond.methodLink RX1 51 yX1_add, Cond.methodLink RX1 29 yX1_has, Cond.instanceMethod yX1_has, Cond.selects RX1 yX1_has yX1_has, Cond.code yX1_has cX1_has 2 (some .boolean), Cond.methodLink RL 26 yX3_wire, Cond.instanceMethod yX3_wire, Cond.selects RX3 yX3_wire yX3_wire, Cond.code yX3_wire cX3_wire 4 (some .int), Cond.methodLink RL 29 yX2_set, Cond.instanceMethod yX2_set, Cond.selects RX2 yX2_set yX2_set, Cond.code yX2_set cX2_set 5 (some .int), Cond.methodLink RX2 47 yX1_isNumbers, Cond.instanceMethod yX1_isNumbers, Cond.selects RX1 yX1_isNumbers yX1_isNumbers, Cond.code yX1_isNumbers cX1_isNumbers 2 (some .boolean), Cond.methodLink RX2 50 yX1_hasPlace, Cond.instanceMethod yX1_hasPlace, Cond.selects RX1 yX1_hasPlace yX1_hasPlace, Cond.code yX1_hasPlace cX1_hasPlace 3 (some .boolean), Cond.methodLink RX2 54 yX1_put, Cond.instanceMethod yX1_put]
def wsL_law_r6 : List Cond := [Cond.selects RX1 yX1_put yX1_put, Cond.code yX1_put cX1_put 5 none, Cond.methodLink RX1 37 yX1_hasPlace, Cond.methodLink RX1 41 yX1_lowestBits, Cond.static yX1_lowestBits, Cond.code yX1_lowestBits cX1_lowestBits 3 (some .long), Cond.methodLink RL 33 yX3_set, Cond.instanceMethod yX3_set, Cond.selects RX3 yX3_set yX3_set, Cond.code yX3_set cX3_set 5 (some .int), Cond.methodLink RX3 57 yX3_isValue, Cond.instanceMethod yX3_isValue, Cond.selects RX3 yX3_isValue yX3_isValue, Cond.code yX3_isValue cX3_isValue 2 (some .boolean), Cond.methodLink RX3 61 yX3_isRow, Cond.instanceMethod yX3_isRow, Cond.selects RX3 yX3_isRow yX3_isRow, Cond.code yX3_isRow cX3_isRow 2 (some .boolean), Cond.methodLink RX3 64 yX3_cut, Cond.static yX3_cut, Cond.code yX3_cut cX3_cut 3 (some .long), Cond.methodLink RL 34 yX2_number, Cond.instanceMethod yX2_number, Cond.selects RX2 yX2_number yX2_number]
def wsL_law_r7 : List Cond := [Cond.code yX2_number cX2_number 3 (some .long), Cond.methodLink RX2 58 yX1_isA, Cond.instanceMethod yX1_isA, Cond.selects RX1 yX1_isA yX1_isA, Cond.code yX1_isA cX1_isA 3 (some .boolean), Cond.static yX2_viewsOfForm, Cond.code yX2_viewsOfForm cX2_viewsOfForm 1 (some .int), Cond.methodLink RX2 61 yX1_levelOf, Cond.instanceMethod yX1_levelOf, Cond.selects RX1 yX1_levelOf yX1_levelOf, Cond.code yX1_levelOf cX1_levelOf 2 (some .int), Cond.methodLink RX2 65 yX1_cellOf, Cond.instanceMethod yX1_cellOf, Cond.selects RX1 yX1_cellOf yX1_cellOf, Cond.code yX1_cellOf cX1_cellOf 3 (some .long), Cond.methodLink RL 38 yX3_number, Cond.instanceMethod yX3_number, Cond.selects RX3 yX3_number yX3_number, Cond.code yX3_number cX3_number 3 (some .long), Cond.methodLink RX3 68 yX3_isOf, Cond.instanceMethod yX3_isOf, Cond.selects RX3 yX3_isOf yX3_isOf, Cond.code yX3_isOf cX3_isOf 3 (some .boolean), Cond.methodLink RX3 49 yX3_formIs]
def wsL_law_r8 : List Cond := [Cond.static yX3_formIs, Cond.code yX3_formIs cX3_formIs 2 (some .boolean), Cond.methodLink RL 39 yX2_act, Cond.instanceMethod yX2_act, Cond.selects RX2 yX2_act yX2_act, Cond.code yX2_act cX2_act 5 (some .int), Cond.methodLink RX2 69 yX2_isAct, Cond.static yX2_isAct, Cond.code yX2_isAct cX2_isAct 1 (some .boolean), Cond.methodLink RX2 72 yX2_isValueOrNone, Cond.instanceMethod yX2_isValueOrNone, Cond.selects RX2 yX2_isValueOrNone yX2_isValueOrNone, Cond.code yX2_isValueOrNone cX2_isValueOrNone 2 (some .boolean), Cond.methodLink RX2 106 yX1_has, Cond.methodLink RX2 75 yX2_answerOf, Cond.instanceMethod yX2_answerOf, Cond.selects RX2 yX2_answerOf yX2_answerOf, Cond.code yX2_answerOf cX2_answerOf 5 (some .int), Cond.methodLink RX2 117 yX1_made, Cond.instanceMethod yX1_made, Cond.selects RX1 yX1_made yX1_made, Cond.code yX1_made cX1_made 1 (some .int), Cond.methodLink RX2 127 yX2_makes, Cond.instanceMethod yX2_makes]
def wsL_law_r9 : List Cond := [Cond.selects RX2 yX2_makes yX2_makes, Cond.code yX2_makes cX2_makes 3 (some .int), Cond.methodLink RX2 116 yX1_lengthOf, Cond.instanceMethod yX1_lengthOf, Cond.selects RX1 yX1_lengthOf yX1_lengthOf, Cond.code yX1_lengthOf cX1_lengthOf 2 (some .int), Cond.methodLink RX2 130 yX2_fault, Cond.static yX2_fault, Cond.code yX2_fault cX2_fault 1 (some .int), Cond.methodLink RX2 133 yX2_sum, Cond.instanceMethod yX2_sum, Cond.selects RX2 yX2_sum yX2_sum, Cond.code yX2_sum cX2_sum 5 (some .int), Cond.methodLink RX2 175 yX2_totalOf, Cond.instanceMethod yX2_totalOf, Cond.selects RX2 yX2_totalOf yX2_totalOf, Cond.code yX2_totalOf cX2_totalOf 6 (some .long), Cond.methodLink RX2 179 yX1_addSingle, Cond.instanceMethod yX1_addSingle, Cond.selects RX1 yX1_addSingle yX1_addSingle, Cond.code yX1_addSingle cX1_addSingle 5 (some .int), Cond.methodLink RX1 55 yX1_put, Cond.methodLink RX2 183 yX1_placed, Cond.instanceMethod yX1_placed]
def wsL_law_r10 : List Cond := [Cond.selects RX1 yX1_placed yX1_placed, Cond.code yX1_placed cX1_placed 3 (some .int), Cond.methodLink RX2 136 yX2_widen, Cond.instanceMethod yX2_widen, Cond.selects RX2 yX2_widen yX2_widen, Cond.code yX2_widen cX2_widen 2 (some .int), Cond.methodLink RX2 186 yX1_addCopy, Cond.instanceMethod yX1_addCopy, Cond.selects RX1 yX1_addCopy yX1_addCopy, Cond.code yX1_addCopy cX1_addCopy 4 (some .int), Cond.methodLink RX1 59 yX1_lengthOf, Cond.methodLink RX1 62 yX1_copyCells, Cond.instanceMethod yX1_copyCells, Cond.selects RX1 yX1_copyCells yX1_copyCells, Cond.code yX1_copyCells cX1_copyCells 6 none, Cond.methodLink RX1 66 yX1_cellOf, Cond.methodLink RX2 139 yX2_narrow, Cond.instanceMethod yX2_narrow, Cond.selects RX2 yX2_narrow yX2_narrow, Cond.code yX2_narrow cX2_narrow 2 (some .int), Cond.methodLink RX2 142 yX2_tap, Cond.instanceMethod yX2_tap, Cond.selects RX2 yX2_tap yX2_tap, Cond.code yX2_tap cX2_tap 4 (some .int)]
def wsL_law_r11 : List Cond := [Cond.methodLink RX2 110 yX1_formOf, Cond.instanceMethod yX1_formOf, Cond.selects RX1 yX1_formOf yX1_formOf, Cond.code yX1_formOf cX1_formOf 2 (some .int), Cond.methodLink RX2 145 yX2_lay, Cond.instanceMethod yX2_lay, Cond.selects RX2 yX2_lay yX2_lay, Cond.code yX2_lay cX2_lay 5 (some .int), Cond.methodLink RX2 189 yX2_askedByLay, Cond.instanceMethod yX2_askedByLay, Cond.selects RX2 yX2_askedByLay yX2_askedByLay, Cond.code yX2_askedByLay cX2_askedByLay 2 (some .int), Cond.methodLink RX2 192 yX2_isNoneOr, Cond.instanceMethod yX2_isNoneOr, Cond.selects RX2 yX2_isNoneOr yX2_isNoneOr, Cond.code yX2_isNoneOr cX2_isNoneOr 3 (some .boolean), Cond.methodLink RX2 195 yX2_takenBy, Cond.static yX2_takenBy, Cond.code yX2_takenBy cX2_takenBy 1 (some .int), Cond.methodLink RX2 149 yX2_levels, Cond.instanceMethod yX2_levels, Cond.selects RX2 yX2_levels yX2_levels, Cond.code yX2_levels cX2_levels 2 (some .int), Cond.methodLink RX2 198 yX2_levelsTimes]
def wsL_law_r12 : List Cond := [Cond.instanceMethod yX2_levelsTimes, Cond.selects RX2 yX2_levelsTimes yX2_levelsTimes, Cond.code yX2_levelsTimes cX2_levelsTimes 7 (some .int), Cond.methodLink RX2 152 yX2_drive, Cond.instanceMethod yX2_drive, Cond.selects RX2 yX2_drive yX2_drive, Cond.code yX2_drive cX2_drive 7 (some .int), Cond.methodLink RX2 156 yX2_pair, Cond.instanceMethod yX2_pair, Cond.selects RX2 yX2_pair yX2_pair, Cond.code yX2_pair cX2_pair 6 (some .int), Cond.methodLink RX2 160 yX2_power, Cond.instanceMethod yX2_power, Cond.selects RX2 yX2_power yX2_power, Cond.code yX2_power cX2_power 2 (some .int), Cond.constantLong RX2 201 (3), Cond.methodLink RX2 163 yX2_join, Cond.instanceMethod yX2_join, Cond.selects RX2 yX2_join yX2_join, Cond.code yX2_join cX2_join 8 (some .int), Cond.methodLink RX2 203 yX2_holdsOnlyLives, Cond.instanceMethod yX2_holdsOnlyLives, Cond.selects RX2 yX2_holdsOnlyLives yX2_holdsOnlyLives, Cond.code yX2_holdsOnlyLives cX2_holdsOnlyLives 4 (some .boolean)]
def wsL_law_r13 : List Cond := [Cond.methodLink RX2 206 yX1_copyCells, Cond.methodLink RX2 166 yX2_copy, Cond.instanceMethod yX2_copy, Cond.selects RX2 yX2_copy yX2_copy, Cond.code yX2_copy cX2_copy 2 (some .int), Cond.methodLink RX2 169 yX2_makeCable, Cond.instanceMethod yX2_makeCable, Cond.selects RX2 yX2_makeCable yX2_makeCable, Cond.code yX2_makeCable cX2_makeCable 2 (some .int), Cond.methodLink RX2 172 yX2_check, Cond.instanceMethod yX2_check, Cond.selects RX2 yX2_check yX2_check, Cond.code yX2_check cX2_check 3 (some .int), Cond.methodLink RX2 107 yX2_isView, Cond.static yX2_isView, Cond.code yX2_isView cX2_isView 1 (some .boolean), Cond.methodLink RX2 79 yX2_noted, Cond.instanceMethod yX2_noted, Cond.selects RX2 yX2_noted yX2_noted, Cond.code yX2_noted cX2_noted 2 (some .int), Cond.methodLink RX2 100 yX2_isFault, Cond.static yX2_isFault, Cond.code yX2_isFault cX2_isFault 1 (some .boolean), Cond.methodLink RL 43 yX3_act]
def wsL_law_r14 : List Cond := [Cond.instanceMethod yX3_act, Cond.selects RX3 yX3_act yX3_act, Cond.code yX3_act cX3_act 5 (some .int), Cond.methodLink RX3 125 yX3_mayBe, Cond.instanceMethod yX3_mayBe, Cond.selects RX3 yX3_mayBe yX3_mayBe, Cond.code yX3_mayBe cX3_mayBe 2 (some .boolean), Cond.methodLink RX3 128 yX3_work, Cond.instanceMethod yX3_work, Cond.selects RX3 yX3_work yX3_work, Cond.code yX3_work cX3_work 5 (some .int), Cond.methodLink RX3 88 yX3_makes, Cond.instanceMethod yX3_makes, Cond.selects RX3 yX3_makes yX3_makes, Cond.code yX3_makes cX3_makes 4 (some .int), Cond.methodLink RX3 75 yX3_with, Cond.static yX3_with, Cond.code yX3_with cX3_with 1 (some .int), Cond.methodLink RX3 91 yX3_tap, Cond.instanceMethod yX3_tap, Cond.selects RX3 yX3_tap yX3_tap, Cond.code yX3_tap cX3_tap 4 (some .int), Cond.methodLink RX3 79 yX3_hasPlaces, Cond.instanceMethod yX3_hasPlaces]
def wsL_law_r15 : List Cond := [Cond.selects RX3 yX3_hasPlaces yX3_hasPlaces, Cond.code yX3_hasPlaces cX3_hasPlaces 2 (some .boolean), Cond.methodLink RX3 94 yX3_lay, Cond.instanceMethod yX3_lay, Cond.selects RX3 yX3_lay yX3_lay, Cond.code yX3_lay cX3_lay 5 (some .int), Cond.methodLink RX3 82 yX3_takes, Cond.instanceMethod yX3_takes, Cond.selects RX3 yX3_takes yX3_takes, Cond.code yX3_takes cX3_takes 3 (some .boolean), Cond.methodLink RX3 98 yX3_sum, Cond.instanceMethod yX3_sum, Cond.selects RX3 yX3_sum yX3_sum, Cond.code yX3_sum cX3_sum 5 (some .int), Cond.methodLink RX3 71 yX3_sumOf, Cond.instanceMethod yX3_sumOf, Cond.selects RX3 yX3_sumOf yX3_sumOf, Cond.code yX3_sumOf cX3_sumOf 5 (some .long), Cond.methodLink RX3 101 yX3_turned, Cond.instanceMethod yX3_turned, Cond.selects RX3 yX3_turned yX3_turned, Cond.code yX3_turned cX3_turned 6 (some .int), Cond.methodLink RX3 85 yX3_levelsOf, Cond.instanceMethod yX3_levelsOf]
def wsL_law_r16 : List Cond := [Cond.selects RX3 yX3_levelsOf yX3_levelsOf, Cond.code yX3_levelsOf cX3_levelsOf 6 (some .int), Cond.methodLink RX3 104 yX3_drive, Cond.instanceMethod yX3_drive, Cond.selects RX3 yX3_drive yX3_drive, Cond.code yX3_drive cX3_drive 6 (some .int), Cond.methodLink RX3 107 yX3_pair, Cond.instanceMethod yX3_pair, Cond.selects RX3 yX3_pair yX3_pair, Cond.code yX3_pair cX3_pair 6 (some .int), Cond.methodLink RX3 110 yX3_power, Cond.instanceMethod yX3_power, Cond.selects RX3 yX3_power yX3_power, Cond.code yX3_power cX3_power 3 (some .int), Cond.methodLink RX3 113 yX3_join, Cond.instanceMethod yX3_join, Cond.selects RX3 yX3_join yX3_join, Cond.code yX3_join cX3_join 9 (some .int), Cond.methodLink RX3 116 yX3_copy, Cond.instanceMethod yX3_copy, Cond.selects RX3 yX3_copy yX3_copy, Cond.code yX3_copy cX3_copy 4 (some .int), Cond.methodLink RX3 132 yX3_noted, Cond.instanceMethod yX3_noted]
def wsL_law_r17 : List Cond := [Cond.selects RX3 yX3_noted yX3_noted, Cond.code yX3_noted cX3_noted 2 (some .int), Cond.fieldLink RX3 119 "LoomPanelModel" "faults" "I", Cond.fieldLink RX3 122 "LoomPanelModel" "latest" "I", Cond.methodLink RL 44 yX2_step, Cond.instanceMethod yX2_step, Cond.selects RX2 yX2_step yX2_step, Cond.code yX2_step cX2_step 6 (some .int), Cond.methodLink RX2 82 yX0_has, Cond.instanceMethod yX0_has, Cond.selects RX0 yX0_has yX0_has, Cond.code yX0_has cX0_has 2 (some .boolean), Cond.methodLink RX2 85 yX0_append, Cond.instanceMethod yX0_append, Cond.selects RX0 yX0_append yX0_append, Cond.code yX0_append cX0_append 6 (some .int), Cond.methodLink RX0 24 yX0_has, Cond.methodLink RL 47 yX3_step, Cond.instanceMethod yX3_step, Cond.selects RX3 yX3_step yX3_step, Cond.code yX3_step cX3_step 6 (some .int), Cond.methodLink RL 48 yX2_play, Cond.instanceMethod yX2_play, Cond.selects RX2 yX2_play yX2_play]
def wsL_law_r18 : List Cond := [Cond.code yX2_play cX2_play 8 (some .int), Cond.methodLink RX2 88 yX0_lengthOf, Cond.instanceMethod yX0_lengthOf, Cond.selects RX0 yX0_lengthOf yX0_lengthOf, Cond.code yX0_lengthOf cX0_lengthOf 2 (some .int), Cond.methodLink RX2 91 yX0_actOf, Cond.instanceMethod yX0_actOf, Cond.selects RX0 yX0_actOf yX0_actOf, Cond.code yX0_actOf cX0_actOf 3 (some .int), Cond.methodLink RX0 28 yX0_hasStep, Cond.instanceMethod yX0_hasStep, Cond.selects RX0 yX0_hasStep yX0_hasStep, Cond.code yX0_hasStep cX0_hasStep 3 (some .boolean), Cond.methodLink RX2 94 yX0_yOf, Cond.instanceMethod yX0_yOf, Cond.selects RX0 yX0_yOf yX0_yOf, Cond.code yX0_yOf cX0_yOf 3 (some .int), Cond.methodLink RX2 97 yX0_nOf, Cond.instanceMethod yX0_nOf, Cond.selects RX0 yX0_nOf yX0_nOf, Cond.code yX0_nOf cX0_nOf 3 (some .int), Cond.methodLink RL 51 yX3_play, Cond.instanceMethod yX3_play, Cond.selects RX3 yX3_play yX3_play]
def wsL_law_r19 : List Cond := [Cond.code yX3_play cX3_play 7 (some .int), Cond.methodLink RL 52 yX2_stopped, Cond.instanceMethod yX2_stopped, Cond.selects RX2 yX2_stopped yX2_stopped, Cond.code yX2_stopped cX2_stopped 1 (some .int), Cond.methodLink RL 56 yX3_stopped, Cond.instanceMethod yX3_stopped, Cond.selects RX3 yX3_stopped yX3_stopped, Cond.code yX3_stopped cX3_stopped 1 (some .int), Cond.methodLink RL 57 yX2_empty, Cond.instanceMethod yX2_empty, Cond.selects RX2 yX2_empty yX2_empty, Cond.code yX2_empty cX2_empty 2 (some .int), Cond.methodLink RX2 103 yX0_drop, Cond.instanceMethod yX0_drop, Cond.selects RX0 yX0_drop yX0_drop, Cond.code yX0_drop cX0_drop 3 (some .int), Cond.methodLink RX0 32 yX0_lengthOf, Cond.methodLink RL 61 yX3_empty, Cond.instanceMethod yX3_empty, Cond.selects RX3 yX3_empty yX3_empty, Cond.code yX3_empty cX3_empty 3 (some .int), Cond.methodLink RL 62 yX2_is, Cond.instanceMethod yX2_is]
def wsL_law_r20 : List Cond := [Cond.selects RX2 yX2_is yX2_is, Cond.code yX2_is cX2_is 3 (some .int), Cond.methodLink RL 65 yX3_is, Cond.instanceMethod yX3_is, Cond.selects RX3 yX3_is yX3_is, Cond.code yX3_is cX3_is 3 (some .int), Cond.methodLink RL 66 yX2_views, Cond.instanceMethod yX2_views, Cond.selects RX2 yX2_views yX2_views, Cond.code yX2_views cX2_views 2 (some .int), Cond.methodLink RX2 113 yX2_viewsOfForm, Cond.methodLink RL 69 yX3_views, Cond.instanceMethod yX3_views, Cond.selects RX3 yX3_views yX3_views, Cond.code yX3_views cX3_views 4 (some .int), Cond.methodLink RL 70 yX2_size, Cond.instanceMethod yX2_size, Cond.selects RX2 yX2_size yX2_size, Cond.code yX2_size cX2_size 2 (some .int), Cond.methodLink RL 73 yX3_size, Cond.instanceMethod yX3_size, Cond.selects RX3 yX3_size yX3_size, Cond.code yX3_size cX3_size 2 (some .int), Cond.methodLink RL 74 yX2_count]
def wsL_law_r21 : List Cond := [Cond.instanceMethod yX2_count, Cond.selects RX2 yX2_count yX2_count, Cond.code yX2_count cX2_count 2 (some .int), Cond.methodLink RL 77 yX3_count, Cond.instanceMethod yX3_count, Cond.selects RX3 yX3_count yX3_count, Cond.code yX3_count cX3_count 2 (some .int), Cond.methodLink RL 78 yX2_clear, Cond.instanceMethod yX2_clear, Cond.selects RX2 yX2_clear yX2_clear, Cond.code yX2_clear cX2_clear 1 (some .int), Cond.methodLink RX2 121 yX0_dropAll, Cond.instanceMethod yX0_dropAll, Cond.selects RX0 yX0_dropAll yX0_dropAll, Cond.code yX0_dropAll cX0_dropAll 2 none, Cond.methodLink RX2 124 yX1_forgetAll, Cond.instanceMethod yX1_forgetAll, Cond.selects RX1 yX1_forgetAll yX1_forgetAll, Cond.code yX1_forgetAll cX1_forgetAll 2 (some .int), Cond.methodLink RL 81 yX3_clear, Cond.instanceMethod yX3_clear, Cond.selects RX3 yX3_clear yX3_clear, Cond.code yX3_clear cX3_clear 3 (some .int)]
def wsL_law : List Cond := (wsL_law_r1 ++ (wsL_law_r2 ++ (wsL_law_r3 ++ (wsL_law_r4 ++ (wsL_law_r5 ++ (wsL_law_r6 ++ (wsL_law_r7 ++ (wsL_law_r8 ++ (wsL_law_r9 ++ (wsL_law_r10 ++ (wsL_law_r11 ++ (wsL_law_r12 ++ (wsL_law_r13 ++ (wsL_law_r14 ++ (wsL_law_r15 ++ (wsL_law_r16 ++ (wsL_law_r17 ++ (wsL_law_r18 ++ (wsL_law_r19 ++ (wsL_law_r20 ++ wsL_law_r21)))))))))))))))))))) ++ wsX20 ++ wsX30 ++ wsX10 ++ wsX00 ++ ([] : List Cond)
abbrev vwCl : List vw_C := [(RX0, TX0, 4), (RX1, TX1, 5), (RX2, TX2, 5), (RX3, TX3, 13)]
end
section
theorem dX0_init_0 : decode cX0_init 0 = .ok (.aload_n 0, 1) := by decide +kernel
theorem dX0_init_1 : decode cX0_init 1 = .ok (.invokespecial 3, 3) := by decide +kernel
theorem dX0_init_4 : decode cX0_init 4 = .ok (.aload_n 0, 1) := by decide +kernel
theorem dX0_init_5 : decode cX0_init 5 = .ok (.bipush 6, 2) := by decide +kernel
theorem dX0_init_7 : decode cX0_init 7 = .ok (.newarray .int, 2) := by decide +kernel
theorem dX0_init_9 : decode cX0_init 9 = .ok (.putfield 9, 3) := by decide +kernel
theorem dX0_init_12 : decode cX0_init 12 = .ok (.aload_n 0, 1) := by decide +kernel
theorem dX0_init_13 : decode cX0_init 13 = .ok (.bipush 72, 2) := by decide +kernel
theorem dX0_init_15 : decode cX0_init 15 = .ok (.newarray .int, 2) := by decide +kernel
theorem dX0_init_17 : decode cX0_init 17 = .ok (.putfield 15, 3) := by decide +kernel
theorem dX0_init_20 : decode cX0_init 20 = .ok (.aload_n 0, 1) := by decide +kernel
theorem dX0_init_21 : decode cX0_init 21 = .ok (.bipush 72, 2) := by decide +kernel
theorem dX0_init_23 : decode cX0_init 23 = .ok (.newarray .int, 2) := by decide +kernel
theorem dX0_init_25 : decode cX0_init 25 = .ok (.putfield 18, 3) := by decide +kernel
theorem dX0_init_28 : decode cX0_init 28 = .ok (.aload_n 0, 1) := by decide +kernel
theorem dX0_init_29 : decode cX0_init 29 = .ok (.bipush 72, 2) := by decide +kernel
theorem dX0_init_31 : decode cX0_init 31 = .ok (.newarray .int, 2) := by decide +kernel
theorem dX0_init_33 : decode cX0_init 33 = .ok (.putfield 21, 3) := by decide +kernel
theorem dX0_init_36 : decode cX0_init 36 = .ok (.return_, 1) := by decide +kernel
theorem dX0_has_0 : decode cX0_has 0 = .ok (.iload_n 1, 1) := by decide +kernel
theorem dX0_has_1 : decode cX0_has 1 = .ok (.ifCond .lt 13, 3) := by decide +kernel
theorem dX0_has_4 : decode cX0_has 4 = .ok (.iload_n 1, 1) := by decide +kernel
theorem dX0_has_5 : decode cX0_has 5 = .ok (.bipush 6, 2) := by decide +kernel
theorem dX0_has_7 : decode cX0_has 7 = .ok (.if_icmp .ge 7, 3) := by decide +kernel
theorem dX0_has_10 : decode cX0_has 10 = .ok (.iconst 1, 1) := by decide +kernel
theorem dX0_has_11 : decode cX0_has 11 = .ok (.goto 4, 3) := by decide +kernel
theorem dX0_has_14 : decode cX0_has 14 = .ok (.iconst 0, 1) := by decide +kernel
theorem dX0_has_15 : decode cX0_has 15 = .ok (.ireturn, 1) := by decide +kernel
set_option maxRecDepth 20000 in
theorem ggX0_hasStep_X0_has : GoodIn wsX0_hasStep wsX0_has := goodIn_r _ [6] (by decide +kernel) (by decide +kernel)
set_option maxRecDepth 20000 in
theorem gX0_hasStep_X0_has : GoodIn wsX0_hasStep (wsV RX0 24 RX0 yX0_has wsX0_has) := goodIn_app (goodIn_of _ (by decide +kernel)) ggX0_hasStep_X0_has
theorem dX0_hasStep_0 : decode cX0_hasStep 0 = .ok (.aload_n 0, 1) := by decide +kernel
theorem dX0_hasStep_1 : decode cX0_hasStep 1 = .ok (.iload_n 1, 1) := by decide +kernel
theorem dX0_hasStep_2 : decode cX0_hasStep 2 = .ok (.invokevirtual 24, 3) := by decide +kernel
theorem dX0_hasStep_5 : decode cX0_hasStep 5 = .ok (.ifCond .eq 21, 3) := by decide +kernel
theorem dX0_hasStep_8 : decode cX0_hasStep 8 = .ok (.iload_n 2, 1) := by decide +kernel
theorem dX0_hasStep_9 : decode cX0_hasStep 9 = .ok (.ifCond .lt 17, 3) := by decide +kernel
theorem dX0_hasStep_12 : decode cX0_hasStep 12 = .ok (.iload_n 2, 1) := by decide +kernel
theorem dX0_hasStep_13 : decode cX0_hasStep 13 = .ok (.aload_n 0, 1) := by decide +kernel
theorem dX0_hasStep_14 : decode cX0_hasStep 14 = .ok (.getfield 9, 3) := by decide +kernel
theorem dX0_hasStep_17 : decode cX0_hasStep 17 = .ok (.iload_n 1, 1) := by decide +kernel
theorem dX0_hasStep_18 : decode cX0_hasStep 18 = .ok (.iaload, 1) := by decide +kernel
theorem dX0_hasStep_19 : decode cX0_hasStep 19 = .ok (.if_icmp .ge 7, 3) := by decide +kernel
theorem dX0_hasStep_22 : decode cX0_hasStep 22 = .ok (.iconst 1, 1) := by decide +kernel
theorem dX0_hasStep_23 : decode cX0_hasStep 23 = .ok (.goto 4, 3) := by decide +kernel
theorem dX0_hasStep_26 : decode cX0_hasStep 26 = .ok (.iconst 0, 1) := by decide +kernel
theorem dX0_hasStep_27 : decode cX0_hasStep 27 = .ok (.ireturn, 1) := by decide +kernel
set_option maxRecDepth 20000 in
theorem ggX0_lengthOf_X0_has : GoodIn wsX0_lengthOf wsX0_has := goodIn_r _ [6] (by decide +kernel) (by decide +kernel)
set_option maxRecDepth 20000 in
theorem gX0_lengthOf_X0_has : GoodIn wsX0_lengthOf (wsV RX0 24 RX0 yX0_has wsX0_has) := goodIn_app (goodIn_of _ (by decide +kernel)) ggX0_lengthOf_X0_has
theorem dX0_lengthOf_0 : decode cX0_lengthOf 0 = .ok (.aload_n 0, 1) := by decide +kernel
theorem dX0_lengthOf_1 : decode cX0_lengthOf 1 = .ok (.iload_n 1, 1) := by decide +kernel
theorem dX0_lengthOf_2 : decode cX0_lengthOf 2 = .ok (.invokevirtual 24, 3) := by decide +kernel
theorem dX0_lengthOf_5 : decode cX0_lengthOf 5 = .ok (.ifCond .eq 12, 3) := by decide +kernel
theorem dX0_lengthOf_8 : decode cX0_lengthOf 8 = .ok (.aload_n 0, 1) := by decide +kernel
theorem dX0_lengthOf_9 : decode cX0_lengthOf 9 = .ok (.getfield 9, 3) := by decide +kernel
theorem dX0_lengthOf_12 : decode cX0_lengthOf 12 = .ok (.iload_n 1, 1) := by decide +kernel
theorem dX0_lengthOf_13 : decode cX0_lengthOf 13 = .ok (.iaload, 1) := by decide +kernel
theorem dX0_lengthOf_14 : decode cX0_lengthOf 14 = .ok (.goto 4, 3) := by decide +kernel
theorem dX0_lengthOf_17 : decode cX0_lengthOf 17 = .ok (.iconst 0, 1) := by decide +kernel
theorem dX0_lengthOf_18 : decode cX0_lengthOf 18 = .ok (.ireturn, 1) := by decide +kernel
set_option maxRecDepth 20000 in
theorem ggX0_actOf_X0_hasStep : GoodIn wsX0_actOf wsX0_hasStep := goodIn_r _ [6, 7, 8, 9, 10, 5, 11, 12, 13, 14, 15] (by decide +kernel) (by decide +kernel)
set_option maxRecDepth 20000 in
theorem gX0_actOf_X0_hasStep : GoodIn wsX0_actOf (wsV RX0 28 RX0 yX0_hasStep wsX0_hasStep) := goodIn_app (goodIn_of _ (by decide +kernel)) ggX0_actOf_X0_hasStep
theorem dX0_actOf_0 : decode cX0_actOf 0 = .ok (.aload_n 0, 1) := by decide +kernel
theorem dX0_actOf_1 : decode cX0_actOf 1 = .ok (.iload_n 1, 1) := by decide +kernel
theorem dX0_actOf_2 : decode cX0_actOf 2 = .ok (.iload_n 2, 1) := by decide +kernel
theorem dX0_actOf_3 : decode cX0_actOf 3 = .ok (.invokevirtual 28, 3) := by decide +kernel
theorem dX0_actOf_6 : decode cX0_actOf 6 = .ok (.ifCond .eq 17, 3) := by decide +kernel
theorem dX0_actOf_9 : decode cX0_actOf 9 = .ok (.aload_n 0, 1) := by decide +kernel
theorem dX0_actOf_10 : decode cX0_actOf 10 = .ok (.getfield 15, 3) := by decide +kernel
theorem dX0_actOf_13 : decode cX0_actOf 13 = .ok (.iload_n 1, 1) := by decide +kernel
theorem dX0_actOf_14 : decode cX0_actOf 14 = .ok (.bipush 12, 2) := by decide +kernel
theorem dX0_actOf_16 : decode cX0_actOf 16 = .ok (.imul, 1) := by decide +kernel
theorem dX0_actOf_17 : decode cX0_actOf 17 = .ok (.iload_n 2, 1) := by decide +kernel
theorem dX0_actOf_18 : decode cX0_actOf 18 = .ok (.iadd, 1) := by decide +kernel
theorem dX0_actOf_19 : decode cX0_actOf 19 = .ok (.iaload, 1) := by decide +kernel
theorem dX0_actOf_20 : decode cX0_actOf 20 = .ok (.goto 5, 3) := by decide +kernel
theorem dX0_actOf_23 : decode cX0_actOf 23 = .ok (.bipush 12, 2) := by decide +kernel
theorem dX0_actOf_25 : decode cX0_actOf 25 = .ok (.ireturn, 1) := by decide +kernel
set_option maxRecDepth 20000 in
theorem ggX0_yOf_X0_hasStep : GoodIn wsX0_yOf wsX0_hasStep := goodIn_r _ [6, 7, 8, 9, 10, 5, 11, 12, 13, 14, 15] (by decide +kernel) (by decide +kernel)
set_option maxRecDepth 20000 in
theorem gX0_yOf_X0_hasStep : GoodIn wsX0_yOf (wsV RX0 28 RX0 yX0_hasStep wsX0_hasStep) := goodIn_app (goodIn_of _ (by decide +kernel)) ggX0_yOf_X0_hasStep
theorem dX0_yOf_0 : decode cX0_yOf 0 = .ok (.aload_n 0, 1) := by decide +kernel
theorem dX0_yOf_1 : decode cX0_yOf 1 = .ok (.iload_n 1, 1) := by decide +kernel
theorem dX0_yOf_2 : decode cX0_yOf 2 = .ok (.iload_n 2, 1) := by decide +kernel
theorem dX0_yOf_3 : decode cX0_yOf 3 = .ok (.invokevirtual 28, 3) := by decide +kernel
theorem dX0_yOf_6 : decode cX0_yOf 6 = .ok (.ifCond .eq 17, 3) := by decide +kernel
theorem dX0_yOf_9 : decode cX0_yOf 9 = .ok (.aload_n 0, 1) := by decide +kernel
theorem dX0_yOf_10 : decode cX0_yOf 10 = .ok (.getfield 18, 3) := by decide +kernel
theorem dX0_yOf_13 : decode cX0_yOf 13 = .ok (.iload_n 1, 1) := by decide +kernel
theorem dX0_yOf_14 : decode cX0_yOf 14 = .ok (.bipush 12, 2) := by decide +kernel
theorem dX0_yOf_16 : decode cX0_yOf 16 = .ok (.imul, 1) := by decide +kernel
theorem dX0_yOf_17 : decode cX0_yOf 17 = .ok (.iload_n 2, 1) := by decide +kernel
theorem dX0_yOf_18 : decode cX0_yOf 18 = .ok (.iadd, 1) := by decide +kernel
theorem dX0_yOf_19 : decode cX0_yOf 19 = .ok (.iaload, 1) := by decide +kernel
theorem dX0_yOf_20 : decode cX0_yOf 20 = .ok (.goto 4, 3) := by decide +kernel
theorem dX0_yOf_23 : decode cX0_yOf 23 = .ok (.iconst (-1), 1) := by decide +kernel
theorem dX0_yOf_24 : decode cX0_yOf 24 = .ok (.ireturn, 1) := by decide +kernel
set_option maxRecDepth 20000 in
theorem ggX0_nOf_X0_hasStep : GoodIn wsX0_nOf wsX0_hasStep := goodIn_r _ [6, 7, 8, 9, 10, 5, 11, 12, 13, 14, 15] (by decide +kernel) (by decide +kernel)
set_option maxRecDepth 20000 in
theorem gX0_nOf_X0_hasStep : GoodIn wsX0_nOf (wsV RX0 28 RX0 yX0_hasStep wsX0_hasStep) := goodIn_app (goodIn_of _ (by decide +kernel)) ggX0_nOf_X0_hasStep
theorem dX0_nOf_0 : decode cX0_nOf 0 = .ok (.aload_n 0, 1) := by decide +kernel
theorem dX0_nOf_1 : decode cX0_nOf 1 = .ok (.iload_n 1, 1) := by decide +kernel
theorem dX0_nOf_2 : decode cX0_nOf 2 = .ok (.iload_n 2, 1) := by decide +kernel
theorem dX0_nOf_3 : decode cX0_nOf 3 = .ok (.invokevirtual 28, 3) := by decide +kernel
theorem dX0_nOf_6 : decode cX0_nOf 6 = .ok (.ifCond .eq 17, 3) := by decide +kernel
theorem dX0_nOf_9 : decode cX0_nOf 9 = .ok (.aload_n 0, 1) := by decide +kernel
theorem dX0_nOf_10 : decode cX0_nOf 10 = .ok (.getfield 21, 3) := by decide +kernel
theorem dX0_nOf_13 : decode cX0_nOf 13 = .ok (.iload_n 1, 1) := by decide +kernel
theorem dX0_nOf_14 : decode cX0_nOf 14 = .ok (.bipush 12, 2) := by decide +kernel
theorem dX0_nOf_16 : decode cX0_nOf 16 = .ok (.imul, 1) := by decide +kernel
theorem dX0_nOf_17 : decode cX0_nOf 17 = .ok (.iload_n 2, 1) := by decide +kernel
theorem dX0_nOf_18 : decode cX0_nOf 18 = .ok (.iadd, 1) := by decide +kernel
theorem dX0_nOf_19 : decode cX0_nOf 19 = .ok (.iaload, 1) := by decide +kernel
theorem dX0_nOf_20 : decode cX0_nOf 20 = .ok (.goto 4, 3) := by decide +kernel
theorem dX0_nOf_23 : decode cX0_nOf 23 = .ok (.iconst 0, 1) := by decide +kernel
theorem dX0_nOf_24 : decode cX0_nOf 24 = .ok (.ireturn, 1) := by decide +kernel
set_option maxRecDepth 20000 in
theorem ggX0_append_X0_has : GoodIn wsX0_append wsX0_has := goodIn_r _ [9] (by decide +kernel) (by decide +kernel)
set_option maxRecDepth 20000 in
theorem gX0_append_X0_has : GoodIn wsX0_append (wsV RX0 24 RX0 yX0_has wsX0_has) := goodIn_app (goodIn_of _ (by decide +kernel)) ggX0_append_X0_has
theorem dX0_append_0 : decode cX0_append 0 = .ok (.aload_n 0, 1) := by decide +kernel
theorem dX0_append_1 : decode cX0_append 1 = .ok (.iload_n 1, 1) := by decide +kernel
theorem dX0_append_2 : decode cX0_append 2 = .ok (.invokevirtual 24, 3) := by decide +kernel
theorem dX0_append_5 : decode cX0_append 5 = .ok (.ifCond .eq 14, 3) := by decide +kernel
theorem dX0_append_8 : decode cX0_append 8 = .ok (.aload_n 0, 1) := by decide +kernel
theorem dX0_append_9 : decode cX0_append 9 = .ok (.getfield 9, 3) := by decide +kernel
theorem dX0_append_12 : decode cX0_append 12 = .ok (.iload_n 1, 1) := by decide +kernel
theorem dX0_append_13 : decode cX0_append 13 = .ok (.iaload, 1) := by decide +kernel
theorem dX0_append_14 : decode cX0_append 14 = .ok (.bipush 12, 2) := by decide +kernel
theorem dX0_append_16 : decode cX0_append 16 = .ok (.if_icmp .lt 6, 3) := by decide +kernel
theorem dX0_append_19 : decode cX0_append 19 = .ok (.bipush (-4), 2) := by decide +kernel
theorem dX0_append_21 : decode cX0_append 21 = .ok (.ireturn, 1) := by decide +kernel
theorem dX0_append_22 : decode cX0_append 22 = .ok (.iload_n 1, 1) := by decide +kernel
theorem dX0_append_23 : decode cX0_append 23 = .ok (.bipush 12, 2) := by decide +kernel
theorem dX0_append_25 : decode cX0_append 25 = .ok (.imul, 1) := by decide +kernel
theorem dX0_append_26 : decode cX0_append 26 = .ok (.aload_n 0, 1) := by decide +kernel
theorem dX0_append_27 : decode cX0_append 27 = .ok (.getfield 9, 3) := by decide +kernel
theorem dX0_append_30 : decode cX0_append 30 = .ok (.iload_n 1, 1) := by decide +kernel
theorem dX0_append_31 : decode cX0_append 31 = .ok (.iaload, 1) := by decide +kernel
theorem dX0_append_32 : decode cX0_append 32 = .ok (.iadd, 1) := by decide +kernel
theorem dX0_append_33 : decode cX0_append 33 = .ok (.istore 5, 2) := by decide +kernel
theorem dX0_append_35 : decode cX0_append 35 = .ok (.aload_n 0, 1) := by decide +kernel
theorem dX0_append_36 : decode cX0_append 36 = .ok (.getfield 15, 3) := by decide +kernel
theorem dX0_append_39 : decode cX0_append 39 = .ok (.iload 5, 2) := by decide +kernel
theorem dX0_append_41 : decode cX0_append 41 = .ok (.iload_n 2, 1) := by decide +kernel
theorem dX0_append_42 : decode cX0_append 42 = .ok (.iastore, 1) := by decide +kernel
theorem dX0_append_43 : decode cX0_append 43 = .ok (.aload_n 0, 1) := by decide +kernel
theorem dX0_append_44 : decode cX0_append 44 = .ok (.getfield 18, 3) := by decide +kernel
theorem dX0_append_47 : decode cX0_append 47 = .ok (.iload 5, 2) := by decide +kernel
theorem dX0_append_49 : decode cX0_append 49 = .ok (.iload_n 3, 1) := by decide +kernel
theorem dX0_append_50 : decode cX0_append 50 = .ok (.iastore, 1) := by decide +kernel
theorem dX0_append_51 : decode cX0_append 51 = .ok (.aload_n 0, 1) := by decide +kernel
theorem dX0_append_52 : decode cX0_append 52 = .ok (.getfield 21, 3) := by decide +kernel
theorem dX0_append_55 : decode cX0_append 55 = .ok (.iload 5, 2) := by decide +kernel
theorem dX0_append_57 : decode cX0_append 57 = .ok (.iload 4, 2) := by decide +kernel
theorem dX0_append_59 : decode cX0_append 59 = .ok (.iastore, 1) := by decide +kernel
theorem dX0_append_60 : decode cX0_append 60 = .ok (.aload_n 0, 1) := by decide +kernel
theorem dX0_append_61 : decode cX0_append 61 = .ok (.getfield 9, 3) := by decide +kernel
theorem dX0_append_64 : decode cX0_append 64 = .ok (.iload_n 1, 1) := by decide +kernel
theorem dX0_append_65 : decode cX0_append 65 = .ok (.dup2, 1) := by decide +kernel
theorem dX0_append_66 : decode cX0_append 66 = .ok (.iaload, 1) := by decide +kernel
theorem dX0_append_67 : decode cX0_append 67 = .ok (.iconst 1, 1) := by decide +kernel
theorem dX0_append_68 : decode cX0_append 68 = .ok (.iadd, 1) := by decide +kernel
theorem dX0_append_69 : decode cX0_append 69 = .ok (.iastore, 1) := by decide +kernel
theorem dX0_append_70 : decode cX0_append 70 = .ok (.aload_n 0, 1) := by decide +kernel
theorem dX0_append_71 : decode cX0_append 71 = .ok (.getfield 9, 3) := by decide +kernel
theorem dX0_append_74 : decode cX0_append 74 = .ok (.iload_n 1, 1) := by decide +kernel
theorem dX0_append_75 : decode cX0_append 75 = .ok (.iaload, 1) := by decide +kernel
theorem dX0_append_76 : decode cX0_append 76 = .ok (.ireturn, 1) := by decide +kernel
set_option maxRecDepth 20000 in
theorem ggX0_drop_X0_lengthOf : GoodIn wsX0_drop wsX0_lengthOf := goodIn_r _ [6, 1, 7, 8, 9, 5, 10, 11, 12, 13, 14] (by decide +kernel) (by decide +kernel)
set_option maxRecDepth 20000 in
theorem gX0_drop_X0_lengthOf : GoodIn wsX0_drop (wsV RX0 32 RX0 yX0_lengthOf wsX0_lengthOf) := goodIn_app (goodIn_of _ (by decide +kernel)) ggX0_drop_X0_lengthOf
set_option maxRecDepth 20000 in
theorem ggX0_drop_X0_has : GoodIn wsX0_drop wsX0_has := goodIn_r _ [10] (by decide +kernel) (by decide +kernel)
set_option maxRecDepth 20000 in
theorem gX0_drop_X0_has : GoodIn wsX0_drop (wsV RX0 24 RX0 yX0_has wsX0_has) := goodIn_app (goodIn_of _ (by decide +kernel)) ggX0_drop_X0_has
theorem dX0_drop_0 : decode cX0_drop 0 = .ok (.aload_n 0, 1) := by decide +kernel
theorem dX0_drop_1 : decode cX0_drop 1 = .ok (.iload_n 1, 1) := by decide +kernel
theorem dX0_drop_2 : decode cX0_drop 2 = .ok (.invokevirtual 32, 3) := by decide +kernel
theorem dX0_drop_5 : decode cX0_drop 5 = .ok (.istore_n 2, 1) := by decide +kernel
theorem dX0_drop_6 : decode cX0_drop 6 = .ok (.aload_n 0, 1) := by decide +kernel
theorem dX0_drop_7 : decode cX0_drop 7 = .ok (.iload_n 1, 1) := by decide +kernel
theorem dX0_drop_8 : decode cX0_drop 8 = .ok (.invokevirtual 24, 3) := by decide +kernel
theorem dX0_drop_11 : decode cX0_drop 11 = .ok (.ifCond .eq 10, 3) := by decide +kernel
theorem dX0_drop_14 : decode cX0_drop 14 = .ok (.aload_n 0, 1) := by decide +kernel
theorem dX0_drop_15 : decode cX0_drop 15 = .ok (.getfield 9, 3) := by decide +kernel
theorem dX0_drop_18 : decode cX0_drop 18 = .ok (.iload_n 1, 1) := by decide +kernel
theorem dX0_drop_19 : decode cX0_drop 19 = .ok (.iconst 0, 1) := by decide +kernel
theorem dX0_drop_20 : decode cX0_drop 20 = .ok (.iastore, 1) := by decide +kernel
theorem dX0_drop_21 : decode cX0_drop 21 = .ok (.iload_n 2, 1) := by decide +kernel
theorem dX0_drop_22 : decode cX0_drop 22 = .ok (.ireturn, 1) := by decide +kernel
theorem dX0_dropAll_0 : decode cX0_dropAll 0 = .ok (.iconst 0, 1) := by decide +kernel
theorem dX0_dropAll_1 : decode cX0_dropAll 1 = .ok (.istore_n 1, 1) := by decide +kernel
theorem dX0_dropAll_2 : decode cX0_dropAll 2 = .ok (.iload_n 1, 1) := by decide +kernel
theorem dX0_dropAll_3 : decode cX0_dropAll 3 = .ok (.bipush 6, 2) := by decide +kernel
theorem dX0_dropAll_5 : decode cX0_dropAll 5 = .ok (.if_icmp .ge 16, 3) := by decide +kernel
theorem dX0_dropAll_8 : decode cX0_dropAll 8 = .ok (.aload_n 0, 1) := by decide +kernel
theorem dX0_dropAll_9 : decode cX0_dropAll 9 = .ok (.getfield 9, 3) := by decide +kernel
theorem dX0_dropAll_12 : decode cX0_dropAll 12 = .ok (.iload_n 1, 1) := by decide +kernel
theorem dX0_dropAll_13 : decode cX0_dropAll 13 = .ok (.iconst 0, 1) := by decide +kernel
theorem dX0_dropAll_14 : decode cX0_dropAll 14 = .ok (.iastore, 1) := by decide +kernel
theorem dX0_dropAll_15 : decode cX0_dropAll 15 = .ok (.iinc 1 1, 3) := by decide +kernel
theorem dX0_dropAll_18 : decode cX0_dropAll 18 = .ok (.goto (-16), 3) := by decide +kernel
theorem dX0_dropAll_21 : decode cX0_dropAll 21 = .ok (.return_, 1) := by decide +kernel
theorem dX1_init_0 : decode cX1_init 0 = .ok (.aload_n 0, 1) := by decide +kernel
theorem dX1_init_1 : decode cX1_init 1 = .ok (.invokespecial 3, 3) := by decide +kernel
theorem dX1_init_4 : decode cX1_init 4 = .ok (.aload_n 0, 1) := by decide +kernel
theorem dX1_init_5 : decode cX1_init 5 = .ok (.bipush 60, 2) := by decide +kernel
theorem dX1_init_7 : decode cX1_init 7 = .ok (.newarray .int, 2) := by decide +kernel
theorem dX1_init_9 : decode cX1_init 9 = .ok (.putfield 9, 3) := by decide +kernel
theorem dX1_init_12 : decode cX1_init 12 = .ok (.aload_n 0, 1) := by decide +kernel
theorem dX1_init_13 : decode cX1_init 13 = .ok (.bipush 60, 2) := by decide +kernel
theorem dX1_init_15 : decode cX1_init 15 = .ok (.newarray .int, 2) := by decide +kernel
theorem dX1_init_17 : decode cX1_init 17 = .ok (.putfield 15, 3) := by decide +kernel
theorem dX1_init_20 : decode cX1_init 20 = .ok (.aload_n 0, 1) := by decide +kernel
theorem dX1_init_21 : decode cX1_init 21 = .ok (.bipush 60, 2) := by decide +kernel
theorem dX1_init_23 : decode cX1_init 23 = .ok (.newarray .int, 2) := by decide +kernel
theorem dX1_init_25 : decode cX1_init 25 = .ok (.putfield 18, 3) := by decide +kernel
theorem dX1_init_28 : decode cX1_init 28 = .ok (.aload_n 0, 1) := by decide +kernel
theorem dX1_init_29 : decode cX1_init 29 = .ok (.sipush 480, 3) := by decide +kernel
theorem dX1_init_32 : decode cX1_init 32 = .ok (.newarray .long, 2) := by decide +kernel
theorem dX1_init_34 : decode cX1_init 34 = .ok (.putfield 21, 3) := by decide +kernel
theorem dX1_init_37 : decode cX1_init 37 = .ok (.aload_n 0, 1) := by decide +kernel
theorem dX1_init_38 : decode cX1_init 38 = .ok (.iconst 0, 1) := by decide +kernel
theorem dX1_init_39 : decode cX1_init 39 = .ok (.putfield 25, 3) := by decide +kernel
theorem dX1_init_42 : decode cX1_init 42 = .ok (.return_, 1) := by decide +kernel
theorem dX1_made_0 : decode cX1_made 0 = .ok (.aload_n 0, 1) := by decide +kernel
theorem dX1_made_1 : decode cX1_made 1 = .ok (.getfield 25, 3) := by decide +kernel
theorem dX1_made_4 : decode cX1_made 4 = .ok (.ireturn, 1) := by decide +kernel
theorem dX1_has_0 : decode cX1_has 0 = .ok (.iload_n 1, 1) := by decide +kernel
theorem dX1_has_1 : decode cX1_has 1 = .ok (.ifCond .lt 15, 3) := by decide +kernel
theorem dX1_has_4 : decode cX1_has 4 = .ok (.iload_n 1, 1) := by decide +kernel
theorem dX1_has_5 : decode cX1_has 5 = .ok (.aload_n 0, 1) := by decide +kernel
theorem dX1_has_6 : decode cX1_has 6 = .ok (.getfield 25, 3) := by decide +kernel
theorem dX1_has_9 : decode cX1_has 9 = .ok (.if_icmp .ge 7, 3) := by decide +kernel
theorem dX1_has_12 : decode cX1_has 12 = .ok (.iconst 1, 1) := by decide +kernel
theorem dX1_has_13 : decode cX1_has 13 = .ok (.goto 4, 3) := by decide +kernel
theorem dX1_has_16 : decode cX1_has 16 = .ok (.iconst 0, 1) := by decide +kernel
theorem dX1_has_17 : decode cX1_has 17 = .ok (.ireturn, 1) := by decide +kernel
theorem dX1_hasPlace_0 : decode cX1_hasPlace 0 = .ok (.iload_n 1, 1) := by decide +kernel
theorem dX1_hasPlace_1 : decode cX1_hasPlace 1 = .ok (.ifCond .lt 29, 3) := by decide +kernel
theorem dX1_hasPlace_4 : decode cX1_hasPlace 4 = .ok (.iload_n 1, 1) := by decide +kernel
theorem dX1_hasPlace_5 : decode cX1_hasPlace 5 = .ok (.aload_n 0, 1) := by decide +kernel
theorem dX1_hasPlace_6 : decode cX1_hasPlace 6 = .ok (.getfield 25, 3) := by decide +kernel
theorem dX1_hasPlace_9 : decode cX1_hasPlace 9 = .ok (.if_icmp .ge 21, 3) := by decide +kernel
theorem dX1_hasPlace_12 : decode cX1_hasPlace 12 = .ok (.iload_n 2, 1) := by decide +kernel
theorem dX1_hasPlace_13 : decode cX1_hasPlace 13 = .ok (.ifCond .lt 17, 3) := by decide +kernel
theorem dX1_hasPlace_16 : decode cX1_hasPlace 16 = .ok (.iload_n 2, 1) := by decide +kernel
theorem dX1_hasPlace_17 : decode cX1_hasPlace 17 = .ok (.aload_n 0, 1) := by decide +kernel
theorem dX1_hasPlace_18 : decode cX1_hasPlace 18 = .ok (.getfield 15, 3) := by decide +kernel
theorem dX1_hasPlace_21 : decode cX1_hasPlace 21 = .ok (.iload_n 1, 1) := by decide +kernel
theorem dX1_hasPlace_22 : decode cX1_hasPlace 22 = .ok (.iaload, 1) := by decide +kernel
theorem dX1_hasPlace_23 : decode cX1_hasPlace 23 = .ok (.if_icmp .ge 7, 3) := by decide +kernel
theorem dX1_hasPlace_26 : decode cX1_hasPlace 26 = .ok (.iconst 1, 1) := by decide +kernel
theorem dX1_hasPlace_27 : decode cX1_hasPlace 27 = .ok (.goto 4, 3) := by decide +kernel
theorem dX1_hasPlace_30 : decode cX1_hasPlace 30 = .ok (.iconst 0, 1) := by decide +kernel
theorem dX1_hasPlace_31 : decode cX1_hasPlace 31 = .ok (.ireturn, 1) := by decide +kernel
set_option maxRecDepth 20000 in
theorem ggX1_formOf_X1_has : GoodIn wsX1_formOf wsX1_has := goodIn_r _ [6, 7, 8, 9, 10, 11, 12] (by decide +kernel) (by decide +kernel)
set_option maxRecDepth 20000 in
theorem gX1_formOf_X1_has : GoodIn wsX1_formOf (wsV RX1 29 RX1 yX1_has wsX1_has) := goodIn_app (goodIn_of _ (by decide +kernel)) ggX1_formOf_X1_has
theorem dX1_formOf_0 : decode cX1_formOf 0 = .ok (.aload_n 0, 1) := by decide +kernel
theorem dX1_formOf_1 : decode cX1_formOf 1 = .ok (.iload_n 1, 1) := by decide +kernel
theorem dX1_formOf_2 : decode cX1_formOf 2 = .ok (.invokevirtual 29, 3) := by decide +kernel
theorem dX1_formOf_5 : decode cX1_formOf 5 = .ok (.ifCond .eq 12, 3) := by decide +kernel
theorem dX1_formOf_8 : decode cX1_formOf 8 = .ok (.aload_n 0, 1) := by decide +kernel
theorem dX1_formOf_9 : decode cX1_formOf 9 = .ok (.getfield 9, 3) := by decide +kernel
theorem dX1_formOf_12 : decode cX1_formOf 12 = .ok (.iload_n 1, 1) := by decide +kernel
theorem dX1_formOf_13 : decode cX1_formOf 13 = .ok (.iaload, 1) := by decide +kernel
theorem dX1_formOf_14 : decode cX1_formOf 14 = .ok (.goto 4, 3) := by decide +kernel
theorem dX1_formOf_17 : decode cX1_formOf 17 = .ok (.iconst (-1), 1) := by decide +kernel
theorem dX1_formOf_18 : decode cX1_formOf 18 = .ok (.ireturn, 1) := by decide +kernel
set_option maxRecDepth 20000 in
theorem ggX1_isA_X1_has : GoodIn wsX1_isA wsX1_has := goodIn_r _ [6, 7, 11, 12, 13, 14, 15] (by decide +kernel) (by decide +kernel)
set_option maxRecDepth 20000 in
theorem gX1_isA_X1_has : GoodIn wsX1_isA (wsV RX1 29 RX1 yX1_has wsX1_has) := goodIn_app (goodIn_of _ (by decide +kernel)) ggX1_isA_X1_has
set_option maxRecDepth 20000 in
theorem ggX1_isA_X2_viewsOfForm : GoodIn wsX1_isA wsX2_viewsOfForm := goodIn_r _ [10] (by decide +kernel) (by decide +kernel)
set_option maxRecDepth 20000 in
theorem gX1_isA_X2_viewsOfForm_n33 : GoodIn wsX1_isA (wsX2_viewsOfForm) := ggX1_isA_X2_viewsOfForm
theorem dX1_isA_0 : decode cX1_isA 0 = .ok (.aload_n 0, 1) := by decide +kernel
theorem dX1_isA_1 : decode cX1_isA 1 = .ok (.iload_n 1, 1) := by decide +kernel
theorem dX1_isA_2 : decode cX1_isA 2 = .ok (.invokevirtual 29, 3) := by decide +kernel
theorem dX1_isA_5 : decode cX1_isA 5 = .ok (.ifCond .eq 24, 3) := by decide +kernel
theorem dX1_isA_8 : decode cX1_isA 8 = .ok (.aload_n 0, 1) := by decide +kernel
theorem dX1_isA_9 : decode cX1_isA 9 = .ok (.getfield 9, 3) := by decide +kernel
theorem dX1_isA_12 : decode cX1_isA 12 = .ok (.iload_n 1, 1) := by decide +kernel
theorem dX1_isA_13 : decode cX1_isA 13 = .ok (.iaload, 1) := by decide +kernel
theorem dX1_isA_14 : decode cX1_isA 14 = .ok (.invokestatic 33, 3) := by decide +kernel
theorem dX1_isA_17 : decode cX1_isA 17 = .ok (.iload_n 2, 1) := by decide +kernel
theorem dX1_isA_18 : decode cX1_isA 18 = .ok (.ishr, 1) := by decide +kernel
theorem dX1_isA_19 : decode cX1_isA 19 = .ok (.iconst 1, 1) := by decide +kernel
theorem dX1_isA_20 : decode cX1_isA 20 = .ok (.iand, 1) := by decide +kernel
theorem dX1_isA_21 : decode cX1_isA 21 = .ok (.iconst 1, 1) := by decide +kernel
theorem dX1_isA_22 : decode cX1_isA 22 = .ok (.if_icmp .ne 7, 3) := by decide +kernel
theorem dX1_isA_25 : decode cX1_isA 25 = .ok (.iconst 1, 1) := by decide +kernel
theorem dX1_isA_26 : decode cX1_isA 26 = .ok (.goto 4, 3) := by decide +kernel
theorem dX1_isA_29 : decode cX1_isA 29 = .ok (.iconst 0, 1) := by decide +kernel
theorem dX1_isA_30 : decode cX1_isA 30 = .ok (.ireturn, 1) := by decide +kernel
set_option maxRecDepth 20000 in
theorem ggX1_isNumbers_X1_has : GoodIn wsX1_isNumbers wsX1_has := goodIn_r _ [6, 7, 8, 9, 10, 11, 12] (by decide +kernel) (by decide +kernel)
set_option maxRecDepth 20000 in
theorem gX1_isNumbers_X1_has : GoodIn wsX1_isNumbers (wsV RX1 29 RX1 yX1_has wsX1_has) := goodIn_app (goodIn_of _ (by decide +kernel)) ggX1_isNumbers_X1_has
theorem dX1_isNumbers_0 : decode cX1_isNumbers 0 = .ok (.aload_n 0, 1) := by decide +kernel
theorem dX1_isNumbers_1 : decode cX1_isNumbers 1 = .ok (.iload_n 1, 1) := by decide +kernel
theorem dX1_isNumbers_2 : decode cX1_isNumbers 2 = .ok (.invokevirtual 29, 3) := by decide +kernel
theorem dX1_isNumbers_5 : decode cX1_isNumbers 5 = .ok (.ifCond .eq 17, 3) := by decide +kernel
theorem dX1_isNumbers_8 : decode cX1_isNumbers 8 = .ok (.aload_n 0, 1) := by decide +kernel
theorem dX1_isNumbers_9 : decode cX1_isNumbers 9 = .ok (.getfield 9, 3) := by decide +kernel
theorem dX1_isNumbers_12 : decode cX1_isNumbers 12 = .ok (.iload_n 1, 1) := by decide +kernel
theorem dX1_isNumbers_13 : decode cX1_isNumbers 13 = .ok (.iaload, 1) := by decide +kernel
theorem dX1_isNumbers_14 : decode cX1_isNumbers 14 = .ok (.iconst 2, 1) := by decide +kernel
theorem dX1_isNumbers_15 : decode cX1_isNumbers 15 = .ok (.if_icmp .gt 7, 3) := by decide +kernel
theorem dX1_isNumbers_18 : decode cX1_isNumbers 18 = .ok (.iconst 1, 1) := by decide +kernel
theorem dX1_isNumbers_19 : decode cX1_isNumbers 19 = .ok (.goto 4, 3) := by decide +kernel
theorem dX1_isNumbers_22 : decode cX1_isNumbers 22 = .ok (.iconst 0, 1) := by decide +kernel
theorem dX1_isNumbers_23 : decode cX1_isNumbers 23 = .ok (.ireturn, 1) := by decide +kernel
set_option maxRecDepth 20000 in
theorem ggX1_lengthOf_X1_has : GoodIn wsX1_lengthOf wsX1_has := goodIn_r _ [6, 7, 8, 9, 10, 11, 12] (by decide +kernel) (by decide +kernel)
set_option maxRecDepth 20000 in
theorem gX1_lengthOf_X1_has : GoodIn wsX1_lengthOf (wsV RX1 29 RX1 yX1_has wsX1_has) := goodIn_app (goodIn_of _ (by decide +kernel)) ggX1_lengthOf_X1_has
theorem dX1_lengthOf_0 : decode cX1_lengthOf 0 = .ok (.aload_n 0, 1) := by decide +kernel
theorem dX1_lengthOf_1 : decode cX1_lengthOf 1 = .ok (.iload_n 1, 1) := by decide +kernel
theorem dX1_lengthOf_2 : decode cX1_lengthOf 2 = .ok (.invokevirtual 29, 3) := by decide +kernel
theorem dX1_lengthOf_5 : decode cX1_lengthOf 5 = .ok (.ifCond .eq 12, 3) := by decide +kernel
theorem dX1_lengthOf_8 : decode cX1_lengthOf 8 = .ok (.aload_n 0, 1) := by decide +kernel
theorem dX1_lengthOf_9 : decode cX1_lengthOf 9 = .ok (.getfield 15, 3) := by decide +kernel
theorem dX1_lengthOf_12 : decode cX1_lengthOf 12 = .ok (.iload_n 1, 1) := by decide +kernel
theorem dX1_lengthOf_13 : decode cX1_lengthOf 13 = .ok (.iaload, 1) := by decide +kernel
theorem dX1_lengthOf_14 : decode cX1_lengthOf 14 = .ok (.goto 4, 3) := by decide +kernel
theorem dX1_lengthOf_17 : decode cX1_lengthOf 17 = .ok (.iconst 0, 1) := by decide +kernel
theorem dX1_lengthOf_18 : decode cX1_lengthOf 18 = .ok (.ireturn, 1) := by decide +kernel
set_option maxRecDepth 20000 in
theorem ggX1_levelOf_X1_has : GoodIn wsX1_levelOf wsX1_has := goodIn_r _ [6, 7, 8, 9, 10, 11, 12] (by decide +kernel) (by decide +kernel)
set_option maxRecDepth 20000 in
theorem gX1_levelOf_X1_has : GoodIn wsX1_levelOf (wsV RX1 29 RX1 yX1_has wsX1_has) := goodIn_app (goodIn_of _ (by decide +kernel)) ggX1_levelOf_X1_has
theorem dX1_levelOf_0 : decode cX1_levelOf 0 = .ok (.aload_n 0, 1) := by decide +kernel
theorem dX1_levelOf_1 : decode cX1_levelOf 1 = .ok (.iload_n 1, 1) := by decide +kernel
theorem dX1_levelOf_2 : decode cX1_levelOf 2 = .ok (.invokevirtual 29, 3) := by decide +kernel
theorem dX1_levelOf_5 : decode cX1_levelOf 5 = .ok (.ifCond .eq 12, 3) := by decide +kernel
theorem dX1_levelOf_8 : decode cX1_levelOf 8 = .ok (.aload_n 0, 1) := by decide +kernel
theorem dX1_levelOf_9 : decode cX1_levelOf 9 = .ok (.getfield 18, 3) := by decide +kernel
theorem dX1_levelOf_12 : decode cX1_levelOf 12 = .ok (.iload_n 1, 1) := by decide +kernel
theorem dX1_levelOf_13 : decode cX1_levelOf 13 = .ok (.iaload, 1) := by decide +kernel
theorem dX1_levelOf_14 : decode cX1_levelOf 14 = .ok (.goto 4, 3) := by decide +kernel
theorem dX1_levelOf_17 : decode cX1_levelOf 17 = .ok (.iconst 0, 1) := by decide +kernel
theorem dX1_levelOf_18 : decode cX1_levelOf 18 = .ok (.ireturn, 1) := by decide +kernel
set_option maxRecDepth 20000 in
theorem ggX1_cellOf_X1_hasPlace : GoodIn wsX1_cellOf wsX1_hasPlace := goodIn_r _ [6, 7, 8, 9, 10, 11, 12, 13] (by decide +kernel) (by decide +kernel)
set_option maxRecDepth 20000 in
theorem gX1_cellOf_X1_hasPlace : GoodIn wsX1_cellOf (wsV RX1 37 RX1 yX1_hasPlace wsX1_hasPlace) := goodIn_app (goodIn_of _ (by decide +kernel)) ggX1_cellOf_X1_hasPlace
theorem dX1_cellOf_0 : decode cX1_cellOf 0 = .ok (.aload_n 0, 1) := by decide +kernel
theorem dX1_cellOf_1 : decode cX1_cellOf 1 = .ok (.iload_n 1, 1) := by decide +kernel
theorem dX1_cellOf_2 : decode cX1_cellOf 2 = .ok (.iload_n 2, 1) := by decide +kernel
theorem dX1_cellOf_3 : decode cX1_cellOf 3 = .ok (.invokevirtual 37, 3) := by decide +kernel
theorem dX1_cellOf_6 : decode cX1_cellOf 6 = .ok (.ifCond .eq 17, 3) := by decide +kernel
theorem dX1_cellOf_9 : decode cX1_cellOf 9 = .ok (.aload_n 0, 1) := by decide +kernel
theorem dX1_cellOf_10 : decode cX1_cellOf 10 = .ok (.getfield 21, 3) := by decide +kernel
theorem dX1_cellOf_13 : decode cX1_cellOf 13 = .ok (.iload_n 1, 1) := by decide +kernel
theorem dX1_cellOf_14 : decode cX1_cellOf 14 = .ok (.bipush 8, 2) := by decide +kernel
theorem dX1_cellOf_16 : decode cX1_cellOf 16 = .ok (.imul, 1) := by decide +kernel
theorem dX1_cellOf_17 : decode cX1_cellOf 17 = .ok (.iload_n 2, 1) := by decide +kernel
theorem dX1_cellOf_18 : decode cX1_cellOf 18 = .ok (.iadd, 1) := by decide +kernel
theorem dX1_cellOf_19 : decode cX1_cellOf 19 = .ok (.laload, 1) := by decide +kernel
theorem dX1_cellOf_20 : decode cX1_cellOf 20 = .ok (.goto 4, 3) := by decide +kernel
theorem dX1_cellOf_23 : decode cX1_cellOf 23 = .ok (.lconst 0, 1) := by decide +kernel
theorem dX1_cellOf_24 : decode cX1_cellOf 24 = .ok (.lreturn, 1) := by decide +kernel
set_option maxRecDepth 20000 in
theorem ggX1_placed_X1_hasPlace : GoodIn wsX1_placed wsX1_hasPlace := goodIn_r _ [6, 7, 8, 9, 10, 11, 12, 13] (by decide +kernel) (by decide +kernel)
set_option maxRecDepth 20000 in
theorem gX1_placed_X1_hasPlace : GoodIn wsX1_placed (wsV RX1 37 RX1 yX1_hasPlace wsX1_hasPlace) := goodIn_app (goodIn_of _ (by decide +kernel)) ggX1_placed_X1_hasPlace
theorem dX1_placed_0 : decode cX1_placed 0 = .ok (.aload_n 0, 1) := by decide +kernel
theorem dX1_placed_1 : decode cX1_placed 1 = .ok (.iload_n 1, 1) := by decide +kernel
theorem dX1_placed_2 : decode cX1_placed 2 = .ok (.iload_n 2, 1) := by decide +kernel
theorem dX1_placed_3 : decode cX1_placed 3 = .ok (.invokevirtual 37, 3) := by decide +kernel
theorem dX1_placed_6 : decode cX1_placed 6 = .ok (.ifCond .eq 18, 3) := by decide +kernel
theorem dX1_placed_9 : decode cX1_placed 9 = .ok (.aload_n 0, 1) := by decide +kernel
theorem dX1_placed_10 : decode cX1_placed 10 = .ok (.getfield 21, 3) := by decide +kernel
theorem dX1_placed_13 : decode cX1_placed 13 = .ok (.iload_n 1, 1) := by decide +kernel
theorem dX1_placed_14 : decode cX1_placed 14 = .ok (.bipush 8, 2) := by decide +kernel
theorem dX1_placed_16 : decode cX1_placed 16 = .ok (.imul, 1) := by decide +kernel
theorem dX1_placed_17 : decode cX1_placed 17 = .ok (.iload_n 2, 1) := by decide +kernel
theorem dX1_placed_18 : decode cX1_placed 18 = .ok (.iadd, 1) := by decide +kernel
theorem dX1_placed_19 : decode cX1_placed 19 = .ok (.laload, 1) := by decide +kernel
theorem dX1_placed_20 : decode cX1_placed 20 = .ok (.l2i, 1) := by decide +kernel
theorem dX1_placed_21 : decode cX1_placed 21 = .ok (.goto 4, 3) := by decide +kernel
theorem dX1_placed_24 : decode cX1_placed 24 = .ok (.iconst (-1), 1) := by decide +kernel
theorem dX1_placed_25 : decode cX1_placed 25 = .ok (.ireturn, 1) := by decide +kernel
set_option maxRecDepth 20000 in
theorem ggX1_put_X1_hasPlace : GoodIn wsX1_put wsX1_hasPlace := goodIn_r _ [7, 8, 9, 13, 14, 15, 16, 17] (by decide +kernel) (by decide +kernel)
set_option maxRecDepth 20000 in
theorem gX1_put_X1_hasPlace : GoodIn wsX1_put (wsV RX1 37 RX1 yX1_hasPlace wsX1_hasPlace) := goodIn_app (goodIn_of _ (by decide +kernel)) ggX1_put_X1_hasPlace
set_option maxRecDepth 20000 in
theorem ggX1_put_X1_lowestBits : GoodIn wsX1_put wsX1_lowestBits := goodIn_r _ [12] (by decide +kernel) (by decide +kernel)
set_option maxRecDepth 20000 in
theorem gX1_put_X1_lowestBits : GoodIn wsX1_put (va_wsS RX1 41 yX1_lowestBits wsX1_lowestBits) := goodIn_app (goodIn_of _ (by decide +kernel)) ggX1_put_X1_lowestBits
theorem dX1_put_0 : decode cX1_put 0 = .ok (.aload_n 0, 1) := by decide +kernel
theorem dX1_put_1 : decode cX1_put 1 = .ok (.iload_n 1, 1) := by decide +kernel
theorem dX1_put_2 : decode cX1_put 2 = .ok (.iload_n 2, 1) := by decide +kernel
theorem dX1_put_3 : decode cX1_put 3 = .ok (.invokevirtual 37, 3) := by decide +kernel
theorem dX1_put_6 : decode cX1_put 6 = .ok (.ifCond .eq 24, 3) := by decide +kernel
theorem dX1_put_9 : decode cX1_put 9 = .ok (.aload_n 0, 1) := by decide +kernel
theorem dX1_put_10 : decode cX1_put 10 = .ok (.getfield 21, 3) := by decide +kernel
theorem dX1_put_13 : decode cX1_put 13 = .ok (.iload_n 1, 1) := by decide +kernel
theorem dX1_put_14 : decode cX1_put 14 = .ok (.bipush 8, 2) := by decide +kernel
theorem dX1_put_16 : decode cX1_put 16 = .ok (.imul, 1) := by decide +kernel
theorem dX1_put_17 : decode cX1_put 17 = .ok (.iload_n 2, 1) := by decide +kernel
theorem dX1_put_18 : decode cX1_put 18 = .ok (.iadd, 1) := by decide +kernel
theorem dX1_put_19 : decode cX1_put 19 = .ok (.aload_n 0, 1) := by decide +kernel
theorem dX1_put_20 : decode cX1_put 20 = .ok (.getfield 9, 3) := by decide +kernel
theorem dX1_put_23 : decode cX1_put 23 = .ok (.iload_n 1, 1) := by decide +kernel
theorem dX1_put_24 : decode cX1_put 24 = .ok (.iaload, 1) := by decide +kernel
theorem dX1_put_25 : decode cX1_put 25 = .ok (.lload_n 3, 1) := by decide +kernel
theorem dX1_put_26 : decode cX1_put 26 = .ok (.invokestatic 41, 3) := by decide +kernel
theorem dX1_put_29 : decode cX1_put 29 = .ok (.lastore, 1) := by decide +kernel
theorem dX1_put_30 : decode cX1_put 30 = .ok (.return_, 1) := by decide +kernel
theorem dX1_lowestBits_0 : decode cX1_lowestBits 0 = .ok (.iload_n 0, 1) := by decide +kernel
theorem dX1_lowestBits_1 : decode cX1_lowestBits 1 = .ok (.lookupswitch 36 #[(0, 27), (1, 32)], 27) := by decide +kernel
theorem dX1_lowestBits_28 : decode cX1_lowestBits 28 = .ok (.lload_n 1, 1) := by decide +kernel
theorem dX1_lowestBits_29 : decode cX1_lowestBits 29 = .ok (.l2i, 1) := by decide +kernel
theorem dX1_lowestBits_30 : decode cX1_lowestBits 30 = .ok (.i2b, 1) := by decide +kernel
theorem dX1_lowestBits_31 : decode cX1_lowestBits 31 = .ok (.i2l, 1) := by decide +kernel
theorem dX1_lowestBits_32 : decode cX1_lowestBits 32 = .ok (.lreturn, 1) := by decide +kernel
theorem dX1_lowestBits_33 : decode cX1_lowestBits 33 = .ok (.lload_n 1, 1) := by decide +kernel
theorem dX1_lowestBits_34 : decode cX1_lowestBits 34 = .ok (.l2i, 1) := by decide +kernel
theorem dX1_lowestBits_35 : decode cX1_lowestBits 35 = .ok (.i2l, 1) := by decide +kernel
theorem dX1_lowestBits_36 : decode cX1_lowestBits 36 = .ok (.lreturn, 1) := by decide +kernel
theorem dX1_lowestBits_37 : decode cX1_lowestBits 37 = .ok (.lload_n 1, 1) := by decide +kernel
theorem dX1_lowestBits_38 : decode cX1_lowestBits 38 = .ok (.lreturn, 1) := by decide +kernel
set_option maxRecDepth 20000 in
theorem ggX1_add_X2_isLength : GoodIn wsX1_add wsX2_isLength := goodIn_r _ [8] (by decide +kernel) (by decide +kernel)
set_option maxRecDepth 20000 in
theorem gX1_add_X2_isLength_n45 : GoodIn wsX1_add (wsX2_isLength) := ggX1_add_X2_isLength
set_option maxRecDepth 20000 in
theorem ggX1_add_X2_isBoardForm : GoodIn wsX1_add wsX2_isBoardForm := goodIn_r _ [10] (by decide +kernel) (by decide +kernel)
set_option maxRecDepth 20000 in
theorem gX1_add_X2_isBoardForm_n48 : GoodIn wsX1_add (wsX2_isBoardForm) := ggX1_add_X2_isBoardForm
theorem dX1_add_0 : decode cX1_add 0 = .ok (.aload_n 0, 1) := by decide +kernel
theorem dX1_add_1 : decode cX1_add 1 = .ok (.getfield 25, 3) := by decide +kernel
theorem dX1_add_4 : decode cX1_add 4 = .ok (.bipush 60, 2) := by decide +kernel
theorem dX1_add_6 : decode cX1_add 6 = .ok (.if_icmp .ge 10, 3) := by decide +kernel
theorem dX1_add_9 : decode cX1_add 9 = .ok (.iload_n 2, 1) := by decide +kernel
theorem dX1_add_10 : decode cX1_add 10 = .ok (.invokestatic 45, 3) := by decide +kernel
theorem dX1_add_13 : decode cX1_add 13 = .ok (.ifCond .ne 6, 3) := by decide +kernel
theorem dX1_add_16 : decode cX1_add 16 = .ok (.bipush (-4), 2) := by decide +kernel
theorem dX1_add_18 : decode cX1_add 18 = .ok (.ireturn, 1) := by decide +kernel
theorem dX1_add_19 : decode cX1_add 19 = .ok (.aload_n 0, 1) := by decide +kernel
theorem dX1_add_20 : decode cX1_add 20 = .ok (.getfield 25, 3) := by decide +kernel
theorem dX1_add_23 : decode cX1_add 23 = .ok (.istore_n 3, 1) := by decide +kernel
theorem dX1_add_24 : decode cX1_add 24 = .ok (.aload_n 0, 1) := by decide +kernel
theorem dX1_add_25 : decode cX1_add 25 = .ok (.dup, 1) := by decide +kernel
theorem dX1_add_26 : decode cX1_add 26 = .ok (.getfield 25, 3) := by decide +kernel
theorem dX1_add_29 : decode cX1_add 29 = .ok (.iconst 1, 1) := by decide +kernel
theorem dX1_add_30 : decode cX1_add 30 = .ok (.iadd, 1) := by decide +kernel
theorem dX1_add_31 : decode cX1_add 31 = .ok (.putfield 25, 3) := by decide +kernel
theorem dX1_add_34 : decode cX1_add 34 = .ok (.aload_n 0, 1) := by decide +kernel
theorem dX1_add_35 : decode cX1_add 35 = .ok (.getfield 9, 3) := by decide +kernel
theorem dX1_add_38 : decode cX1_add 38 = .ok (.iload_n 3, 1) := by decide +kernel
theorem dX1_add_39 : decode cX1_add 39 = .ok (.iload_n 1, 1) := by decide +kernel
theorem dX1_add_40 : decode cX1_add 40 = .ok (.iastore, 1) := by decide +kernel
theorem dX1_add_41 : decode cX1_add 41 = .ok (.aload_n 0, 1) := by decide +kernel
theorem dX1_add_42 : decode cX1_add 42 = .ok (.getfield 15, 3) := by decide +kernel
theorem dX1_add_45 : decode cX1_add 45 = .ok (.iload_n 3, 1) := by decide +kernel
theorem dX1_add_46 : decode cX1_add 46 = .ok (.iload_n 2, 1) := by decide +kernel
theorem dX1_add_47 : decode cX1_add 47 = .ok (.iastore, 1) := by decide +kernel
theorem dX1_add_48 : decode cX1_add 48 = .ok (.aload_n 0, 1) := by decide +kernel
theorem dX1_add_49 : decode cX1_add 49 = .ok (.getfield 18, 3) := by decide +kernel
theorem dX1_add_52 : decode cX1_add 52 = .ok (.iload_n 3, 1) := by decide +kernel
theorem dX1_add_53 : decode cX1_add 53 = .ok (.iconst 0, 1) := by decide +kernel
theorem dX1_add_54 : decode cX1_add 54 = .ok (.iastore, 1) := by decide +kernel
theorem dX1_add_55 : decode cX1_add 55 = .ok (.iload_n 1, 1) := by decide +kernel
theorem dX1_add_56 : decode cX1_add 56 = .ok (.invokestatic 48, 3) := by decide +kernel
theorem dX1_add_59 : decode cX1_add 59 = .ok (.ifCond .eq 7, 3) := by decide +kernel
theorem dX1_add_62 : decode cX1_add 62 = .ok (.iconst (-1), 1) := by decide +kernel
theorem dX1_add_63 : decode cX1_add 63 = .ok (.goto 4, 3) := by decide +kernel
theorem dX1_add_66 : decode cX1_add 66 = .ok (.iconst 0, 1) := by decide +kernel
theorem dX1_add_67 : decode cX1_add 67 = .ok (.istore 4, 2) := by decide +kernel
theorem dX1_add_69 : decode cX1_add 69 = .ok (.iconst 0, 1) := by decide +kernel
theorem dX1_add_70 : decode cX1_add 70 = .ok (.istore 5, 2) := by decide +kernel
theorem dX1_add_72 : decode cX1_add 72 = .ok (.iload 5, 2) := by decide +kernel
theorem dX1_add_74 : decode cX1_add 74 = .ok (.iload_n 2, 1) := by decide +kernel
theorem dX1_add_75 : decode cX1_add 75 = .ok (.if_icmp .ge 24, 3) := by decide +kernel
theorem dX1_add_78 : decode cX1_add 78 = .ok (.aload_n 0, 1) := by decide +kernel
theorem dX1_add_79 : decode cX1_add 79 = .ok (.getfield 21, 3) := by decide +kernel
theorem dX1_add_82 : decode cX1_add 82 = .ok (.iload_n 3, 1) := by decide +kernel
theorem dX1_add_83 : decode cX1_add 83 = .ok (.bipush 8, 2) := by decide +kernel
theorem dX1_add_85 : decode cX1_add 85 = .ok (.imul, 1) := by decide +kernel
theorem dX1_add_86 : decode cX1_add 86 = .ok (.iload 5, 2) := by decide +kernel
theorem dX1_add_88 : decode cX1_add 88 = .ok (.iadd, 1) := by decide +kernel
theorem dX1_add_89 : decode cX1_add 89 = .ok (.iload 4, 2) := by decide +kernel
theorem dX1_add_91 : decode cX1_add 91 = .ok (.i2l, 1) := by decide +kernel
theorem dX1_add_92 : decode cX1_add 92 = .ok (.lastore, 1) := by decide +kernel
theorem dX1_add_93 : decode cX1_add 93 = .ok (.iinc 5 1, 3) := by decide +kernel
theorem dX1_add_96 : decode cX1_add 96 = .ok (.goto (-24), 3) := by decide +kernel
theorem dX1_add_99 : decode cX1_add 99 = .ok (.iload_n 3, 1) := by decide +kernel
theorem dX1_add_100 : decode cX1_add 100 = .ok (.ireturn, 1) := by decide +kernel
set_option maxRecDepth 20000 in
theorem ggX1_addWire_X1_add : GoodIn wsX1_addWire wsX1_add := goodIn_r _ [6, 7, 8, 9, 1, 10, 11, 12, 13, 14, 15, 20, 21, 22, 23, 24] (by decide +kernel) (by decide +kernel)
set_option maxRecDepth 20000 in
theorem gX1_addWire_X1_add : GoodIn wsX1_addWire (wsV RX1 51 RX1 yX1_add wsX1_add) := goodIn_app (goodIn_of _ (by decide +kernel)) ggX1_addWire_X1_add
set_option maxRecDepth 20000 in
theorem ggX1_addWire_X1_has : GoodIn wsX1_addWire wsX1_has := goodIn_r _ [19, 7, 20, 21, 22, 23, 24] (by decide +kernel) (by decide +kernel)
set_option maxRecDepth 20000 in
theorem gX1_addWire_X1_has : GoodIn wsX1_addWire (wsV RX1 29 RX1 yX1_has wsX1_has) := goodIn_app (goodIn_of _ (by decide +kernel)) ggX1_addWire_X1_has
theorem dX1_addWire_0 : decode cX1_addWire 0 = .ok (.aload_n 0, 1) := by decide +kernel
theorem dX1_addWire_1 : decode cX1_addWire 1 = .ok (.iload_n 1, 1) := by decide +kernel
theorem dX1_addWire_2 : decode cX1_addWire 2 = .ok (.iconst 0, 1) := by decide +kernel
theorem dX1_addWire_3 : decode cX1_addWire 3 = .ok (.invokevirtual 51, 3) := by decide +kernel
theorem dX1_addWire_6 : decode cX1_addWire 6 = .ok (.istore_n 3, 1) := by decide +kernel
theorem dX1_addWire_7 : decode cX1_addWire 7 = .ok (.aload_n 0, 1) := by decide +kernel
theorem dX1_addWire_8 : decode cX1_addWire 8 = .ok (.iload_n 3, 1) := by decide +kernel
theorem dX1_addWire_9 : decode cX1_addWire 9 = .ok (.invokevirtual 29, 3) := by decide +kernel
theorem dX1_addWire_12 : decode cX1_addWire 12 = .ok (.ifCond .eq 10, 3) := by decide +kernel
theorem dX1_addWire_15 : decode cX1_addWire 15 = .ok (.aload_n 0, 1) := by decide +kernel
theorem dX1_addWire_16 : decode cX1_addWire 16 = .ok (.getfield 18, 3) := by decide +kernel
theorem dX1_addWire_19 : decode cX1_addWire 19 = .ok (.iload_n 3, 1) := by decide +kernel
theorem dX1_addWire_20 : decode cX1_addWire 20 = .ok (.iload_n 2, 1) := by decide +kernel
theorem dX1_addWire_21 : decode cX1_addWire 21 = .ok (.iastore, 1) := by decide +kernel
theorem dX1_addWire_22 : decode cX1_addWire 22 = .ok (.iload_n 3, 1) := by decide +kernel
theorem dX1_addWire_23 : decode cX1_addWire 23 = .ok (.ireturn, 1) := by decide +kernel
set_option maxRecDepth 20000 in
theorem ggX1_addSingle_X1_add : GoodIn wsX1_addSingle wsX1_add := goodIn_r _ [5, 6, 7, 8, 9, 10, 11, 12, 13, 14, 15, 27, 28, 29, 30, 31] (by decide +kernel) (by decide +kernel)
set_option maxRecDepth 20000 in
theorem gX1_addSingle_X1_add : GoodIn wsX1_addSingle (wsV RX1 51 RX1 yX1_add wsX1_add) := goodIn_app (goodIn_of _ (by decide +kernel)) ggX1_addSingle_X1_add
set_option maxRecDepth 20000 in
theorem ggX1_addSingle_X1_put : GoodIn wsX1_addSingle wsX1_put := goodIn_r _ [19, 10, 7, 20, 21, 22, 4, 23, 6, 8, 24, 25, 26, 27, 28, 29, 30, 31] (by decide +kernel) (by decide +kernel)
set_option maxRecDepth 20000 in
theorem gX1_addSingle_X1_put : GoodIn wsX1_addSingle (wsV RX1 55 RX1 yX1_put wsX1_put) := goodIn_app (goodIn_of _ (by decide +kernel)) ggX1_addSingle_X1_put
theorem dX1_addSingle_0 : decode cX1_addSingle 0 = .ok (.aload_n 0, 1) := by decide +kernel
theorem dX1_addSingle_1 : decode cX1_addSingle 1 = .ok (.iload_n 1, 1) := by decide +kernel
theorem dX1_addSingle_2 : decode cX1_addSingle 2 = .ok (.iconst 1, 1) := by decide +kernel
theorem dX1_addSingle_3 : decode cX1_addSingle 3 = .ok (.invokevirtual 51, 3) := by decide +kernel
theorem dX1_addSingle_6 : decode cX1_addSingle 6 = .ok (.istore 4, 2) := by decide +kernel
theorem dX1_addSingle_8 : decode cX1_addSingle 8 = .ok (.aload_n 0, 1) := by decide +kernel
theorem dX1_addSingle_9 : decode cX1_addSingle 9 = .ok (.iload 4, 2) := by decide +kernel
theorem dX1_addSingle_11 : decode cX1_addSingle 11 = .ok (.iconst 0, 1) := by decide +kernel
theorem dX1_addSingle_12 : decode cX1_addSingle 12 = .ok (.lload_n 2, 1) := by decide +kernel
theorem dX1_addSingle_13 : decode cX1_addSingle 13 = .ok (.invokevirtual 55, 3) := by decide +kernel
theorem dX1_addSingle_16 : decode cX1_addSingle 16 = .ok (.iload 4, 2) := by decide +kernel
theorem dX1_addSingle_18 : decode cX1_addSingle 18 = .ok (.ireturn, 1) := by decide +kernel
set_option maxRecDepth 20000 in
theorem ggX1_addCopy_X1_lengthOf : GoodIn wsX1_addCopy wsX1_lengthOf := goodIn_r _ [5, 6, 7, 8, 9, 4, 10, 11, 43, 44, 45, 46, 47] (by decide +kernel) (by decide +kernel)
set_option maxRecDepth 20000 in
theorem gX1_addCopy_X1_lengthOf : GoodIn wsX1_addCopy (wsV RX1 59 RX1 yX1_lengthOf wsX1_lengthOf) := goodIn_app (goodIn_of _ (by decide +kernel)) ggX1_addCopy_X1_lengthOf
set_option maxRecDepth 20000 in
theorem ggX1_addCopy_X1_add : GoodIn wsX1_addCopy wsX1_add := goodIn_r _ [15, 11, 16, 6, 17, 18, 19, 20, 21, 22, 23, 43, 44, 45, 46, 47] (by decide +kernel) (by decide +kernel)
set_option maxRecDepth 20000 in
theorem gX1_addCopy_X1_add : GoodIn wsX1_addCopy (wsV RX1 51 RX1 yX1_add wsX1_add) := goodIn_app (goodIn_of _ (by decide +kernel)) ggX1_addCopy_X1_add
set_option maxRecDepth 20000 in
theorem ggX1_addCopy_X1_copyCells : GoodIn wsX1_addCopy wsX1_copyCells := goodIn_r _ [27, 1, 2, 3, 4, 5, 6, 7, 8, 9, 10, 11, 28, 29, 30, 31, 18, 32, 33, 34, 35, 36, 37, 38, 39, 16, 40, 41, 42, 43, 44, 45, 46, 47] (by decide +kernel) (by decide +kernel)
set_option maxRecDepth 20000 in
theorem gX1_addCopy_X1_copyCells : GoodIn wsX1_addCopy (wsV RX1 62 RX1 yX1_copyCells wsX1_copyCells) := goodIn_app (goodIn_of _ (by decide +kernel)) ggX1_addCopy_X1_copyCells
theorem dX1_addCopy_0 : decode cX1_addCopy 0 = .ok (.aload_n 0, 1) := by decide +kernel
theorem dX1_addCopy_1 : decode cX1_addCopy 1 = .ok (.iload_n 2, 1) := by decide +kernel
theorem dX1_addCopy_2 : decode cX1_addCopy 2 = .ok (.aload_n 0, 1) := by decide +kernel
theorem dX1_addCopy_3 : decode cX1_addCopy 3 = .ok (.iload_n 1, 1) := by decide +kernel
theorem dX1_addCopy_4 : decode cX1_addCopy 4 = .ok (.invokevirtual 59, 3) := by decide +kernel
theorem dX1_addCopy_7 : decode cX1_addCopy 7 = .ok (.invokevirtual 51, 3) := by decide +kernel
theorem dX1_addCopy_10 : decode cX1_addCopy 10 = .ok (.istore_n 3, 1) := by decide +kernel
theorem dX1_addCopy_11 : decode cX1_addCopy 11 = .ok (.aload_n 0, 1) := by decide +kernel
theorem dX1_addCopy_12 : decode cX1_addCopy 12 = .ok (.iload_n 1, 1) := by decide +kernel
theorem dX1_addCopy_13 : decode cX1_addCopy 13 = .ok (.iload_n 3, 1) := by decide +kernel
theorem dX1_addCopy_14 : decode cX1_addCopy 14 = .ok (.iconst 0, 1) := by decide +kernel
theorem dX1_addCopy_15 : decode cX1_addCopy 15 = .ok (.invokevirtual 62, 3) := by decide +kernel
theorem dX1_addCopy_18 : decode cX1_addCopy 18 = .ok (.iload_n 3, 1) := by decide +kernel
theorem dX1_addCopy_19 : decode cX1_addCopy 19 = .ok (.ireturn, 1) := by decide +kernel
set_option maxRecDepth 20000 in
theorem ggX1_copyCells_X1_lengthOf : GoodIn wsX1_copyCells wsX1_lengthOf := goodIn_r _ [5, 6, 7, 8, 9, 4, 10, 11, 29, 30, 31, 32, 33] (by decide +kernel) (by decide +kernel)
set_option maxRecDepth 20000 in
theorem gX1_copyCells_X1_lengthOf : GoodIn wsX1_copyCells (wsV RX1 59 RX1 yX1_lengthOf wsX1_lengthOf) := goodIn_app (goodIn_of _ (by decide +kernel)) ggX1_copyCells_X1_lengthOf
set_option maxRecDepth 20000 in
theorem ggX1_copyCells_X1_cellOf : GoodIn wsX1_copyCells wsX1_cellOf := goodIn_r _ [15, 16, 17, 18, 19, 4, 20, 11, 6, 29, 30, 31, 32, 33] (by decide +kernel) (by decide +kernel)
set_option maxRecDepth 20000 in
theorem gX1_copyCells_X1_cellOf : GoodIn wsX1_copyCells (wsV RX1 66 RX1 yX1_cellOf wsX1_cellOf) := goodIn_app (goodIn_of _ (by decide +kernel)) ggX1_copyCells_X1_cellOf
set_option maxRecDepth 20000 in
theorem ggX1_copyCells_X1_put : GoodIn wsX1_copyCells wsX1_put := goodIn_r _ [24, 16, 25, 17, 18, 19, 4, 20, 11, 6, 26, 27, 28, 29, 30, 31, 32, 33] (by decide +kernel) (by decide +kernel)
set_option maxRecDepth 20000 in
theorem gX1_copyCells_X1_put : GoodIn wsX1_copyCells (wsV RX1 55 RX1 yX1_put wsX1_put) := goodIn_app (goodIn_of _ (by decide +kernel)) ggX1_copyCells_X1_put
theorem dX1_copyCells_0 : decode cX1_copyCells 0 = .ok (.aload_n 0, 1) := by decide +kernel
theorem dX1_copyCells_1 : decode cX1_copyCells 1 = .ok (.iload_n 1, 1) := by decide +kernel
theorem dX1_copyCells_2 : decode cX1_copyCells 2 = .ok (.invokevirtual 59, 3) := by decide +kernel
theorem dX1_copyCells_5 : decode cX1_copyCells 5 = .ok (.istore 4, 2) := by decide +kernel
theorem dX1_copyCells_7 : decode cX1_copyCells 7 = .ok (.iconst 0, 1) := by decide +kernel
theorem dX1_copyCells_8 : decode cX1_copyCells 8 = .ok (.istore 5, 2) := by decide +kernel
theorem dX1_copyCells_10 : decode cX1_copyCells 10 = .ok (.iload 5, 2) := by decide +kernel
theorem dX1_copyCells_12 : decode cX1_copyCells 12 = .ok (.iload 4, 2) := by decide +kernel
theorem dX1_copyCells_14 : decode cX1_copyCells 14 = .ok (.if_icmp .ge 25, 3) := by decide +kernel
theorem dX1_copyCells_17 : decode cX1_copyCells 17 = .ok (.aload_n 0, 1) := by decide +kernel
theorem dX1_copyCells_18 : decode cX1_copyCells 18 = .ok (.iload_n 2, 1) := by decide +kernel
theorem dX1_copyCells_19 : decode cX1_copyCells 19 = .ok (.iload_n 3, 1) := by decide +kernel
theorem dX1_copyCells_20 : decode cX1_copyCells 20 = .ok (.iload 5, 2) := by decide +kernel
theorem dX1_copyCells_22 : decode cX1_copyCells 22 = .ok (.iadd, 1) := by decide +kernel
theorem dX1_copyCells_23 : decode cX1_copyCells 23 = .ok (.aload_n 0, 1) := by decide +kernel
theorem dX1_copyCells_24 : decode cX1_copyCells 24 = .ok (.iload_n 1, 1) := by decide +kernel
theorem dX1_copyCells_25 : decode cX1_copyCells 25 = .ok (.iload 5, 2) := by decide +kernel
theorem dX1_copyCells_27 : decode cX1_copyCells 27 = .ok (.invokevirtual 66, 3) := by decide +kernel
theorem dX1_copyCells_30 : decode cX1_copyCells 30 = .ok (.invokevirtual 55, 3) := by decide +kernel
theorem dX1_copyCells_33 : decode cX1_copyCells 33 = .ok (.iinc 5 1, 3) := by decide +kernel
theorem dX1_copyCells_36 : decode cX1_copyCells 36 = .ok (.goto (-26), 3) := by decide +kernel
theorem dX1_copyCells_39 : decode cX1_copyCells 39 = .ok (.return_, 1) := by decide +kernel
theorem dX1_forgetAll_0 : decode cX1_forgetAll 0 = .ok (.aload_n 0, 1) := by decide +kernel
theorem dX1_forgetAll_1 : decode cX1_forgetAll 1 = .ok (.getfield 25, 3) := by decide +kernel
theorem dX1_forgetAll_4 : decode cX1_forgetAll 4 = .ok (.istore_n 1, 1) := by decide +kernel
theorem dX1_forgetAll_5 : decode cX1_forgetAll 5 = .ok (.aload_n 0, 1) := by decide +kernel
theorem dX1_forgetAll_6 : decode cX1_forgetAll 6 = .ok (.iconst 0, 1) := by decide +kernel
theorem dX1_forgetAll_7 : decode cX1_forgetAll 7 = .ok (.putfield 25, 3) := by decide +kernel
theorem dX1_forgetAll_10 : decode cX1_forgetAll 10 = .ok (.iload_n 1, 1) := by decide +kernel
theorem dX1_forgetAll_11 : decode cX1_forgetAll 11 = .ok (.ireturn, 1) := by decide +kernel
set_option maxRecDepth 20000 in
theorem ggX2_init_X1_init : GoodIn wsX2_init wsX1_init := goodIn_r _ [16, 17, 2, 3, 18, 19, 20, 21, 22, 23, 24, 32, 33, 34, 35, 36] (by decide +kernel) (by decide +kernel)
set_option maxRecDepth 20000 in
theorem gX2_init_X1_init_n9 : GoodIn wsX2_init (wsX1_init) := ggX2_init_X1_init
set_option maxRecDepth 20000 in
theorem ggX2_init_X0_init : GoodIn wsX2_init wsX0_init := goodIn_r _ [26, 27, 2, 3, 18, 28, 29, 30, 31, 42, 43, 44, 45] (by decide +kernel) (by decide +kernel)
set_option maxRecDepth 20000 in
theorem gX2_init_X0_init_n18 : GoodIn wsX2_init (wsX0_init) := ggX2_init_X0_init
theorem dX2_init_0 : decode cX2_init 0 = .ok (.aload_n 0, 1) := by decide +kernel
theorem dX2_init_1 : decode cX2_init 1 = .ok (.invokespecial 1, 3) := by decide +kernel
theorem dX2_init_4 : decode cX2_init 4 = .ok (.aload_n 0, 1) := by decide +kernel
theorem dX2_init_5 : decode cX2_init 5 = .ok (.new 7, 3) := by decide +kernel
theorem dX2_init_8 : decode cX2_init 8 = .ok (.dup, 1) := by decide +kernel
theorem dX2_init_9 : decode cX2_init 9 = .ok (.invokespecial 9, 3) := by decide +kernel
theorem dX2_init_12 : decode cX2_init 12 = .ok (.putfield 10, 3) := by decide +kernel
theorem dX2_init_15 : decode cX2_init 15 = .ok (.aload_n 0, 1) := by decide +kernel
theorem dX2_init_16 : decode cX2_init 16 = .ok (.new 16, 3) := by decide +kernel
theorem dX2_init_19 : decode cX2_init 19 = .ok (.dup, 1) := by decide +kernel
theorem dX2_init_20 : decode cX2_init 20 = .ok (.invokespecial 18, 3) := by decide +kernel
theorem dX2_init_23 : decode cX2_init 23 = .ok (.putfield 19, 3) := by decide +kernel
theorem dX2_init_26 : decode cX2_init 26 = .ok (.aload_n 0, 1) := by decide +kernel
theorem dX2_init_27 : decode cX2_init 27 = .ok (.iconst (-1), 1) := by decide +kernel
theorem dX2_init_28 : decode cX2_init 28 = .ok (.putfield 23, 3) := by decide +kernel
theorem dX2_init_31 : decode cX2_init 31 = .ok (.aload_n 0, 1) := by decide +kernel
theorem dX2_init_32 : decode cX2_init 32 = .ok (.iconst 0, 1) := by decide +kernel
theorem dX2_init_33 : decode cX2_init 33 = .ok (.putfield 27, 3) := by decide +kernel
theorem dX2_init_36 : decode cX2_init 36 = .ok (.aload_n 0, 1) := by decide +kernel
theorem dX2_init_37 : decode cX2_init 37 = .ok (.iconst 0, 1) := by decide +kernel
theorem dX2_init_38 : decode cX2_init 38 = .ok (.putfield 30, 3) := by decide +kernel
theorem dX2_init_41 : decode cX2_init 41 = .ok (.return_, 1) := by decide +kernel
set_option maxRecDepth 20000 in
theorem ggX2_row_X2_isLength : GoodIn wsX2_row wsX2_isLength := goodIn_r _ [5] (by decide +kernel) (by decide +kernel)
set_option maxRecDepth 20000 in
theorem gX2_row_X2_isLength : GoodIn wsX2_row (va_wsS RX2 33 yX2_isLength wsX2_isLength) := goodIn_app (goodIn_of _ (by decide +kernel)) ggX2_row_X2_isLength
set_option maxRecDepth 20000 in
theorem ggX2_row_X1_add : GoodIn wsX2_row wsX1_add := goodIn_r _ [10, 11, 12, 13, 14, 15, 3, 4, 5, 16, 17, 23, 24, 25, 26, 27] (by decide +kernel) (by decide +kernel)
set_option maxRecDepth 20000 in
theorem gX2_row_X1_add : GoodIn wsX2_row (wsV RX2 37 RX1 yX1_add wsX1_add) := goodIn_app (goodIn_of _ (by decide +kernel)) ggX2_row_X1_add
theorem dX2_row_0 : decode cX2_row 0 = .ok (.iload_n 1, 1) := by decide +kernel
theorem dX2_row_1 : decode cX2_row 1 = .ok (.ifCond .lt 15, 3) := by decide +kernel
theorem dX2_row_4 : decode cX2_row 4 = .ok (.iload_n 1, 1) := by decide +kernel
theorem dX2_row_5 : decode cX2_row 5 = .ok (.iconst 2, 1) := by decide +kernel
theorem dX2_row_6 : decode cX2_row 6 = .ok (.if_icmp .gt 10, 3) := by decide +kernel
theorem dX2_row_9 : decode cX2_row 9 = .ok (.iload_n 2, 1) := by decide +kernel
theorem dX2_row_10 : decode cX2_row 10 = .ok (.invokestatic 33, 3) := by decide +kernel
theorem dX2_row_13 : decode cX2_row 13 = .ok (.ifCond .ne 6, 3) := by decide +kernel
theorem dX2_row_16 : decode cX2_row 16 = .ok (.bipush (-3), 2) := by decide +kernel
theorem dX2_row_18 : decode cX2_row 18 = .ok (.ireturn, 1) := by decide +kernel
theorem dX2_row_19 : decode cX2_row 19 = .ok (.aload_n 0, 1) := by decide +kernel
theorem dX2_row_20 : decode cX2_row 20 = .ok (.getfield 10, 3) := by decide +kernel
theorem dX2_row_23 : decode cX2_row 23 = .ok (.iload_n 1, 1) := by decide +kernel
theorem dX2_row_24 : decode cX2_row 24 = .ok (.iload_n 2, 1) := by decide +kernel
theorem dX2_row_25 : decode cX2_row 25 = .ok (.invokevirtual 37, 3) := by decide +kernel
theorem dX2_row_28 : decode cX2_row 28 = .ok (.ireturn, 1) := by decide +kernel
set_option maxRecDepth 20000 in
theorem ggX2_board_X2_isBoardForm : GoodIn wsX2_board wsX2_isBoardForm := goodIn_r _ [5] (by decide +kernel) (by decide +kernel)
set_option maxRecDepth 20000 in
theorem gX2_board_X2_isBoardForm : GoodIn wsX2_board (va_wsS RX2 41 yX2_isBoardForm wsX2_isBoardForm) := goodIn_app (goodIn_of _ (by decide +kernel)) ggX2_board_X2_isBoardForm
set_option maxRecDepth 20000 in
theorem ggX2_board_X2_isLength : GoodIn wsX2_board wsX2_isLength := goodIn_r _ [8] (by decide +kernel) (by decide +kernel)
set_option maxRecDepth 20000 in
theorem gX2_board_X2_isLength : GoodIn wsX2_board (va_wsS RX2 33 yX2_isLength wsX2_isLength) := goodIn_app (goodIn_of _ (by decide +kernel)) ggX2_board_X2_isLength
set_option maxRecDepth 20000 in
theorem ggX2_board_X1_add : GoodIn wsX2_board wsX1_add := goodIn_r _ [13, 14, 15, 16, 17, 18, 7, 4, 8, 3, 5, 24, 25, 26, 27, 28] (by decide +kernel) (by decide +kernel)
set_option maxRecDepth 20000 in
theorem gX2_board_X1_add : GoodIn wsX2_board (wsV RX2 37 RX1 yX1_add wsX1_add) := goodIn_app (goodIn_of _ (by decide +kernel)) ggX2_board_X1_add
theorem dX2_board_0 : decode cX2_board 0 = .ok (.iload_n 1, 1) := by decide +kernel
theorem dX2_board_1 : decode cX2_board 1 = .ok (.invokestatic 41, 3) := by decide +kernel
theorem dX2_board_4 : decode cX2_board 4 = .ok (.ifCond .eq 10, 3) := by decide +kernel
theorem dX2_board_7 : decode cX2_board 7 = .ok (.iload_n 2, 1) := by decide +kernel
theorem dX2_board_8 : decode cX2_board 8 = .ok (.invokestatic 33, 3) := by decide +kernel
theorem dX2_board_11 : decode cX2_board 11 = .ok (.ifCond .ne 6, 3) := by decide +kernel
theorem dX2_board_14 : decode cX2_board 14 = .ok (.bipush (-3), 2) := by decide +kernel
theorem dX2_board_16 : decode cX2_board 16 = .ok (.ireturn, 1) := by decide +kernel
theorem dX2_board_17 : decode cX2_board 17 = .ok (.aload_n 0, 1) := by decide +kernel
theorem dX2_board_18 : decode cX2_board 18 = .ok (.getfield 10, 3) := by decide +kernel
theorem dX2_board_21 : decode cX2_board 21 = .ok (.iload_n 1, 1) := by decide +kernel
theorem dX2_board_22 : decode cX2_board 22 = .ok (.iload_n 2, 1) := by decide +kernel
theorem dX2_board_23 : decode cX2_board 23 = .ok (.invokevirtual 37, 3) := by decide +kernel
theorem dX2_board_26 : decode cX2_board 26 = .ok (.ireturn, 1) := by decide +kernel
set_option maxRecDepth 20000 in
theorem ggX2_wire_X1_addWire : GoodIn wsX2_wire wsX1_addWire := goodIn_r _ [6, 7, 8, 9, 10, 5, 11, 12, 13, 14, 15, 16, 17, 18, 19, 20, 21, 22, 23, 24, 30, 31, 32, 33, 34] (by decide +kernel) (by decide +kernel)
set_option maxRecDepth 20000 in
theorem gX2_wire_X1_addWire : GoodIn wsX2_wire (wsV RX2 44 RX1 yX1_addWire wsX1_addWire) := goodIn_app (goodIn_of _ (by decide +kernel)) ggX2_wire_X1_addWire
theorem dX2_wire_0 : decode cX2_wire 0 = .ok (.aload_n 0, 1) := by decide +kernel
end
section
theorem dX2_wire_1 : decode cX2_wire 1 = .ok (.getfield 10, 3) := by decide +kernel
theorem dX2_wire_4 : decode cX2_wire 4 = .ok (.iload_n 1, 1) := by decide +kernel
theorem dX2_wire_5 : decode cX2_wire 5 = .ok (.ifCond .eq 7, 3) := by decide +kernel
theorem dX2_wire_8 : decode cX2_wire 8 = .ok (.iconst 5, 1) := by decide +kernel
theorem dX2_wire_9 : decode cX2_wire 9 = .ok (.goto 4, 3) := by decide +kernel
theorem dX2_wire_12 : decode cX2_wire 12 = .ok (.iconst 4, 1) := by decide +kernel
theorem dX2_wire_13 : decode cX2_wire 13 = .ok (.iload_n 2, 1) := by decide +kernel
theorem dX2_wire_14 : decode cX2_wire 14 = .ok (.invokevirtual 44, 3) := by decide +kernel
theorem dX2_wire_17 : decode cX2_wire 17 = .ok (.ireturn, 1) := by decide +kernel
set_option maxRecDepth 20000 in
theorem ggX2_set_X1_isNumbers : GoodIn wsX2_set wsX1_isNumbers := goodIn_r _ [6, 7, 8, 9, 10, 5, 11, 12, 32, 33, 34, 35, 36] (by decide +kernel) (by decide +kernel)
set_option maxRecDepth 20000 in
theorem gX2_set_X1_isNumbers : GoodIn wsX2_set (wsV RX2 47 RX1 yX1_isNumbers wsX1_isNumbers) := goodIn_app (goodIn_of _ (by decide +kernel)) ggX2_set_X1_isNumbers
set_option maxRecDepth 20000 in
theorem ggX2_set_X1_hasPlace : GoodIn wsX2_set wsX1_hasPlace := goodIn_r _ [16, 12, 17, 32, 33, 34, 35, 36] (by decide +kernel) (by decide +kernel)
set_option maxRecDepth 20000 in
theorem gX2_set_X1_hasPlace : GoodIn wsX2_set (wsV RX2 50 RX1 yX1_hasPlace wsX1_hasPlace) := goodIn_app (goodIn_of _ (by decide +kernel)) ggX2_set_X1_hasPlace
set_option maxRecDepth 20000 in
theorem ggX2_set_X1_put : GoodIn wsX2_set wsX1_put := goodIn_r _ [21, 22, 7, 23, 14, 15, 5, 16, 12, 17, 24, 25, 26, 32, 33, 34, 35, 36] (by decide +kernel) (by decide +kernel)
set_option maxRecDepth 20000 in
theorem gX2_set_X1_put : GoodIn wsX2_set (wsV RX2 54 RX1 yX1_put wsX1_put) := goodIn_app (goodIn_of _ (by decide +kernel)) ggX2_set_X1_put
theorem dX2_set_0 : decode cX2_set 0 = .ok (.aload_n 0, 1) := by decide +kernel
theorem dX2_set_1 : decode cX2_set 1 = .ok (.getfield 10, 3) := by decide +kernel
theorem dX2_set_4 : decode cX2_set 4 = .ok (.iload_n 1, 1) := by decide +kernel
theorem dX2_set_5 : decode cX2_set 5 = .ok (.invokevirtual 47, 3) := by decide +kernel
theorem dX2_set_8 : decode cX2_set 8 = .ok (.ifCond .eq 15, 3) := by decide +kernel
theorem dX2_set_11 : decode cX2_set 11 = .ok (.aload_n 0, 1) := by decide +kernel
theorem dX2_set_12 : decode cX2_set 12 = .ok (.getfield 10, 3) := by decide +kernel
theorem dX2_set_15 : decode cX2_set 15 = .ok (.iload_n 1, 1) := by decide +kernel
theorem dX2_set_16 : decode cX2_set 16 = .ok (.iload_n 2, 1) := by decide +kernel
theorem dX2_set_17 : decode cX2_set 17 = .ok (.invokevirtual 50, 3) := by decide +kernel
theorem dX2_set_20 : decode cX2_set 20 = .ok (.ifCond .ne 6, 3) := by decide +kernel
theorem dX2_set_23 : decode cX2_set 23 = .ok (.bipush (-3), 2) := by decide +kernel
theorem dX2_set_25 : decode cX2_set 25 = .ok (.ireturn, 1) := by decide +kernel
theorem dX2_set_26 : decode cX2_set 26 = .ok (.aload_n 0, 1) := by decide +kernel
theorem dX2_set_27 : decode cX2_set 27 = .ok (.getfield 10, 3) := by decide +kernel
theorem dX2_set_30 : decode cX2_set 30 = .ok (.iload_n 1, 1) := by decide +kernel
theorem dX2_set_31 : decode cX2_set 31 = .ok (.iload_n 2, 1) := by decide +kernel
theorem dX2_set_32 : decode cX2_set 32 = .ok (.lload_n 3, 1) := by decide +kernel
theorem dX2_set_33 : decode cX2_set 33 = .ok (.invokevirtual 54, 3) := by decide +kernel
theorem dX2_set_36 : decode cX2_set 36 = .ok (.iconst 1, 1) := by decide +kernel
theorem dX2_set_37 : decode cX2_set 37 = .ok (.ireturn, 1) := by decide +kernel
set_option maxRecDepth 20000 in
theorem ggX2_number_X1_isA : GoodIn wsX2_number wsX1_isA := goodIn_r _ [6, 7, 8, 9, 10, 5, 11, 12, 13, 14, 15, 40, 41, 42, 43, 44] (by decide +kernel) (by decide +kernel)
set_option maxRecDepth 20000 in
theorem gX2_number_X1_isA : GoodIn wsX2_number (wsV RX2 58 RX1 yX1_isA wsX1_isA) := goodIn_app (goodIn_of _ (by decide +kernel)) ggX2_number_X1_isA
set_option maxRecDepth 20000 in
theorem ggX2_number_X1_levelOf : GoodIn wsX2_number wsX1_levelOf := goodIn_r _ [19, 20, 8, 9, 10, 5, 11, 12, 40, 41, 42, 43, 44] (by decide +kernel) (by decide +kernel)
set_option maxRecDepth 20000 in
theorem gX2_number_X1_levelOf : GoodIn wsX2_number (wsV RX2 61 RX1 yX1_levelOf wsX1_levelOf) := goodIn_app (goodIn_of _ (by decide +kernel)) ggX2_number_X1_levelOf
set_option maxRecDepth 20000 in
theorem ggX2_number_X1_isNumbers : GoodIn wsX2_number wsX1_isNumbers := goodIn_r _ [24, 7, 8, 9, 10, 5, 11, 12, 40, 41, 42, 43, 44] (by decide +kernel) (by decide +kernel)
set_option maxRecDepth 20000 in
theorem gX2_number_X1_isNumbers : GoodIn wsX2_number (wsV RX2 47 RX1 yX1_isNumbers wsX1_isNumbers) := goodIn_app (goodIn_of _ (by decide +kernel)) ggX2_number_X1_isNumbers
set_option maxRecDepth 20000 in
theorem ggX2_number_X1_cellOf : GoodIn wsX2_number wsX1_cellOf := goodIn_r _ [28, 29, 30, 31, 32, 5, 33, 12, 34, 40, 41, 42, 43, 44] (by decide +kernel) (by decide +kernel)
set_option maxRecDepth 20000 in
theorem gX2_number_X1_cellOf : GoodIn wsX2_number (wsV RX2 65 RX1 yX1_cellOf wsX1_cellOf) := goodIn_app (goodIn_of _ (by decide +kernel)) ggX2_number_X1_cellOf
theorem dX2_number_0 : decode cX2_number 0 = .ok (.aload_n 0, 1) := by decide +kernel
theorem dX2_number_1 : decode cX2_number 1 = .ok (.getfield 10, 3) := by decide +kernel
theorem dX2_number_4 : decode cX2_number 4 = .ok (.iload_n 1, 1) := by decide +kernel
theorem dX2_number_5 : decode cX2_number 5 = .ok (.iconst 4, 1) := by decide +kernel
theorem dX2_number_6 : decode cX2_number 6 = .ok (.invokevirtual 58, 3) := by decide +kernel
theorem dX2_number_9 : decode cX2_number 9 = .ok (.ifCond .eq 13, 3) := by decide +kernel
theorem dX2_number_12 : decode cX2_number 12 = .ok (.aload_n 0, 1) := by decide +kernel
theorem dX2_number_13 : decode cX2_number 13 = .ok (.getfield 10, 3) := by decide +kernel
theorem dX2_number_16 : decode cX2_number 16 = .ok (.iload_n 1, 1) := by decide +kernel
theorem dX2_number_17 : decode cX2_number 17 = .ok (.invokevirtual 61, 3) := by decide +kernel
theorem dX2_number_20 : decode cX2_number 20 = .ok (.i2l, 1) := by decide +kernel
theorem dX2_number_21 : decode cX2_number 21 = .ok (.lreturn, 1) := by decide +kernel
theorem dX2_number_22 : decode cX2_number 22 = .ok (.aload_n 0, 1) := by decide +kernel
theorem dX2_number_23 : decode cX2_number 23 = .ok (.getfield 10, 3) := by decide +kernel
theorem dX2_number_26 : decode cX2_number 26 = .ok (.iload_n 1, 1) := by decide +kernel
theorem dX2_number_27 : decode cX2_number 27 = .ok (.invokevirtual 47, 3) := by decide +kernel
theorem dX2_number_30 : decode cX2_number 30 = .ok (.ifCond .eq 15, 3) := by decide +kernel
theorem dX2_number_33 : decode cX2_number 33 = .ok (.aload_n 0, 1) := by decide +kernel
theorem dX2_number_34 : decode cX2_number 34 = .ok (.getfield 10, 3) := by decide +kernel
theorem dX2_number_37 : decode cX2_number 37 = .ok (.iload_n 1, 1) := by decide +kernel
theorem dX2_number_38 : decode cX2_number 38 = .ok (.iload_n 2, 1) := by decide +kernel
theorem dX2_number_39 : decode cX2_number 39 = .ok (.invokevirtual 65, 3) := by decide +kernel
theorem dX2_number_42 : decode cX2_number 42 = .ok (.goto 4, 3) := by decide +kernel
theorem dX2_number_45 : decode cX2_number 45 = .ok (.lconst 0, 1) := by decide +kernel
theorem dX2_number_46 : decode cX2_number 46 = .ok (.lreturn, 1) := by decide +kernel
set_option maxRecDepth 20000 in
theorem ggX2_act_X2_isAct : GoodIn wsX2_act wsX2_isAct := goodIn_r _ [4] (by decide +kernel) (by decide +kernel)
set_option maxRecDepth 20000 in
theorem gX2_act_X2_isAct : GoodIn wsX2_act (va_wsS RX2 69 yX2_isAct wsX2_isAct) := goodIn_app (goodIn_of _ (by decide +kernel)) ggX2_act_X2_isAct
set_option maxRecDepth 20000 in
theorem ggX2_act_X2_isValueOrNone : GoodIn wsX2_act wsX2_isValueOrNone := goodIn_r _ [8, 9, 10, 11, 12, 13, 14, 15, 197, 198, 199, 200, 201, 202, 203, 204, 205, 206] (by decide +kernel) (by decide +kernel)
set_option maxRecDepth 20000 in
theorem gX2_act_X2_isValueOrNone : GoodIn wsX2_act (wsV RX2 72 RX2 yX2_isValueOrNone wsX2_isValueOrNone) := goodIn_app (goodIn_of _ (by decide +kernel)) ggX2_act_X2_isValueOrNone
set_option maxRecDepth 20000 in
theorem ggX2_act_X2_answerOf : GoodIn wsX2_act wsX2_answerOf := goodIn_r _ [19, 9, 20, 21, 22, 13, 23, 15, 24, 25, 26, 3, 27, 28, 29, 30, 31, 32, 33, 11, 12, 14, 34, 35, 36, 37, 38, 39, 40, 41, 42, 43, 44, 45, 46, 47, 48, 49, 50, 51, 52, 53, 54, 55, 56, 57, 58, 59, 60, 61, 62, 63, 64, 65, 66, 67, 68, 69, 70, 71, 72, 73, 74, 75, 76, 77, 78, 79, 80, 81, 82, 83, 84, 85, 86, 87, 88, 89, 90, 91, 92, 93, 94, 95, 96, 97, 98, 99, 100, 101, 102, 103, 104, 105, 106, 107, 108, 109, 110, 111, 112, 113, 114, 115, 116, 117, 118, 119, 120, 121, 122, 123, 124, 125, 126, 127, 128, 129, 130, 131, 132, 133, 134, 135, 136, 137, 138, 139, 140, 141, 142, 143, 144, 145, 146, 147, 148, 149, 150, 151, 152, 153, 154, 155, 156, 157, 158, 159, 160, 161, 162, 163, 164, 165, 166, 167, 168, 169, 170, 171, 172, 173, 174, 175, 176, 177, 178, 179, 180, 181, 182, 183, 184, 185, 186, 187, 197, 198, 199, 200, 201, 202, 203, 204, 205, 206] (by decide +kernel) (by decide +kernel)
set_option maxRecDepth 20000 in
theorem gX2_act_X2_answerOf : GoodIn wsX2_act (wsV RX2 75 RX2 yX2_answerOf wsX2_answerOf) := goodIn_app (goodIn_of _ (by decide +kernel)) ggX2_act_X2_answerOf
set_option maxRecDepth 20000 in
theorem ggX2_act_X2_noted : GoodIn wsX2_act wsX2_noted := goodIn_r _ [191, 192, 193, 194, 195, 3, 196, 197, 198, 199, 200, 201] (by decide +kernel) (by decide +kernel)
set_option maxRecDepth 20000 in
theorem gX2_act_X2_noted : GoodIn wsX2_act (wsV RX2 79 RX2 yX2_noted wsX2_noted) := goodIn_app (goodIn_of _ (by decide +kernel)) ggX2_act_X2_noted
theorem dX2_act_0 : decode cX2_act 0 = .ok (.iload_n 1, 1) := by decide +kernel
theorem dX2_act_1 : decode cX2_act 1 = .ok (.invokestatic 69, 3) := by decide +kernel
theorem dX2_act_4 : decode cX2_act 4 = .ok (.ifCond .eq 19, 3) := by decide +kernel
theorem dX2_act_7 : decode cX2_act 7 = .ok (.aload_n 0, 1) := by decide +kernel
theorem dX2_act_8 : decode cX2_act 8 = .ok (.iload_n 2, 1) := by decide +kernel
theorem dX2_act_9 : decode cX2_act 9 = .ok (.invokevirtual 72, 3) := by decide +kernel
theorem dX2_act_12 : decode cX2_act 12 = .ok (.ifCond .eq 11, 3) := by decide +kernel
theorem dX2_act_15 : decode cX2_act 15 = .ok (.aload_n 0, 1) := by decide +kernel
theorem dX2_act_16 : decode cX2_act 16 = .ok (.iload_n 3, 1) := by decide +kernel
theorem dX2_act_17 : decode cX2_act 17 = .ok (.invokevirtual 72, 3) := by decide +kernel
theorem dX2_act_20 : decode cX2_act 20 = .ok (.ifCond .ne 6, 3) := by decide +kernel
theorem dX2_act_23 : decode cX2_act 23 = .ok (.bipush (-3), 2) := by decide +kernel
theorem dX2_act_25 : decode cX2_act 25 = .ok (.ireturn, 1) := by decide +kernel
theorem dX2_act_26 : decode cX2_act 26 = .ok (.aload_n 0, 1) := by decide +kernel
theorem dX2_act_27 : decode cX2_act 27 = .ok (.aload_n 0, 1) := by decide +kernel
theorem dX2_act_28 : decode cX2_act 28 = .ok (.iload_n 1, 1) := by decide +kernel
theorem dX2_act_29 : decode cX2_act 29 = .ok (.iload_n 2, 1) := by decide +kernel
theorem dX2_act_30 : decode cX2_act 30 = .ok (.iload_n 3, 1) := by decide +kernel
theorem dX2_act_31 : decode cX2_act 31 = .ok (.iload 4, 2) := by decide +kernel
theorem dX2_act_33 : decode cX2_act 33 = .ok (.invokevirtual 75, 3) := by decide +kernel
theorem dX2_act_36 : decode cX2_act 36 = .ok (.invokevirtual 79, 3) := by decide +kernel
theorem dX2_act_39 : decode cX2_act 39 = .ok (.ireturn, 1) := by decide +kernel
set_option maxRecDepth 20000 in
theorem ggX2_step_X2_isValueOrNone : GoodIn wsX2_step wsX2_isValueOrNone := goodIn_r _ [6, 7, 8, 9, 10, 11, 12, 13, 31, 32, 33, 34, 35, 36, 37, 38, 39, 40] (by decide +kernel) (by decide +kernel)
set_option maxRecDepth 20000 in
theorem gX2_step_X2_isValueOrNone : GoodIn wsX2_step (wsV RX2 72 RX2 yX2_isValueOrNone wsX2_isValueOrNone) := goodIn_app (goodIn_of _ (by decide +kernel)) ggX2_step_X2_isValueOrNone
set_option maxRecDepth 20000 in
theorem ggX2_step_X0_has : GoodIn wsX2_step wsX0_has := goodIn_r _ [18] (by decide +kernel) (by decide +kernel)
set_option maxRecDepth 20000 in
theorem gX2_step_X0_has : GoodIn wsX2_step (wsV RX2 82 RX0 yX0_has wsX0_has) := goodIn_app (goodIn_of _ (by decide +kernel)) ggX2_step_X0_has
set_option maxRecDepth 20000 in
theorem ggX2_step_X2_isAct : GoodIn wsX2_step wsX2_isAct := goodIn_r _ [21] (by decide +kernel) (by decide +kernel)
set_option maxRecDepth 20000 in
theorem gX2_step_X2_isAct : GoodIn wsX2_step (va_wsS RX2 69 yX2_isAct wsX2_isAct) := goodIn_app (goodIn_of _ (by decide +kernel)) ggX2_step_X2_isAct
set_option maxRecDepth 20000 in
theorem ggX2_step_X0_append : GoodIn wsX2_step wsX0_append := goodIn_r _ [25, 26, 27, 28, 29, 30, 15, 16, 17, 18, 41, 42, 43, 44] (by decide +kernel) (by decide +kernel)
set_option maxRecDepth 20000 in
theorem gX2_step_X0_append : GoodIn wsX2_step (wsV RX2 85 RX0 yX0_append wsX0_append) := goodIn_app (goodIn_of _ (by decide +kernel)) ggX2_step_X0_append
theorem dX2_step_0 : decode cX2_step 0 = .ok (.iload_n 3, 1) := by decide +kernel
theorem dX2_step_1 : decode cX2_step 1 = .ok (.bipush (-2), 2) := by decide +kernel
theorem dX2_step_3 : decode cX2_step 3 = .ok (.if_icmp .eq 11, 3) := by decide +kernel
theorem dX2_step_6 : decode cX2_step 6 = .ok (.aload_n 0, 1) := by decide +kernel
theorem dX2_step_7 : decode cX2_step 7 = .ok (.iload_n 3, 1) := by decide +kernel
theorem dX2_step_8 : decode cX2_step 8 = .ok (.invokevirtual 72, 3) := by decide +kernel
theorem dX2_step_11 : decode cX2_step 11 = .ok (.ifCond .eq 7, 3) := by decide +kernel
theorem dX2_step_14 : decode cX2_step 14 = .ok (.iconst 1, 1) := by decide +kernel
theorem dX2_step_15 : decode cX2_step 15 = .ok (.goto 4, 3) := by decide +kernel
theorem dX2_step_18 : decode cX2_step 18 = .ok (.iconst 0, 1) := by decide +kernel
theorem dX2_step_19 : decode cX2_step 19 = .ok (.istore 5, 2) := by decide +kernel
theorem dX2_step_21 : decode cX2_step 21 = .ok (.aload_n 0, 1) := by decide +kernel
theorem dX2_step_22 : decode cX2_step 22 = .ok (.getfield 19, 3) := by decide +kernel
theorem dX2_step_25 : decode cX2_step 25 = .ok (.iload_n 1, 1) := by decide +kernel
theorem dX2_step_26 : decode cX2_step 26 = .ok (.invokevirtual 82, 3) := by decide +kernel
theorem dX2_step_29 : decode cX2_step 29 = .ok (.ifCond .eq 15, 3) := by decide +kernel
theorem dX2_step_32 : decode cX2_step 32 = .ok (.iload_n 2, 1) := by decide +kernel
theorem dX2_step_33 : decode cX2_step 33 = .ok (.invokestatic 69, 3) := by decide +kernel
theorem dX2_step_36 : decode cX2_step 36 = .ok (.ifCond .eq 8, 3) := by decide +kernel
theorem dX2_step_39 : decode cX2_step 39 = .ok (.iload 5, 2) := by decide +kernel
theorem dX2_step_41 : decode cX2_step 41 = .ok (.ifCond .ne 6, 3) := by decide +kernel
theorem dX2_step_44 : decode cX2_step 44 = .ok (.bipush (-3), 2) := by decide +kernel
theorem dX2_step_46 : decode cX2_step 46 = .ok (.ireturn, 1) := by decide +kernel
theorem dX2_step_47 : decode cX2_step 47 = .ok (.aload_n 0, 1) := by decide +kernel
theorem dX2_step_48 : decode cX2_step 48 = .ok (.getfield 19, 3) := by decide +kernel
theorem dX2_step_51 : decode cX2_step 51 = .ok (.iload_n 1, 1) := by decide +kernel
theorem dX2_step_52 : decode cX2_step 52 = .ok (.iload_n 2, 1) := by decide +kernel
theorem dX2_step_53 : decode cX2_step 53 = .ok (.iload_n 3, 1) := by decide +kernel
theorem dX2_step_54 : decode cX2_step 54 = .ok (.iload 4, 2) := by decide +kernel
theorem dX2_step_56 : decode cX2_step 56 = .ok (.invokevirtual 85, 3) := by decide +kernel
theorem dX2_step_59 : decode cX2_step 59 = .ok (.ireturn, 1) := by decide +kernel
set_option maxRecDepth 20000 in
theorem ggX2_play_X0_has : GoodIn wsX2_play wsX0_has := goodIn_r _ [7] (by decide +kernel) (by decide +kernel)
set_option maxRecDepth 20000 in
theorem gX2_play_X0_has : GoodIn wsX2_play (wsV RX2 82 RX0 yX0_has wsX0_has) := goodIn_app (goodIn_of _ (by decide +kernel)) ggX2_play_X0_has
set_option maxRecDepth 20000 in
theorem ggX2_play_X2_isValueOrNone : GoodIn wsX2_play wsX2_isValueOrNone := goodIn_r _ [12, 13, 14, 15, 16, 17, 18, 19, 226, 227, 228, 229, 230, 231, 232, 233, 234, 235] (by decide +kernel) (by decide +kernel)
set_option maxRecDepth 20000 in
theorem gX2_play_X2_isValueOrNone : GoodIn wsX2_play (wsV RX2 72 RX2 yX2_isValueOrNone wsX2_isValueOrNone) := goodIn_app (goodIn_of _ (by decide +kernel)) ggX2_play_X2_isValueOrNone
set_option maxRecDepth 20000 in
theorem ggX2_play_X0_lengthOf : GoodIn wsX2_play wsX0_lengthOf := goodIn_r _ [23, 24, 25, 4, 5, 6, 7, 236, 237, 238, 239] (by decide +kernel) (by decide +kernel)
set_option maxRecDepth 20000 in
theorem gX2_play_X0_lengthOf : GoodIn wsX2_play (wsV RX2 88 RX0 yX0_lengthOf wsX0_lengthOf) := goodIn_app (goodIn_of _ (by decide +kernel)) ggX2_play_X0_lengthOf
set_option maxRecDepth 20000 in
theorem ggX2_play_X0_actOf : GoodIn wsX2_play wsX0_actOf := goodIn_r _ [29, 30, 31, 32, 33, 6, 34, 24, 25, 4, 5, 7, 236, 237, 238, 239] (by decide +kernel) (by decide +kernel)
set_option maxRecDepth 20000 in
theorem gX2_play_X0_actOf : GoodIn wsX2_play (wsV RX2 91 RX0 yX0_actOf wsX0_actOf) := goodIn_app (goodIn_of _ (by decide +kernel)) ggX2_play_X0_actOf
set_option maxRecDepth 20000 in
theorem ggX2_play_X0_yOf : GoodIn wsX2_play wsX0_yOf := goodIn_r _ [38, 39, 31, 32, 33, 6, 34, 24, 25, 4, 5, 7, 236, 237, 238, 239] (by decide +kernel) (by decide +kernel)
set_option maxRecDepth 20000 in
theorem gX2_play_X0_yOf : GoodIn wsX2_play (wsV RX2 94 RX0 yX0_yOf wsX0_yOf) := goodIn_app (goodIn_of _ (by decide +kernel)) ggX2_play_X0_yOf
set_option maxRecDepth 20000 in
theorem ggX2_play_X0_nOf : GoodIn wsX2_play wsX0_nOf := goodIn_r _ [43, 44, 31, 32, 33, 6, 34, 24, 25, 4, 5, 7, 236, 237, 238, 239] (by decide +kernel) (by decide +kernel)
set_option maxRecDepth 20000 in
theorem gX2_play_X0_nOf : GoodIn wsX2_play (wsV RX2 97 RX0 yX0_nOf wsX0_nOf) := goodIn_app (goodIn_of _ (by decide +kernel)) ggX2_play_X0_nOf
set_option maxRecDepth 20000 in
theorem ggX2_play_X2_answerOf : GoodIn wsX2_play wsX2_answerOf := goodIn_r _ [48, 13, 49, 50, 51, 17, 52, 19, 53, 54, 55, 11, 56, 57, 58, 59, 60, 61, 62, 15, 16, 18, 63, 64, 65, 66, 67, 68, 69, 70, 71, 72, 73, 74, 75, 76, 77, 78, 79, 80, 81, 82, 83, 84, 85, 86, 87, 88, 89, 90, 91, 92, 93, 94, 95, 96, 97, 98, 99, 100, 101, 102, 103, 104, 105, 106, 107, 108, 109, 110, 111, 112, 113, 114, 115, 116, 117, 118, 119, 120, 121, 122, 123, 124, 125, 126, 127, 128, 129, 130, 131, 132, 133, 134, 135, 136, 137, 138, 139, 140, 141, 142, 143, 144, 145, 146, 147, 148, 149, 150, 151, 152, 153, 154, 155, 156, 157, 158, 159, 160, 161, 162, 163, 164, 165, 166, 167, 168, 169, 170, 171, 172, 173, 174, 175, 176, 177, 178, 179, 180, 181, 182, 183, 184, 185, 186, 187, 188, 189, 190, 191, 192, 193, 194, 195, 196, 197, 198, 199, 200, 201, 202, 203, 204, 205, 206, 207, 208, 209, 210, 211, 212, 213, 214, 215, 216, 226, 227, 228, 229, 230, 231, 232, 233, 234, 235] (by decide +kernel) (by decide +kernel)
set_option maxRecDepth 20000 in
theorem gX2_play_X2_answerOf : GoodIn wsX2_play (wsV RX2 75 RX2 yX2_answerOf wsX2_answerOf) := goodIn_app (goodIn_of _ (by decide +kernel)) ggX2_play_X2_answerOf
set_option maxRecDepth 20000 in
theorem ggX2_play_X2_noted : GoodIn wsX2_play wsX2_noted := goodIn_r _ [220, 221, 222, 223, 224, 11, 225, 226, 227, 228, 229, 230] (by decide +kernel) (by decide +kernel)
set_option maxRecDepth 20000 in
theorem gX2_play_X2_noted : GoodIn wsX2_play (wsV RX2 79 RX2 yX2_noted wsX2_noted) := goodIn_app (goodIn_of _ (by decide +kernel)) ggX2_play_X2_noted
set_option maxRecDepth 20000 in
theorem ggX2_play_X2_isFault : GoodIn wsX2_play wsX2_isFault := goodIn_r _ [225] (by decide +kernel) (by decide +kernel)
set_option maxRecDepth 20000 in
theorem gX2_play_X2_isFault : GoodIn wsX2_play (va_wsS RX2 100 yX2_isFault wsX2_isFault) := goodIn_app (goodIn_of _ (by decide +kernel)) ggX2_play_X2_isFault
theorem dX2_play_0 : decode cX2_play 0 = .ok (.aload_n 0, 1) := by decide +kernel
theorem dX2_play_1 : decode cX2_play 1 = .ok (.getfield 19, 3) := by decide +kernel
theorem dX2_play_4 : decode cX2_play 4 = .ok (.iload_n 1, 1) := by decide +kernel
theorem dX2_play_5 : decode cX2_play 5 = .ok (.invokevirtual 82, 3) := by decide +kernel
theorem dX2_play_8 : decode cX2_play 8 = .ok (.ifCond .eq 11, 3) := by decide +kernel
theorem dX2_play_11 : decode cX2_play 11 = .ok (.aload_n 0, 1) := by decide +kernel
theorem dX2_play_12 : decode cX2_play 12 = .ok (.iload_n 2, 1) := by decide +kernel
theorem dX2_play_13 : decode cX2_play 13 = .ok (.invokevirtual 72, 3) := by decide +kernel
theorem dX2_play_16 : decode cX2_play 16 = .ok (.ifCond .ne 6, 3) := by decide +kernel
theorem dX2_play_19 : decode cX2_play 19 = .ok (.bipush (-3), 2) := by decide +kernel
theorem dX2_play_21 : decode cX2_play 21 = .ok (.ireturn, 1) := by decide +kernel
theorem dX2_play_22 : decode cX2_play 22 = .ok (.aload_n 0, 1) := by decide +kernel
theorem dX2_play_23 : decode cX2_play 23 = .ok (.iconst (-1), 1) := by decide +kernel
theorem dX2_play_24 : decode cX2_play 24 = .ok (.putfield 23, 3) := by decide +kernel
theorem dX2_play_27 : decode cX2_play 27 = .ok (.iload_n 2, 1) := by decide +kernel
theorem dX2_play_28 : decode cX2_play 28 = .ok (.istore_n 3, 1) := by decide +kernel
theorem dX2_play_29 : decode cX2_play 29 = .ok (.aload_n 0, 1) := by decide +kernel
theorem dX2_play_30 : decode cX2_play 30 = .ok (.getfield 19, 3) := by decide +kernel
theorem dX2_play_33 : decode cX2_play 33 = .ok (.iload_n 1, 1) := by decide +kernel
theorem dX2_play_34 : decode cX2_play 34 = .ok (.invokevirtual 88, 3) := by decide +kernel
theorem dX2_play_37 : decode cX2_play 37 = .ok (.istore 4, 2) := by decide +kernel
theorem dX2_play_39 : decode cX2_play 39 = .ok (.iconst 0, 1) := by decide +kernel
theorem dX2_play_40 : decode cX2_play 40 = .ok (.istore 5, 2) := by decide +kernel
theorem dX2_play_42 : decode cX2_play 42 = .ok (.iload 5, 2) := by decide +kernel
theorem dX2_play_44 : decode cX2_play 44 = .ok (.iload 4, 2) := by decide +kernel
theorem dX2_play_46 : decode cX2_play 46 = .ok (.if_icmp .ge 83, 3) := by decide +kernel
theorem dX2_play_49 : decode cX2_play 49 = .ok (.aload_n 0, 1) := by decide +kernel
theorem dX2_play_50 : decode cX2_play 50 = .ok (.getfield 19, 3) := by decide +kernel
theorem dX2_play_53 : decode cX2_play 53 = .ok (.iload_n 1, 1) := by decide +kernel
theorem dX2_play_54 : decode cX2_play 54 = .ok (.iload 5, 2) := by decide +kernel
theorem dX2_play_56 : decode cX2_play 56 = .ok (.invokevirtual 91, 3) := by decide +kernel
theorem dX2_play_59 : decode cX2_play 59 = .ok (.istore 6, 2) := by decide +kernel
theorem dX2_play_61 : decode cX2_play 61 = .ok (.aload_n 0, 1) := by decide +kernel
theorem dX2_play_62 : decode cX2_play 62 = .ok (.getfield 19, 3) := by decide +kernel
theorem dX2_play_65 : decode cX2_play 65 = .ok (.iload_n 1, 1) := by decide +kernel
theorem dX2_play_66 : decode cX2_play 66 = .ok (.iload 5, 2) := by decide +kernel
theorem dX2_play_68 : decode cX2_play 68 = .ok (.invokevirtual 94, 3) := by decide +kernel
theorem dX2_play_71 : decode cX2_play 71 = .ok (.istore 7, 2) := by decide +kernel
theorem dX2_play_73 : decode cX2_play 73 = .ok (.aload_n 0, 1) := by decide +kernel
theorem dX2_play_74 : decode cX2_play 74 = .ok (.aload_n 0, 1) := by decide +kernel
theorem dX2_play_75 : decode cX2_play 75 = .ok (.iload 6, 2) := by decide +kernel
theorem dX2_play_77 : decode cX2_play 77 = .ok (.iload_n 3, 1) := by decide +kernel
theorem dX2_play_78 : decode cX2_play 78 = .ok (.iload 7, 2) := by decide +kernel
theorem dX2_play_80 : decode cX2_play 80 = .ok (.bipush (-2), 2) := by decide +kernel
theorem dX2_play_82 : decode cX2_play 82 = .ok (.if_icmp .ne 7, 3) := by decide +kernel
theorem dX2_play_85 : decode cX2_play 85 = .ok (.iload_n 2, 1) := by decide +kernel
theorem dX2_play_86 : decode cX2_play 86 = .ok (.goto 5, 3) := by decide +kernel
theorem dX2_play_89 : decode cX2_play 89 = .ok (.iload 7, 2) := by decide +kernel
theorem dX2_play_91 : decode cX2_play 91 = .ok (.aload_n 0, 1) := by decide +kernel
theorem dX2_play_92 : decode cX2_play 92 = .ok (.getfield 19, 3) := by decide +kernel
theorem dX2_play_95 : decode cX2_play 95 = .ok (.iload_n 1, 1) := by decide +kernel
theorem dX2_play_96 : decode cX2_play 96 = .ok (.iload 5, 2) := by decide +kernel
theorem dX2_play_98 : decode cX2_play 98 = .ok (.invokevirtual 97, 3) := by decide +kernel
theorem dX2_play_101 : decode cX2_play 101 = .ok (.invokevirtual 75, 3) := by decide +kernel
theorem dX2_play_104 : decode cX2_play 104 = .ok (.invokevirtual 79, 3) := by decide +kernel
theorem dX2_play_107 : decode cX2_play 107 = .ok (.istore_n 3, 1) := by decide +kernel
theorem dX2_play_108 : decode cX2_play 108 = .ok (.iload_n 3, 1) := by decide +kernel
theorem dX2_play_109 : decode cX2_play 109 = .ok (.invokestatic 100, 3) := by decide +kernel
theorem dX2_play_112 : decode cX2_play 112 = .ok (.ifCond .eq 11, 3) := by decide +kernel
theorem dX2_play_115 : decode cX2_play 115 = .ok (.aload_n 0, 1) := by decide +kernel
theorem dX2_play_116 : decode cX2_play 116 = .ok (.iload 5, 2) := by decide +kernel
theorem dX2_play_118 : decode cX2_play 118 = .ok (.putfield 23, 3) := by decide +kernel
theorem dX2_play_121 : decode cX2_play 121 = .ok (.iload_n 3, 1) := by decide +kernel
theorem dX2_play_122 : decode cX2_play 122 = .ok (.ireturn, 1) := by decide +kernel
theorem dX2_play_123 : decode cX2_play 123 = .ok (.iinc 5 1, 3) := by decide +kernel
theorem dX2_play_126 : decode cX2_play 126 = .ok (.goto (-84), 3) := by decide +kernel
theorem dX2_play_129 : decode cX2_play 129 = .ok (.iload_n 3, 1) := by decide +kernel
theorem dX2_play_130 : decode cX2_play 130 = .ok (.ireturn, 1) := by decide +kernel
theorem dX2_stopped_0 : decode cX2_stopped 0 = .ok (.aload_n 0, 1) := by decide +kernel
theorem dX2_stopped_1 : decode cX2_stopped 1 = .ok (.getfield 23, 3) := by decide +kernel
theorem dX2_stopped_4 : decode cX2_stopped 4 = .ok (.ireturn, 1) := by decide +kernel
set_option maxRecDepth 20000 in
theorem ggX2_empty_X0_has : GoodIn wsX2_empty wsX0_has := goodIn_r _ [6] (by decide +kernel) (by decide +kernel)
set_option maxRecDepth 20000 in
theorem gX2_empty_X0_has : GoodIn wsX2_empty (wsV RX2 82 RX0 yX0_has wsX0_has) := goodIn_app (goodIn_of _ (by decide +kernel)) ggX2_empty_X0_has
set_option maxRecDepth 20000 in
theorem ggX2_empty_X0_drop : GoodIn wsX2_empty wsX0_drop := goodIn_r _ [10, 11, 12, 13, 14, 5, 15, 16, 3, 4, 6, 22, 23, 24, 25] (by decide +kernel) (by decide +kernel)
set_option maxRecDepth 20000 in
theorem gX2_empty_X0_drop : GoodIn wsX2_empty (wsV RX2 103 RX0 yX0_drop wsX0_drop) := goodIn_app (goodIn_of _ (by decide +kernel)) ggX2_empty_X0_drop
theorem dX2_empty_0 : decode cX2_empty 0 = .ok (.aload_n 0, 1) := by decide +kernel
theorem dX2_empty_1 : decode cX2_empty 1 = .ok (.getfield 19, 3) := by decide +kernel
theorem dX2_empty_4 : decode cX2_empty 4 = .ok (.iload_n 1, 1) := by decide +kernel
theorem dX2_empty_5 : decode cX2_empty 5 = .ok (.invokevirtual 82, 3) := by decide +kernel
theorem dX2_empty_8 : decode cX2_empty 8 = .ok (.ifCond .eq 14, 3) := by decide +kernel
theorem dX2_empty_11 : decode cX2_empty 11 = .ok (.aload_n 0, 1) := by decide +kernel
theorem dX2_empty_12 : decode cX2_empty 12 = .ok (.getfield 19, 3) := by decide +kernel
theorem dX2_empty_15 : decode cX2_empty 15 = .ok (.iload_n 1, 1) := by decide +kernel
theorem dX2_empty_16 : decode cX2_empty 16 = .ok (.invokevirtual 103, 3) := by decide +kernel
theorem dX2_empty_19 : decode cX2_empty 19 = .ok (.goto 5, 3) := by decide +kernel
theorem dX2_empty_22 : decode cX2_empty 22 = .ok (.bipush (-3), 2) := by decide +kernel
theorem dX2_empty_24 : decode cX2_empty 24 = .ok (.ireturn, 1) := by decide +kernel
set_option maxRecDepth 20000 in
theorem ggX2_is_X1_has : GoodIn wsX2_is wsX1_has := goodIn_r _ [6, 7, 25, 26, 27, 28, 29] (by decide +kernel) (by decide +kernel)
set_option maxRecDepth 20000 in
theorem gX2_is_X1_has : GoodIn wsX2_is (wsV RX2 106 RX1 yX1_has wsX1_has) := goodIn_app (goodIn_of _ (by decide +kernel)) ggX2_is_X1_has
set_option maxRecDepth 20000 in
theorem ggX2_is_X2_isView : GoodIn wsX2_is wsX2_isView := goodIn_r _ [11] (by decide +kernel) (by decide +kernel)
set_option maxRecDepth 20000 in
theorem gX2_is_X2_isView : GoodIn wsX2_is (va_wsS RX2 107 yX2_isView wsX2_isView) := goodIn_app (goodIn_of _ (by decide +kernel)) ggX2_is_X2_isView
set_option maxRecDepth 20000 in
theorem ggX2_is_X1_isA : GoodIn wsX2_is wsX1_isA := goodIn_r _ [15, 16, 17, 3, 4, 5, 6, 7, 18, 10, 19, 25, 26, 27, 28, 29] (by decide +kernel) (by decide +kernel)
set_option maxRecDepth 20000 in
theorem gX2_is_X1_isA : GoodIn wsX2_is (wsV RX2 58 RX1 yX1_isA wsX1_isA) := goodIn_app (goodIn_of _ (by decide +kernel)) ggX2_is_X1_isA
theorem dX2_is_0 : decode cX2_is 0 = .ok (.aload_n 0, 1) := by decide +kernel
theorem dX2_is_1 : decode cX2_is 1 = .ok (.getfield 10, 3) := by decide +kernel
theorem dX2_is_4 : decode cX2_is 4 = .ok (.iload_n 1, 1) := by decide +kernel
theorem dX2_is_5 : decode cX2_is 5 = .ok (.invokevirtual 106, 3) := by decide +kernel
theorem dX2_is_8 : decode cX2_is 8 = .ok (.ifCond .eq 10, 3) := by decide +kernel
theorem dX2_is_11 : decode cX2_is 11 = .ok (.iload_n 2, 1) := by decide +kernel
theorem dX2_is_12 : decode cX2_is 12 = .ok (.invokestatic 107, 3) := by decide +kernel
theorem dX2_is_15 : decode cX2_is 15 = .ok (.ifCond .ne 6, 3) := by decide +kernel
theorem dX2_is_18 : decode cX2_is 18 = .ok (.bipush (-3), 2) := by decide +kernel
theorem dX2_is_20 : decode cX2_is 20 = .ok (.ireturn, 1) := by decide +kernel
theorem dX2_is_21 : decode cX2_is 21 = .ok (.aload_n 0, 1) := by decide +kernel
theorem dX2_is_22 : decode cX2_is 22 = .ok (.getfield 10, 3) := by decide +kernel
theorem dX2_is_25 : decode cX2_is 25 = .ok (.iload_n 1, 1) := by decide +kernel
theorem dX2_is_26 : decode cX2_is 26 = .ok (.iload_n 2, 1) := by decide +kernel
theorem dX2_is_27 : decode cX2_is 27 = .ok (.invokevirtual 58, 3) := by decide +kernel
theorem dX2_is_30 : decode cX2_is 30 = .ok (.ifCond .eq 7, 3) := by decide +kernel
theorem dX2_is_33 : decode cX2_is 33 = .ok (.iconst 1, 1) := by decide +kernel
theorem dX2_is_34 : decode cX2_is 34 = .ok (.goto 4, 3) := by decide +kernel
theorem dX2_is_37 : decode cX2_is 37 = .ok (.iconst 0, 1) := by decide +kernel
theorem dX2_is_38 : decode cX2_is 38 = .ok (.ireturn, 1) := by decide +kernel
set_option maxRecDepth 20000 in
theorem ggX2_views_X1_has : GoodIn wsX2_views wsX1_has := goodIn_r _ [6, 7, 23, 24, 25, 26, 27] (by decide +kernel) (by decide +kernel)
set_option maxRecDepth 20000 in
theorem gX2_views_X1_has : GoodIn wsX2_views (wsV RX2 106 RX1 yX1_has wsX1_has) := goodIn_app (goodIn_of _ (by decide +kernel)) ggX2_views_X1_has
set_option maxRecDepth 20000 in
theorem ggX2_views_X1_formOf : GoodIn wsX2_views wsX1_formOf := goodIn_r _ [11, 12, 13, 3, 4, 5, 6, 7, 23, 24, 25, 26, 27] (by decide +kernel) (by decide +kernel)
set_option maxRecDepth 20000 in
theorem gX2_views_X1_formOf : GoodIn wsX2_views (wsV RX2 110 RX1 yX1_formOf wsX1_formOf) := goodIn_app (goodIn_of _ (by decide +kernel)) ggX2_views_X1_formOf
set_option maxRecDepth 20000 in
theorem ggX2_views_X2_viewsOfForm : GoodIn wsX2_views wsX2_viewsOfForm := goodIn_r _ [17] (by decide +kernel) (by decide +kernel)
set_option maxRecDepth 20000 in
theorem gX2_views_X2_viewsOfForm : GoodIn wsX2_views (va_wsS RX2 113 yX2_viewsOfForm wsX2_viewsOfForm) := goodIn_app (goodIn_of _ (by decide +kernel)) ggX2_views_X2_viewsOfForm
theorem dX2_views_0 : decode cX2_views 0 = .ok (.aload_n 0, 1) := by decide +kernel
theorem dX2_views_1 : decode cX2_views 1 = .ok (.getfield 10, 3) := by decide +kernel
theorem dX2_views_4 : decode cX2_views 4 = .ok (.iload_n 1, 1) := by decide +kernel
theorem dX2_views_5 : decode cX2_views 5 = .ok (.invokevirtual 106, 3) := by decide +kernel
theorem dX2_views_8 : decode cX2_views 8 = .ok (.ifCond .eq 17, 3) := by decide +kernel
theorem dX2_views_11 : decode cX2_views 11 = .ok (.aload_n 0, 1) := by decide +kernel
theorem dX2_views_12 : decode cX2_views 12 = .ok (.getfield 10, 3) := by decide +kernel
theorem dX2_views_15 : decode cX2_views 15 = .ok (.iload_n 1, 1) := by decide +kernel
theorem dX2_views_16 : decode cX2_views 16 = .ok (.invokevirtual 110, 3) := by decide +kernel
theorem dX2_views_19 : decode cX2_views 19 = .ok (.invokestatic 113, 3) := by decide +kernel
theorem dX2_views_22 : decode cX2_views 22 = .ok (.goto 5, 3) := by decide +kernel
theorem dX2_views_25 : decode cX2_views 25 = .ok (.bipush (-3), 2) := by decide +kernel
theorem dX2_views_27 : decode cX2_views 27 = .ok (.ireturn, 1) := by decide +kernel
set_option maxRecDepth 20000 in
theorem ggX2_size_X1_has : GoodIn wsX2_size wsX1_has := goodIn_r _ [6, 7, 19, 20, 21, 22, 23] (by decide +kernel) (by decide +kernel)
set_option maxRecDepth 20000 in
theorem gX2_size_X1_has : GoodIn wsX2_size (wsV RX2 106 RX1 yX1_has wsX1_has) := goodIn_app (goodIn_of _ (by decide +kernel)) ggX2_size_X1_has
set_option maxRecDepth 20000 in
theorem ggX2_size_X1_lengthOf : GoodIn wsX2_size wsX1_lengthOf := goodIn_r _ [11, 12, 13, 3, 4, 5, 6, 7, 19, 20, 21, 22, 23] (by decide +kernel) (by decide +kernel)
set_option maxRecDepth 20000 in
theorem gX2_size_X1_lengthOf : GoodIn wsX2_size (wsV RX2 116 RX1 yX1_lengthOf wsX1_lengthOf) := goodIn_app (goodIn_of _ (by decide +kernel)) ggX2_size_X1_lengthOf
theorem dX2_size_0 : decode cX2_size 0 = .ok (.aload_n 0, 1) := by decide +kernel
theorem dX2_size_1 : decode cX2_size 1 = .ok (.getfield 10, 3) := by decide +kernel
theorem dX2_size_4 : decode cX2_size 4 = .ok (.iload_n 1, 1) := by decide +kernel
theorem dX2_size_5 : decode cX2_size 5 = .ok (.invokevirtual 106, 3) := by decide +kernel
theorem dX2_size_8 : decode cX2_size 8 = .ok (.ifCond .eq 14, 3) := by decide +kernel
theorem dX2_size_11 : decode cX2_size 11 = .ok (.aload_n 0, 1) := by decide +kernel
theorem dX2_size_12 : decode cX2_size 12 = .ok (.getfield 10, 3) := by decide +kernel
theorem dX2_size_15 : decode cX2_size 15 = .ok (.iload_n 1, 1) := by decide +kernel
theorem dX2_size_16 : decode cX2_size 16 = .ok (.invokevirtual 116, 3) := by decide +kernel
theorem dX2_size_19 : decode cX2_size 19 = .ok (.goto 5, 3) := by decide +kernel
theorem dX2_size_22 : decode cX2_size 22 = .ok (.bipush (-3), 2) := by decide +kernel
theorem dX2_size_24 : decode cX2_size 24 = .ok (.ireturn, 1) := by decide +kernel
set_option maxRecDepth 20000 in
theorem ggX2_count_X1_made : GoodIn wsX2_count wsX1_made := goodIn_r _ [8, 9, 15, 16, 17, 18, 19] (by decide +kernel) (by decide +kernel)
set_option maxRecDepth 20000 in
theorem gX2_count_X1_made : GoodIn wsX2_count (wsV RX2 117 RX1 yX1_made wsX1_made) := goodIn_app (goodIn_of _ (by decide +kernel)) ggX2_count_X1_made
theorem dX2_count_0 : decode cX2_count 0 = .ok (.iload_n 1, 1) := by decide +kernel
theorem dX2_count_1 : decode cX2_count 1 = .ok (.tableswitch 45 0 2 #[27, 35, 40], 27) := by decide +kernel
theorem dX2_count_28 : decode cX2_count 28 = .ok (.aload_n 0, 1) := by decide +kernel
theorem dX2_count_29 : decode cX2_count 29 = .ok (.getfield 10, 3) := by decide +kernel
theorem dX2_count_32 : decode cX2_count 32 = .ok (.invokevirtual 117, 3) := by decide +kernel
theorem dX2_count_35 : decode cX2_count 35 = .ok (.ireturn, 1) := by decide +kernel
theorem dX2_count_36 : decode cX2_count 36 = .ok (.aload_n 0, 1) := by decide +kernel
theorem dX2_count_37 : decode cX2_count 37 = .ok (.getfield 27, 3) := by decide +kernel
theorem dX2_count_40 : decode cX2_count 40 = .ok (.ireturn, 1) := by decide +kernel
theorem dX2_count_41 : decode cX2_count 41 = .ok (.aload_n 0, 1) := by decide +kernel
theorem dX2_count_42 : decode cX2_count 42 = .ok (.getfield 30, 3) := by decide +kernel
theorem dX2_count_45 : decode cX2_count 45 = .ok (.ireturn, 1) := by decide +kernel
theorem dX2_count_46 : decode cX2_count 46 = .ok (.bipush (-3), 2) := by decide +kernel
theorem dX2_count_48 : decode cX2_count 48 = .ok (.ireturn, 1) := by decide +kernel
set_option maxRecDepth 20000 in
theorem ggX2_clear_X0_dropAll : GoodIn wsX2_clear wsX0_dropAll := goodIn_r _ [7, 8, 20, 21, 22, 23] (by decide +kernel) (by decide +kernel)
set_option maxRecDepth 20000 in
theorem gX2_clear_X0_dropAll : GoodIn wsX2_clear (wsV RX2 121 RX0 yX0_dropAll wsX0_dropAll) := goodIn_app (goodIn_of _ (by decide +kernel)) ggX2_clear_X0_dropAll
set_option maxRecDepth 20000 in
theorem ggX2_clear_X1_forgetAll : GoodIn wsX2_clear wsX1_forgetAll := goodIn_r _ [13, 14, 24, 25, 26, 27, 28] (by decide +kernel) (by decide +kernel)
set_option maxRecDepth 20000 in
theorem gX2_clear_X1_forgetAll : GoodIn wsX2_clear (wsV RX2 124 RX1 yX1_forgetAll wsX1_forgetAll) := goodIn_app (goodIn_of _ (by decide +kernel)) ggX2_clear_X1_forgetAll
theorem dX2_clear_0 : decode cX2_clear 0 = .ok (.aload_n 0, 1) := by decide +kernel
theorem dX2_clear_1 : decode cX2_clear 1 = .ok (.getfield 19, 3) := by decide +kernel
theorem dX2_clear_4 : decode cX2_clear 4 = .ok (.invokevirtual 121, 3) := by decide +kernel
theorem dX2_clear_7 : decode cX2_clear 7 = .ok (.aload_n 0, 1) := by decide +kernel
theorem dX2_clear_8 : decode cX2_clear 8 = .ok (.getfield 10, 3) := by decide +kernel
theorem dX2_clear_11 : decode cX2_clear 11 = .ok (.invokevirtual 124, 3) := by decide +kernel
theorem dX2_clear_14 : decode cX2_clear 14 = .ok (.ireturn, 1) := by decide +kernel
theorem dX2_isLength_0 : decode cX2_isLength 0 = .ok (.iload_n 0, 1) := by decide +kernel
theorem dX2_isLength_1 : decode cX2_isLength 1 = .ok (.ifCond .lt 13, 3) := by decide +kernel
theorem dX2_isLength_4 : decode cX2_isLength 4 = .ok (.iload_n 0, 1) := by decide +kernel
theorem dX2_isLength_5 : decode cX2_isLength 5 = .ok (.bipush 8, 2) := by decide +kernel
theorem dX2_isLength_7 : decode cX2_isLength 7 = .ok (.if_icmp .gt 7, 3) := by decide +kernel
theorem dX2_isLength_10 : decode cX2_isLength 10 = .ok (.iconst 1, 1) := by decide +kernel
theorem dX2_isLength_11 : decode cX2_isLength 11 = .ok (.goto 4, 3) := by decide +kernel
theorem dX2_isLength_14 : decode cX2_isLength 14 = .ok (.iconst 0, 1) := by decide +kernel
theorem dX2_isLength_15 : decode cX2_isLength 15 = .ok (.ireturn, 1) := by decide +kernel
theorem dX2_isAct_0 : decode cX2_isAct 0 = .ok (.iload_n 0, 1) := by decide +kernel
theorem dX2_isAct_1 : decode cX2_isAct 1 = .ok (.ifCond .lt 13, 3) := by decide +kernel
theorem dX2_isAct_4 : decode cX2_isAct 4 = .ok (.iload_n 0, 1) := by decide +kernel
theorem dX2_isAct_5 : decode cX2_isAct 5 = .ok (.bipush 12, 2) := by decide +kernel
theorem dX2_isAct_7 : decode cX2_isAct 7 = .ok (.if_icmp .gt 7, 3) := by decide +kernel
theorem dX2_isAct_10 : decode cX2_isAct 10 = .ok (.iconst 1, 1) := by decide +kernel
theorem dX2_isAct_11 : decode cX2_isAct 11 = .ok (.goto 4, 3) := by decide +kernel
theorem dX2_isAct_14 : decode cX2_isAct 14 = .ok (.iconst 0, 1) := by decide +kernel
theorem dX2_isAct_15 : decode cX2_isAct 15 = .ok (.ireturn, 1) := by decide +kernel
theorem dX2_isView_0 : decode cX2_isView 0 = .ok (.iload_n 0, 1) := by decide +kernel
theorem dX2_isView_1 : decode cX2_isView 1 = .ok (.ifCond .lt 13, 3) := by decide +kernel
theorem dX2_isView_4 : decode cX2_isView 4 = .ok (.iload_n 0, 1) := by decide +kernel
theorem dX2_isView_5 : decode cX2_isView 5 = .ok (.bipush 11, 2) := by decide +kernel
theorem dX2_isView_7 : decode cX2_isView 7 = .ok (.if_icmp .gt 7, 3) := by decide +kernel
theorem dX2_isView_10 : decode cX2_isView 10 = .ok (.iconst 1, 1) := by decide +kernel
theorem dX2_isView_11 : decode cX2_isView 11 = .ok (.goto 4, 3) := by decide +kernel
theorem dX2_isView_14 : decode cX2_isView 14 = .ok (.iconst 0, 1) := by decide +kernel
theorem dX2_isView_15 : decode cX2_isView 15 = .ok (.ireturn, 1) := by decide +kernel
theorem dX2_isBoardForm_0 : decode cX2_isBoardForm 0 = .ok (.iload_n 0, 1) := by decide +kernel
theorem dX2_isBoardForm_1 : decode cX2_isBoardForm 1 = .ok (.iconst 3, 1) := by decide +kernel
theorem dX2_isBoardForm_2 : decode cX2_isBoardForm 2 = .ok (.if_icmp .eq 15, 3) := by decide +kernel
theorem dX2_isBoardForm_5 : decode cX2_isBoardForm 5 = .ok (.iload_n 0, 1) := by decide +kernel
theorem dX2_isBoardForm_6 : decode cX2_isBoardForm 6 = .ok (.bipush 6, 2) := by decide +kernel
theorem dX2_isBoardForm_8 : decode cX2_isBoardForm 8 = .ok (.if_icmp .lt 13, 3) := by decide +kernel
theorem dX2_isBoardForm_11 : decode cX2_isBoardForm 11 = .ok (.iload_n 0, 1) := by decide +kernel
theorem dX2_isBoardForm_12 : decode cX2_isBoardForm 12 = .ok (.bipush 10, 2) := by decide +kernel
theorem dX2_isBoardForm_14 : decode cX2_isBoardForm 14 = .ok (.if_icmp .gt 7, 3) := by decide +kernel
theorem dX2_isBoardForm_17 : decode cX2_isBoardForm 17 = .ok (.iconst 1, 1) := by decide +kernel
theorem dX2_isBoardForm_18 : decode cX2_isBoardForm 18 = .ok (.goto 4, 3) := by decide +kernel
theorem dX2_isBoardForm_21 : decode cX2_isBoardForm 21 = .ok (.iconst 0, 1) := by decide +kernel
theorem dX2_isBoardForm_22 : decode cX2_isBoardForm 22 = .ok (.ireturn, 1) := by decide +kernel
set_option maxRecDepth 20000 in
theorem ggX2_isValueOrNone_X1_has : GoodIn wsX2_isValueOrNone wsX1_has := goodIn_r _ [6, 7, 13, 14, 15, 16, 17] (by decide +kernel) (by decide +kernel)
set_option maxRecDepth 20000 in
theorem gX2_isValueOrNone_X1_has : GoodIn wsX2_isValueOrNone (wsV RX2 106 RX1 yX1_has wsX1_has) := goodIn_app (goodIn_of _ (by decide +kernel)) ggX2_isValueOrNone_X1_has
theorem dX2_isValueOrNone_0 : decode cX2_isValueOrNone 0 = .ok (.iload_n 1, 1) := by decide +kernel
theorem dX2_isValueOrNone_1 : decode cX2_isValueOrNone 1 = .ok (.iconst (-1), 1) := by decide +kernel
theorem dX2_isValueOrNone_2 : decode cX2_isValueOrNone 2 = .ok (.if_icmp .eq 14, 3) := by decide +kernel
theorem dX2_isValueOrNone_5 : decode cX2_isValueOrNone 5 = .ok (.aload_n 0, 1) := by decide +kernel
theorem dX2_isValueOrNone_6 : decode cX2_isValueOrNone 6 = .ok (.getfield 10, 3) := by decide +kernel
theorem dX2_isValueOrNone_9 : decode cX2_isValueOrNone 9 = .ok (.iload_n 1, 1) := by decide +kernel
theorem dX2_isValueOrNone_10 : decode cX2_isValueOrNone 10 = .ok (.invokevirtual 106, 3) := by decide +kernel
theorem dX2_isValueOrNone_13 : decode cX2_isValueOrNone 13 = .ok (.ifCond .eq 7, 3) := by decide +kernel
theorem dX2_isValueOrNone_16 : decode cX2_isValueOrNone 16 = .ok (.iconst 1, 1) := by decide +kernel
theorem dX2_isValueOrNone_17 : decode cX2_isValueOrNone 17 = .ok (.goto 4, 3) := by decide +kernel
theorem dX2_isValueOrNone_20 : decode cX2_isValueOrNone 20 = .ok (.iconst 0, 1) := by decide +kernel
theorem dX2_isValueOrNone_21 : decode cX2_isValueOrNone 21 = .ok (.ireturn, 1) := by decide +kernel
theorem dX2_viewsOfForm_0 : decode cX2_viewsOfForm 0 = .ok (.iload_n 0, 1) := by decide +kernel
theorem dX2_viewsOfForm_1 : decode cX2_viewsOfForm 1 = .ok (.lookupswitch 47 #[(5, 35), (7, 39), (10, 43)], 35) := by decide +kernel
theorem dX2_viewsOfForm_36 : decode cX2_viewsOfForm 36 = .ok (.sipush 2096, 3) := by decide +kernel
theorem dX2_viewsOfForm_39 : decode cX2_viewsOfForm 39 = .ok (.ireturn, 1) := by decide +kernel
theorem dX2_viewsOfForm_40 : decode cX2_viewsOfForm 40 = .ok (.sipush 448, 3) := by decide +kernel
theorem dX2_viewsOfForm_43 : decode cX2_viewsOfForm 43 = .ok (.ireturn, 1) := by decide +kernel
theorem dX2_viewsOfForm_44 : decode cX2_viewsOfForm 44 = .ok (.sipush 1536, 3) := by decide +kernel
theorem dX2_viewsOfForm_47 : decode cX2_viewsOfForm 47 = .ok (.ireturn, 1) := by decide +kernel
theorem dX2_viewsOfForm_48 : decode cX2_viewsOfForm 48 = .ok (.iconst 1, 1) := by decide +kernel
theorem dX2_viewsOfForm_49 : decode cX2_viewsOfForm 49 = .ok (.iload_n 0, 1) := by decide +kernel
theorem dX2_viewsOfForm_50 : decode cX2_viewsOfForm 50 = .ok (.ishl, 1) := by decide +kernel
theorem dX2_viewsOfForm_51 : decode cX2_viewsOfForm 51 = .ok (.ireturn, 1) := by decide +kernel
theorem dX2_takenBy_0 : decode cX2_takenBy 0 = .ok (.iload_n 0, 1) := by decide +kernel
theorem dX2_takenBy_1 : decode cX2_takenBy 1 = .ok (.tableswitch 60 3 10 #[47, 60, 60, 60, 49, 51, 54, 57], 47) := by decide +kernel
theorem dX2_takenBy_48 : decode cX2_takenBy 48 = .ok (.iconst 1, 1) := by decide +kernel
theorem dX2_takenBy_49 : decode cX2_takenBy 49 = .ok (.ireturn, 1) := by decide +kernel
theorem dX2_takenBy_50 : decode cX2_takenBy 50 = .ok (.iconst 5, 1) := by decide +kernel
theorem dX2_takenBy_51 : decode cX2_takenBy 51 = .ok (.ireturn, 1) := by decide +kernel
theorem dX2_takenBy_52 : decode cX2_takenBy 52 = .ok (.bipush 11, 2) := by decide +kernel
theorem dX2_takenBy_54 : decode cX2_takenBy 54 = .ok (.ireturn, 1) := by decide +kernel
theorem dX2_takenBy_55 : decode cX2_takenBy 55 = .ok (.bipush 6, 2) := by decide +kernel
theorem dX2_takenBy_57 : decode cX2_takenBy 57 = .ok (.ireturn, 1) := by decide +kernel
theorem dX2_takenBy_58 : decode cX2_takenBy 58 = .ok (.bipush 7, 2) := by decide +kernel
theorem dX2_takenBy_60 : decode cX2_takenBy 60 = .ok (.ireturn, 1) := by decide +kernel
theorem dX2_takenBy_61 : decode cX2_takenBy 61 = .ok (.iconst 4, 1) := by decide +kernel
theorem dX2_takenBy_62 : decode cX2_takenBy 62 = .ok (.ireturn, 1) := by decide +kernel
theorem dX2_fault_0 : decode cX2_fault 0 = .ok (.bipush (-10), 2) := by decide +kernel
theorem dX2_fault_2 : decode cX2_fault 2 = .ok (.iload_n 0, 1) := by decide +kernel
theorem dX2_fault_3 : decode cX2_fault 3 = .ok (.isub, 1) := by decide +kernel
theorem dX2_fault_4 : decode cX2_fault 4 = .ok (.ireturn, 1) := by decide +kernel
theorem dX2_isFault_0 : decode cX2_isFault 0 = .ok (.iload_n 0, 1) := by decide +kernel
theorem dX2_isFault_1 : decode cX2_isFault 1 = .ok (.bipush (-10), 2) := by decide +kernel
theorem dX2_isFault_3 : decode cX2_isFault 3 = .ok (.if_icmp .ge 7, 3) := by decide +kernel
theorem dX2_isFault_6 : decode cX2_isFault 6 = .ok (.iconst 1, 1) := by decide +kernel
theorem dX2_isFault_7 : decode cX2_isFault 7 = .ok (.goto 4, 3) := by decide +kernel
theorem dX2_isFault_10 : decode cX2_isFault 10 = .ok (.iconst 0, 1) := by decide +kernel
theorem dX2_isFault_11 : decode cX2_isFault 11 = .ok (.ireturn, 1) := by decide +kernel
set_option maxRecDepth 20000 in
theorem ggX2_noted_X2_isFault : GoodIn wsX2_noted wsX2_isFault := goodIn_r _ [6] (by decide +kernel) (by decide +kernel)
set_option maxRecDepth 20000 in
theorem gX2_noted_X2_isFault : GoodIn wsX2_noted (va_wsS RX2 100 yX2_isFault wsX2_isFault) := goodIn_app (goodIn_of _ (by decide +kernel)) ggX2_noted_X2_isFault
theorem dX2_noted_0 : decode cX2_noted 0 = .ok (.iload_n 1, 1) := by decide +kernel
theorem dX2_noted_1 : decode cX2_noted 1 = .ok (.invokestatic 100, 3) := by decide +kernel
theorem dX2_noted_4 : decode cX2_noted 4 = .ok (.ifCond .eq 21, 3) := by decide +kernel
theorem dX2_noted_7 : decode cX2_noted 7 = .ok (.aload_n 0, 1) := by decide +kernel
theorem dX2_noted_8 : decode cX2_noted 8 = .ok (.dup, 1) := by decide +kernel
theorem dX2_noted_9 : decode cX2_noted 9 = .ok (.getfield 27, 3) := by decide +kernel
theorem dX2_noted_12 : decode cX2_noted 12 = .ok (.iconst 1, 1) := by decide +kernel
theorem dX2_noted_13 : decode cX2_noted 13 = .ok (.iadd, 1) := by decide +kernel
theorem dX2_noted_14 : decode cX2_noted 14 = .ok (.putfield 27, 3) := by decide +kernel
theorem dX2_noted_17 : decode cX2_noted 17 = .ok (.aload_n 0, 1) := by decide +kernel
theorem dX2_noted_18 : decode cX2_noted 18 = .ok (.bipush (-10), 2) := by decide +kernel
theorem dX2_noted_20 : decode cX2_noted 20 = .ok (.iload_n 1, 1) := by decide +kernel
theorem dX2_noted_21 : decode cX2_noted 21 = .ok (.isub, 1) := by decide +kernel
theorem dX2_noted_22 : decode cX2_noted 22 = .ok (.putfield 30, 3) := by decide +kernel
theorem dX2_noted_25 : decode cX2_noted 25 = .ok (.iload_n 1, 1) := by decide +kernel
theorem dX2_noted_26 : decode cX2_noted 26 = .ok (.ireturn, 1) := by decide +kernel
set_option maxRecDepth 20000 in
theorem ggX2_makes_X1_isA : GoodIn wsX2_makes wsX1_isA := goodIn_r _ [6, 7, 8, 9, 10, 5, 11, 12, 13, 14, 15, 26, 27, 28, 29, 30] (by decide +kernel) (by decide +kernel)
set_option maxRecDepth 20000 in
theorem gX2_makes_X1_isA : GoodIn wsX2_makes (wsV RX2 58 RX1 yX1_isA wsX1_isA) := goodIn_app (goodIn_of _ (by decide +kernel)) ggX2_makes_X1_isA
set_option maxRecDepth 20000 in
theorem ggX2_makes_X1_lengthOf : GoodIn wsX2_makes wsX1_lengthOf := goodIn_r _ [19, 20, 8, 9, 10, 5, 11, 12, 26, 27, 28, 29, 30] (by decide +kernel) (by decide +kernel)
set_option maxRecDepth 20000 in
theorem gX2_makes_X1_lengthOf : GoodIn wsX2_makes (wsV RX2 116 RX1 yX1_lengthOf wsX1_lengthOf) := goodIn_app (goodIn_of _ (by decide +kernel)) ggX2_makes_X1_lengthOf
theorem dX2_makes_0 : decode cX2_makes 0 = .ok (.iload_n 1, 1) := by decide +kernel
theorem dX2_makes_1 : decode cX2_makes 1 = .ok (.tableswitch 84 3 12 #[55, 55, 84, 57, 84, 84, 84, 84, 84, 55], 55) := by decide +kernel
theorem dX2_makes_56 : decode cX2_makes 56 = .ok (.iconst 0, 1) := by decide +kernel
theorem dX2_makes_57 : decode cX2_makes 57 = .ok (.ireturn, 1) := by decide +kernel
theorem dX2_makes_58 : decode cX2_makes 58 = .ok (.aload_n 0, 1) := by decide +kernel
theorem dX2_makes_59 : decode cX2_makes 59 = .ok (.getfield 10, 3) := by decide +kernel
theorem dX2_makes_62 : decode cX2_makes 62 = .ok (.iload_n 2, 1) := by decide +kernel
theorem dX2_makes_63 : decode cX2_makes 63 = .ok (.iconst 1, 1) := by decide +kernel
theorem dX2_makes_64 : decode cX2_makes 64 = .ok (.invokevirtual 58, 3) := by decide +kernel
theorem dX2_makes_67 : decode cX2_makes 67 = .ok (.ifCond .eq 16, 3) := by decide +kernel
theorem dX2_makes_70 : decode cX2_makes 70 = .ok (.iconst 1, 1) := by decide +kernel
theorem dX2_makes_71 : decode cX2_makes 71 = .ok (.aload_n 0, 1) := by decide +kernel
theorem dX2_makes_72 : decode cX2_makes 72 = .ok (.getfield 10, 3) := by decide +kernel
theorem dX2_makes_75 : decode cX2_makes 75 = .ok (.iload_n 2, 1) := by decide +kernel
theorem dX2_makes_76 : decode cX2_makes 76 = .ok (.invokevirtual 116, 3) := by decide +kernel
theorem dX2_makes_79 : decode cX2_makes 79 = .ok (.iadd, 1) := by decide +kernel
theorem dX2_makes_80 : decode cX2_makes 80 = .ok (.goto 4, 3) := by decide +kernel
theorem dX2_makes_83 : decode cX2_makes 83 = .ok (.iconst 1, 1) := by decide +kernel
theorem dX2_makes_84 : decode cX2_makes 84 = .ok (.ireturn, 1) := by decide +kernel
theorem dX2_makes_85 : decode cX2_makes 85 = .ok (.iconst 1, 1) := by decide +kernel
theorem dX2_makes_86 : decode cX2_makes 86 = .ok (.ireturn, 1) := by decide +kernel
set_option maxRecDepth 20000 in
theorem ggX2_answerOf_X1_made : GoodIn wsX2_answerOf wsX1_made := goodIn_r _ [6, 7, 181, 182, 183, 184, 185] (by decide +kernel) (by decide +kernel)
set_option maxRecDepth 20000 in
theorem gX2_answerOf_X1_made : GoodIn wsX2_answerOf (wsV RX2 117 RX1 yX1_made wsX1_made) := goodIn_app (goodIn_of _ (by decide +kernel)) ggX2_answerOf_X1_made
set_option maxRecDepth 20000 in
theorem ggX2_answerOf_X2_makes : GoodIn wsX2_answerOf wsX2_makes := goodIn_r _ [12, 1, 13, 14, 15, 5, 16, 17, 18, 19, 20, 21, 7, 22, 11, 23, 24, 25, 26, 27, 28, 176, 177, 178, 179, 180, 181, 182, 183, 184, 185] (by decide +kernel) (by decide +kernel)
set_option maxRecDepth 20000 in
theorem gX2_answerOf_X2_makes : GoodIn wsX2_answerOf (wsV RX2 127 RX2 yX2_makes wsX2_makes) := goodIn_app (goodIn_of _ (by decide +kernel)) ggX2_answerOf_X2_makes
set_option maxRecDepth 20000 in
theorem ggX2_answerOf_X2_fault : GoodIn wsX2_answerOf wsX2_fault := goodIn_r _ [31] (by decide +kernel) (by decide +kernel)
set_option maxRecDepth 20000 in
theorem gX2_answerOf_X2_fault : GoodIn wsX2_answerOf (va_wsS RX2 130 yX2_fault wsX2_fault) := goodIn_app (goodIn_of _ (by decide +kernel)) ggX2_answerOf_X2_fault
set_option maxRecDepth 20000 in
theorem ggX2_answerOf_X2_sum : GoodIn wsX2_answerOf wsX2_sum := goodIn_r _ [35, 1, 29, 30, 11, 31, 36, 37, 38, 5, 39, 17, 18, 19, 20, 21, 7, 40, 41, 42, 43, 24, 25, 26, 27, 28, 44, 45, 46, 47, 48, 49, 50, 51, 52, 53, 54, 55, 56, 57, 58, 59, 60, 61, 62, 63, 64, 65, 66, 67, 68, 69, 70, 71, 72, 13, 14, 15, 16, 22, 23, 73, 74, 75, 76, 77, 78, 176, 177, 178, 179, 180, 181, 182, 183, 184, 185] (by decide +kernel) (by decide +kernel)
set_option maxRecDepth 20000 in
theorem gX2_answerOf_X2_sum : GoodIn wsX2_answerOf (wsV RX2 133 RX2 yX2_sum wsX2_sum) := goodIn_app (goodIn_of _ (by decide +kernel)) ggX2_answerOf_X2_sum
set_option maxRecDepth 20000 in
theorem ggX2_answerOf_X2_widen : GoodIn wsX2_answerOf wsX2_widen := goodIn_r _ [82, 1, 29, 30, 11, 31, 13, 14, 15, 5, 16, 17, 18, 19, 20, 21, 7, 22, 23, 83, 84, 85, 86, 87, 25, 26, 27, 28, 57, 58, 59, 60, 61, 48, 62, 63, 64, 65, 88, 89, 90, 91, 92, 45, 46, 47, 49, 50, 51, 52, 66, 67, 68, 69, 70, 71, 72, 176, 177, 178, 179, 180, 181, 182, 183, 184, 185] (by decide +kernel) (by decide +kernel)
set_option maxRecDepth 20000 in
theorem gX2_answerOf_X2_widen : GoodIn wsX2_answerOf (wsV RX2 136 RX2 yX2_widen wsX2_widen) := goodIn_app (goodIn_of _ (by decide +kernel)) ggX2_answerOf_X2_widen
set_option maxRecDepth 20000 in
theorem ggX2_answerOf_X2_narrow : GoodIn wsX2_answerOf wsX2_narrow := goodIn_r _ [96, 1, 29, 30, 11, 31, 13, 14, 15, 5, 16, 17, 18, 19, 20, 21, 7, 22, 23, 83, 84, 85, 86, 87, 25, 26, 27, 28, 57, 58, 59, 60, 61, 48, 62, 63, 64, 65, 88, 89, 90, 91, 92, 45, 46, 47, 49, 50, 51, 52, 66, 67, 68, 69, 70, 71, 72, 176, 177, 178, 179, 180, 181, 182, 183, 184, 185] (by decide +kernel) (by decide +kernel)
set_option maxRecDepth 20000 in
theorem gX2_answerOf_X2_narrow : GoodIn wsX2_answerOf (wsV RX2 139 RX2 yX2_narrow wsX2_narrow) := goodIn_app (goodIn_of _ (by decide +kernel)) ggX2_answerOf_X2_narrow
set_option maxRecDepth 20000 in
theorem ggX2_answerOf_X2_tap : GoodIn wsX2_answerOf wsX2_tap := goodIn_r _ [100, 1, 29, 30, 11, 31, 101, 102, 103, 5, 104, 17, 18, 19, 20, 21, 7, 105, 64, 65, 106, 50, 51, 52, 28, 74, 75, 76, 77, 48, 49, 176, 177, 178, 179, 180, 181, 182, 183, 184, 185] (by decide +kernel) (by decide +kernel)
set_option maxRecDepth 20000 in
theorem gX2_answerOf_X2_tap : GoodIn wsX2_answerOf (wsV RX2 142 RX2 yX2_tap wsX2_tap) := goodIn_app (goodIn_of _ (by decide +kernel)) ggX2_answerOf_X2_tap
set_option maxRecDepth 20000 in
theorem ggX2_answerOf_X2_lay : GoodIn wsX2_answerOf wsX2_lay := goodIn_r _ [110, 1, 111, 112, 113, 11, 114, 13, 14, 15, 5, 16, 17, 18, 19, 20, 21, 7, 22, 23, 115, 116, 117, 118, 29, 30, 31, 101, 102, 103, 104, 105, 64, 65, 106, 50, 51, 52, 28, 119, 120, 121, 78, 67, 68, 69, 48, 49, 70, 71, 72, 176, 177, 178, 179, 180, 181, 182, 183, 184, 185] (by decide +kernel) (by decide +kernel)
set_option maxRecDepth 20000 in
theorem gX2_answerOf_X2_lay : GoodIn wsX2_answerOf (wsV RX2 145 RX2 yX2_lay wsX2_lay) := goodIn_app (goodIn_of _ (by decide +kernel)) ggX2_answerOf_X2_lay
set_option maxRecDepth 20000 in
theorem ggX2_answerOf_X2_levels : GoodIn wsX2_answerOf wsX2_levels := goodIn_r _ [125, 1, 29, 30, 11, 31, 13, 14, 15, 5, 16, 17, 18, 19, 20, 21, 7, 22, 23, 126, 127, 128, 129, 24, 25, 26, 27, 28, 73, 58, 59, 60, 61, 48, 62, 63, 64, 65, 74, 75, 76, 77, 49, 50, 51, 52, 130, 131, 132, 133, 78, 67, 68, 69, 70, 71, 72, 176, 177, 178, 179, 180, 181, 182, 183, 184, 185] (by decide +kernel) (by decide +kernel)
set_option maxRecDepth 20000 in
theorem gX2_answerOf_X2_levels : GoodIn wsX2_answerOf (wsV RX2 149 RX2 yX2_levels wsX2_levels) := goodIn_app (goodIn_of _ (by decide +kernel)) ggX2_answerOf_X2_levels
set_option maxRecDepth 20000 in
theorem ggX2_answerOf_X2_drive : GoodIn wsX2_answerOf wsX2_drive := goodIn_r _ [137, 1, 29, 30, 11, 31, 13, 14, 15, 5, 16, 17, 18, 19, 20, 21, 7, 22, 23, 24, 25, 26, 27, 28, 2, 3, 4, 6, 44, 45, 46, 47, 48, 49, 50, 51, 52, 138, 139, 140, 141, 61, 57, 58, 59, 60, 62, 63, 64, 65, 73, 78, 67, 68, 69, 70, 71, 72, 176, 177, 178, 179, 180, 181, 182, 183, 184, 185] (by decide +kernel) (by decide +kernel)
set_option maxRecDepth 20000 in
theorem gX2_answerOf_X2_drive : GoodIn wsX2_answerOf (wsV RX2 152 RX2 yX2_drive wsX2_drive) := goodIn_app (goodIn_of _ (by decide +kernel)) ggX2_answerOf_X2_drive
set_option maxRecDepth 20000 in
theorem ggX2_answerOf_X2_pair : GoodIn wsX2_answerOf wsX2_pair := goodIn_r _ [145, 1, 115, 116, 117, 11, 118, 13, 14, 15, 5, 16, 17, 18, 19, 20, 21, 7, 22, 23, 29, 30, 31, 73, 58, 59, 60, 28, 61, 48, 62, 63, 64, 65, 78, 67, 68, 69, 49, 50, 51, 52, 70, 71, 72, 176, 177, 178, 179, 180, 181, 182, 183, 184, 185] (by decide +kernel) (by decide +kernel)
set_option maxRecDepth 20000 in
theorem gX2_answerOf_X2_pair : GoodIn wsX2_answerOf (wsV RX2 156 RX2 yX2_pair wsX2_pair) := goodIn_app (goodIn_of _ (by decide +kernel)) ggX2_answerOf_X2_pair
set_option maxRecDepth 20000 in
theorem ggX2_answerOf_X2_power : GoodIn wsX2_answerOf wsX2_power := goodIn_r _ [149, 1, 150, 29, 30, 11, 31, 13, 14, 15, 5, 16, 17, 18, 19, 20, 21, 7, 22, 23, 130, 131, 132, 133, 61, 53, 54, 55, 56, 57, 58, 59, 60, 28, 48, 62, 63, 64, 65, 66, 67, 68, 69, 49, 50, 51, 52, 70, 71, 72, 126, 127, 128, 129, 24, 25, 26, 27, 73, 74, 75, 76, 77, 78, 176, 177, 178, 179, 180, 181, 182, 183, 184, 185] (by decide +kernel) (by decide +kernel)
set_option maxRecDepth 20000 in
theorem gX2_answerOf_X2_power : GoodIn wsX2_answerOf (wsV RX2 160 RX2 yX2_power wsX2_power) := goodIn_app (goodIn_of _ (by decide +kernel)) ggX2_answerOf_X2_power
set_option maxRecDepth 20000 in
theorem ggX2_answerOf_X2_join : GoodIn wsX2_answerOf wsX2_join := goodIn_r _ [154, 1, 36, 37, 38, 5, 39, 17, 18, 19, 20, 21, 7, 101, 102, 103, 104, 115, 116, 117, 11, 118, 13, 14, 15, 16, 22, 23, 29, 30, 31, 24, 25, 26, 27, 28, 155, 156, 157, 158, 74, 75, 76, 77, 48, 49, 50, 51, 52, 73, 58, 59, 60, 61, 62, 63, 64, 65, 159, 89, 90, 91, 87, 92, 45, 46, 47, 66, 67, 68, 69, 70, 71, 72, 176, 177, 178, 179, 180, 181, 182, 183, 184, 185] (by decide +kernel) (by decide +kernel)
set_option maxRecDepth 20000 in
theorem gX2_answerOf_X2_join : GoodIn wsX2_answerOf (wsV RX2 163 RX2 yX2_join wsX2_join) := goodIn_app (goodIn_of _ (by decide +kernel)) ggX2_answerOf_X2_join
set_option maxRecDepth 20000 in
theorem ggX2_answerOf_X2_copy : GoodIn wsX2_answerOf wsX2_copy := goodIn_r _ [163, 1, 29, 30, 11, 31, 13, 14, 15, 5, 16, 17, 18, 19, 20, 21, 7, 22, 23, 101, 102, 103, 104, 83, 84, 85, 86, 87, 25, 26, 27, 28, 57, 58, 59, 60, 61, 48, 62, 63, 64, 65, 88, 89, 90, 91, 92, 45, 46, 47, 49, 50, 51, 52, 66, 67, 68, 69, 70, 71, 72, 176, 177, 178, 179, 180, 181, 182, 183, 184, 185] (by decide +kernel) (by decide +kernel)
set_option maxRecDepth 20000 in
theorem gX2_answerOf_X2_copy : GoodIn wsX2_answerOf (wsV RX2 166 RX2 yX2_copy wsX2_copy) := goodIn_app (goodIn_of _ (by decide +kernel)) ggX2_answerOf_X2_copy
set_option maxRecDepth 20000 in
theorem ggX2_answerOf_X2_makeCable : GoodIn wsX2_answerOf wsX2_makeCable := goodIn_r _ [167, 1, 168, 62, 11, 63, 73, 58, 59, 5, 60, 7, 17, 28, 61, 48, 64, 65, 29, 30, 31, 176, 177, 178, 179, 180, 181, 182, 183, 184, 185] (by decide +kernel) (by decide +kernel)
set_option maxRecDepth 20000 in
theorem gX2_answerOf_X2_makeCable : GoodIn wsX2_answerOf (wsV RX2 169 RX2 yX2_makeCable wsX2_makeCable) := goodIn_app (goodIn_of _ (by decide +kernel)) ggX2_answerOf_X2_makeCable
set_option maxRecDepth 20000 in
theorem ggX2_answerOf_X2_check : GoodIn wsX2_answerOf wsX2_check := goodIn_r _ [172, 173, 174, 11, 175, 115, 116, 117, 118, 1, 13, 14, 15, 5, 16, 17, 18, 19, 20, 21, 7, 22, 23, 29, 30, 31, 176, 177, 178, 179, 180, 181, 182, 183, 184, 185] (by decide +kernel) (by decide +kernel)
set_option maxRecDepth 20000 in
theorem gX2_answerOf_X2_check : GoodIn wsX2_answerOf (wsV RX2 172 RX2 yX2_check wsX2_check) := goodIn_app (goodIn_of _ (by decide +kernel)) ggX2_answerOf_X2_check
theorem dX2_answerOf_0 : decode cX2_answerOf 0 = .ok (.aload_n 0, 1) := by decide +kernel
theorem dX2_answerOf_1 : decode cX2_answerOf 1 = .ok (.getfield 10, 3) := by decide +kernel
theorem dX2_answerOf_4 : decode cX2_answerOf 4 = .ok (.invokevirtual 117, 3) := by decide +kernel
theorem dX2_answerOf_7 : decode cX2_answerOf 7 = .ok (.aload_n 0, 1) := by decide +kernel
theorem dX2_answerOf_8 : decode cX2_answerOf 8 = .ok (.iload_n 1, 1) := by decide +kernel
theorem dX2_answerOf_9 : decode cX2_answerOf 9 = .ok (.iload_n 2, 1) := by decide +kernel
theorem dX2_answerOf_10 : decode cX2_answerOf 10 = .ok (.invokevirtual 127, 3) := by decide +kernel
theorem dX2_answerOf_13 : decode cX2_answerOf 13 = .ok (.iadd, 1) := by decide +kernel
theorem dX2_answerOf_14 : decode cX2_answerOf 14 = .ok (.bipush 60, 2) := by decide +kernel
theorem dX2_answerOf_16 : decode cX2_answerOf 16 = .ok (.if_icmp .le 9, 3) := by decide +kernel
theorem dX2_answerOf_19 : decode cX2_answerOf 19 = .ok (.bipush 6, 2) := by decide +kernel
theorem dX2_answerOf_21 : decode cX2_answerOf 21 = .ok (.invokestatic 130, 3) := by decide +kernel
theorem dX2_answerOf_24 : decode cX2_answerOf 24 = .ok (.ireturn, 1) := by decide +kernel
theorem dX2_answerOf_25 : decode cX2_answerOf 25 = .ok (.iload_n 1, 1) := by decide +kernel
theorem dX2_answerOf_26 : decode cX2_answerOf 26 = .ok (.tableswitch 162 0 11 #[62, 68, 74, 80, 88, 97, 103, 119, 136, 142, 149, 155], 62) := by decide +kernel
theorem dX2_answerOf_88 : decode cX2_answerOf 88 = .ok (.aload_n 0, 1) := by decide +kernel
theorem dX2_answerOf_89 : decode cX2_answerOf 89 = .ok (.iload_n 2, 1) := by decide +kernel
theorem dX2_answerOf_90 : decode cX2_answerOf 90 = .ok (.invokevirtual 133, 3) := by decide +kernel
theorem dX2_answerOf_93 : decode cX2_answerOf 93 = .ok (.ireturn, 1) := by decide +kernel
theorem dX2_answerOf_94 : decode cX2_answerOf 94 = .ok (.aload_n 0, 1) := by decide +kernel
theorem dX2_answerOf_95 : decode cX2_answerOf 95 = .ok (.iload_n 2, 1) := by decide +kernel
theorem dX2_answerOf_96 : decode cX2_answerOf 96 = .ok (.invokevirtual 136, 3) := by decide +kernel
theorem dX2_answerOf_99 : decode cX2_answerOf 99 = .ok (.ireturn, 1) := by decide +kernel
theorem dX2_answerOf_100 : decode cX2_answerOf 100 = .ok (.aload_n 0, 1) := by decide +kernel
theorem dX2_answerOf_101 : decode cX2_answerOf 101 = .ok (.iload_n 2, 1) := by decide +kernel
theorem dX2_answerOf_102 : decode cX2_answerOf 102 = .ok (.invokevirtual 139, 3) := by decide +kernel
theorem dX2_answerOf_105 : decode cX2_answerOf 105 = .ok (.ireturn, 1) := by decide +kernel
theorem dX2_answerOf_106 : decode cX2_answerOf 106 = .ok (.aload_n 0, 1) := by decide +kernel
theorem dX2_answerOf_107 : decode cX2_answerOf 107 = .ok (.iload_n 2, 1) := by decide +kernel
theorem dX2_answerOf_108 : decode cX2_answerOf 108 = .ok (.iload 4, 2) := by decide +kernel
theorem dX2_answerOf_110 : decode cX2_answerOf 110 = .ok (.invokevirtual 142, 3) := by decide +kernel
theorem dX2_answerOf_113 : decode cX2_answerOf 113 = .ok (.ireturn, 1) := by decide +kernel
theorem dX2_answerOf_114 : decode cX2_answerOf 114 = .ok (.aload_n 0, 1) := by decide +kernel
theorem dX2_answerOf_115 : decode cX2_answerOf 115 = .ok (.iload_n 2, 1) := by decide +kernel
theorem dX2_answerOf_116 : decode cX2_answerOf 116 = .ok (.iload_n 3, 1) := by decide +kernel
theorem dX2_answerOf_117 : decode cX2_answerOf 117 = .ok (.iload 4, 2) := by decide +kernel
theorem dX2_answerOf_119 : decode cX2_answerOf 119 = .ok (.invokevirtual 145, 3) := by decide +kernel
theorem dX2_answerOf_122 : decode cX2_answerOf 122 = .ok (.ireturn, 1) := by decide +kernel
theorem dX2_answerOf_123 : decode cX2_answerOf 123 = .ok (.aload_n 0, 1) := by decide +kernel
theorem dX2_answerOf_124 : decode cX2_answerOf 124 = .ok (.iload_n 2, 1) := by decide +kernel
theorem dX2_answerOf_125 : decode cX2_answerOf 125 = .ok (.invokevirtual 149, 3) := by decide +kernel
theorem dX2_answerOf_128 : decode cX2_answerOf 128 = .ok (.ireturn, 1) := by decide +kernel
theorem dX2_answerOf_129 : decode cX2_answerOf 129 = .ok (.aload_n 0, 1) := by decide +kernel
theorem dX2_answerOf_130 : decode cX2_answerOf 130 = .ok (.iload_n 2, 1) := by decide +kernel
theorem dX2_answerOf_131 : decode cX2_answerOf 131 = .ok (.iload 4, 2) := by decide +kernel
theorem dX2_answerOf_133 : decode cX2_answerOf 133 = .ok (.ifCond .eq 7, 3) := by decide +kernel
theorem dX2_answerOf_136 : decode cX2_answerOf 136 = .ok (.iconst 1, 1) := by decide +kernel
theorem dX2_answerOf_137 : decode cX2_answerOf 137 = .ok (.goto 4, 3) := by decide +kernel
theorem dX2_answerOf_140 : decode cX2_answerOf 140 = .ok (.iconst 0, 1) := by decide +kernel
theorem dX2_answerOf_141 : decode cX2_answerOf 141 = .ok (.invokevirtual 152, 3) := by decide +kernel
theorem dX2_answerOf_144 : decode cX2_answerOf 144 = .ok (.ireturn, 1) := by decide +kernel
theorem dX2_answerOf_145 : decode cX2_answerOf 145 = .ok (.aload_n 0, 1) := by decide +kernel
theorem dX2_answerOf_146 : decode cX2_answerOf 146 = .ok (.iload_n 2, 1) := by decide +kernel
theorem dX2_answerOf_147 : decode cX2_answerOf 147 = .ok (.iload_n 3, 1) := by decide +kernel
theorem dX2_answerOf_148 : decode cX2_answerOf 148 = .ok (.iload 4, 2) := by decide +kernel
theorem dX2_answerOf_150 : decode cX2_answerOf 150 = .ok (.ifCond .eq 7, 3) := by decide +kernel
theorem dX2_answerOf_153 : decode cX2_answerOf 153 = .ok (.iconst 1, 1) := by decide +kernel
theorem dX2_answerOf_154 : decode cX2_answerOf 154 = .ok (.goto 4, 3) := by decide +kernel
theorem dX2_answerOf_157 : decode cX2_answerOf 157 = .ok (.iconst 0, 1) := by decide +kernel
theorem dX2_answerOf_158 : decode cX2_answerOf 158 = .ok (.invokevirtual 156, 3) := by decide +kernel
theorem dX2_answerOf_161 : decode cX2_answerOf 161 = .ok (.ireturn, 1) := by decide +kernel
theorem dX2_answerOf_162 : decode cX2_answerOf 162 = .ok (.aload_n 0, 1) := by decide +kernel
theorem dX2_answerOf_163 : decode cX2_answerOf 163 = .ok (.iload_n 2, 1) := by decide +kernel
theorem dX2_answerOf_164 : decode cX2_answerOf 164 = .ok (.invokevirtual 160, 3) := by decide +kernel
theorem dX2_answerOf_167 : decode cX2_answerOf 167 = .ok (.ireturn, 1) := by decide +kernel
theorem dX2_answerOf_168 : decode cX2_answerOf 168 = .ok (.aload_n 0, 1) := by decide +kernel
theorem dX2_answerOf_169 : decode cX2_answerOf 169 = .ok (.iload_n 2, 1) := by decide +kernel
theorem dX2_answerOf_170 : decode cX2_answerOf 170 = .ok (.iload_n 3, 1) := by decide +kernel
theorem dX2_answerOf_171 : decode cX2_answerOf 171 = .ok (.invokevirtual 163, 3) := by decide +kernel
theorem dX2_answerOf_174 : decode cX2_answerOf 174 = .ok (.ireturn, 1) := by decide +kernel
theorem dX2_answerOf_175 : decode cX2_answerOf 175 = .ok (.aload_n 0, 1) := by decide +kernel
theorem dX2_answerOf_176 : decode cX2_answerOf 176 = .ok (.iload_n 2, 1) := by decide +kernel
theorem dX2_answerOf_177 : decode cX2_answerOf 177 = .ok (.invokevirtual 166, 3) := by decide +kernel
theorem dX2_answerOf_180 : decode cX2_answerOf 180 = .ok (.ireturn, 1) := by decide +kernel
theorem dX2_answerOf_181 : decode cX2_answerOf 181 = .ok (.aload_n 0, 1) := by decide +kernel
theorem dX2_answerOf_182 : decode cX2_answerOf 182 = .ok (.iload 4, 2) := by decide +kernel
theorem dX2_answerOf_184 : decode cX2_answerOf 184 = .ok (.invokevirtual 169, 3) := by decide +kernel
theorem dX2_answerOf_187 : decode cX2_answerOf 187 = .ok (.ireturn, 1) := by decide +kernel
theorem dX2_answerOf_188 : decode cX2_answerOf 188 = .ok (.aload_n 0, 1) := by decide +kernel
theorem dX2_answerOf_189 : decode cX2_answerOf 189 = .ok (.iload_n 2, 1) := by decide +kernel
theorem dX2_answerOf_190 : decode cX2_answerOf 190 = .ok (.iload 4, 2) := by decide +kernel
theorem dX2_answerOf_192 : decode cX2_answerOf 192 = .ok (.invokevirtual 172, 3) := by decide +kernel
theorem dX2_answerOf_195 : decode cX2_answerOf 195 = .ok (.ireturn, 1) := by decide +kernel
set_option maxRecDepth 20000 in
theorem ggX2_sum_X2_fault : GoodIn wsX2_sum wsX2_fault := goodIn_r _ [5] (by decide +kernel) (by decide +kernel)
set_option maxRecDepth 20000 in
theorem gX2_sum_X2_fault : GoodIn wsX2_sum (va_wsS RX2 130 yX2_fault wsX2_fault) := goodIn_app (goodIn_of _ (by decide +kernel)) ggX2_sum_X2_fault
set_option maxRecDepth 20000 in
theorem ggX2_sum_X1_isNumbers : GoodIn wsX2_sum wsX1_isNumbers := goodIn_r _ [10, 11, 12, 13, 14, 9, 15, 16, 72, 73, 74, 75, 76] (by decide +kernel) (by decide +kernel)
set_option maxRecDepth 20000 in
theorem gX2_sum_X1_isNumbers : GoodIn wsX2_sum (wsV RX2 47 RX1 yX1_isNumbers wsX1_isNumbers) := goodIn_app (goodIn_of _ (by decide +kernel)) ggX2_sum_X1_isNumbers
set_option maxRecDepth 20000 in
theorem ggX2_sum_X2_totalOf : GoodIn wsX2_sum wsX2_totalOf := goodIn_r _ [20, 1, 21, 22, 23, 9, 24, 25, 12, 13, 14, 15, 16, 26, 27, 28, 29, 30, 31, 32, 33, 34, 67, 68, 69, 70, 71, 72, 73, 74, 75, 76] (by decide +kernel) (by decide +kernel)
set_option maxRecDepth 20000 in
theorem gX2_sum_X2_totalOf : GoodIn wsX2_sum (wsV RX2 175 RX2 yX2_totalOf wsX2_totalOf) := goodIn_app (goodIn_of _ (by decide +kernel)) ggX2_sum_X2_totalOf
set_option maxRecDepth 20000 in
theorem ggX2_sum_X1_addSingle : GoodIn wsX2_sum wsX1_addSingle := goodIn_r _ [38, 39, 40, 41, 9, 42, 16, 11, 25, 43, 30, 44, 4, 45, 46, 47, 48, 49, 50, 51, 31, 32, 33, 34, 52, 53, 54, 72, 73, 74, 75, 76] (by decide +kernel) (by decide +kernel)
set_option maxRecDepth 20000 in
theorem gX2_sum_X1_addSingle : GoodIn wsX2_sum (wsV RX2 179 RX1 yX1_addSingle wsX1_addSingle) := goodIn_app (goodIn_of _ (by decide +kernel)) ggX2_sum_X1_addSingle
set_option maxRecDepth 20000 in
theorem ggX2_sum_X1_isA : GoodIn wsX2_sum wsX1_isA := goodIn_r _ [58, 11, 12, 13, 14, 9, 15, 16, 59, 4, 60, 72, 73, 74, 75, 76] (by decide +kernel) (by decide +kernel)
set_option maxRecDepth 20000 in
theorem gX2_sum_X1_isA : GoodIn wsX2_sum (wsV RX2 58 RX1 yX1_isA wsX1_isA) := goodIn_app (goodIn_of _ (by decide +kernel)) ggX2_sum_X1_isA
set_option maxRecDepth 20000 in
theorem ggX2_sum_X1_lengthOf : GoodIn wsX2_sum wsX1_lengthOf := goodIn_r _ [24, 25, 12, 13, 14, 9, 15, 16, 72, 73, 74, 75, 76] (by decide +kernel) (by decide +kernel)
set_option maxRecDepth 20000 in
theorem gX2_sum_X1_lengthOf : GoodIn wsX2_sum (wsV RX2 116 RX1 yX1_lengthOf wsX1_lengthOf) := goodIn_app (goodIn_of _ (by decide +kernel)) ggX2_sum_X1_lengthOf
set_option maxRecDepth 20000 in
theorem ggX2_sum_X1_add : GoodIn wsX2_sum wsX1_add := goodIn_r _ [42, 16, 11, 25, 43, 30, 44, 4, 45, 46, 47, 72, 73, 74, 75, 76] (by decide +kernel) (by decide +kernel)
set_option maxRecDepth 20000 in
theorem gX2_sum_X1_add : GoodIn wsX2_sum (wsV RX2 37 RX1 yX1_add wsX1_add) := goodIn_app (goodIn_of _ (by decide +kernel)) ggX2_sum_X1_add
set_option maxRecDepth 20000 in
theorem ggX2_sum_X1_placed : GoodIn wsX2_sum wsX1_placed := goodIn_r _ [65, 30, 31, 32, 33, 9, 34, 16, 25, 72, 73, 74, 75, 76] (by decide +kernel) (by decide +kernel)
set_option maxRecDepth 20000 in
theorem gX2_sum_X1_placed : GoodIn wsX2_sum (wsV RX2 183 RX1 yX1_placed wsX1_placed) := goodIn_app (goodIn_of _ (by decide +kernel)) ggX2_sum_X1_placed
set_option maxRecDepth 20000 in
theorem ggX2_sum_X1_put : GoodIn wsX2_sum wsX1_put := goodIn_r _ [51, 30, 11, 31, 32, 33, 9, 34, 16, 25, 52, 53, 54, 72, 73, 74, 75, 76] (by decide +kernel) (by decide +kernel)
set_option maxRecDepth 20000 in
theorem gX2_sum_X1_put : GoodIn wsX2_sum (wsV RX2 54 RX1 yX1_put wsX1_put) := goodIn_app (goodIn_of _ (by decide +kernel)) ggX2_sum_X1_put
theorem dX2_sum_0 : decode cX2_sum 0 = .ok (.iload_n 1, 1) := by decide +kernel
end
section
theorem dX2_sum_1 : decode cX2_sum 1 = .ok (.iconst (-1), 1) := by decide +kernel
theorem dX2_sum_2 : decode cX2_sum 2 = .ok (.if_icmp .ne 8, 3) := by decide +kernel
theorem dX2_sum_5 : decode cX2_sum 5 = .ok (.iconst 2, 1) := by decide +kernel
theorem dX2_sum_6 : decode cX2_sum 6 = .ok (.invokestatic 130, 3) := by decide +kernel
theorem dX2_sum_9 : decode cX2_sum 9 = .ok (.ireturn, 1) := by decide +kernel
theorem dX2_sum_10 : decode cX2_sum 10 = .ok (.aload_n 0, 1) := by decide +kernel
theorem dX2_sum_11 : decode cX2_sum 11 = .ok (.getfield 10, 3) := by decide +kernel
theorem dX2_sum_14 : decode cX2_sum 14 = .ok (.iload_n 1, 1) := by decide +kernel
theorem dX2_sum_15 : decode cX2_sum 15 = .ok (.invokevirtual 47, 3) := by decide +kernel
theorem dX2_sum_18 : decode cX2_sum 18 = .ok (.ifCond .eq 17, 3) := by decide +kernel
theorem dX2_sum_21 : decode cX2_sum 21 = .ok (.aload_n 0, 1) := by decide +kernel
theorem dX2_sum_22 : decode cX2_sum 22 = .ok (.getfield 10, 3) := by decide +kernel
theorem dX2_sum_25 : decode cX2_sum 25 = .ok (.iconst 2, 1) := by decide +kernel
theorem dX2_sum_26 : decode cX2_sum 26 = .ok (.aload_n 0, 1) := by decide +kernel
theorem dX2_sum_27 : decode cX2_sum 27 = .ok (.iload_n 1, 1) := by decide +kernel
theorem dX2_sum_28 : decode cX2_sum 28 = .ok (.invokevirtual 175, 3) := by decide +kernel
theorem dX2_sum_31 : decode cX2_sum 31 = .ok (.invokevirtual 179, 3) := by decide +kernel
theorem dX2_sum_34 : decode cX2_sum 34 = .ok (.ireturn, 1) := by decide +kernel
theorem dX2_sum_35 : decode cX2_sum 35 = .ok (.aload_n 0, 1) := by decide +kernel
theorem dX2_sum_36 : decode cX2_sum 36 = .ok (.getfield 10, 3) := by decide +kernel
theorem dX2_sum_39 : decode cX2_sum 39 = .ok (.iload_n 1, 1) := by decide +kernel
theorem dX2_sum_40 : decode cX2_sum 40 = .ok (.iconst 3, 1) := by decide +kernel
theorem dX2_sum_41 : decode cX2_sum 41 = .ok (.invokevirtual 58, 3) := by decide +kernel
theorem dX2_sum_44 : decode cX2_sum 44 = .ok (.ifCond .ne 8, 3) := by decide +kernel
theorem dX2_sum_47 : decode cX2_sum 47 = .ok (.iconst 1, 1) := by decide +kernel
theorem dX2_sum_48 : decode cX2_sum 48 = .ok (.invokestatic 130, 3) := by decide +kernel
theorem dX2_sum_51 : decode cX2_sum 51 = .ok (.ireturn, 1) := by decide +kernel
theorem dX2_sum_52 : decode cX2_sum 52 = .ok (.aload_n 0, 1) := by decide +kernel
theorem dX2_sum_53 : decode cX2_sum 53 = .ok (.getfield 10, 3) := by decide +kernel
theorem dX2_sum_56 : decode cX2_sum 56 = .ok (.iload_n 1, 1) := by decide +kernel
theorem dX2_sum_57 : decode cX2_sum 57 = .ok (.invokevirtual 116, 3) := by decide +kernel
theorem dX2_sum_60 : decode cX2_sum 60 = .ok (.istore_n 2, 1) := by decide +kernel
theorem dX2_sum_61 : decode cX2_sum 61 = .ok (.aload_n 0, 1) := by decide +kernel
theorem dX2_sum_62 : decode cX2_sum 62 = .ok (.getfield 10, 3) := by decide +kernel
theorem dX2_sum_65 : decode cX2_sum 65 = .ok (.iconst 2, 1) := by decide +kernel
theorem dX2_sum_66 : decode cX2_sum 66 = .ok (.iload_n 2, 1) := by decide +kernel
theorem dX2_sum_67 : decode cX2_sum 67 = .ok (.invokevirtual 37, 3) := by decide +kernel
theorem dX2_sum_70 : decode cX2_sum 70 = .ok (.istore_n 3, 1) := by decide +kernel
theorem dX2_sum_71 : decode cX2_sum 71 = .ok (.iconst 0, 1) := by decide +kernel
theorem dX2_sum_72 : decode cX2_sum 72 = .ok (.istore 4, 2) := by decide +kernel
theorem dX2_sum_74 : decode cX2_sum 74 = .ok (.iload 4, 2) := by decide +kernel
theorem dX2_sum_76 : decode cX2_sum 76 = .ok (.iload_n 2, 1) := by decide +kernel
theorem dX2_sum_77 : decode cX2_sum 77 = .ok (.if_icmp .ge 33, 3) := by decide +kernel
theorem dX2_sum_80 : decode cX2_sum 80 = .ok (.aload_n 0, 1) := by decide +kernel
theorem dX2_sum_81 : decode cX2_sum 81 = .ok (.getfield 10, 3) := by decide +kernel
theorem dX2_sum_84 : decode cX2_sum 84 = .ok (.iload_n 3, 1) := by decide +kernel
theorem dX2_sum_85 : decode cX2_sum 85 = .ok (.iload 4, 2) := by decide +kernel
theorem dX2_sum_87 : decode cX2_sum 87 = .ok (.aload_n 0, 1) := by decide +kernel
theorem dX2_sum_88 : decode cX2_sum 88 = .ok (.aload_n 0, 1) := by decide +kernel
theorem dX2_sum_89 : decode cX2_sum 89 = .ok (.getfield 10, 3) := by decide +kernel
theorem dX2_sum_92 : decode cX2_sum 92 = .ok (.iload_n 1, 1) := by decide +kernel
theorem dX2_sum_93 : decode cX2_sum 93 = .ok (.iload 4, 2) := by decide +kernel
theorem dX2_sum_95 : decode cX2_sum 95 = .ok (.invokevirtual 183, 3) := by decide +kernel
theorem dX2_sum_98 : decode cX2_sum 98 = .ok (.invokevirtual 175, 3) := by decide +kernel
theorem dX2_sum_101 : decode cX2_sum 101 = .ok (.invokevirtual 54, 3) := by decide +kernel
theorem dX2_sum_104 : decode cX2_sum 104 = .ok (.iinc 4 1, 3) := by decide +kernel
theorem dX2_sum_107 : decode cX2_sum 107 = .ok (.goto (-33), 3) := by decide +kernel
theorem dX2_sum_110 : decode cX2_sum 110 = .ok (.iload_n 3, 1) := by decide +kernel
theorem dX2_sum_111 : decode cX2_sum 111 = .ok (.ireturn, 1) := by decide +kernel
set_option maxRecDepth 20000 in
theorem ggX2_totalOf_X1_lengthOf : GoodIn wsX2_totalOf wsX1_lengthOf := goodIn_r _ [6, 7, 8, 9, 10, 5, 11, 12, 27, 28, 29, 30, 31] (by decide +kernel) (by decide +kernel)
set_option maxRecDepth 20000 in
theorem gX2_totalOf_X1_lengthOf : GoodIn wsX2_totalOf (wsV RX2 116 RX1 yX1_lengthOf wsX1_lengthOf) := goodIn_app (goodIn_of _ (by decide +kernel)) ggX2_totalOf_X1_lengthOf
set_option maxRecDepth 20000 in
theorem ggX2_totalOf_X1_cellOf : GoodIn wsX2_totalOf wsX1_cellOf := goodIn_r _ [16, 17, 18, 19, 20, 5, 21, 12, 7, 27, 28, 29, 30, 31] (by decide +kernel) (by decide +kernel)
set_option maxRecDepth 20000 in
theorem gX2_totalOf_X1_cellOf : GoodIn wsX2_totalOf (wsV RX2 65 RX1 yX1_cellOf wsX1_cellOf) := goodIn_app (goodIn_of _ (by decide +kernel)) ggX2_totalOf_X1_cellOf
theorem dX2_totalOf_0 : decode cX2_totalOf 0 = .ok (.lconst 0, 1) := by decide +kernel
theorem dX2_totalOf_1 : decode cX2_totalOf 1 = .ok (.lstore_n 2, 1) := by decide +kernel
theorem dX2_totalOf_2 : decode cX2_totalOf 2 = .ok (.aload_n 0, 1) := by decide +kernel
theorem dX2_totalOf_3 : decode cX2_totalOf 3 = .ok (.getfield 10, 3) := by decide +kernel
theorem dX2_totalOf_6 : decode cX2_totalOf 6 = .ok (.iload_n 1, 1) := by decide +kernel
theorem dX2_totalOf_7 : decode cX2_totalOf 7 = .ok (.invokevirtual 116, 3) := by decide +kernel
theorem dX2_totalOf_10 : decode cX2_totalOf 10 = .ok (.istore 4, 2) := by decide +kernel
theorem dX2_totalOf_12 : decode cX2_totalOf 12 = .ok (.iconst 0, 1) := by decide +kernel
theorem dX2_totalOf_13 : decode cX2_totalOf 13 = .ok (.istore 5, 2) := by decide +kernel
theorem dX2_totalOf_15 : decode cX2_totalOf 15 = .ok (.iload 5, 2) := by decide +kernel
theorem dX2_totalOf_17 : decode cX2_totalOf 17 = .ok (.iload 4, 2) := by decide +kernel
theorem dX2_totalOf_19 : decode cX2_totalOf 19 = .ok (.if_icmp .ge 22, 3) := by decide +kernel
theorem dX2_totalOf_22 : decode cX2_totalOf 22 = .ok (.lload_n 2, 1) := by decide +kernel
theorem dX2_totalOf_23 : decode cX2_totalOf 23 = .ok (.aload_n 0, 1) := by decide +kernel
theorem dX2_totalOf_24 : decode cX2_totalOf 24 = .ok (.getfield 10, 3) := by decide +kernel
theorem dX2_totalOf_27 : decode cX2_totalOf 27 = .ok (.iload_n 1, 1) := by decide +kernel
theorem dX2_totalOf_28 : decode cX2_totalOf 28 = .ok (.iload 5, 2) := by decide +kernel
theorem dX2_totalOf_30 : decode cX2_totalOf 30 = .ok (.invokevirtual 65, 3) := by decide +kernel
theorem dX2_totalOf_33 : decode cX2_totalOf 33 = .ok (.ladd, 1) := by decide +kernel
theorem dX2_totalOf_34 : decode cX2_totalOf 34 = .ok (.lstore_n 2, 1) := by decide +kernel
theorem dX2_totalOf_35 : decode cX2_totalOf 35 = .ok (.iinc 5 1, 3) := by decide +kernel
theorem dX2_totalOf_38 : decode cX2_totalOf 38 = .ok (.goto (-23), 3) := by decide +kernel
theorem dX2_totalOf_41 : decode cX2_totalOf 41 = .ok (.lload_n 2, 1) := by decide +kernel
theorem dX2_totalOf_42 : decode cX2_totalOf 42 = .ok (.lreturn, 1) := by decide +kernel
set_option maxRecDepth 20000 in
theorem ggX2_widen_X2_fault : GoodIn wsX2_widen wsX2_fault := goodIn_r _ [5] (by decide +kernel) (by decide +kernel)
set_option maxRecDepth 20000 in
theorem gX2_widen_X2_fault : GoodIn wsX2_widen (va_wsS RX2 130 yX2_fault wsX2_fault) := goodIn_app (goodIn_of _ (by decide +kernel)) ggX2_widen_X2_fault
set_option maxRecDepth 20000 in
theorem ggX2_widen_X1_isA : GoodIn wsX2_widen wsX1_isA := goodIn_r _ [10, 11, 12, 13, 14, 9, 15, 16, 17, 4, 18, 62, 63, 64, 65, 66] (by decide +kernel) (by decide +kernel)
set_option maxRecDepth 20000 in
theorem gX2_widen_X1_isA : GoodIn wsX2_widen (wsV RX2 58 RX1 yX1_isA wsX1_isA) := goodIn_app (goodIn_of _ (by decide +kernel)) ggX2_widen_X1_isA
set_option maxRecDepth 20000 in
theorem ggX2_widen_X1_addCopy : GoodIn wsX2_widen wsX1_addCopy := goodIn_r _ [22, 23, 24, 25, 9, 26, 27, 12, 13, 14, 15, 16, 28, 29, 30, 31, 11, 32, 33, 34, 4, 35, 36, 37, 38, 39, 40, 41, 42, 43, 44, 45, 46, 47, 48, 49, 50, 51, 52, 53, 54, 55, 56, 62, 63, 64, 65, 66] (by decide +kernel) (by decide +kernel)
set_option maxRecDepth 20000 in
theorem gX2_widen_X1_addCopy : GoodIn wsX2_widen (wsV RX2 186 RX1 yX1_addCopy wsX1_addCopy) := goodIn_app (goodIn_of _ (by decide +kernel)) ggX2_widen_X1_addCopy
theorem dX2_widen_0 : decode cX2_widen 0 = .ok (.iload_n 1, 1) := by decide +kernel
theorem dX2_widen_1 : decode cX2_widen 1 = .ok (.iconst (-1), 1) := by decide +kernel
theorem dX2_widen_2 : decode cX2_widen 2 = .ok (.if_icmp .ne 8, 3) := by decide +kernel
theorem dX2_widen_5 : decode cX2_widen 5 = .ok (.iconst 2, 1) := by decide +kernel
theorem dX2_widen_6 : decode cX2_widen 6 = .ok (.invokestatic 130, 3) := by decide +kernel
theorem dX2_widen_9 : decode cX2_widen 9 = .ok (.ireturn, 1) := by decide +kernel
theorem dX2_widen_10 : decode cX2_widen 10 = .ok (.aload_n 0, 1) := by decide +kernel
theorem dX2_widen_11 : decode cX2_widen 11 = .ok (.getfield 10, 3) := by decide +kernel
theorem dX2_widen_14 : decode cX2_widen 14 = .ok (.iload_n 1, 1) := by decide +kernel
theorem dX2_widen_15 : decode cX2_widen 15 = .ok (.iconst 0, 1) := by decide +kernel
theorem dX2_widen_16 : decode cX2_widen 16 = .ok (.invokevirtual 58, 3) := by decide +kernel
theorem dX2_widen_19 : decode cX2_widen 19 = .ok (.ifCond .eq 13, 3) := by decide +kernel
theorem dX2_widen_22 : decode cX2_widen 22 = .ok (.aload_n 0, 1) := by decide +kernel
theorem dX2_widen_23 : decode cX2_widen 23 = .ok (.getfield 10, 3) := by decide +kernel
theorem dX2_widen_26 : decode cX2_widen 26 = .ok (.iload_n 1, 1) := by decide +kernel
theorem dX2_widen_27 : decode cX2_widen 27 = .ok (.iconst 1, 1) := by decide +kernel
theorem dX2_widen_28 : decode cX2_widen 28 = .ok (.invokevirtual 186, 3) := by decide +kernel
theorem dX2_widen_31 : decode cX2_widen 31 = .ok (.ireturn, 1) := by decide +kernel
theorem dX2_widen_32 : decode cX2_widen 32 = .ok (.aload_n 0, 1) := by decide +kernel
theorem dX2_widen_33 : decode cX2_widen 33 = .ok (.getfield 10, 3) := by decide +kernel
theorem dX2_widen_36 : decode cX2_widen 36 = .ok (.iload_n 1, 1) := by decide +kernel
theorem dX2_widen_37 : decode cX2_widen 37 = .ok (.iconst 1, 1) := by decide +kernel
theorem dX2_widen_38 : decode cX2_widen 38 = .ok (.invokevirtual 58, 3) := by decide +kernel
theorem dX2_widen_41 : decode cX2_widen 41 = .ok (.ifCond .eq 15, 3) := by decide +kernel
theorem dX2_widen_44 : decode cX2_widen 44 = .ok (.aload_n 0, 1) := by decide +kernel
theorem dX2_widen_45 : decode cX2_widen 45 = .ok (.getfield 10, 3) := by decide +kernel
theorem dX2_widen_48 : decode cX2_widen 48 = .ok (.iload_n 1, 1) := by decide +kernel
theorem dX2_widen_49 : decode cX2_widen 49 = .ok (.iconst 2, 1) := by decide +kernel
theorem dX2_widen_50 : decode cX2_widen 50 = .ok (.invokevirtual 186, 3) := by decide +kernel
theorem dX2_widen_53 : decode cX2_widen 53 = .ok (.goto 7, 3) := by decide +kernel
theorem dX2_widen_56 : decode cX2_widen 56 = .ok (.iconst 1, 1) := by decide +kernel
theorem dX2_widen_57 : decode cX2_widen 57 = .ok (.invokestatic 130, 3) := by decide +kernel
theorem dX2_widen_60 : decode cX2_widen 60 = .ok (.ireturn, 1) := by decide +kernel
set_option maxRecDepth 20000 in
theorem ggX2_narrow_X2_fault : GoodIn wsX2_narrow wsX2_fault := goodIn_r _ [5] (by decide +kernel) (by decide +kernel)
set_option maxRecDepth 20000 in
theorem gX2_narrow_X2_fault : GoodIn wsX2_narrow (va_wsS RX2 130 yX2_fault wsX2_fault) := goodIn_app (goodIn_of _ (by decide +kernel)) ggX2_narrow_X2_fault
set_option maxRecDepth 20000 in
theorem ggX2_narrow_X1_isA : GoodIn wsX2_narrow wsX1_isA := goodIn_r _ [10, 11, 12, 13, 14, 9, 15, 16, 17, 4, 18, 62, 63, 64, 65, 66] (by decide +kernel) (by decide +kernel)
set_option maxRecDepth 20000 in
theorem gX2_narrow_X1_isA : GoodIn wsX2_narrow (wsV RX2 58 RX1 yX1_isA wsX1_isA) := goodIn_app (goodIn_of _ (by decide +kernel)) ggX2_narrow_X1_isA
set_option maxRecDepth 20000 in
theorem ggX2_narrow_X1_addCopy : GoodIn wsX2_narrow wsX1_addCopy := goodIn_r _ [22, 23, 24, 25, 9, 26, 27, 12, 13, 14, 15, 16, 28, 29, 30, 31, 11, 32, 33, 34, 4, 35, 36, 37, 38, 39, 40, 41, 42, 43, 44, 45, 46, 47, 48, 49, 50, 51, 52, 53, 54, 55, 56, 62, 63, 64, 65, 66] (by decide +kernel) (by decide +kernel)
set_option maxRecDepth 20000 in
theorem gX2_narrow_X1_addCopy : GoodIn wsX2_narrow (wsV RX2 186 RX1 yX1_addCopy wsX1_addCopy) := goodIn_app (goodIn_of _ (by decide +kernel)) ggX2_narrow_X1_addCopy
theorem dX2_narrow_0 : decode cX2_narrow 0 = .ok (.iload_n 1, 1) := by decide +kernel
theorem dX2_narrow_1 : decode cX2_narrow 1 = .ok (.iconst (-1), 1) := by decide +kernel
theorem dX2_narrow_2 : decode cX2_narrow 2 = .ok (.if_icmp .ne 8, 3) := by decide +kernel
theorem dX2_narrow_5 : decode cX2_narrow 5 = .ok (.iconst 2, 1) := by decide +kernel
theorem dX2_narrow_6 : decode cX2_narrow 6 = .ok (.invokestatic 130, 3) := by decide +kernel
theorem dX2_narrow_9 : decode cX2_narrow 9 = .ok (.ireturn, 1) := by decide +kernel
theorem dX2_narrow_10 : decode cX2_narrow 10 = .ok (.aload_n 0, 1) := by decide +kernel
theorem dX2_narrow_11 : decode cX2_narrow 11 = .ok (.getfield 10, 3) := by decide +kernel
theorem dX2_narrow_14 : decode cX2_narrow 14 = .ok (.iload_n 1, 1) := by decide +kernel
theorem dX2_narrow_15 : decode cX2_narrow 15 = .ok (.iconst 2, 1) := by decide +kernel
theorem dX2_narrow_16 : decode cX2_narrow 16 = .ok (.invokevirtual 58, 3) := by decide +kernel
theorem dX2_narrow_19 : decode cX2_narrow 19 = .ok (.ifCond .eq 13, 3) := by decide +kernel
theorem dX2_narrow_22 : decode cX2_narrow 22 = .ok (.aload_n 0, 1) := by decide +kernel
theorem dX2_narrow_23 : decode cX2_narrow 23 = .ok (.getfield 10, 3) := by decide +kernel
theorem dX2_narrow_26 : decode cX2_narrow 26 = .ok (.iload_n 1, 1) := by decide +kernel
theorem dX2_narrow_27 : decode cX2_narrow 27 = .ok (.iconst 1, 1) := by decide +kernel
theorem dX2_narrow_28 : decode cX2_narrow 28 = .ok (.invokevirtual 186, 3) := by decide +kernel
theorem dX2_narrow_31 : decode cX2_narrow 31 = .ok (.ireturn, 1) := by decide +kernel
theorem dX2_narrow_32 : decode cX2_narrow 32 = .ok (.aload_n 0, 1) := by decide +kernel
theorem dX2_narrow_33 : decode cX2_narrow 33 = .ok (.getfield 10, 3) := by decide +kernel
theorem dX2_narrow_36 : decode cX2_narrow 36 = .ok (.iload_n 1, 1) := by decide +kernel
theorem dX2_narrow_37 : decode cX2_narrow 37 = .ok (.iconst 1, 1) := by decide +kernel
theorem dX2_narrow_38 : decode cX2_narrow 38 = .ok (.invokevirtual 58, 3) := by decide +kernel
theorem dX2_narrow_41 : decode cX2_narrow 41 = .ok (.ifCond .eq 15, 3) := by decide +kernel
theorem dX2_narrow_44 : decode cX2_narrow 44 = .ok (.aload_n 0, 1) := by decide +kernel
theorem dX2_narrow_45 : decode cX2_narrow 45 = .ok (.getfield 10, 3) := by decide +kernel
theorem dX2_narrow_48 : decode cX2_narrow 48 = .ok (.iload_n 1, 1) := by decide +kernel
theorem dX2_narrow_49 : decode cX2_narrow 49 = .ok (.iconst 0, 1) := by decide +kernel
theorem dX2_narrow_50 : decode cX2_narrow 50 = .ok (.invokevirtual 186, 3) := by decide +kernel
theorem dX2_narrow_53 : decode cX2_narrow 53 = .ok (.goto 7, 3) := by decide +kernel
theorem dX2_narrow_56 : decode cX2_narrow 56 = .ok (.iconst 1, 1) := by decide +kernel
theorem dX2_narrow_57 : decode cX2_narrow 57 = .ok (.invokestatic 130, 3) := by decide +kernel
theorem dX2_narrow_60 : decode cX2_narrow 60 = .ok (.ireturn, 1) := by decide +kernel
set_option maxRecDepth 20000 in
theorem ggX2_tap_X2_fault : GoodIn wsX2_tap wsX2_fault := goodIn_r _ [5] (by decide +kernel) (by decide +kernel)
set_option maxRecDepth 20000 in
theorem gX2_tap_X2_fault : GoodIn wsX2_tap (va_wsS RX2 130 yX2_fault wsX2_fault) := goodIn_app (goodIn_of _ (by decide +kernel)) ggX2_tap_X2_fault
set_option maxRecDepth 20000 in
theorem ggX2_tap_X1_formOf : GoodIn wsX2_tap wsX1_formOf := goodIn_r _ [10, 11, 12, 13, 14, 9, 15, 16, 36, 37, 38, 39, 40] (by decide +kernel) (by decide +kernel)
set_option maxRecDepth 20000 in
theorem gX2_tap_X1_formOf : GoodIn wsX2_tap (wsV RX2 110 RX1 yX1_formOf wsX1_formOf) := goodIn_app (goodIn_of _ (by decide +kernel)) ggX2_tap_X1_formOf
set_option maxRecDepth 20000 in
theorem ggX2_tap_X2_isBoardForm : GoodIn wsX2_tap wsX2_isBoardForm := goodIn_r _ [19] (by decide +kernel) (by decide +kernel)
set_option maxRecDepth 20000 in
theorem gX2_tap_X2_isBoardForm : GoodIn wsX2_tap (va_wsS RX2 41 yX2_isBoardForm wsX2_isBoardForm) := goodIn_app (goodIn_of _ (by decide +kernel)) ggX2_tap_X2_isBoardForm
set_option maxRecDepth 20000 in
theorem ggX2_tap_X1_hasPlace : GoodIn wsX2_tap wsX1_hasPlace := goodIn_r _ [23, 16, 24, 36, 37, 38, 39, 40] (by decide +kernel) (by decide +kernel)
set_option maxRecDepth 20000 in
theorem gX2_tap_X1_hasPlace : GoodIn wsX2_tap (wsV RX2 50 RX1 yX1_hasPlace wsX1_hasPlace) := goodIn_app (goodIn_of _ (by decide +kernel)) ggX2_tap_X1_hasPlace
set_option maxRecDepth 20000 in
theorem ggX2_tap_X1_placed : GoodIn wsX2_tap wsX1_placed := goodIn_r _ [28, 29, 30, 21, 22, 9, 23, 16, 24, 36, 37, 38, 39, 40] (by decide +kernel) (by decide +kernel)
set_option maxRecDepth 20000 in
theorem gX2_tap_X1_placed : GoodIn wsX2_tap (wsV RX2 183 RX1 yX1_placed wsX1_placed) := goodIn_app (goodIn_of _ (by decide +kernel)) ggX2_tap_X1_placed
theorem dX2_tap_0 : decode cX2_tap 0 = .ok (.iload_n 1, 1) := by decide +kernel
theorem dX2_tap_1 : decode cX2_tap 1 = .ok (.iconst (-1), 1) := by decide +kernel
theorem dX2_tap_2 : decode cX2_tap 2 = .ok (.if_icmp .ne 8, 3) := by decide +kernel
theorem dX2_tap_5 : decode cX2_tap 5 = .ok (.iconst 2, 1) := by decide +kernel
theorem dX2_tap_6 : decode cX2_tap 6 = .ok (.invokestatic 130, 3) := by decide +kernel
theorem dX2_tap_9 : decode cX2_tap 9 = .ok (.ireturn, 1) := by decide +kernel
theorem dX2_tap_10 : decode cX2_tap 10 = .ok (.aload_n 0, 1) := by decide +kernel
theorem dX2_tap_11 : decode cX2_tap 11 = .ok (.getfield 10, 3) := by decide +kernel
theorem dX2_tap_14 : decode cX2_tap 14 = .ok (.iload_n 1, 1) := by decide +kernel
theorem dX2_tap_15 : decode cX2_tap 15 = .ok (.invokevirtual 110, 3) := by decide +kernel
theorem dX2_tap_18 : decode cX2_tap 18 = .ok (.invokestatic 41, 3) := by decide +kernel
theorem dX2_tap_21 : decode cX2_tap 21 = .ok (.ifCond .ne 8, 3) := by decide +kernel
theorem dX2_tap_24 : decode cX2_tap 24 = .ok (.iconst 1, 1) := by decide +kernel
theorem dX2_tap_25 : decode cX2_tap 25 = .ok (.invokestatic 130, 3) := by decide +kernel
theorem dX2_tap_28 : decode cX2_tap 28 = .ok (.ireturn, 1) := by decide +kernel
theorem dX2_tap_29 : decode cX2_tap 29 = .ok (.aload_n 0, 1) := by decide +kernel
theorem dX2_tap_30 : decode cX2_tap 30 = .ok (.getfield 10, 3) := by decide +kernel
theorem dX2_tap_33 : decode cX2_tap 33 = .ok (.iload_n 1, 1) := by decide +kernel
theorem dX2_tap_34 : decode cX2_tap 34 = .ok (.iload_n 2, 1) := by decide +kernel
theorem dX2_tap_35 : decode cX2_tap 35 = .ok (.invokevirtual 50, 3) := by decide +kernel
theorem dX2_tap_38 : decode cX2_tap 38 = .ok (.ifCond .ne 8, 3) := by decide +kernel
theorem dX2_tap_41 : decode cX2_tap 41 = .ok (.iconst 3, 1) := by decide +kernel
theorem dX2_tap_42 : decode cX2_tap 42 = .ok (.invokestatic 130, 3) := by decide +kernel
theorem dX2_tap_45 : decode cX2_tap 45 = .ok (.ireturn, 1) := by decide +kernel
theorem dX2_tap_46 : decode cX2_tap 46 = .ok (.aload_n 0, 1) := by decide +kernel
theorem dX2_tap_47 : decode cX2_tap 47 = .ok (.getfield 10, 3) := by decide +kernel
theorem dX2_tap_50 : decode cX2_tap 50 = .ok (.iload_n 1, 1) := by decide +kernel
theorem dX2_tap_51 : decode cX2_tap 51 = .ok (.iload_n 2, 1) := by decide +kernel
theorem dX2_tap_52 : decode cX2_tap 52 = .ok (.invokevirtual 183, 3) := by decide +kernel
theorem dX2_tap_55 : decode cX2_tap 55 = .ok (.istore_n 3, 1) := by decide +kernel
theorem dX2_tap_56 : decode cX2_tap 56 = .ok (.iload_n 3, 1) := by decide +kernel
theorem dX2_tap_57 : decode cX2_tap 57 = .ok (.iconst (-1), 1) := by decide +kernel
theorem dX2_tap_58 : decode cX2_tap 58 = .ok (.if_icmp .ne 10, 3) := by decide +kernel
theorem dX2_tap_61 : decode cX2_tap 61 = .ok (.iconst 2, 1) := by decide +kernel
theorem dX2_tap_62 : decode cX2_tap 62 = .ok (.invokestatic 130, 3) := by decide +kernel
theorem dX2_tap_65 : decode cX2_tap 65 = .ok (.goto 4, 3) := by decide +kernel
theorem dX2_tap_68 : decode cX2_tap 68 = .ok (.iload_n 3, 1) := by decide +kernel
theorem dX2_tap_69 : decode cX2_tap 69 = .ok (.ireturn, 1) := by decide +kernel
set_option maxRecDepth 20000 in
theorem ggX2_lay_X2_askedByLay : GoodIn wsX2_lay wsX2_askedByLay := goodIn_r _ [6, 1, 7, 8, 9, 10, 11, 12, 13, 14, 15, 16, 17, 18, 5, 19, 51, 52, 53, 54, 55, 56, 57, 58, 59, 60] (by decide +kernel) (by decide +kernel)
set_option maxRecDepth 20000 in
theorem gX2_lay_X2_askedByLay : GoodIn wsX2_lay (wsV RX2 189 RX2 yX2_askedByLay wsX2_askedByLay) := goodIn_app (goodIn_of _ (by decide +kernel)) ggX2_lay_X2_askedByLay
set_option maxRecDepth 20000 in
theorem ggX2_lay_X2_isNoneOr : GoodIn wsX2_lay wsX2_isNoneOr := goodIn_r _ [23, 1, 7, 8, 9, 10, 11, 12, 13, 14, 15, 16, 17, 18, 5, 19, 51, 52, 53, 54, 55, 56, 57, 58, 59, 60] (by decide +kernel) (by decide +kernel)
set_option maxRecDepth 20000 in
theorem gX2_lay_X2_isNoneOr : GoodIn wsX2_lay (wsV RX2 192 RX2 yX2_isNoneOr wsX2_isNoneOr) := goodIn_app (goodIn_of _ (by decide +kernel)) ggX2_lay_X2_isNoneOr
set_option maxRecDepth 20000 in
theorem ggX2_lay_X2_fault : GoodIn wsX2_lay wsX2_fault := goodIn_r _ [26] (by decide +kernel) (by decide +kernel)
set_option maxRecDepth 20000 in
theorem gX2_lay_X2_fault : GoodIn wsX2_lay (va_wsS RX2 130 yX2_fault wsX2_fault) := goodIn_app (goodIn_of _ (by decide +kernel)) ggX2_lay_X2_fault
set_option maxRecDepth 20000 in
theorem ggX2_lay_X1_formOf : GoodIn wsX2_lay wsX1_formOf := goodIn_r _ [30, 12, 13, 14, 15, 10, 16, 17, 56, 57, 58, 59, 60] (by decide +kernel) (by decide +kernel)
set_option maxRecDepth 20000 in
theorem gX2_lay_X1_formOf : GoodIn wsX2_lay (wsV RX2 110 RX1 yX1_formOf wsX1_formOf) := goodIn_app (goodIn_of _ (by decide +kernel)) ggX2_lay_X1_formOf
set_option maxRecDepth 20000 in
theorem ggX2_lay_X2_isBoardForm : GoodIn wsX2_lay wsX2_isBoardForm := goodIn_r _ [33] (by decide +kernel) (by decide +kernel)
set_option maxRecDepth 20000 in
theorem gX2_lay_X2_isBoardForm : GoodIn wsX2_lay (va_wsS RX2 41 yX2_isBoardForm wsX2_isBoardForm) := goodIn_app (goodIn_of _ (by decide +kernel)) ggX2_lay_X2_isBoardForm
set_option maxRecDepth 20000 in
theorem ggX2_lay_X1_hasPlace : GoodIn wsX2_lay wsX1_hasPlace := goodIn_r _ [37, 17, 38, 56, 57, 58, 59, 60] (by decide +kernel) (by decide +kernel)
set_option maxRecDepth 20000 in
theorem gX2_lay_X1_hasPlace : GoodIn wsX2_lay (wsV RX2 50 RX1 yX1_hasPlace wsX1_hasPlace) := goodIn_app (goodIn_of _ (by decide +kernel)) ggX2_lay_X1_hasPlace
set_option maxRecDepth 20000 in
theorem ggX2_lay_X2_takenBy : GoodIn wsX2_lay wsX2_takenBy := goodIn_r _ [41] (by decide +kernel) (by decide +kernel)
set_option maxRecDepth 20000 in
theorem gX2_lay_X2_takenBy : GoodIn wsX2_lay (va_wsS RX2 195 yX2_takenBy wsX2_takenBy) := goodIn_app (goodIn_of _ (by decide +kernel)) ggX2_lay_X2_takenBy
set_option maxRecDepth 20000 in
theorem ggX2_lay_X1_put : GoodIn wsX2_lay wsX1_put := goodIn_r _ [45, 46, 12, 47, 35, 36, 10, 37, 17, 38, 48, 49, 50, 56, 57, 58, 59, 60] (by decide +kernel) (by decide +kernel)
set_option maxRecDepth 20000 in
theorem gX2_lay_X1_put : GoodIn wsX2_lay (wsV RX2 54 RX1 yX1_put wsX1_put) := goodIn_app (goodIn_of _ (by decide +kernel)) ggX2_lay_X1_put
theorem dX2_lay_0 : decode cX2_lay 0 = .ok (.aload_n 0, 1) := by decide +kernel
theorem dX2_lay_1 : decode cX2_lay 1 = .ok (.iload_n 2, 1) := by decide +kernel
theorem dX2_lay_2 : decode cX2_lay 2 = .ok (.aload_n 0, 1) := by decide +kernel
theorem dX2_lay_3 : decode cX2_lay 3 = .ok (.iload_n 1, 1) := by decide +kernel
theorem dX2_lay_4 : decode cX2_lay 4 = .ok (.invokevirtual 189, 3) := by decide +kernel
theorem dX2_lay_7 : decode cX2_lay 7 = .ok (.invokevirtual 192, 3) := by decide +kernel
theorem dX2_lay_10 : decode cX2_lay 10 = .ok (.ifCond .ne 8, 3) := by decide +kernel
theorem dX2_lay_13 : decode cX2_lay 13 = .ok (.iconst 1, 1) := by decide +kernel
theorem dX2_lay_14 : decode cX2_lay 14 = .ok (.invokestatic 130, 3) := by decide +kernel
theorem dX2_lay_17 : decode cX2_lay 17 = .ok (.ireturn, 1) := by decide +kernel
theorem dX2_lay_18 : decode cX2_lay 18 = .ok (.iload_n 1, 1) := by decide +kernel
theorem dX2_lay_19 : decode cX2_lay 19 = .ok (.iconst (-1), 1) := by decide +kernel
theorem dX2_lay_20 : decode cX2_lay 20 = .ok (.if_icmp .ne 8, 3) := by decide +kernel
theorem dX2_lay_23 : decode cX2_lay 23 = .ok (.iconst 2, 1) := by decide +kernel
theorem dX2_lay_24 : decode cX2_lay 24 = .ok (.invokestatic 130, 3) := by decide +kernel
theorem dX2_lay_27 : decode cX2_lay 27 = .ok (.ireturn, 1) := by decide +kernel
theorem dX2_lay_28 : decode cX2_lay 28 = .ok (.aload_n 0, 1) := by decide +kernel
theorem dX2_lay_29 : decode cX2_lay 29 = .ok (.getfield 10, 3) := by decide +kernel
theorem dX2_lay_32 : decode cX2_lay 32 = .ok (.iload_n 1, 1) := by decide +kernel
theorem dX2_lay_33 : decode cX2_lay 33 = .ok (.invokevirtual 110, 3) := by decide +kernel
theorem dX2_lay_36 : decode cX2_lay 36 = .ok (.istore 4, 2) := by decide +kernel
theorem dX2_lay_38 : decode cX2_lay 38 = .ok (.iload 4, 2) := by decide +kernel
theorem dX2_lay_40 : decode cX2_lay 40 = .ok (.invokestatic 41, 3) := by decide +kernel
theorem dX2_lay_43 : decode cX2_lay 43 = .ok (.ifCond .ne 8, 3) := by decide +kernel
theorem dX2_lay_46 : decode cX2_lay 46 = .ok (.iconst 1, 1) := by decide +kernel
theorem dX2_lay_47 : decode cX2_lay 47 = .ok (.invokestatic 130, 3) := by decide +kernel
theorem dX2_lay_50 : decode cX2_lay 50 = .ok (.ireturn, 1) := by decide +kernel
theorem dX2_lay_51 : decode cX2_lay 51 = .ok (.aload_n 0, 1) := by decide +kernel
theorem dX2_lay_52 : decode cX2_lay 52 = .ok (.getfield 10, 3) := by decide +kernel
theorem dX2_lay_55 : decode cX2_lay 55 = .ok (.iload_n 1, 1) := by decide +kernel
theorem dX2_lay_56 : decode cX2_lay 56 = .ok (.iload_n 3, 1) := by decide +kernel
theorem dX2_lay_57 : decode cX2_lay 57 = .ok (.invokevirtual 50, 3) := by decide +kernel
theorem dX2_lay_60 : decode cX2_lay 60 = .ok (.ifCond .ne 8, 3) := by decide +kernel
theorem dX2_lay_63 : decode cX2_lay 63 = .ok (.iconst 3, 1) := by decide +kernel
theorem dX2_lay_64 : decode cX2_lay 64 = .ok (.invokestatic 130, 3) := by decide +kernel
theorem dX2_lay_67 : decode cX2_lay 67 = .ok (.ireturn, 1) := by decide +kernel
theorem dX2_lay_68 : decode cX2_lay 68 = .ok (.aload_n 0, 1) := by decide +kernel
theorem dX2_lay_69 : decode cX2_lay 69 = .ok (.iload_n 2, 1) := by decide +kernel
theorem dX2_lay_70 : decode cX2_lay 70 = .ok (.iload 4, 2) := by decide +kernel
theorem dX2_lay_72 : decode cX2_lay 72 = .ok (.invokestatic 195, 3) := by decide +kernel
theorem dX2_lay_75 : decode cX2_lay 75 = .ok (.invokevirtual 192, 3) := by decide +kernel
theorem dX2_lay_78 : decode cX2_lay 78 = .ok (.ifCond .ne 8, 3) := by decide +kernel
theorem dX2_lay_81 : decode cX2_lay 81 = .ok (.iconst 4, 1) := by decide +kernel
theorem dX2_lay_82 : decode cX2_lay 82 = .ok (.invokestatic 130, 3) := by decide +kernel
theorem dX2_lay_85 : decode cX2_lay 85 = .ok (.ireturn, 1) := by decide +kernel
theorem dX2_lay_86 : decode cX2_lay 86 = .ok (.aload_n 0, 1) := by decide +kernel
theorem dX2_lay_87 : decode cX2_lay 87 = .ok (.getfield 10, 3) := by decide +kernel
theorem dX2_lay_90 : decode cX2_lay 90 = .ok (.iload_n 1, 1) := by decide +kernel
theorem dX2_lay_91 : decode cX2_lay 91 = .ok (.iload_n 3, 1) := by decide +kernel
theorem dX2_lay_92 : decode cX2_lay 92 = .ok (.iload_n 2, 1) := by decide +kernel
theorem dX2_lay_93 : decode cX2_lay 93 = .ok (.i2l, 1) := by decide +kernel
theorem dX2_lay_94 : decode cX2_lay 94 = .ok (.invokevirtual 54, 3) := by decide +kernel
theorem dX2_lay_97 : decode cX2_lay 97 = .ok (.iload_n 1, 1) := by decide +kernel
theorem dX2_lay_98 : decode cX2_lay 98 = .ok (.ireturn, 1) := by decide +kernel
set_option maxRecDepth 20000 in
theorem ggX2_askedByLay_X1_isA : GoodIn wsX2_askedByLay wsX1_isA := goodIn_r _ [6, 7, 8, 9, 10, 5, 11, 12, 13, 14, 15, 21, 22, 23, 24, 25] (by decide +kernel) (by decide +kernel)
set_option maxRecDepth 20000 in
theorem gX2_askedByLay_X1_isA : GoodIn wsX2_askedByLay (wsV RX2 58 RX1 yX1_isA wsX1_isA) := goodIn_app (goodIn_of _ (by decide +kernel)) ggX2_askedByLay_X1_isA
theorem dX2_askedByLay_0 : decode cX2_askedByLay 0 = .ok (.aload_n 0, 1) := by decide +kernel
theorem dX2_askedByLay_1 : decode cX2_askedByLay 1 = .ok (.getfield 10, 3) := by decide +kernel
theorem dX2_askedByLay_4 : decode cX2_askedByLay 4 = .ok (.iload_n 1, 1) := by decide +kernel
theorem dX2_askedByLay_5 : decode cX2_askedByLay 5 = .ok (.iconst 3, 1) := by decide +kernel
theorem dX2_askedByLay_6 : decode cX2_askedByLay 6 = .ok (.invokevirtual 58, 3) := by decide +kernel
theorem dX2_askedByLay_9 : decode cX2_askedByLay 9 = .ok (.ifCond .eq 5, 3) := by decide +kernel
theorem dX2_askedByLay_12 : decode cX2_askedByLay 12 = .ok (.iconst 1, 1) := by decide +kernel
theorem dX2_askedByLay_13 : decode cX2_askedByLay 13 = .ok (.ireturn, 1) := by decide +kernel
theorem dX2_askedByLay_14 : decode cX2_askedByLay 14 = .ok (.aload_n 0, 1) := by decide +kernel
theorem dX2_askedByLay_15 : decode cX2_askedByLay 15 = .ok (.getfield 10, 3) := by decide +kernel
theorem dX2_askedByLay_18 : decode cX2_askedByLay 18 = .ok (.iload_n 1, 1) := by decide +kernel
theorem dX2_askedByLay_19 : decode cX2_askedByLay 19 = .ok (.bipush 9, 2) := by decide +kernel
theorem dX2_askedByLay_21 : decode cX2_askedByLay 21 = .ok (.invokevirtual 58, 3) := by decide +kernel
theorem dX2_askedByLay_24 : decode cX2_askedByLay 24 = .ok (.ifCond .eq 6, 3) := by decide +kernel
theorem dX2_askedByLay_27 : decode cX2_askedByLay 27 = .ok (.bipush 6, 2) := by decide +kernel
theorem dX2_askedByLay_29 : decode cX2_askedByLay 29 = .ok (.ireturn, 1) := by decide +kernel
theorem dX2_askedByLay_30 : decode cX2_askedByLay 30 = .ok (.aload_n 0, 1) := by decide +kernel
theorem dX2_askedByLay_31 : decode cX2_askedByLay 31 = .ok (.getfield 10, 3) := by decide +kernel
theorem dX2_askedByLay_34 : decode cX2_askedByLay 34 = .ok (.iload_n 1, 1) := by decide +kernel
theorem dX2_askedByLay_35 : decode cX2_askedByLay 35 = .ok (.bipush 8, 2) := by decide +kernel
theorem dX2_askedByLay_37 : decode cX2_askedByLay 37 = .ok (.invokevirtual 58, 3) := by decide +kernel
theorem dX2_askedByLay_40 : decode cX2_askedByLay 40 = .ok (.ifCond .eq 21, 3) := by decide +kernel
theorem dX2_askedByLay_43 : decode cX2_askedByLay 43 = .ok (.aload_n 0, 1) := by decide +kernel
theorem dX2_askedByLay_44 : decode cX2_askedByLay 44 = .ok (.getfield 10, 3) := by decide +kernel
theorem dX2_askedByLay_47 : decode cX2_askedByLay 47 = .ok (.iload_n 1, 1) := by decide +kernel
theorem dX2_askedByLay_48 : decode cX2_askedByLay 48 = .ok (.bipush 6, 2) := by decide +kernel
theorem dX2_askedByLay_50 : decode cX2_askedByLay 50 = .ok (.invokevirtual 58, 3) := by decide +kernel
theorem dX2_askedByLay_53 : decode cX2_askedByLay 53 = .ok (.ifCond .ne 8, 3) := by decide +kernel
theorem dX2_askedByLay_56 : decode cX2_askedByLay 56 = .ok (.bipush 11, 2) := by decide +kernel
theorem dX2_askedByLay_58 : decode cX2_askedByLay 58 = .ok (.goto 4, 3) := by decide +kernel
theorem dX2_askedByLay_61 : decode cX2_askedByLay 61 = .ok (.iconst 4, 1) := by decide +kernel
theorem dX2_askedByLay_62 : decode cX2_askedByLay 62 = .ok (.ireturn, 1) := by decide +kernel
set_option maxRecDepth 20000 in
theorem ggX2_isNoneOr_X1_isA : GoodIn wsX2_isNoneOr wsX1_isA := goodIn_r _ [6, 7, 8, 9, 10, 5, 11, 12, 13, 14, 15, 21, 22, 23, 24, 25] (by decide +kernel) (by decide +kernel)
set_option maxRecDepth 20000 in
theorem gX2_isNoneOr_X1_isA : GoodIn wsX2_isNoneOr (wsV RX2 58 RX1 yX1_isA wsX1_isA) := goodIn_app (goodIn_of _ (by decide +kernel)) ggX2_isNoneOr_X1_isA
theorem dX2_isNoneOr_0 : decode cX2_isNoneOr 0 = .ok (.iload_n 1, 1) := by decide +kernel
theorem dX2_isNoneOr_1 : decode cX2_isNoneOr 1 = .ok (.iconst (-1), 1) := by decide +kernel
theorem dX2_isNoneOr_2 : decode cX2_isNoneOr 2 = .ok (.if_icmp .eq 15, 3) := by decide +kernel
theorem dX2_isNoneOr_5 : decode cX2_isNoneOr 5 = .ok (.aload_n 0, 1) := by decide +kernel
theorem dX2_isNoneOr_6 : decode cX2_isNoneOr 6 = .ok (.getfield 10, 3) := by decide +kernel
theorem dX2_isNoneOr_9 : decode cX2_isNoneOr 9 = .ok (.iload_n 1, 1) := by decide +kernel
theorem dX2_isNoneOr_10 : decode cX2_isNoneOr 10 = .ok (.iload_n 2, 1) := by decide +kernel
theorem dX2_isNoneOr_11 : decode cX2_isNoneOr 11 = .ok (.invokevirtual 58, 3) := by decide +kernel
theorem dX2_isNoneOr_14 : decode cX2_isNoneOr 14 = .ok (.ifCond .eq 7, 3) := by decide +kernel
theorem dX2_isNoneOr_17 : decode cX2_isNoneOr 17 = .ok (.iconst 1, 1) := by decide +kernel
theorem dX2_isNoneOr_18 : decode cX2_isNoneOr 18 = .ok (.goto 4, 3) := by decide +kernel
theorem dX2_isNoneOr_21 : decode cX2_isNoneOr 21 = .ok (.iconst 0, 1) := by decide +kernel
theorem dX2_isNoneOr_22 : decode cX2_isNoneOr 22 = .ok (.ireturn, 1) := by decide +kernel
set_option maxRecDepth 20000 in
theorem ggX2_levels_X2_fault : GoodIn wsX2_levels wsX2_fault := goodIn_r _ [5] (by decide +kernel) (by decide +kernel)
set_option maxRecDepth 20000 in
theorem gX2_levels_X2_fault : GoodIn wsX2_levels (va_wsS RX2 130 yX2_fault wsX2_fault) := goodIn_app (goodIn_of _ (by decide +kernel)) ggX2_levels_X2_fault
set_option maxRecDepth 20000 in
theorem ggX2_levels_X1_isA : GoodIn wsX2_levels wsX1_isA := goodIn_r _ [10, 11, 12, 13, 14, 9, 15, 16, 17, 4, 18, 62, 63, 64, 65, 66] (by decide +kernel) (by decide +kernel)
set_option maxRecDepth 20000 in
theorem gX2_levels_X1_isA : GoodIn wsX2_levels (wsV RX2 58 RX1 yX1_isA wsX1_isA) := goodIn_app (goodIn_of _ (by decide +kernel)) ggX2_levels_X1_isA
set_option maxRecDepth 20000 in
theorem ggX2_levels_X2_levelsTimes : GoodIn wsX2_levels wsX2_levelsTimes := goodIn_r _ [22, 1, 23, 24, 25, 9, 26, 27, 12, 13, 14, 15, 16, 28, 29, 30, 31, 11, 32, 33, 34, 4, 35, 36, 37, 38, 39, 40, 41, 42, 43, 44, 45, 46, 47, 48, 49, 50, 51, 52, 53, 54, 55, 56, 57, 58, 59, 60, 61, 62, 63, 64, 65, 66] (by decide +kernel) (by decide +kernel)
set_option maxRecDepth 20000 in
theorem gX2_levels_X2_levelsTimes : GoodIn wsX2_levels (wsV RX2 198 RX2 yX2_levelsTimes wsX2_levelsTimes) := goodIn_app (goodIn_of _ (by decide +kernel)) ggX2_levels_X2_levelsTimes
theorem dX2_levels_0 : decode cX2_levels 0 = .ok (.iload_n 1, 1) := by decide +kernel
theorem dX2_levels_1 : decode cX2_levels 1 = .ok (.iconst (-1), 1) := by decide +kernel
theorem dX2_levels_2 : decode cX2_levels 2 = .ok (.if_icmp .ne 8, 3) := by decide +kernel
theorem dX2_levels_5 : decode cX2_levels 5 = .ok (.iconst 2, 1) := by decide +kernel
theorem dX2_levels_6 : decode cX2_levels 6 = .ok (.invokestatic 130, 3) := by decide +kernel
theorem dX2_levels_9 : decode cX2_levels 9 = .ok (.ireturn, 1) := by decide +kernel
theorem dX2_levels_10 : decode cX2_levels 10 = .ok (.aload_n 0, 1) := by decide +kernel
theorem dX2_levels_11 : decode cX2_levels 11 = .ok (.getfield 10, 3) := by decide +kernel
theorem dX2_levels_14 : decode cX2_levels 14 = .ok (.iload_n 1, 1) := by decide +kernel
theorem dX2_levels_15 : decode cX2_levels 15 = .ok (.bipush 6, 2) := by decide +kernel
theorem dX2_levels_17 : decode cX2_levels 17 = .ok (.invokevirtual 58, 3) := by decide +kernel
theorem dX2_levels_20 : decode cX2_levels 20 = .ok (.ifCond .ne 21, 3) := by decide +kernel
theorem dX2_levels_23 : decode cX2_levels 23 = .ok (.aload_n 0, 1) := by decide +kernel
theorem dX2_levels_24 : decode cX2_levels 24 = .ok (.getfield 10, 3) := by decide +kernel
theorem dX2_levels_27 : decode cX2_levels 27 = .ok (.iload_n 1, 1) := by decide +kernel
theorem dX2_levels_28 : decode cX2_levels 28 = .ok (.bipush 8, 2) := by decide +kernel
theorem dX2_levels_30 : decode cX2_levels 30 = .ok (.invokevirtual 58, 3) := by decide +kernel
theorem dX2_levels_33 : decode cX2_levels 33 = .ok (.ifCond .ne 8, 3) := by decide +kernel
theorem dX2_levels_36 : decode cX2_levels 36 = .ok (.iconst 1, 1) := by decide +kernel
theorem dX2_levels_37 : decode cX2_levels 37 = .ok (.invokestatic 130, 3) := by decide +kernel
theorem dX2_levels_40 : decode cX2_levels 40 = .ok (.ireturn, 1) := by decide +kernel
theorem dX2_levels_41 : decode cX2_levels 41 = .ok (.aload_n 0, 1) := by decide +kernel
theorem dX2_levels_42 : decode cX2_levels 42 = .ok (.iload_n 1, 1) := by decide +kernel
theorem dX2_levels_43 : decode cX2_levels 43 = .ok (.lconst 1, 1) := by decide +kernel
theorem dX2_levels_44 : decode cX2_levels 44 = .ok (.invokevirtual 198, 3) := by decide +kernel
theorem dX2_levels_47 : decode cX2_levels 47 = .ok (.ireturn, 1) := by decide +kernel
set_option maxRecDepth 20000 in
theorem ggX2_power_X2_fault : GoodIn wsX2_power wsX2_fault := goodIn_r _ [6] (by decide +kernel) (by decide +kernel)
set_option maxRecDepth 20000 in
theorem gX2_power_X2_fault : GoodIn wsX2_power (va_wsS RX2 130 yX2_fault wsX2_fault) := goodIn_app (goodIn_of _ (by decide +kernel)) ggX2_power_X2_fault
set_option maxRecDepth 20000 in
theorem ggX2_power_X1_isA : GoodIn wsX2_power wsX1_isA := goodIn_r _ [11, 12, 13, 14, 15, 10, 16, 17, 18, 5, 19, 69, 70, 71, 72, 73] (by decide +kernel) (by decide +kernel)
set_option maxRecDepth 20000 in
theorem gX2_power_X1_isA : GoodIn wsX2_power (wsV RX2 58 RX1 yX1_isA wsX1_isA) := goodIn_app (goodIn_of _ (by decide +kernel)) ggX2_power_X1_isA
set_option maxRecDepth 20000 in
theorem ggX2_power_X1_levelOf : GoodIn wsX2_power wsX1_levelOf := goodIn_r _ [23, 24, 13, 14, 15, 10, 16, 17, 69, 70, 71, 72, 73] (by decide +kernel) (by decide +kernel)
set_option maxRecDepth 20000 in
theorem gX2_power_X1_levelOf : GoodIn wsX2_power (wsV RX2 61 RX1 yX1_levelOf wsX1_levelOf) := goodIn_app (goodIn_of _ (by decide +kernel)) ggX2_power_X1_levelOf
set_option maxRecDepth 20000 in
theorem ggX2_power_X1_addSingle : GoodIn wsX2_power wsX1_addSingle := goodIn_r _ [28, 29, 30, 31, 10, 32, 17, 12, 33, 24, 34, 35, 5, 36, 37, 38, 39, 40, 41, 42, 43, 44, 45, 46, 47, 48, 49, 69, 70, 71, 72, 73] (by decide +kernel) (by decide +kernel)
set_option maxRecDepth 20000 in
theorem gX2_power_X1_addSingle : GoodIn wsX2_power (wsV RX2 179 RX1 yX1_addSingle wsX1_addSingle) := goodIn_app (goodIn_of _ (by decide +kernel)) ggX2_power_X1_addSingle
set_option maxRecDepth 20000 in
theorem ggX2_power_X2_levelsTimes : GoodIn wsX2_power wsX2_levelsTimes := goodIn_r _ [53, 1, 54, 55, 56, 10, 57, 33, 13, 14, 15, 16, 17, 58, 30, 31, 32, 12, 24, 34, 35, 5, 36, 37, 38, 59, 60, 61, 62, 43, 44, 45, 46, 20, 21, 22, 23, 63, 40, 41, 42, 47, 48, 49, 64, 65, 66, 67, 68, 69, 70, 71, 72, 73] (by decide +kernel) (by decide +kernel)
set_option maxRecDepth 20000 in
theorem gX2_power_X2_levelsTimes : GoodIn wsX2_power (wsV RX2 198 RX2 yX2_levelsTimes wsX2_levelsTimes) := goodIn_app (goodIn_of _ (by decide +kernel)) ggX2_power_X2_levelsTimes
theorem dX2_power_0 : decode cX2_power 0 = .ok (.iload_n 1, 1) := by decide +kernel
theorem dX2_power_1 : decode cX2_power 1 = .ok (.iconst (-1), 1) := by decide +kernel
theorem dX2_power_2 : decode cX2_power 2 = .ok (.if_icmp .ne 8, 3) := by decide +kernel
theorem dX2_power_5 : decode cX2_power 5 = .ok (.iconst 2, 1) := by decide +kernel
theorem dX2_power_6 : decode cX2_power 6 = .ok (.invokestatic 130, 3) := by decide +kernel
theorem dX2_power_9 : decode cX2_power 9 = .ok (.ireturn, 1) := by decide +kernel
theorem dX2_power_10 : decode cX2_power 10 = .ok (.aload_n 0, 1) := by decide +kernel
theorem dX2_power_11 : decode cX2_power 11 = .ok (.getfield 10, 3) := by decide +kernel
theorem dX2_power_14 : decode cX2_power 14 = .ok (.iload_n 1, 1) := by decide +kernel
theorem dX2_power_15 : decode cX2_power 15 = .ok (.bipush 11, 2) := by decide +kernel
theorem dX2_power_17 : decode cX2_power 17 = .ok (.invokevirtual 58, 3) := by decide +kernel
theorem dX2_power_20 : decode cX2_power 20 = .ok (.ifCond .eq 25, 3) := by decide +kernel
theorem dX2_power_23 : decode cX2_power 23 = .ok (.aload_n 0, 1) := by decide +kernel
theorem dX2_power_24 : decode cX2_power 24 = .ok (.getfield 10, 3) := by decide +kernel
theorem dX2_power_27 : decode cX2_power 27 = .ok (.iconst 1, 1) := by decide +kernel
theorem dX2_power_28 : decode cX2_power 28 = .ok (.ldc2_w 201, 3) := by decide +kernel
theorem dX2_power_31 : decode cX2_power 31 = .ok (.aload_n 0, 1) := by decide +kernel
theorem dX2_power_32 : decode cX2_power 32 = .ok (.getfield 10, 3) := by decide +kernel
theorem dX2_power_35 : decode cX2_power 35 = .ok (.iload_n 1, 1) := by decide +kernel
theorem dX2_power_36 : decode cX2_power 36 = .ok (.invokevirtual 61, 3) := by decide +kernel
theorem dX2_power_39 : decode cX2_power 39 = .ok (.i2l, 1) := by decide +kernel
theorem dX2_power_40 : decode cX2_power 40 = .ok (.lmul, 1) := by decide +kernel
theorem dX2_power_41 : decode cX2_power 41 = .ok (.invokevirtual 179, 3) := by decide +kernel
theorem dX2_power_44 : decode cX2_power 44 = .ok (.ireturn, 1) := by decide +kernel
theorem dX2_power_45 : decode cX2_power 45 = .ok (.aload_n 0, 1) := by decide +kernel
theorem dX2_power_46 : decode cX2_power 46 = .ok (.getfield 10, 3) := by decide +kernel
theorem dX2_power_49 : decode cX2_power 49 = .ok (.iload_n 1, 1) := by decide +kernel
theorem dX2_power_50 : decode cX2_power 50 = .ok (.bipush 8, 2) := by decide +kernel
theorem dX2_power_52 : decode cX2_power 52 = .ok (.invokevirtual 58, 3) := by decide +kernel
theorem dX2_power_55 : decode cX2_power 55 = .ok (.ifCond .eq 14, 3) := by decide +kernel
theorem dX2_power_58 : decode cX2_power 58 = .ok (.aload_n 0, 1) := by decide +kernel
theorem dX2_power_59 : decode cX2_power 59 = .ok (.iload_n 1, 1) := by decide +kernel
theorem dX2_power_60 : decode cX2_power 60 = .ok (.ldc2_w 201, 3) := by decide +kernel
theorem dX2_power_63 : decode cX2_power 63 = .ok (.invokevirtual 198, 3) := by decide +kernel
theorem dX2_power_66 : decode cX2_power 66 = .ok (.goto 7, 3) := by decide +kernel
theorem dX2_power_69 : decode cX2_power 69 = .ok (.iconst 1, 1) := by decide +kernel
theorem dX2_power_70 : decode cX2_power 70 = .ok (.invokestatic 130, 3) := by decide +kernel
theorem dX2_power_73 : decode cX2_power 73 = .ok (.ireturn, 1) := by decide +kernel
set_option maxRecDepth 20000 in
theorem ggX2_levelsTimes_X1_lengthOf : GoodIn wsX2_levelsTimes wsX1_lengthOf := goodIn_r _ [6, 7, 8, 9, 10, 5, 11, 12, 49, 50, 51, 52, 53] (by decide +kernel) (by decide +kernel)
set_option maxRecDepth 20000 in
theorem gX2_levelsTimes_X1_lengthOf : GoodIn wsX2_levelsTimes (wsV RX2 116 RX1 yX1_lengthOf wsX1_lengthOf) := goodIn_app (goodIn_of _ (by decide +kernel)) ggX2_levelsTimes_X1_lengthOf
set_option maxRecDepth 20000 in
theorem ggX2_levelsTimes_X1_add : GoodIn wsX2_levelsTimes wsX1_add := goodIn_r _ [16, 12, 17, 7, 18, 19, 20, 21, 22, 23, 24, 49, 50, 51, 52, 53] (by decide +kernel) (by decide +kernel)
set_option maxRecDepth 20000 in
theorem gX2_levelsTimes_X1_add : GoodIn wsX2_levelsTimes (wsV RX2 37 RX1 yX1_add wsX1_add) := goodIn_app (goodIn_of _ (by decide +kernel)) ggX2_levelsTimes_X1_add
set_option maxRecDepth 20000 in
theorem ggX2_levelsTimes_X1_placed : GoodIn wsX2_levelsTimes wsX1_placed := goodIn_r _ [28, 19, 29, 30, 31, 5, 32, 12, 7, 49, 50, 51, 52, 53] (by decide +kernel) (by decide +kernel)
set_option maxRecDepth 20000 in
theorem gX2_levelsTimes_X1_placed : GoodIn wsX2_levelsTimes (wsV RX2 183 RX1 yX1_placed wsX1_placed) := goodIn_app (goodIn_of _ (by decide +kernel)) ggX2_levelsTimes_X1_placed
set_option maxRecDepth 20000 in
theorem ggX2_levelsTimes_X1_levelOf : GoodIn wsX2_levelsTimes wsX1_levelOf := goodIn_r _ [36, 18, 8, 9, 10, 5, 11, 12, 49, 50, 51, 52, 53] (by decide +kernel) (by decide +kernel)
set_option maxRecDepth 20000 in
theorem gX2_levelsTimes_X1_levelOf : GoodIn wsX2_levelsTimes (wsV RX2 61 RX1 yX1_levelOf wsX1_levelOf) := goodIn_app (goodIn_of _ (by decide +kernel)) ggX2_levelsTimes_X1_levelOf
set_option maxRecDepth 20000 in
theorem ggX2_levelsTimes_X1_put : GoodIn wsX2_levelsTimes wsX1_put := goodIn_r _ [40, 19, 17, 29, 30, 31, 5, 32, 12, 7, 41, 42, 43, 49, 50, 51, 52, 53] (by decide +kernel) (by decide +kernel)
set_option maxRecDepth 20000 in
theorem gX2_levelsTimes_X1_put : GoodIn wsX2_levelsTimes (wsV RX2 54 RX1 yX1_put wsX1_put) := goodIn_app (goodIn_of _ (by decide +kernel)) ggX2_levelsTimes_X1_put
theorem dX2_levelsTimes_0 : decode cX2_levelsTimes 0 = .ok (.aload_n 0, 1) := by decide +kernel
theorem dX2_levelsTimes_1 : decode cX2_levelsTimes 1 = .ok (.getfield 10, 3) := by decide +kernel
theorem dX2_levelsTimes_4 : decode cX2_levelsTimes 4 = .ok (.iload_n 1, 1) := by decide +kernel
theorem dX2_levelsTimes_5 : decode cX2_levelsTimes 5 = .ok (.invokevirtual 116, 3) := by decide +kernel
theorem dX2_levelsTimes_8 : decode cX2_levelsTimes 8 = .ok (.istore 4, 2) := by decide +kernel
theorem dX2_levelsTimes_10 : decode cX2_levelsTimes 10 = .ok (.aload_n 0, 1) := by decide +kernel
theorem dX2_levelsTimes_11 : decode cX2_levelsTimes 11 = .ok (.getfield 10, 3) := by decide +kernel
theorem dX2_levelsTimes_14 : decode cX2_levelsTimes 14 = .ok (.iconst 1, 1) := by decide +kernel
theorem dX2_levelsTimes_15 : decode cX2_levelsTimes 15 = .ok (.iload 4, 2) := by decide +kernel
theorem dX2_levelsTimes_17 : decode cX2_levelsTimes 17 = .ok (.invokevirtual 37, 3) := by decide +kernel
theorem dX2_levelsTimes_20 : decode cX2_levelsTimes 20 = .ok (.istore 5, 2) := by decide +kernel
theorem dX2_levelsTimes_22 : decode cX2_levelsTimes 22 = .ok (.iconst 0, 1) := by decide +kernel
theorem dX2_levelsTimes_23 : decode cX2_levelsTimes 23 = .ok (.istore 6, 2) := by decide +kernel
theorem dX2_levelsTimes_25 : decode cX2_levelsTimes 25 = .ok (.iload 6, 2) := by decide +kernel
theorem dX2_levelsTimes_27 : decode cX2_levelsTimes 27 = .ok (.iload 4, 2) := by decide +kernel
theorem dX2_levelsTimes_29 : decode cX2_levelsTimes 29 = .ok (.if_icmp .ge 40, 3) := by decide +kernel
theorem dX2_levelsTimes_32 : decode cX2_levelsTimes 32 = .ok (.aload_n 0, 1) := by decide +kernel
theorem dX2_levelsTimes_33 : decode cX2_levelsTimes 33 = .ok (.getfield 10, 3) := by decide +kernel
theorem dX2_levelsTimes_36 : decode cX2_levelsTimes 36 = .ok (.iload 5, 2) := by decide +kernel
theorem dX2_levelsTimes_38 : decode cX2_levelsTimes 38 = .ok (.iload 6, 2) := by decide +kernel
theorem dX2_levelsTimes_40 : decode cX2_levelsTimes 40 = .ok (.lload_n 2, 1) := by decide +kernel
theorem dX2_levelsTimes_41 : decode cX2_levelsTimes 41 = .ok (.aload_n 0, 1) := by decide +kernel
theorem dX2_levelsTimes_42 : decode cX2_levelsTimes 42 = .ok (.getfield 10, 3) := by decide +kernel
theorem dX2_levelsTimes_45 : decode cX2_levelsTimes 45 = .ok (.aload_n 0, 1) := by decide +kernel
theorem dX2_levelsTimes_46 : decode cX2_levelsTimes 46 = .ok (.getfield 10, 3) := by decide +kernel
theorem dX2_levelsTimes_49 : decode cX2_levelsTimes 49 = .ok (.iload_n 1, 1) := by decide +kernel
theorem dX2_levelsTimes_50 : decode cX2_levelsTimes 50 = .ok (.iload 6, 2) := by decide +kernel
theorem dX2_levelsTimes_52 : decode cX2_levelsTimes 52 = .ok (.invokevirtual 183, 3) := by decide +kernel
theorem dX2_levelsTimes_55 : decode cX2_levelsTimes 55 = .ok (.invokevirtual 61, 3) := by decide +kernel
theorem dX2_levelsTimes_58 : decode cX2_levelsTimes 58 = .ok (.i2l, 1) := by decide +kernel
theorem dX2_levelsTimes_59 : decode cX2_levelsTimes 59 = .ok (.lmul, 1) := by decide +kernel
theorem dX2_levelsTimes_60 : decode cX2_levelsTimes 60 = .ok (.invokevirtual 54, 3) := by decide +kernel
theorem dX2_levelsTimes_63 : decode cX2_levelsTimes 63 = .ok (.iinc 6 1, 3) := by decide +kernel
theorem dX2_levelsTimes_66 : decode cX2_levelsTimes 66 = .ok (.goto (-41), 3) := by decide +kernel
theorem dX2_levelsTimes_69 : decode cX2_levelsTimes 69 = .ok (.iload 5, 2) := by decide +kernel
theorem dX2_levelsTimes_71 : decode cX2_levelsTimes 71 = .ok (.ireturn, 1) := by decide +kernel
set_option maxRecDepth 20000 in
theorem ggX2_drive_X2_fault : GoodIn wsX2_drive wsX2_fault := goodIn_r _ [5] (by decide +kernel) (by decide +kernel)
set_option maxRecDepth 20000 in
theorem gX2_drive_X2_fault : GoodIn wsX2_drive (va_wsS RX2 130 yX2_fault wsX2_fault) := goodIn_app (goodIn_of _ (by decide +kernel)) ggX2_drive_X2_fault
set_option maxRecDepth 20000 in
theorem ggX2_drive_X1_isA : GoodIn wsX2_drive wsX1_isA := goodIn_r _ [10, 11, 12, 13, 14, 9, 15, 16, 17, 4, 18, 63, 64, 65, 66, 67] (by decide +kernel) (by decide +kernel)
set_option maxRecDepth 20000 in
theorem gX2_drive_X1_isA : GoodIn wsX2_drive (wsV RX2 58 RX1 yX1_isA wsX1_isA) := goodIn_app (goodIn_of _ (by decide +kernel)) ggX2_drive_X1_isA
set_option maxRecDepth 20000 in
theorem ggX2_drive_X1_lengthOf : GoodIn wsX2_drive wsX1_lengthOf := goodIn_r _ [22, 23, 12, 13, 14, 9, 15, 16, 63, 64, 65, 66, 67] (by decide +kernel) (by decide +kernel)
set_option maxRecDepth 20000 in
theorem gX2_drive_X1_lengthOf : GoodIn wsX2_drive (wsV RX2 116 RX1 yX1_lengthOf wsX1_lengthOf) := goodIn_app (goodIn_of _ (by decide +kernel)) ggX2_drive_X1_lengthOf
set_option maxRecDepth 20000 in
theorem ggX2_drive_X1_made : GoodIn wsX2_drive wsX1_made := goodIn_r _ [27, 16, 63, 64, 65, 66, 67] (by decide +kernel) (by decide +kernel)
set_option maxRecDepth 20000 in
theorem gX2_drive_X1_made : GoodIn wsX2_drive (wsV RX2 117 RX1 yX1_made wsX1_made) := goodIn_app (goodIn_of _ (by decide +kernel)) ggX2_drive_X1_made
set_option maxRecDepth 20000 in
theorem ggX2_drive_X1_cellOf : GoodIn wsX2_drive wsX1_cellOf := goodIn_r _ [31, 32, 33, 34, 35, 9, 36, 16, 23, 63, 64, 65, 66, 67] (by decide +kernel) (by decide +kernel)
set_option maxRecDepth 20000 in
theorem gX2_drive_X1_cellOf : GoodIn wsX2_drive (wsV RX2 65 RX1 yX1_cellOf wsX1_cellOf) := goodIn_app (goodIn_of _ (by decide +kernel)) ggX2_drive_X1_cellOf
set_option maxRecDepth 20000 in
theorem ggX2_drive_X1_addWire : GoodIn wsX2_drive wsX1_addWire := goodIn_r _ [40, 41, 42, 43, 44, 9, 45, 16, 11, 23, 32, 46, 4, 47, 48, 49, 12, 13, 14, 15, 63, 64, 65, 66, 67] (by decide +kernel) (by decide +kernel)
set_option maxRecDepth 20000 in
theorem gX2_drive_X1_addWire : GoodIn wsX2_drive (wsV RX2 44 RX1 yX1_addWire wsX1_addWire) := goodIn_app (goodIn_of _ (by decide +kernel)) ggX2_drive_X1_addWire
set_option maxRecDepth 20000 in
theorem ggX2_drive_X1_add : GoodIn wsX2_drive wsX1_add := goodIn_r _ [45, 16, 11, 23, 41, 32, 46, 4, 47, 48, 49, 63, 64, 65, 66, 67] (by decide +kernel) (by decide +kernel)
set_option maxRecDepth 20000 in
theorem gX2_drive_X1_add : GoodIn wsX2_drive (wsV RX2 37 RX1 yX1_add wsX1_add) := goodIn_app (goodIn_of _ (by decide +kernel)) ggX2_drive_X1_add
set_option maxRecDepth 20000 in
theorem ggX2_drive_X1_put : GoodIn wsX2_drive wsX1_put := goodIn_r _ [54, 32, 11, 33, 34, 35, 9, 36, 16, 23, 55, 56, 57, 63, 64, 65, 66, 67] (by decide +kernel) (by decide +kernel)
set_option maxRecDepth 20000 in
theorem gX2_drive_X1_put : GoodIn wsX2_drive (wsV RX2 54 RX1 yX1_put wsX1_put) := goodIn_app (goodIn_of _ (by decide +kernel)) ggX2_drive_X1_put
theorem dX2_drive_0 : decode cX2_drive 0 = .ok (.iload_n 1, 1) := by decide +kernel
theorem dX2_drive_1 : decode cX2_drive 1 = .ok (.iconst (-1), 1) := by decide +kernel
theorem dX2_drive_2 : decode cX2_drive 2 = .ok (.if_icmp .ne 8, 3) := by decide +kernel
theorem dX2_drive_5 : decode cX2_drive 5 = .ok (.iconst 2, 1) := by decide +kernel
theorem dX2_drive_6 : decode cX2_drive 6 = .ok (.invokestatic 130, 3) := by decide +kernel
theorem dX2_drive_9 : decode cX2_drive 9 = .ok (.ireturn, 1) := by decide +kernel
theorem dX2_drive_10 : decode cX2_drive 10 = .ok (.aload_n 0, 1) := by decide +kernel
theorem dX2_drive_11 : decode cX2_drive 11 = .ok (.getfield 10, 3) := by decide +kernel
theorem dX2_drive_14 : decode cX2_drive 14 = .ok (.iload_n 1, 1) := by decide +kernel
theorem dX2_drive_15 : decode cX2_drive 15 = .ok (.iconst 1, 1) := by decide +kernel
theorem dX2_drive_16 : decode cX2_drive 16 = .ok (.invokevirtual 58, 3) := by decide +kernel
theorem dX2_drive_19 : decode cX2_drive 19 = .ok (.ifCond .ne 8, 3) := by decide +kernel
theorem dX2_drive_22 : decode cX2_drive 22 = .ok (.iconst 1, 1) := by decide +kernel
theorem dX2_drive_23 : decode cX2_drive 23 = .ok (.invokestatic 130, 3) := by decide +kernel
theorem dX2_drive_26 : decode cX2_drive 26 = .ok (.ireturn, 1) := by decide +kernel
theorem dX2_drive_27 : decode cX2_drive 27 = .ok (.aload_n 0, 1) := by decide +kernel
theorem dX2_drive_28 : decode cX2_drive 28 = .ok (.getfield 10, 3) := by decide +kernel
theorem dX2_drive_31 : decode cX2_drive 31 = .ok (.iload_n 1, 1) := by decide +kernel
theorem dX2_drive_32 : decode cX2_drive 32 = .ok (.invokevirtual 116, 3) := by decide +kernel
theorem dX2_drive_35 : decode cX2_drive 35 = .ok (.istore_n 3, 1) := by decide +kernel
theorem dX2_drive_36 : decode cX2_drive 36 = .ok (.aload_n 0, 1) := by decide +kernel
theorem dX2_drive_37 : decode cX2_drive 37 = .ok (.getfield 10, 3) := by decide +kernel
theorem dX2_drive_40 : decode cX2_drive 40 = .ok (.invokevirtual 117, 3) := by decide +kernel
theorem dX2_drive_43 : decode cX2_drive 43 = .ok (.istore 4, 2) := by decide +kernel
theorem dX2_drive_45 : decode cX2_drive 45 = .ok (.iconst 0, 1) := by decide +kernel
theorem dX2_drive_46 : decode cX2_drive 46 = .ok (.istore 5, 2) := by decide +kernel
theorem dX2_drive_48 : decode cX2_drive 48 = .ok (.iload 5, 2) := by decide +kernel
theorem dX2_drive_50 : decode cX2_drive 50 = .ok (.iload_n 3, 1) := by decide +kernel
theorem dX2_drive_51 : decode cX2_drive 51 = .ok (.if_icmp .ge 37, 3) := by decide +kernel
theorem dX2_drive_54 : decode cX2_drive 54 = .ok (.aload_n 0, 1) := by decide +kernel
theorem dX2_drive_55 : decode cX2_drive 55 = .ok (.getfield 10, 3) := by decide +kernel
theorem dX2_drive_58 : decode cX2_drive 58 = .ok (.iload_n 2, 1) := by decide +kernel
theorem dX2_drive_59 : decode cX2_drive 59 = .ok (.ifCond .eq 7, 3) := by decide +kernel
theorem dX2_drive_62 : decode cX2_drive 62 = .ok (.iconst 5, 1) := by decide +kernel
theorem dX2_drive_63 : decode cX2_drive 63 = .ok (.goto 4, 3) := by decide +kernel
theorem dX2_drive_66 : decode cX2_drive 66 = .ok (.iconst 4, 1) := by decide +kernel
theorem dX2_drive_67 : decode cX2_drive 67 = .ok (.aload_n 0, 1) := by decide +kernel
theorem dX2_drive_68 : decode cX2_drive 68 = .ok (.getfield 10, 3) := by decide +kernel
theorem dX2_drive_71 : decode cX2_drive 71 = .ok (.iload_n 1, 1) := by decide +kernel
theorem dX2_drive_72 : decode cX2_drive 72 = .ok (.iload 5, 2) := by decide +kernel
theorem dX2_drive_74 : decode cX2_drive 74 = .ok (.invokevirtual 65, 3) := by decide +kernel
theorem dX2_drive_77 : decode cX2_drive 77 = .ok (.l2i, 1) := by decide +kernel
theorem dX2_drive_78 : decode cX2_drive 78 = .ok (.invokevirtual 44, 3) := by decide +kernel
theorem dX2_drive_81 : decode cX2_drive 81 = .ok (.pop, 1) := by decide +kernel
theorem dX2_drive_82 : decode cX2_drive 82 = .ok (.iinc 5 1, 3) := by decide +kernel
theorem dX2_drive_85 : decode cX2_drive 85 = .ok (.goto (-37), 3) := by decide +kernel
theorem dX2_drive_88 : decode cX2_drive 88 = .ok (.aload_n 0, 1) := by decide +kernel
theorem dX2_drive_89 : decode cX2_drive 89 = .ok (.getfield 10, 3) := by decide +kernel
theorem dX2_drive_92 : decode cX2_drive 92 = .ok (.iload_n 2, 1) := by decide +kernel
theorem dX2_drive_93 : decode cX2_drive 93 = .ok (.ifCond .eq 8, 3) := by decide +kernel
theorem dX2_drive_96 : decode cX2_drive 96 = .ok (.bipush 7, 2) := by decide +kernel
theorem dX2_drive_98 : decode cX2_drive 98 = .ok (.goto 5, 3) := by decide +kernel
theorem dX2_drive_101 : decode cX2_drive 101 = .ok (.bipush 6, 2) := by decide +kernel
theorem dX2_drive_103 : decode cX2_drive 103 = .ok (.iload_n 3, 1) := by decide +kernel
theorem dX2_drive_104 : decode cX2_drive 104 = .ok (.invokevirtual 37, 3) := by decide +kernel
theorem dX2_drive_107 : decode cX2_drive 107 = .ok (.istore 5, 2) := by decide +kernel
theorem dX2_drive_109 : decode cX2_drive 109 = .ok (.iconst 0, 1) := by decide +kernel
theorem dX2_drive_110 : decode cX2_drive 110 = .ok (.istore 6, 2) := by decide +kernel
theorem dX2_drive_112 : decode cX2_drive 112 = .ok (.iload 6, 2) := by decide +kernel
theorem dX2_drive_114 : decode cX2_drive 114 = .ok (.iload_n 3, 1) := by decide +kernel
theorem dX2_drive_115 : decode cX2_drive 115 = .ok (.if_icmp .ge 26, 3) := by decide +kernel
theorem dX2_drive_118 : decode cX2_drive 118 = .ok (.aload_n 0, 1) := by decide +kernel
theorem dX2_drive_119 : decode cX2_drive 119 = .ok (.getfield 10, 3) := by decide +kernel
theorem dX2_drive_122 : decode cX2_drive 122 = .ok (.iload 5, 2) := by decide +kernel
theorem dX2_drive_124 : decode cX2_drive 124 = .ok (.iload 6, 2) := by decide +kernel
theorem dX2_drive_126 : decode cX2_drive 126 = .ok (.iload 4, 2) := by decide +kernel
theorem dX2_drive_128 : decode cX2_drive 128 = .ok (.iload 6, 2) := by decide +kernel
theorem dX2_drive_130 : decode cX2_drive 130 = .ok (.iadd, 1) := by decide +kernel
theorem dX2_drive_131 : decode cX2_drive 131 = .ok (.i2l, 1) := by decide +kernel
theorem dX2_drive_132 : decode cX2_drive 132 = .ok (.invokevirtual 54, 3) := by decide +kernel
theorem dX2_drive_135 : decode cX2_drive 135 = .ok (.iinc 6 1, 3) := by decide +kernel
theorem dX2_drive_138 : decode cX2_drive 138 = .ok (.goto (-26), 3) := by decide +kernel
theorem dX2_drive_141 : decode cX2_drive 141 = .ok (.iload 5, 2) := by decide +kernel
theorem dX2_drive_143 : decode cX2_drive 143 = .ok (.ireturn, 1) := by decide +kernel
set_option maxRecDepth 20000 in
theorem ggX2_pair_X2_isNoneOr : GoodIn wsX2_pair wsX2_isNoneOr := goodIn_r _ [6, 1, 7, 8, 9, 10, 11, 12, 13, 14, 15, 16, 17, 18, 5, 19, 45, 46, 47, 48, 49, 50, 51, 52, 53, 54] (by decide +kernel) (by decide +kernel)
set_option maxRecDepth 20000 in
theorem gX2_pair_X2_isNoneOr : GoodIn wsX2_pair (wsV RX2 192 RX2 yX2_isNoneOr wsX2_isNoneOr) := goodIn_app (goodIn_of _ (by decide +kernel)) ggX2_pair_X2_isNoneOr
set_option maxRecDepth 20000 in
theorem ggX2_pair_X2_fault : GoodIn wsX2_pair wsX2_fault := goodIn_r _ [22] (by decide +kernel) (by decide +kernel)
set_option maxRecDepth 20000 in
theorem gX2_pair_X2_fault : GoodIn wsX2_pair (va_wsS RX2 130 yX2_fault wsX2_fault) := goodIn_app (goodIn_of _ (by decide +kernel)) ggX2_pair_X2_fault
set_option maxRecDepth 20000 in
theorem ggX2_pair_X1_add : GoodIn wsX2_pair wsX1_add := goodIn_r _ [26, 17, 12, 27, 28, 29, 30, 5, 31, 32, 33, 50, 51, 52, 53, 54] (by decide +kernel) (by decide +kernel)
set_option maxRecDepth 20000 in
theorem gX2_pair_X1_add : GoodIn wsX2_pair (wsV RX2 37 RX1 yX1_add wsX1_add) := goodIn_app (goodIn_of _ (by decide +kernel)) ggX2_pair_X1_add
set_option maxRecDepth 20000 in
theorem ggX2_pair_X1_put : GoodIn wsX2_pair wsX1_put := goodIn_r _ [37, 29, 12, 38, 39, 40, 10, 41, 17, 27, 42, 43, 44, 50, 51, 52, 53, 54] (by decide +kernel) (by decide +kernel)
set_option maxRecDepth 20000 in
theorem gX2_pair_X1_put : GoodIn wsX2_pair (wsV RX2 54 RX1 yX1_put wsX1_put) := goodIn_app (goodIn_of _ (by decide +kernel)) ggX2_pair_X1_put
theorem dX2_pair_0 : decode cX2_pair 0 = .ok (.iload_n 3, 1) := by decide +kernel
theorem dX2_pair_1 : decode cX2_pair 1 = .ok (.ifCond .eq 8, 3) := by decide +kernel
theorem dX2_pair_4 : decode cX2_pair 4 = .ok (.bipush 7, 2) := by decide +kernel
theorem dX2_pair_6 : decode cX2_pair 6 = .ok (.goto 5, 3) := by decide +kernel
theorem dX2_pair_9 : decode cX2_pair 9 = .ok (.bipush 6, 2) := by decide +kernel
theorem dX2_pair_11 : decode cX2_pair 11 = .ok (.istore 4, 2) := by decide +kernel
theorem dX2_pair_13 : decode cX2_pair 13 = .ok (.aload_n 0, 1) := by decide +kernel
theorem dX2_pair_14 : decode cX2_pair 14 = .ok (.iload_n 1, 1) := by decide +kernel
theorem dX2_pair_15 : decode cX2_pair 15 = .ok (.iload 4, 2) := by decide +kernel
theorem dX2_pair_17 : decode cX2_pair 17 = .ok (.invokevirtual 192, 3) := by decide +kernel
theorem dX2_pair_20 : decode cX2_pair 20 = .ok (.ifCond .eq 13, 3) := by decide +kernel
theorem dX2_pair_23 : decode cX2_pair 23 = .ok (.aload_n 0, 1) := by decide +kernel
theorem dX2_pair_24 : decode cX2_pair 24 = .ok (.iload_n 2, 1) := by decide +kernel
theorem dX2_pair_25 : decode cX2_pair 25 = .ok (.iload 4, 2) := by decide +kernel
theorem dX2_pair_27 : decode cX2_pair 27 = .ok (.invokevirtual 192, 3) := by decide +kernel
theorem dX2_pair_30 : decode cX2_pair 30 = .ok (.ifCond .ne 8, 3) := by decide +kernel
theorem dX2_pair_33 : decode cX2_pair 33 = .ok (.iconst 1, 1) := by decide +kernel
theorem dX2_pair_34 : decode cX2_pair 34 = .ok (.invokestatic 130, 3) := by decide +kernel
theorem dX2_pair_37 : decode cX2_pair 37 = .ok (.ireturn, 1) := by decide +kernel
theorem dX2_pair_38 : decode cX2_pair 38 = .ok (.iload_n 1, 1) := by decide +kernel
theorem dX2_pair_39 : decode cX2_pair 39 = .ok (.iconst (-1), 1) := by decide +kernel
theorem dX2_pair_40 : decode cX2_pair 40 = .ok (.if_icmp .eq 8, 3) := by decide +kernel
theorem dX2_pair_43 : decode cX2_pair 43 = .ok (.iload_n 2, 1) := by decide +kernel
theorem dX2_pair_44 : decode cX2_pair 44 = .ok (.iconst (-1), 1) := by decide +kernel
theorem dX2_pair_45 : decode cX2_pair 45 = .ok (.if_icmp .ne 8, 3) := by decide +kernel
theorem dX2_pair_48 : decode cX2_pair 48 = .ok (.iconst 2, 1) := by decide +kernel
theorem dX2_pair_49 : decode cX2_pair 49 = .ok (.invokestatic 130, 3) := by decide +kernel
theorem dX2_pair_52 : decode cX2_pair 52 = .ok (.ireturn, 1) := by decide +kernel
theorem dX2_pair_53 : decode cX2_pair 53 = .ok (.aload_n 0, 1) := by decide +kernel
theorem dX2_pair_54 : decode cX2_pair 54 = .ok (.getfield 10, 3) := by decide +kernel
theorem dX2_pair_57 : decode cX2_pair 57 = .ok (.iload_n 3, 1) := by decide +kernel
theorem dX2_pair_58 : decode cX2_pair 58 = .ok (.ifCond .eq 8, 3) := by decide +kernel
theorem dX2_pair_61 : decode cX2_pair 61 = .ok (.bipush 10, 2) := by decide +kernel
theorem dX2_pair_63 : decode cX2_pair 63 = .ok (.goto 5, 3) := by decide +kernel
theorem dX2_pair_66 : decode cX2_pair 66 = .ok (.bipush 9, 2) := by decide +kernel
theorem dX2_pair_68 : decode cX2_pair 68 = .ok (.iconst 2, 1) := by decide +kernel
theorem dX2_pair_69 : decode cX2_pair 69 = .ok (.invokevirtual 37, 3) := by decide +kernel
theorem dX2_pair_72 : decode cX2_pair 72 = .ok (.istore 5, 2) := by decide +kernel
theorem dX2_pair_74 : decode cX2_pair 74 = .ok (.aload_n 0, 1) := by decide +kernel
theorem dX2_pair_75 : decode cX2_pair 75 = .ok (.getfield 10, 3) := by decide +kernel
theorem dX2_pair_78 : decode cX2_pair 78 = .ok (.iload 5, 2) := by decide +kernel
theorem dX2_pair_80 : decode cX2_pair 80 = .ok (.iconst 0, 1) := by decide +kernel
theorem dX2_pair_81 : decode cX2_pair 81 = .ok (.iload_n 1, 1) := by decide +kernel
theorem dX2_pair_82 : decode cX2_pair 82 = .ok (.i2l, 1) := by decide +kernel
theorem dX2_pair_83 : decode cX2_pair 83 = .ok (.invokevirtual 54, 3) := by decide +kernel
theorem dX2_pair_86 : decode cX2_pair 86 = .ok (.aload_n 0, 1) := by decide +kernel
theorem dX2_pair_87 : decode cX2_pair 87 = .ok (.getfield 10, 3) := by decide +kernel
theorem dX2_pair_90 : decode cX2_pair 90 = .ok (.iload 5, 2) := by decide +kernel
end
section
theorem dX2_pair_92 : decode cX2_pair 92 = .ok (.iconst 1, 1) := by decide +kernel
theorem dX2_pair_93 : decode cX2_pair 93 = .ok (.iload_n 2, 1) := by decide +kernel
theorem dX2_pair_94 : decode cX2_pair 94 = .ok (.i2l, 1) := by decide +kernel
theorem dX2_pair_95 : decode cX2_pair 95 = .ok (.invokevirtual 54, 3) := by decide +kernel
theorem dX2_pair_98 : decode cX2_pair 98 = .ok (.iload 5, 2) := by decide +kernel
theorem dX2_pair_100 : decode cX2_pair 100 = .ok (.ireturn, 1) := by decide +kernel
set_option maxRecDepth 20000 in
theorem ggX2_join_X1_isNumbers : GoodIn wsX2_join wsX1_isNumbers := goodIn_r _ [6, 7, 8, 9, 10, 5, 11, 12, 79, 80, 81, 82, 83] (by decide +kernel) (by decide +kernel)
set_option maxRecDepth 20000 in
theorem gX2_join_X1_isNumbers : GoodIn wsX2_join (wsV RX2 47 RX1 yX1_isNumbers wsX1_isNumbers) := goodIn_app (goodIn_of _ (by decide +kernel)) ggX2_join_X1_isNumbers
set_option maxRecDepth 20000 in
theorem ggX2_join_X1_formOf : GoodIn wsX2_join wsX1_formOf := goodIn_r _ [16, 7, 8, 9, 10, 5, 11, 12, 79, 80, 81, 82, 83] (by decide +kernel) (by decide +kernel)
set_option maxRecDepth 20000 in
theorem gX2_join_X1_formOf : GoodIn wsX2_join (wsV RX2 110 RX1 yX1_formOf wsX1_formOf) := goodIn_app (goodIn_of _ (by decide +kernel)) ggX2_join_X1_formOf
set_option maxRecDepth 20000 in
theorem ggX2_join_X2_isNoneOr : GoodIn wsX2_join wsX2_isNoneOr := goodIn_r _ [21, 1, 22, 23, 24, 5, 25, 7, 8, 9, 10, 11, 12, 26, 20, 27, 74, 75, 76, 77, 78, 79, 80, 81, 82, 83] (by decide +kernel) (by decide +kernel)
set_option maxRecDepth 20000 in
theorem gX2_join_X2_isNoneOr : GoodIn wsX2_join (wsV RX2 192 RX2 yX2_isNoneOr wsX2_isNoneOr) := goodIn_app (goodIn_of _ (by decide +kernel)) ggX2_join_X2_isNoneOr
set_option maxRecDepth 20000 in
theorem ggX2_join_X2_fault : GoodIn wsX2_join wsX2_fault := goodIn_r _ [30] (by decide +kernel) (by decide +kernel)
set_option maxRecDepth 20000 in
theorem gX2_join_X2_fault : GoodIn wsX2_join (va_wsS RX2 130 yX2_fault wsX2_fault) := goodIn_app (goodIn_of _ (by decide +kernel)) ggX2_join_X2_fault
set_option maxRecDepth 20000 in
theorem ggX2_join_X1_lengthOf : GoodIn wsX2_join wsX1_lengthOf := goodIn_r _ [34, 35, 8, 9, 10, 5, 11, 12, 79, 80, 81, 82, 83] (by decide +kernel) (by decide +kernel)
set_option maxRecDepth 20000 in
theorem gX2_join_X1_lengthOf : GoodIn wsX2_join (wsV RX2 116 RX1 yX1_lengthOf wsX1_lengthOf) := goodIn_app (goodIn_of _ (by decide +kernel)) ggX2_join_X1_lengthOf
set_option maxRecDepth 20000 in
theorem ggX2_join_X2_holdsOnlyLives : GoodIn wsX2_join wsX2_holdsOnlyLives := goodIn_r _ [39, 1, 31, 32, 33, 5, 34, 35, 8, 9, 10, 11, 12, 40, 41, 42, 43, 44, 45, 46, 47, 48, 17, 18, 19, 20, 21, 22, 23, 24, 25, 7, 26, 27, 74, 75, 76, 77, 78, 79, 80, 81, 82, 83] (by decide +kernel) (by decide +kernel)
set_option maxRecDepth 20000 in
theorem gX2_join_X2_holdsOnlyLives : GoodIn wsX2_join (wsV RX2 203 RX2 yX2_holdsOnlyLives wsX2_holdsOnlyLives) := goodIn_app (goodIn_of _ (by decide +kernel)) ggX2_join_X2_holdsOnlyLives
set_option maxRecDepth 20000 in
theorem ggX2_join_X1_add : GoodIn wsX2_join wsX1_add := goodIn_r _ [52, 12, 7, 35, 53, 44, 54, 20, 55, 56, 57, 79, 80, 81, 82, 83] (by decide +kernel) (by decide +kernel)
set_option maxRecDepth 20000 in
theorem gX2_join_X1_add : GoodIn wsX2_join (wsV RX2 37 RX1 yX1_add wsX1_add) := goodIn_app (goodIn_of _ (by decide +kernel)) ggX2_join_X1_add
set_option maxRecDepth 20000 in
theorem ggX2_join_X1_copyCells : GoodIn wsX2_join wsX1_copyCells := goodIn_r _ [61, 62, 32, 33, 5, 34, 35, 8, 9, 10, 11, 12, 63, 64, 65, 66, 44, 45, 46, 47, 48, 67, 68, 69, 70, 7, 71, 72, 73, 79, 80, 81, 82, 83] (by decide +kernel) (by decide +kernel)
set_option maxRecDepth 20000 in
theorem gX2_join_X1_copyCells : GoodIn wsX2_join (wsV RX2 206 RX1 yX1_copyCells wsX1_copyCells) := goodIn_app (goodIn_of _ (by decide +kernel)) ggX2_join_X1_copyCells
theorem dX2_join_0 : decode cX2_join 0 = .ok (.aload_n 0, 1) := by decide +kernel
theorem dX2_join_1 : decode cX2_join 1 = .ok (.getfield 10, 3) := by decide +kernel
theorem dX2_join_4 : decode cX2_join 4 = .ok (.iload_n 1, 1) := by decide +kernel
theorem dX2_join_5 : decode cX2_join 5 = .ok (.invokevirtual 47, 3) := by decide +kernel
theorem dX2_join_8 : decode cX2_join 8 = .ok (.istore_n 3, 1) := by decide +kernel
theorem dX2_join_9 : decode cX2_join 9 = .ok (.aload_n 0, 1) := by decide +kernel
theorem dX2_join_10 : decode cX2_join 10 = .ok (.getfield 10, 3) := by decide +kernel
theorem dX2_join_13 : decode cX2_join 13 = .ok (.iload_n 1, 1) := by decide +kernel
theorem dX2_join_14 : decode cX2_join 14 = .ok (.invokevirtual 110, 3) := by decide +kernel
theorem dX2_join_17 : decode cX2_join 17 = .ok (.istore 4, 2) := by decide +kernel
theorem dX2_join_19 : decode cX2_join 19 = .ok (.iload_n 3, 1) := by decide +kernel
theorem dX2_join_20 : decode cX2_join 20 = .ok (.ifCond .ne 13, 3) := by decide +kernel
theorem dX2_join_23 : decode cX2_join 23 = .ok (.aload_n 0, 1) := by decide +kernel
theorem dX2_join_24 : decode cX2_join 24 = .ok (.iload_n 1, 1) := by decide +kernel
theorem dX2_join_25 : decode cX2_join 25 = .ok (.bipush 6, 2) := by decide +kernel
theorem dX2_join_27 : decode cX2_join 27 = .ok (.invokevirtual 192, 3) := by decide +kernel
theorem dX2_join_30 : decode cX2_join 30 = .ok (.ifCond .eq 22, 3) := by decide +kernel
theorem dX2_join_33 : decode cX2_join 33 = .ok (.aload_n 0, 1) := by decide +kernel
theorem dX2_join_34 : decode cX2_join 34 = .ok (.iload_n 2, 1) := by decide +kernel
theorem dX2_join_35 : decode cX2_join 35 = .ok (.iload_n 3, 1) := by decide +kernel
theorem dX2_join_36 : decode cX2_join 36 = .ok (.ifCond .eq 8, 3) := by decide +kernel
theorem dX2_join_39 : decode cX2_join 39 = .ok (.iload 4, 2) := by decide +kernel
theorem dX2_join_41 : decode cX2_join 41 = .ok (.goto 5, 3) := by decide +kernel
theorem dX2_join_44 : decode cX2_join 44 = .ok (.bipush 6, 2) := by decide +kernel
theorem dX2_join_46 : decode cX2_join 46 = .ok (.invokevirtual 192, 3) := by decide +kernel
theorem dX2_join_49 : decode cX2_join 49 = .ok (.ifCond .ne 8, 3) := by decide +kernel
theorem dX2_join_52 : decode cX2_join 52 = .ok (.iconst 1, 1) := by decide +kernel
theorem dX2_join_53 : decode cX2_join 53 = .ok (.invokestatic 130, 3) := by decide +kernel
theorem dX2_join_56 : decode cX2_join 56 = .ok (.ireturn, 1) := by decide +kernel
theorem dX2_join_57 : decode cX2_join 57 = .ok (.iload_n 1, 1) := by decide +kernel
theorem dX2_join_58 : decode cX2_join 58 = .ok (.iconst (-1), 1) := by decide +kernel
theorem dX2_join_59 : decode cX2_join 59 = .ok (.if_icmp .eq 8, 3) := by decide +kernel
theorem dX2_join_62 : decode cX2_join 62 = .ok (.iload_n 2, 1) := by decide +kernel
theorem dX2_join_63 : decode cX2_join 63 = .ok (.iconst (-1), 1) := by decide +kernel
theorem dX2_join_64 : decode cX2_join 64 = .ok (.if_icmp .ne 8, 3) := by decide +kernel
theorem dX2_join_67 : decode cX2_join 67 = .ok (.iconst 2, 1) := by decide +kernel
theorem dX2_join_68 : decode cX2_join 68 = .ok (.invokestatic 130, 3) := by decide +kernel
theorem dX2_join_71 : decode cX2_join 71 = .ok (.ireturn, 1) := by decide +kernel
theorem dX2_join_72 : decode cX2_join 72 = .ok (.aload_n 0, 1) := by decide +kernel
theorem dX2_join_73 : decode cX2_join 73 = .ok (.getfield 10, 3) := by decide +kernel
theorem dX2_join_76 : decode cX2_join 76 = .ok (.iload_n 1, 1) := by decide +kernel
theorem dX2_join_77 : decode cX2_join 77 = .ok (.invokevirtual 116, 3) := by decide +kernel
theorem dX2_join_80 : decode cX2_join 80 = .ok (.istore 5, 2) := by decide +kernel
theorem dX2_join_82 : decode cX2_join 82 = .ok (.iload 5, 2) := by decide +kernel
theorem dX2_join_84 : decode cX2_join 84 = .ok (.aload_n 0, 1) := by decide +kernel
theorem dX2_join_85 : decode cX2_join 85 = .ok (.getfield 10, 3) := by decide +kernel
theorem dX2_join_88 : decode cX2_join 88 = .ok (.iload_n 2, 1) := by decide +kernel
theorem dX2_join_89 : decode cX2_join 89 = .ok (.invokevirtual 116, 3) := by decide +kernel
theorem dX2_join_92 : decode cX2_join 92 = .ok (.iadd, 1) := by decide +kernel
theorem dX2_join_93 : decode cX2_join 93 = .ok (.istore 6, 2) := by decide +kernel
theorem dX2_join_95 : decode cX2_join 95 = .ok (.iload 6, 2) := by decide +kernel
theorem dX2_join_97 : decode cX2_join 97 = .ok (.bipush 8, 2) := by decide +kernel
theorem dX2_join_99 : decode cX2_join 99 = .ok (.if_icmp .le 8, 3) := by decide +kernel
theorem dX2_join_102 : decode cX2_join 102 = .ok (.iconst 5, 1) := by decide +kernel
theorem dX2_join_103 : decode cX2_join 103 = .ok (.invokestatic 130, 3) := by decide +kernel
theorem dX2_join_106 : decode cX2_join 106 = .ok (.ireturn, 1) := by decide +kernel
theorem dX2_join_107 : decode cX2_join 107 = .ok (.iload 4, 2) := by decide +kernel
theorem dX2_join_109 : decode cX2_join 109 = .ok (.bipush 7, 2) := by decide +kernel
theorem dX2_join_111 : decode cX2_join 111 = .ok (.if_icmp .ne 16, 3) := by decide +kernel
theorem dX2_join_114 : decode cX2_join 114 = .ok (.aload_n 0, 1) := by decide +kernel
theorem dX2_join_115 : decode cX2_join 115 = .ok (.iload_n 2, 1) := by decide +kernel
theorem dX2_join_116 : decode cX2_join 116 = .ok (.invokevirtual 203, 3) := by decide +kernel
theorem dX2_join_119 : decode cX2_join 119 = .ok (.ifCond .ne 8, 3) := by decide +kernel
theorem dX2_join_122 : decode cX2_join 122 = .ok (.iconst 4, 1) := by decide +kernel
theorem dX2_join_123 : decode cX2_join 123 = .ok (.invokestatic 130, 3) := by decide +kernel
theorem dX2_join_126 : decode cX2_join 126 = .ok (.ireturn, 1) := by decide +kernel
theorem dX2_join_127 : decode cX2_join 127 = .ok (.aload_n 0, 1) := by decide +kernel
theorem dX2_join_128 : decode cX2_join 128 = .ok (.getfield 10, 3) := by decide +kernel
theorem dX2_join_131 : decode cX2_join 131 = .ok (.iload 4, 2) := by decide +kernel
theorem dX2_join_133 : decode cX2_join 133 = .ok (.iload 6, 2) := by decide +kernel
theorem dX2_join_135 : decode cX2_join 135 = .ok (.invokevirtual 37, 3) := by decide +kernel
theorem dX2_join_138 : decode cX2_join 138 = .ok (.istore 7, 2) := by decide +kernel
theorem dX2_join_140 : decode cX2_join 140 = .ok (.aload_n 0, 1) := by decide +kernel
theorem dX2_join_141 : decode cX2_join 141 = .ok (.getfield 10, 3) := by decide +kernel
theorem dX2_join_144 : decode cX2_join 144 = .ok (.iload_n 1, 1) := by decide +kernel
theorem dX2_join_145 : decode cX2_join 145 = .ok (.iload 7, 2) := by decide +kernel
theorem dX2_join_147 : decode cX2_join 147 = .ok (.iconst 0, 1) := by decide +kernel
theorem dX2_join_148 : decode cX2_join 148 = .ok (.invokevirtual 206, 3) := by decide +kernel
theorem dX2_join_151 : decode cX2_join 151 = .ok (.aload_n 0, 1) := by decide +kernel
theorem dX2_join_152 : decode cX2_join 152 = .ok (.getfield 10, 3) := by decide +kernel
theorem dX2_join_155 : decode cX2_join 155 = .ok (.iload_n 2, 1) := by decide +kernel
theorem dX2_join_156 : decode cX2_join 156 = .ok (.iload 7, 2) := by decide +kernel
theorem dX2_join_158 : decode cX2_join 158 = .ok (.iload 5, 2) := by decide +kernel
theorem dX2_join_160 : decode cX2_join 160 = .ok (.invokevirtual 206, 3) := by decide +kernel
theorem dX2_join_163 : decode cX2_join 163 = .ok (.iload 7, 2) := by decide +kernel
theorem dX2_join_165 : decode cX2_join 165 = .ok (.ireturn, 1) := by decide +kernel
set_option maxRecDepth 20000 in
theorem ggX2_holdsOnlyLives_X1_lengthOf : GoodIn wsX2_holdsOnlyLives wsX1_lengthOf := goodIn_r _ [6, 7, 8, 9, 10, 5, 11, 12, 39, 40, 41, 42, 43] (by decide +kernel) (by decide +kernel)
set_option maxRecDepth 20000 in
theorem gX2_holdsOnlyLives_X1_lengthOf : GoodIn wsX2_holdsOnlyLives (wsV RX2 116 RX1 yX1_lengthOf wsX1_lengthOf) := goodIn_app (goodIn_of _ (by decide +kernel)) ggX2_holdsOnlyLives_X1_lengthOf
set_option maxRecDepth 20000 in
theorem ggX2_holdsOnlyLives_X1_placed : GoodIn wsX2_holdsOnlyLives wsX1_placed := goodIn_r _ [16, 17, 18, 19, 20, 5, 21, 12, 7, 39, 40, 41, 42, 43] (by decide +kernel) (by decide +kernel)
set_option maxRecDepth 20000 in
theorem gX2_holdsOnlyLives_X1_placed : GoodIn wsX2_holdsOnlyLives (wsV RX2 183 RX1 yX1_placed wsX1_placed) := goodIn_app (goodIn_of _ (by decide +kernel)) ggX2_holdsOnlyLives_X1_placed
set_option maxRecDepth 20000 in
theorem ggX2_holdsOnlyLives_X2_isNoneOr : GoodIn wsX2_holdsOnlyLives wsX2_isNoneOr := goodIn_r _ [26, 1, 27, 28, 29, 5, 30, 31, 8, 9, 10, 11, 12, 32, 25, 33, 34, 35, 36, 37, 38, 39, 40, 41, 42, 43] (by decide +kernel) (by decide +kernel)
set_option maxRecDepth 20000 in
theorem gX2_holdsOnlyLives_X2_isNoneOr : GoodIn wsX2_holdsOnlyLives (wsV RX2 192 RX2 yX2_isNoneOr wsX2_isNoneOr) := goodIn_app (goodIn_of _ (by decide +kernel)) ggX2_holdsOnlyLives_X2_isNoneOr
theorem dX2_holdsOnlyLives_0 : decode cX2_holdsOnlyLives 0 = .ok (.aload_n 0, 1) := by decide +kernel
theorem dX2_holdsOnlyLives_1 : decode cX2_holdsOnlyLives 1 = .ok (.getfield 10, 3) := by decide +kernel
theorem dX2_holdsOnlyLives_4 : decode cX2_holdsOnlyLives 4 = .ok (.iload_n 1, 1) := by decide +kernel
theorem dX2_holdsOnlyLives_5 : decode cX2_holdsOnlyLives 5 = .ok (.invokevirtual 116, 3) := by decide +kernel
theorem dX2_holdsOnlyLives_8 : decode cX2_holdsOnlyLives 8 = .ok (.istore_n 2, 1) := by decide +kernel
theorem dX2_holdsOnlyLives_9 : decode cX2_holdsOnlyLives 9 = .ok (.iconst 0, 1) := by decide +kernel
theorem dX2_holdsOnlyLives_10 : decode cX2_holdsOnlyLives 10 = .ok (.istore_n 3, 1) := by decide +kernel
theorem dX2_holdsOnlyLives_11 : decode cX2_holdsOnlyLives 11 = .ok (.iload_n 3, 1) := by decide +kernel
theorem dX2_holdsOnlyLives_12 : decode cX2_holdsOnlyLives 12 = .ok (.iload_n 2, 1) := by decide +kernel
theorem dX2_holdsOnlyLives_13 : decode cX2_holdsOnlyLives 13 = .ok (.if_icmp .ge 28, 3) := by decide +kernel
theorem dX2_holdsOnlyLives_16 : decode cX2_holdsOnlyLives 16 = .ok (.aload_n 0, 1) := by decide +kernel
theorem dX2_holdsOnlyLives_17 : decode cX2_holdsOnlyLives 17 = .ok (.aload_n 0, 1) := by decide +kernel
theorem dX2_holdsOnlyLives_18 : decode cX2_holdsOnlyLives 18 = .ok (.getfield 10, 3) := by decide +kernel
theorem dX2_holdsOnlyLives_21 : decode cX2_holdsOnlyLives 21 = .ok (.iload_n 1, 1) := by decide +kernel
theorem dX2_holdsOnlyLives_22 : decode cX2_holdsOnlyLives 22 = .ok (.iload_n 3, 1) := by decide +kernel
theorem dX2_holdsOnlyLives_23 : decode cX2_holdsOnlyLives 23 = .ok (.invokevirtual 183, 3) := by decide +kernel
theorem dX2_holdsOnlyLives_26 : decode cX2_holdsOnlyLives 26 = .ok (.iconst 5, 1) := by decide +kernel
theorem dX2_holdsOnlyLives_27 : decode cX2_holdsOnlyLives 27 = .ok (.invokevirtual 192, 3) := by decide +kernel
theorem dX2_holdsOnlyLives_30 : decode cX2_holdsOnlyLives 30 = .ok (.ifCond .ne 5, 3) := by decide +kernel
theorem dX2_holdsOnlyLives_33 : decode cX2_holdsOnlyLives 33 = .ok (.iconst 0, 1) := by decide +kernel
theorem dX2_holdsOnlyLives_34 : decode cX2_holdsOnlyLives 34 = .ok (.ireturn, 1) := by decide +kernel
theorem dX2_holdsOnlyLives_35 : decode cX2_holdsOnlyLives 35 = .ok (.iinc 3 1, 3) := by decide +kernel
theorem dX2_holdsOnlyLives_38 : decode cX2_holdsOnlyLives 38 = .ok (.goto (-27), 3) := by decide +kernel
theorem dX2_holdsOnlyLives_41 : decode cX2_holdsOnlyLives 41 = .ok (.iconst 1, 1) := by decide +kernel
theorem dX2_holdsOnlyLives_42 : decode cX2_holdsOnlyLives 42 = .ok (.ireturn, 1) := by decide +kernel
set_option maxRecDepth 20000 in
theorem ggX2_copy_X2_fault : GoodIn wsX2_copy wsX2_fault := goodIn_r _ [5] (by decide +kernel) (by decide +kernel)
set_option maxRecDepth 20000 in
theorem gX2_copy_X2_fault : GoodIn wsX2_copy (va_wsS RX2 130 yX2_fault wsX2_fault) := goodIn_app (goodIn_of _ (by decide +kernel)) ggX2_copy_X2_fault
set_option maxRecDepth 20000 in
theorem ggX2_copy_X1_isA : GoodIn wsX2_copy wsX1_isA := goodIn_r _ [10, 11, 12, 13, 14, 9, 15, 16, 17, 4, 18, 66, 67, 68, 69, 70] (by decide +kernel) (by decide +kernel)
set_option maxRecDepth 20000 in
theorem gX2_copy_X1_isA : GoodIn wsX2_copy (wsV RX2 58 RX1 yX1_isA wsX1_isA) := goodIn_app (goodIn_of _ (by decide +kernel)) ggX2_copy_X1_isA
set_option maxRecDepth 20000 in
theorem ggX2_copy_X1_formOf : GoodIn wsX2_copy wsX1_formOf := goodIn_r _ [22, 11, 12, 13, 14, 9, 15, 16, 66, 67, 68, 69, 70] (by decide +kernel) (by decide +kernel)
set_option maxRecDepth 20000 in
theorem gX2_copy_X1_formOf : GoodIn wsX2_copy (wsV RX2 110 RX1 yX1_formOf wsX1_formOf) := goodIn_app (goodIn_of _ (by decide +kernel)) ggX2_copy_X1_formOf
set_option maxRecDepth 20000 in
theorem ggX2_copy_X1_addCopy : GoodIn wsX2_copy wsX1_addCopy := goodIn_r _ [26, 27, 28, 29, 9, 30, 31, 12, 13, 14, 15, 16, 32, 33, 34, 35, 11, 36, 37, 38, 4, 39, 40, 41, 42, 43, 44, 45, 46, 47, 48, 49, 50, 51, 52, 53, 54, 55, 56, 57, 58, 59, 60, 66, 67, 68, 69, 70] (by decide +kernel) (by decide +kernel)
set_option maxRecDepth 20000 in
theorem gX2_copy_X1_addCopy : GoodIn wsX2_copy (wsV RX2 186 RX1 yX1_addCopy wsX1_addCopy) := goodIn_app (goodIn_of _ (by decide +kernel)) ggX2_copy_X1_addCopy
theorem dX2_copy_0 : decode cX2_copy 0 = .ok (.iload_n 1, 1) := by decide +kernel
theorem dX2_copy_1 : decode cX2_copy 1 = .ok (.iconst (-1), 1) := by decide +kernel
theorem dX2_copy_2 : decode cX2_copy 2 = .ok (.if_icmp .ne 8, 3) := by decide +kernel
theorem dX2_copy_5 : decode cX2_copy 5 = .ok (.iconst 2, 1) := by decide +kernel
theorem dX2_copy_6 : decode cX2_copy 6 = .ok (.invokestatic 130, 3) := by decide +kernel
theorem dX2_copy_9 : decode cX2_copy 9 = .ok (.ireturn, 1) := by decide +kernel
theorem dX2_copy_10 : decode cX2_copy 10 = .ok (.aload_n 0, 1) := by decide +kernel
theorem dX2_copy_11 : decode cX2_copy 11 = .ok (.getfield 10, 3) := by decide +kernel
theorem dX2_copy_14 : decode cX2_copy 14 = .ok (.iload_n 1, 1) := by decide +kernel
theorem dX2_copy_15 : decode cX2_copy 15 = .ok (.iconst 4, 1) := by decide +kernel
theorem dX2_copy_16 : decode cX2_copy 16 = .ok (.invokevirtual 58, 3) := by decide +kernel
theorem dX2_copy_19 : decode cX2_copy 19 = .ok (.ifCond .eq 10, 3) := by decide +kernel
theorem dX2_copy_22 : decode cX2_copy 22 = .ok (.iconst 1, 1) := by decide +kernel
theorem dX2_copy_23 : decode cX2_copy 23 = .ok (.invokestatic 130, 3) := by decide +kernel
theorem dX2_copy_26 : decode cX2_copy 26 = .ok (.goto 19, 3) := by decide +kernel
theorem dX2_copy_29 : decode cX2_copy 29 = .ok (.aload_n 0, 1) := by decide +kernel
theorem dX2_copy_30 : decode cX2_copy 30 = .ok (.getfield 10, 3) := by decide +kernel
theorem dX2_copy_33 : decode cX2_copy 33 = .ok (.iload_n 1, 1) := by decide +kernel
theorem dX2_copy_34 : decode cX2_copy 34 = .ok (.aload_n 0, 1) := by decide +kernel
theorem dX2_copy_35 : decode cX2_copy 35 = .ok (.getfield 10, 3) := by decide +kernel
theorem dX2_copy_38 : decode cX2_copy 38 = .ok (.iload_n 1, 1) := by decide +kernel
theorem dX2_copy_39 : decode cX2_copy 39 = .ok (.invokevirtual 110, 3) := by decide +kernel
theorem dX2_copy_42 : decode cX2_copy 42 = .ok (.invokevirtual 186, 3) := by decide +kernel
theorem dX2_copy_45 : decode cX2_copy 45 = .ok (.ireturn, 1) := by decide +kernel
set_option maxRecDepth 20000 in
theorem ggX2_makeCable_X2_isLength : GoodIn wsX2_makeCable wsX2_isLength := goodIn_r _ [5] (by decide +kernel) (by decide +kernel)
set_option maxRecDepth 20000 in
theorem gX2_makeCable_X2_isLength : GoodIn wsX2_makeCable (va_wsS RX2 33 yX2_isLength wsX2_isLength) := goodIn_app (goodIn_of _ (by decide +kernel)) ggX2_makeCable_X2_isLength
set_option maxRecDepth 20000 in
theorem ggX2_makeCable_X1_add : GoodIn wsX2_makeCable wsX1_add := goodIn_r _ [10, 11, 12, 13, 14, 15, 3, 4, 5, 16, 17, 26, 27, 28, 29, 30] (by decide +kernel) (by decide +kernel)
set_option maxRecDepth 20000 in
theorem gX2_makeCable_X1_add : GoodIn wsX2_makeCable (wsV RX2 37 RX1 yX1_add wsX1_add) := goodIn_app (goodIn_of _ (by decide +kernel)) ggX2_makeCable_X1_add
set_option maxRecDepth 20000 in
theorem ggX2_makeCable_X2_fault : GoodIn wsX2_makeCable wsX2_fault := goodIn_r _ [20] (by decide +kernel) (by decide +kernel)
set_option maxRecDepth 20000 in
theorem gX2_makeCable_X2_fault : GoodIn wsX2_makeCable (va_wsS RX2 130 yX2_fault wsX2_fault) := goodIn_app (goodIn_of _ (by decide +kernel)) ggX2_makeCable_X2_fault
theorem dX2_makeCable_0 : decode cX2_makeCable 0 = .ok (.iload_n 1, 1) := by decide +kernel
theorem dX2_makeCable_1 : decode cX2_makeCable 1 = .ok (.invokestatic 33, 3) := by decide +kernel
theorem dX2_makeCable_4 : decode cX2_makeCable 4 = .ok (.ifCond .eq 16, 3) := by decide +kernel
theorem dX2_makeCable_7 : decode cX2_makeCable 7 = .ok (.aload_n 0, 1) := by decide +kernel
theorem dX2_makeCable_8 : decode cX2_makeCable 8 = .ok (.getfield 10, 3) := by decide +kernel
theorem dX2_makeCable_11 : decode cX2_makeCable 11 = .ok (.bipush 6, 2) := by decide +kernel
theorem dX2_makeCable_13 : decode cX2_makeCable 13 = .ok (.iload_n 1, 1) := by decide +kernel
theorem dX2_makeCable_14 : decode cX2_makeCable 14 = .ok (.invokevirtual 37, 3) := by decide +kernel
theorem dX2_makeCable_17 : decode cX2_makeCable 17 = .ok (.goto 7, 3) := by decide +kernel
theorem dX2_makeCable_20 : decode cX2_makeCable 20 = .ok (.iconst 5, 1) := by decide +kernel
theorem dX2_makeCable_21 : decode cX2_makeCable 21 = .ok (.invokestatic 130, 3) := by decide +kernel
theorem dX2_makeCable_24 : decode cX2_makeCable 24 = .ok (.ireturn, 1) := by decide +kernel
set_option maxRecDepth 20000 in
theorem ggX2_check_X2_isView : GoodIn wsX2_check wsX2_isView := goodIn_r _ [4] (by decide +kernel) (by decide +kernel)
set_option maxRecDepth 20000 in
theorem gX2_check_X2_isView : GoodIn wsX2_check (va_wsS RX2 107 yX2_isView wsX2_isView) := goodIn_app (goodIn_of _ (by decide +kernel)) ggX2_check_X2_isView
set_option maxRecDepth 20000 in
theorem ggX2_check_X2_isNoneOr : GoodIn wsX2_check wsX2_isNoneOr := goodIn_r _ [8, 9, 10, 11, 12, 13, 14, 15, 16, 17, 18, 19, 20, 21, 3, 22, 26, 27, 28, 29, 30, 31, 32, 33, 34, 35] (by decide +kernel) (by decide +kernel)
set_option maxRecDepth 20000 in
theorem gX2_check_X2_isNoneOr : GoodIn wsX2_check (wsV RX2 192 RX2 yX2_isNoneOr wsX2_isNoneOr) := goodIn_app (goodIn_of _ (by decide +kernel)) ggX2_check_X2_isNoneOr
set_option maxRecDepth 20000 in
theorem ggX2_check_X2_fault : GoodIn wsX2_check wsX2_fault := goodIn_r _ [25] (by decide +kernel) (by decide +kernel)
set_option maxRecDepth 20000 in
theorem gX2_check_X2_fault : GoodIn wsX2_check (va_wsS RX2 130 yX2_fault wsX2_fault) := goodIn_app (goodIn_of _ (by decide +kernel)) ggX2_check_X2_fault
theorem dX2_check_0 : decode cX2_check 0 = .ok (.iload_n 2, 1) := by decide +kernel
theorem dX2_check_1 : decode cX2_check 1 = .ok (.invokestatic 107, 3) := by decide +kernel
theorem dX2_check_4 : decode cX2_check 4 = .ok (.ifCond .eq 16, 3) := by decide +kernel
theorem dX2_check_7 : decode cX2_check 7 = .ok (.aload_n 0, 1) := by decide +kernel
theorem dX2_check_8 : decode cX2_check 8 = .ok (.iload_n 1, 1) := by decide +kernel
theorem dX2_check_9 : decode cX2_check 9 = .ok (.iload_n 2, 1) := by decide +kernel
theorem dX2_check_10 : decode cX2_check 10 = .ok (.invokevirtual 192, 3) := by decide +kernel
theorem dX2_check_13 : decode cX2_check 13 = .ok (.ifCond .eq 7, 3) := by decide +kernel
theorem dX2_check_16 : decode cX2_check 16 = .ok (.iload_n 1, 1) := by decide +kernel
theorem dX2_check_17 : decode cX2_check 17 = .ok (.goto 7, 3) := by decide +kernel
theorem dX2_check_20 : decode cX2_check 20 = .ok (.iconst 1, 1) := by decide +kernel
theorem dX2_check_21 : decode cX2_check 21 = .ok (.invokestatic 130, 3) := by decide +kernel
theorem dX2_check_24 : decode cX2_check 24 = .ok (.ireturn, 1) := by decide +kernel
theorem dX3_init_0 : decode cX3_init 0 = .ok (.aload_n 0, 1) := by decide +kernel
theorem dX3_init_1 : decode cX3_init 1 = .ok (.invokespecial 1, 3) := by decide +kernel
theorem dX3_init_4 : decode cX3_init 4 = .ok (.aload_n 0, 1) := by decide +kernel
theorem dX3_init_5 : decode cX3_init 5 = .ok (.bipush 60, 2) := by decide +kernel
theorem dX3_init_7 : decode cX3_init 7 = .ok (.newarray .int, 2) := by decide +kernel
theorem dX3_init_9 : decode cX3_init 9 = .ok (.putfield 7, 3) := by decide +kernel
theorem dX3_init_12 : decode cX3_init 12 = .ok (.aload_n 0, 1) := by decide +kernel
theorem dX3_init_13 : decode cX3_init 13 = .ok (.bipush 60, 2) := by decide +kernel
theorem dX3_init_15 : decode cX3_init 15 = .ok (.newarray .int, 2) := by decide +kernel
theorem dX3_init_17 : decode cX3_init 17 = .ok (.putfield 13, 3) := by decide +kernel
theorem dX3_init_20 : decode cX3_init 20 = .ok (.aload_n 0, 1) := by decide +kernel
theorem dX3_init_21 : decode cX3_init 21 = .ok (.bipush 60, 2) := by decide +kernel
theorem dX3_init_23 : decode cX3_init 23 = .ok (.newarray .int, 2) := by decide +kernel
theorem dX3_init_25 : decode cX3_init 25 = .ok (.putfield 16, 3) := by decide +kernel
theorem dX3_init_28 : decode cX3_init 28 = .ok (.aload_n 0, 1) := by decide +kernel
theorem dX3_init_29 : decode cX3_init 29 = .ok (.sipush 480, 3) := by decide +kernel
theorem dX3_init_32 : decode cX3_init 32 = .ok (.newarray .long, 2) := by decide +kernel
theorem dX3_init_34 : decode cX3_init 34 = .ok (.putfield 19, 3) := by decide +kernel
theorem dX3_init_37 : decode cX3_init 37 = .ok (.aload_n 0, 1) := by decide +kernel
theorem dX3_init_38 : decode cX3_init 38 = .ok (.sipush 480, 3) := by decide +kernel
theorem dX3_init_41 : decode cX3_init 41 = .ok (.newarray .int, 2) := by decide +kernel
theorem dX3_init_43 : decode cX3_init 43 = .ok (.putfield 23, 3) := by decide +kernel
theorem dX3_init_46 : decode cX3_init 46 = .ok (.aload_n 0, 1) := by decide +kernel
theorem dX3_init_47 : decode cX3_init 47 = .ok (.bipush 6, 2) := by decide +kernel
theorem dX3_init_49 : decode cX3_init 49 = .ok (.newarray .int, 2) := by decide +kernel
theorem dX3_init_51 : decode cX3_init 51 = .ok (.putfield 26, 3) := by decide +kernel
theorem dX3_init_54 : decode cX3_init 54 = .ok (.aload_n 0, 1) := by decide +kernel
theorem dX3_init_55 : decode cX3_init 55 = .ok (.bipush 72, 2) := by decide +kernel
theorem dX3_init_57 : decode cX3_init 57 = .ok (.newarray .int, 2) := by decide +kernel
theorem dX3_init_59 : decode cX3_init 59 = .ok (.putfield 29, 3) := by decide +kernel
theorem dX3_init_62 : decode cX3_init 62 = .ok (.aload_n 0, 1) := by decide +kernel
theorem dX3_init_63 : decode cX3_init 63 = .ok (.bipush 72, 2) := by decide +kernel
theorem dX3_init_65 : decode cX3_init 65 = .ok (.newarray .int, 2) := by decide +kernel
theorem dX3_init_67 : decode cX3_init 67 = .ok (.putfield 32, 3) := by decide +kernel
theorem dX3_init_70 : decode cX3_init 70 = .ok (.aload_n 0, 1) := by decide +kernel
theorem dX3_init_71 : decode cX3_init 71 = .ok (.bipush 72, 2) := by decide +kernel
theorem dX3_init_73 : decode cX3_init 73 = .ok (.newarray .int, 2) := by decide +kernel
theorem dX3_init_75 : decode cX3_init 75 = .ok (.putfield 35, 3) := by decide +kernel
theorem dX3_init_78 : decode cX3_init 78 = .ok (.aload_n 0, 1) := by decide +kernel
theorem dX3_init_79 : decode cX3_init 79 = .ok (.iconst (-1), 1) := by decide +kernel
theorem dX3_init_80 : decode cX3_init 80 = .ok (.putfield 38, 3) := by decide +kernel
theorem dX3_init_83 : decode cX3_init 83 = .ok (.return_, 1) := by decide +kernel
theorem dX3_isIn_0 : decode cX3_isIn 0 = .ok (.iload_n 0, 1) := by decide +kernel
theorem dX3_isIn_1 : decode cX3_isIn 1 = .ok (.iload_n 1, 1) := by decide +kernel
theorem dX3_isIn_2 : decode cX3_isIn 2 = .ok (.if_icmp .lt 12, 3) := by decide +kernel
theorem dX3_isIn_5 : decode cX3_isIn 5 = .ok (.iload_n 0, 1) := by decide +kernel
theorem dX3_isIn_6 : decode cX3_isIn 6 = .ok (.iload_n 2, 1) := by decide +kernel
theorem dX3_isIn_7 : decode cX3_isIn 7 = .ok (.if_icmp .gt 7, 3) := by decide +kernel
theorem dX3_isIn_10 : decode cX3_isIn 10 = .ok (.iconst 1, 1) := by decide +kernel
theorem dX3_isIn_11 : decode cX3_isIn 11 = .ok (.goto 4, 3) := by decide +kernel
theorem dX3_isIn_14 : decode cX3_isIn 14 = .ok (.iconst 0, 1) := by decide +kernel
theorem dX3_isIn_15 : decode cX3_isIn 15 = .ok (.ireturn, 1) := by decide +kernel
set_option maxRecDepth 20000 in
theorem ggX3_isValue_X3_isIn : GoodIn wsX3_isValue wsX3_isIn := goodIn_r _ [5] (by decide +kernel) (by decide +kernel)
set_option maxRecDepth 20000 in
theorem gX3_isValue_X3_isIn : GoodIn wsX3_isValue (va_wsS RX3 45 yX3_isIn wsX3_isIn) := goodIn_app (goodIn_of _ (by decide +kernel)) ggX3_isValue_X3_isIn
theorem dX3_isValue_0 : decode cX3_isValue 0 = .ok (.iload_n 1, 1) := by decide +kernel
theorem dX3_isValue_1 : decode cX3_isValue 1 = .ok (.iconst 0, 1) := by decide +kernel
theorem dX3_isValue_2 : decode cX3_isValue 2 = .ok (.aload_n 0, 1) := by decide +kernel
theorem dX3_isValue_3 : decode cX3_isValue 3 = .ok (.getfield 42, 3) := by decide +kernel
theorem dX3_isValue_6 : decode cX3_isValue 6 = .ok (.iconst 1, 1) := by decide +kernel
theorem dX3_isValue_7 : decode cX3_isValue 7 = .ok (.isub, 1) := by decide +kernel
theorem dX3_isValue_8 : decode cX3_isValue 8 = .ok (.invokestatic 45, 3) := by decide +kernel
theorem dX3_isValue_11 : decode cX3_isValue 11 = .ok (.ireturn, 1) := by decide +kernel
set_option maxRecDepth 20000 in
theorem ggX3_mayBe_X3_isIn : GoodIn wsX3_mayBe wsX3_isIn := goodIn_r _ [5] (by decide +kernel) (by decide +kernel)
set_option maxRecDepth 20000 in
theorem gX3_mayBe_X3_isIn : GoodIn wsX3_mayBe (va_wsS RX3 45 yX3_isIn wsX3_isIn) := goodIn_app (goodIn_of _ (by decide +kernel)) ggX3_mayBe_X3_isIn
theorem dX3_mayBe_0 : decode cX3_mayBe 0 = .ok (.iload_n 1, 1) := by decide +kernel
theorem dX3_mayBe_1 : decode cX3_mayBe 1 = .ok (.iconst (-1), 1) := by decide +kernel
theorem dX3_mayBe_2 : decode cX3_mayBe 2 = .ok (.aload_n 0, 1) := by decide +kernel
theorem dX3_mayBe_3 : decode cX3_mayBe 3 = .ok (.getfield 42, 3) := by decide +kernel
theorem dX3_mayBe_6 : decode cX3_mayBe 6 = .ok (.iconst 1, 1) := by decide +kernel
theorem dX3_mayBe_7 : decode cX3_mayBe 7 = .ok (.isub, 1) := by decide +kernel
theorem dX3_mayBe_8 : decode cX3_mayBe 8 = .ok (.invokestatic 45, 3) := by decide +kernel
theorem dX3_mayBe_11 : decode cX3_mayBe 11 = .ok (.ireturn, 1) := by decide +kernel
theorem dX3_formIs_0 : decode cX3_formIs 0 = .ok (.iload_n 0, 1) := by decide +kernel
theorem dX3_formIs_1 : decode cX3_formIs 1 = .ok (.iload_n 1, 1) := by decide +kernel
theorem dX3_formIs_2 : decode cX3_formIs 2 = .ok (.if_icmp .eq 49, 3) := by decide +kernel
theorem dX3_formIs_5 : decode cX3_formIs 5 = .ok (.iload_n 0, 1) := by decide +kernel
theorem dX3_formIs_6 : decode cX3_formIs 6 = .ok (.iconst 5, 1) := by decide +kernel
theorem dX3_formIs_7 : decode cX3_formIs 7 = .ok (.if_icmp .ne 14, 3) := by decide +kernel
theorem dX3_formIs_10 : decode cX3_formIs 10 = .ok (.iload_n 1, 1) := by decide +kernel
theorem dX3_formIs_11 : decode cX3_formIs 11 = .ok (.iconst 4, 1) := by decide +kernel
theorem dX3_formIs_12 : decode cX3_formIs 12 = .ok (.if_icmp .eq 39, 3) := by decide +kernel
theorem dX3_formIs_15 : decode cX3_formIs 15 = .ok (.iload_n 1, 1) := by decide +kernel
theorem dX3_formIs_16 : decode cX3_formIs 16 = .ok (.bipush 11, 2) := by decide +kernel
theorem dX3_formIs_18 : decode cX3_formIs 18 = .ok (.if_icmp .eq 33, 3) := by decide +kernel
theorem dX3_formIs_21 : decode cX3_formIs 21 = .ok (.iload_n 0, 1) := by decide +kernel
theorem dX3_formIs_22 : decode cX3_formIs 22 = .ok (.bipush 7, 2) := by decide +kernel
theorem dX3_formIs_24 : decode cX3_formIs 24 = .ok (.if_icmp .ne 15, 3) := by decide +kernel
theorem dX3_formIs_27 : decode cX3_formIs 27 = .ok (.iload_n 1, 1) := by decide +kernel
theorem dX3_formIs_28 : decode cX3_formIs 28 = .ok (.bipush 6, 2) := by decide +kernel
theorem dX3_formIs_30 : decode cX3_formIs 30 = .ok (.if_icmp .eq 21, 3) := by decide +kernel
theorem dX3_formIs_33 : decode cX3_formIs 33 = .ok (.iload_n 1, 1) := by decide +kernel
theorem dX3_formIs_34 : decode cX3_formIs 34 = .ok (.bipush 8, 2) := by decide +kernel
theorem dX3_formIs_36 : decode cX3_formIs 36 = .ok (.if_icmp .eq 15, 3) := by decide +kernel
theorem dX3_formIs_39 : decode cX3_formIs 39 = .ok (.iload_n 0, 1) := by decide +kernel
theorem dX3_formIs_40 : decode cX3_formIs 40 = .ok (.bipush 10, 2) := by decide +kernel
theorem dX3_formIs_42 : decode cX3_formIs 42 = .ok (.if_icmp .ne 13, 3) := by decide +kernel
theorem dX3_formIs_45 : decode cX3_formIs 45 = .ok (.iload_n 1, 1) := by decide +kernel
theorem dX3_formIs_46 : decode cX3_formIs 46 = .ok (.bipush 9, 2) := by decide +kernel
theorem dX3_formIs_48 : decode cX3_formIs 48 = .ok (.if_icmp .ne 7, 3) := by decide +kernel
theorem dX3_formIs_51 : decode cX3_formIs 51 = .ok (.iconst 1, 1) := by decide +kernel
theorem dX3_formIs_52 : decode cX3_formIs 52 = .ok (.goto 4, 3) := by decide +kernel
theorem dX3_formIs_55 : decode cX3_formIs 55 = .ok (.iconst 0, 1) := by decide +kernel
theorem dX3_formIs_56 : decode cX3_formIs 56 = .ok (.ireturn, 1) := by decide +kernel
set_option maxRecDepth 20000 in
theorem ggX3_isOf_X3_formIs : GoodIn wsX3_isOf wsX3_formIs := goodIn_r _ [5] (by decide +kernel) (by decide +kernel)
set_option maxRecDepth 20000 in
theorem gX3_isOf_X3_formIs : GoodIn wsX3_isOf (va_wsS RX3 49 yX3_formIs wsX3_formIs) := goodIn_app (goodIn_of _ (by decide +kernel)) ggX3_isOf_X3_formIs
theorem dX3_isOf_0 : decode cX3_isOf 0 = .ok (.iload_n 1, 1) := by decide +kernel
theorem dX3_isOf_1 : decode cX3_isOf 1 = .ok (.ifCond .lt 20, 3) := by decide +kernel
theorem dX3_isOf_4 : decode cX3_isOf 4 = .ok (.aload_n 0, 1) := by decide +kernel
theorem dX3_isOf_5 : decode cX3_isOf 5 = .ok (.getfield 7, 3) := by decide +kernel
theorem dX3_isOf_8 : decode cX3_isOf 8 = .ok (.iload_n 1, 1) := by decide +kernel
theorem dX3_isOf_9 : decode cX3_isOf 9 = .ok (.iaload, 1) := by decide +kernel
theorem dX3_isOf_10 : decode cX3_isOf 10 = .ok (.iload_n 2, 1) := by decide +kernel
theorem dX3_isOf_11 : decode cX3_isOf 11 = .ok (.invokestatic 49, 3) := by decide +kernel
theorem dX3_isOf_14 : decode cX3_isOf 14 = .ok (.ifCond .eq 7, 3) := by decide +kernel
theorem dX3_isOf_17 : decode cX3_isOf 17 = .ok (.iconst 1, 1) := by decide +kernel
theorem dX3_isOf_18 : decode cX3_isOf 18 = .ok (.goto 4, 3) := by decide +kernel
theorem dX3_isOf_21 : decode cX3_isOf 21 = .ok (.iconst 0, 1) := by decide +kernel
theorem dX3_isOf_22 : decode cX3_isOf 22 = .ok (.ireturn, 1) := by decide +kernel
theorem dX3_make_0 : decode cX3_make 0 = .ok (.aload_n 0, 1) := by decide +kernel
theorem dX3_make_1 : decode cX3_make 1 = .ok (.getfield 42, 3) := by decide +kernel
theorem dX3_make_4 : decode cX3_make 4 = .ok (.istore_n 3, 1) := by decide +kernel
theorem dX3_make_5 : decode cX3_make 5 = .ok (.aload_n 0, 1) := by decide +kernel
theorem dX3_make_6 : decode cX3_make 6 = .ok (.dup, 1) := by decide +kernel
theorem dX3_make_7 : decode cX3_make 7 = .ok (.getfield 42, 3) := by decide +kernel
theorem dX3_make_10 : decode cX3_make 10 = .ok (.iconst 1, 1) := by decide +kernel
theorem dX3_make_11 : decode cX3_make 11 = .ok (.iadd, 1) := by decide +kernel
theorem dX3_make_12 : decode cX3_make 12 = .ok (.putfield 42, 3) := by decide +kernel
theorem dX3_make_15 : decode cX3_make 15 = .ok (.aload_n 0, 1) := by decide +kernel
theorem dX3_make_16 : decode cX3_make 16 = .ok (.getfield 7, 3) := by decide +kernel
theorem dX3_make_19 : decode cX3_make 19 = .ok (.iload_n 3, 1) := by decide +kernel
theorem dX3_make_20 : decode cX3_make 20 = .ok (.iload_n 1, 1) := by decide +kernel
theorem dX3_make_21 : decode cX3_make 21 = .ok (.iastore, 1) := by decide +kernel
theorem dX3_make_22 : decode cX3_make 22 = .ok (.aload_n 0, 1) := by decide +kernel
theorem dX3_make_23 : decode cX3_make 23 = .ok (.getfield 13, 3) := by decide +kernel
theorem dX3_make_26 : decode cX3_make 26 = .ok (.iload_n 3, 1) := by decide +kernel
theorem dX3_make_27 : decode cX3_make 27 = .ok (.iload_n 2, 1) := by decide +kernel
theorem dX3_make_28 : decode cX3_make 28 = .ok (.iastore, 1) := by decide +kernel
theorem dX3_make_29 : decode cX3_make 29 = .ok (.aload_n 0, 1) := by decide +kernel
theorem dX3_make_30 : decode cX3_make 30 = .ok (.getfield 16, 3) := by decide +kernel
theorem dX3_make_33 : decode cX3_make 33 = .ok (.iload_n 3, 1) := by decide +kernel
theorem dX3_make_34 : decode cX3_make 34 = .ok (.iconst 0, 1) := by decide +kernel
theorem dX3_make_35 : decode cX3_make 35 = .ok (.iastore, 1) := by decide +kernel
theorem dX3_make_36 : decode cX3_make 36 = .ok (.iconst 0, 1) := by decide +kernel
theorem dX3_make_37 : decode cX3_make 37 = .ok (.istore 4, 2) := by decide +kernel
theorem dX3_make_39 : decode cX3_make 39 = .ok (.iload 4, 2) := by decide +kernel
theorem dX3_make_41 : decode cX3_make 41 = .ok (.bipush 8, 2) := by decide +kernel
theorem dX3_make_43 : decode cX3_make 43 = .ok (.if_icmp .ge 35, 3) := by decide +kernel
theorem dX3_make_46 : decode cX3_make 46 = .ok (.aload_n 0, 1) := by decide +kernel
theorem dX3_make_47 : decode cX3_make 47 = .ok (.getfield 19, 3) := by decide +kernel
theorem dX3_make_50 : decode cX3_make 50 = .ok (.bipush 8, 2) := by decide +kernel
theorem dX3_make_52 : decode cX3_make 52 = .ok (.iload_n 3, 1) := by decide +kernel
theorem dX3_make_53 : decode cX3_make 53 = .ok (.imul, 1) := by decide +kernel
theorem dX3_make_54 : decode cX3_make 54 = .ok (.iload 4, 2) := by decide +kernel
theorem dX3_make_56 : decode cX3_make 56 = .ok (.iadd, 1) := by decide +kernel
theorem dX3_make_57 : decode cX3_make 57 = .ok (.lconst 0, 1) := by decide +kernel
theorem dX3_make_58 : decode cX3_make 58 = .ok (.lastore, 1) := by decide +kernel
theorem dX3_make_59 : decode cX3_make 59 = .ok (.aload_n 0, 1) := by decide +kernel
theorem dX3_make_60 : decode cX3_make 60 = .ok (.getfield 23, 3) := by decide +kernel
theorem dX3_make_63 : decode cX3_make 63 = .ok (.bipush 8, 2) := by decide +kernel
theorem dX3_make_65 : decode cX3_make 65 = .ok (.iload_n 3, 1) := by decide +kernel
theorem dX3_make_66 : decode cX3_make 66 = .ok (.imul, 1) := by decide +kernel
theorem dX3_make_67 : decode cX3_make 67 = .ok (.iload 4, 2) := by decide +kernel
theorem dX3_make_69 : decode cX3_make 69 = .ok (.iadd, 1) := by decide +kernel
theorem dX3_make_70 : decode cX3_make 70 = .ok (.iconst (-1), 1) := by decide +kernel
theorem dX3_make_71 : decode cX3_make 71 = .ok (.iastore, 1) := by decide +kernel
theorem dX3_make_72 : decode cX3_make 72 = .ok (.iinc 4 1, 3) := by decide +kernel
theorem dX3_make_75 : decode cX3_make 75 = .ok (.goto (-36), 3) := by decide +kernel
theorem dX3_make_78 : decode cX3_make 78 = .ok (.iload_n 3, 1) := by decide +kernel
theorem dX3_make_79 : decode cX3_make 79 = .ok (.ireturn, 1) := by decide +kernel
set_option maxRecDepth 20000 in
theorem ggX3_row_X3_isIn : GoodIn wsX3_row wsX3_isIn := goodIn_r _ [5] (by decide +kernel) (by decide +kernel)
set_option maxRecDepth 20000 in
theorem gX3_row_X3_isIn : GoodIn wsX3_row (va_wsS RX3 45 yX3_isIn wsX3_isIn) := goodIn_app (goodIn_of _ (by decide +kernel)) ggX3_row_X3_isIn
set_option maxRecDepth 20000 in
theorem ggX3_row_X3_make : GoodIn wsX3_row wsX3_make := goodIn_r _ [9, 1, 10, 11, 12, 13, 14, 15, 16, 17, 18, 19, 20, 21, 22, 23, 24, 25, 26, 27] (by decide +kernel) (by decide +kernel)
set_option maxRecDepth 20000 in
theorem gX3_row_X3_make : GoodIn wsX3_row (wsV RX3 53 RX3 yX3_make wsX3_make) := goodIn_app (goodIn_of _ (by decide +kernel)) ggX3_row_X3_make
theorem dX3_row_0 : decode cX3_row 0 = .ok (.iload_n 1, 1) := by decide +kernel
theorem dX3_row_1 : decode cX3_row 1 = .ok (.iconst 0, 1) := by decide +kernel
theorem dX3_row_2 : decode cX3_row 2 = .ok (.iconst 2, 1) := by decide +kernel
theorem dX3_row_3 : decode cX3_row 3 = .ok (.invokestatic 45, 3) := by decide +kernel
theorem dX3_row_6 : decode cX3_row 6 = .ok (.ifCond .eq 13, 3) := by decide +kernel
theorem dX3_row_9 : decode cX3_row 9 = .ok (.iload_n 2, 1) := by decide +kernel
theorem dX3_row_10 : decode cX3_row 10 = .ok (.iconst 0, 1) := by decide +kernel
theorem dX3_row_11 : decode cX3_row 11 = .ok (.bipush 8, 2) := by decide +kernel
theorem dX3_row_13 : decode cX3_row 13 = .ok (.invokestatic 45, 3) := by decide +kernel
theorem dX3_row_16 : decode cX3_row 16 = .ok (.ifCond .ne 6, 3) := by decide +kernel
theorem dX3_row_19 : decode cX3_row 19 = .ok (.bipush (-3), 2) := by decide +kernel
theorem dX3_row_21 : decode cX3_row 21 = .ok (.ireturn, 1) := by decide +kernel
theorem dX3_row_22 : decode cX3_row 22 = .ok (.aload_n 0, 1) := by decide +kernel
theorem dX3_row_23 : decode cX3_row 23 = .ok (.getfield 42, 3) := by decide +kernel
theorem dX3_row_26 : decode cX3_row 26 = .ok (.bipush 60, 2) := by decide +kernel
theorem dX3_row_28 : decode cX3_row 28 = .ok (.if_icmp .ne 8, 3) := by decide +kernel
theorem dX3_row_31 : decode cX3_row 31 = .ok (.bipush (-4), 2) := by decide +kernel
theorem dX3_row_33 : decode cX3_row 33 = .ok (.goto 9, 3) := by decide +kernel
theorem dX3_row_36 : decode cX3_row 36 = .ok (.aload_n 0, 1) := by decide +kernel
theorem dX3_row_37 : decode cX3_row 37 = .ok (.iload_n 1, 1) := by decide +kernel
theorem dX3_row_38 : decode cX3_row 38 = .ok (.iload_n 2, 1) := by decide +kernel
theorem dX3_row_39 : decode cX3_row 39 = .ok (.invokevirtual 53, 3) := by decide +kernel
theorem dX3_row_42 : decode cX3_row 42 = .ok (.ireturn, 1) := by decide +kernel
set_option maxRecDepth 20000 in
theorem ggX3_board_X3_isIn : GoodIn wsX3_board wsX3_isIn := goodIn_r _ [5] (by decide +kernel) (by decide +kernel)
set_option maxRecDepth 20000 in
theorem gX3_board_X3_isIn : GoodIn wsX3_board (va_wsS RX3 45 yX3_isIn wsX3_isIn) := goodIn_app (goodIn_of _ (by decide +kernel)) ggX3_board_X3_isIn
set_option maxRecDepth 20000 in
theorem ggX3_board_X3_make : GoodIn wsX3_board wsX3_make := goodIn_r _ [9, 1, 10, 11, 12, 13, 14, 15, 16, 17, 18, 19, 20, 21, 22, 23, 24, 25, 26, 27] (by decide +kernel) (by decide +kernel)
set_option maxRecDepth 20000 in
theorem gX3_board_X3_make : GoodIn wsX3_board (wsV RX3 53 RX3 yX3_make wsX3_make) := goodIn_app (goodIn_of _ (by decide +kernel)) ggX3_board_X3_make
theorem dX3_board_0 : decode cX3_board 0 = .ok (.iload_n 1, 1) := by decide +kernel
theorem dX3_board_1 : decode cX3_board 1 = .ok (.iconst 3, 1) := by decide +kernel
theorem dX3_board_2 : decode cX3_board 2 = .ok (.if_icmp .eq 14, 3) := by decide +kernel
theorem dX3_board_5 : decode cX3_board 5 = .ok (.iload_n 1, 1) := by decide +kernel
theorem dX3_board_6 : decode cX3_board 6 = .ok (.bipush 6, 2) := by decide +kernel
theorem dX3_board_8 : decode cX3_board 8 = .ok (.bipush 10, 2) := by decide +kernel
theorem dX3_board_10 : decode cX3_board 10 = .ok (.invokestatic 45, 3) := by decide +kernel
theorem dX3_board_13 : decode cX3_board 13 = .ok (.ifCond .eq 13, 3) := by decide +kernel
theorem dX3_board_16 : decode cX3_board 16 = .ok (.iload_n 2, 1) := by decide +kernel
theorem dX3_board_17 : decode cX3_board 17 = .ok (.iconst 0, 1) := by decide +kernel
theorem dX3_board_18 : decode cX3_board 18 = .ok (.bipush 8, 2) := by decide +kernel
theorem dX3_board_20 : decode cX3_board 20 = .ok (.invokestatic 45, 3) := by decide +kernel
theorem dX3_board_23 : decode cX3_board 23 = .ok (.ifCond .ne 6, 3) := by decide +kernel
theorem dX3_board_26 : decode cX3_board 26 = .ok (.bipush (-3), 2) := by decide +kernel
theorem dX3_board_28 : decode cX3_board 28 = .ok (.ireturn, 1) := by decide +kernel
theorem dX3_board_29 : decode cX3_board 29 = .ok (.aload_n 0, 1) := by decide +kernel
theorem dX3_board_30 : decode cX3_board 30 = .ok (.getfield 42, 3) := by decide +kernel
theorem dX3_board_33 : decode cX3_board 33 = .ok (.bipush 60, 2) := by decide +kernel
theorem dX3_board_35 : decode cX3_board 35 = .ok (.if_icmp .ne 8, 3) := by decide +kernel
theorem dX3_board_38 : decode cX3_board 38 = .ok (.bipush (-4), 2) := by decide +kernel
theorem dX3_board_40 : decode cX3_board 40 = .ok (.goto 9, 3) := by decide +kernel
theorem dX3_board_43 : decode cX3_board 43 = .ok (.aload_n 0, 1) := by decide +kernel
theorem dX3_board_44 : decode cX3_board 44 = .ok (.iload_n 1, 1) := by decide +kernel
theorem dX3_board_45 : decode cX3_board 45 = .ok (.iload_n 2, 1) := by decide +kernel
theorem dX3_board_46 : decode cX3_board 46 = .ok (.invokevirtual 53, 3) := by decide +kernel
theorem dX3_board_49 : decode cX3_board 49 = .ok (.ireturn, 1) := by decide +kernel
set_option maxRecDepth 20000 in
theorem ggX3_wire_X3_make : GoodIn wsX3_wire wsX3_make := goodIn_r _ [7, 1, 8, 9, 2, 10, 11, 12, 13, 14, 15, 16, 17, 18, 19, 20, 21, 22, 23, 24] (by decide +kernel) (by decide +kernel)
set_option maxRecDepth 20000 in
theorem gX3_wire_X3_make : GoodIn wsX3_wire (wsV RX3 53 RX3 yX3_make wsX3_make) := goodIn_app (goodIn_of _ (by decide +kernel)) ggX3_wire_X3_make
theorem dX3_wire_0 : decode cX3_wire 0 = .ok (.aload_n 0, 1) := by decide +kernel
theorem dX3_wire_1 : decode cX3_wire 1 = .ok (.getfield 42, 3) := by decide +kernel
theorem dX3_wire_4 : decode cX3_wire 4 = .ok (.bipush 60, 2) := by decide +kernel
theorem dX3_wire_6 : decode cX3_wire 6 = .ok (.if_icmp .ne 6, 3) := by decide +kernel
theorem dX3_wire_9 : decode cX3_wire 9 = .ok (.bipush (-4), 2) := by decide +kernel
theorem dX3_wire_11 : decode cX3_wire 11 = .ok (.ireturn, 1) := by decide +kernel
theorem dX3_wire_12 : decode cX3_wire 12 = .ok (.aload_n 0, 1) := by decide +kernel
theorem dX3_wire_13 : decode cX3_wire 13 = .ok (.iload_n 1, 1) := by decide +kernel
theorem dX3_wire_14 : decode cX3_wire 14 = .ok (.ifCond .eq 7, 3) := by decide +kernel
theorem dX3_wire_17 : decode cX3_wire 17 = .ok (.iconst 5, 1) := by decide +kernel
theorem dX3_wire_18 : decode cX3_wire 18 = .ok (.goto 4, 3) := by decide +kernel
theorem dX3_wire_21 : decode cX3_wire 21 = .ok (.iconst 4, 1) := by decide +kernel
theorem dX3_wire_22 : decode cX3_wire 22 = .ok (.iconst 0, 1) := by decide +kernel
theorem dX3_wire_23 : decode cX3_wire 23 = .ok (.invokevirtual 53, 3) := by decide +kernel
theorem dX3_wire_26 : decode cX3_wire 26 = .ok (.istore_n 3, 1) := by decide +kernel
theorem dX3_wire_27 : decode cX3_wire 27 = .ok (.aload_n 0, 1) := by decide +kernel
theorem dX3_wire_28 : decode cX3_wire 28 = .ok (.getfield 16, 3) := by decide +kernel
theorem dX3_wire_31 : decode cX3_wire 31 = .ok (.iload_n 3, 1) := by decide +kernel
theorem dX3_wire_32 : decode cX3_wire 32 = .ok (.iload_n 2, 1) := by decide +kernel
theorem dX3_wire_33 : decode cX3_wire 33 = .ok (.iastore, 1) := by decide +kernel
theorem dX3_wire_34 : decode cX3_wire 34 = .ok (.iload_n 3, 1) := by decide +kernel
theorem dX3_wire_35 : decode cX3_wire 35 = .ok (.ireturn, 1) := by decide +kernel
theorem dX3_isRow_0 : decode cX3_isRow 0 = .ok (.iload_n 1, 1) := by decide +kernel
theorem dX3_isRow_1 : decode cX3_isRow 1 = .ok (.ifCond .lt 17, 3) := by decide +kernel
theorem dX3_isRow_4 : decode cX3_isRow 4 = .ok (.aload_n 0, 1) := by decide +kernel
theorem dX3_isRow_5 : decode cX3_isRow 5 = .ok (.getfield 7, 3) := by decide +kernel
theorem dX3_isRow_8 : decode cX3_isRow 8 = .ok (.iload_n 1, 1) := by decide +kernel
theorem dX3_isRow_9 : decode cX3_isRow 9 = .ok (.iaload, 1) := by decide +kernel
theorem dX3_isRow_10 : decode cX3_isRow 10 = .ok (.iconst 2, 1) := by decide +kernel
theorem dX3_isRow_11 : decode cX3_isRow 11 = .ok (.if_icmp .gt 7, 3) := by decide +kernel
theorem dX3_isRow_14 : decode cX3_isRow 14 = .ok (.iconst 1, 1) := by decide +kernel
theorem dX3_isRow_15 : decode cX3_isRow 15 = .ok (.goto 4, 3) := by decide +kernel
theorem dX3_isRow_18 : decode cX3_isRow 18 = .ok (.iconst 0, 1) := by decide +kernel
theorem dX3_isRow_19 : decode cX3_isRow 19 = .ok (.ireturn, 1) := by decide +kernel
theorem dX3_cut_0 : decode cX3_cut 0 = .ok (.iload_n 0, 1) := by decide +kernel
theorem dX3_cut_1 : decode cX3_cut 1 = .ok (.ifCond .ne 10, 3) := by decide +kernel
theorem dX3_cut_4 : decode cX3_cut 4 = .ok (.lload_n 1, 1) := by decide +kernel
theorem dX3_cut_5 : decode cX3_cut 5 = .ok (.l2i, 1) := by decide +kernel
theorem dX3_cut_6 : decode cX3_cut 6 = .ok (.i2b, 1) := by decide +kernel
theorem dX3_cut_7 : decode cX3_cut 7 = .ok (.i2l, 1) := by decide +kernel
theorem dX3_cut_8 : decode cX3_cut 8 = .ok (.goto 15, 3) := by decide +kernel
theorem dX3_cut_11 : decode cX3_cut 11 = .ok (.iload_n 0, 1) := by decide +kernel
theorem dX3_cut_12 : decode cX3_cut 12 = .ok (.iconst 1, 1) := by decide +kernel
theorem dX3_cut_13 : decode cX3_cut 13 = .ok (.if_icmp .ne 9, 3) := by decide +kernel
theorem dX3_cut_16 : decode cX3_cut 16 = .ok (.lload_n 1, 1) := by decide +kernel
theorem dX3_cut_17 : decode cX3_cut 17 = .ok (.l2i, 1) := by decide +kernel
theorem dX3_cut_18 : decode cX3_cut 18 = .ok (.i2l, 1) := by decide +kernel
theorem dX3_cut_19 : decode cX3_cut 19 = .ok (.goto 4, 3) := by decide +kernel
theorem dX3_cut_22 : decode cX3_cut 22 = .ok (.lload_n 1, 1) := by decide +kernel
theorem dX3_cut_23 : decode cX3_cut 23 = .ok (.lreturn, 1) := by decide +kernel
set_option maxRecDepth 20000 in
theorem ggX3_set_X3_isValue : GoodIn wsX3_set wsX3_isValue := goodIn_r _ [8, 9, 10, 11, 7, 12, 20, 21, 22, 23, 24, 25, 26, 27, 28, 29, 30, 31, 32] (by decide +kernel) (by decide +kernel)
set_option maxRecDepth 20000 in
theorem gX3_set_X3_isValue : GoodIn wsX3_set (wsV RX3 57 RX3 yX3_isValue wsX3_isValue) := goodIn_app (goodIn_of _ (by decide +kernel)) ggX3_set_X3_isValue
set_option maxRecDepth 20000 in
theorem ggX3_set_X3_isRow : GoodIn wsX3_set wsX3_isRow := goodIn_r _ [16, 3, 20, 21, 22, 23, 24, 25, 26, 27, 28, 29, 30, 31, 32] (by decide +kernel) (by decide +kernel)
set_option maxRecDepth 20000 in
theorem gX3_set_X3_isRow : GoodIn wsX3_set (wsV RX3 61 RX3 yX3_isRow wsX3_isRow) := goodIn_app (goodIn_of _ (by decide +kernel)) ggX3_set_X3_isRow
set_option maxRecDepth 20000 in
theorem ggX3_set_X3_isIn : GoodIn wsX3_set wsX3_isIn := goodIn_r _ [12] (by decide +kernel) (by decide +kernel)
set_option maxRecDepth 20000 in
theorem gX3_set_X3_isIn : GoodIn wsX3_set (va_wsS RX3 45 yX3_isIn wsX3_isIn) := goodIn_app (goodIn_of _ (by decide +kernel)) ggX3_set_X3_isIn
set_option maxRecDepth 20000 in
theorem ggX3_set_X3_cut : GoodIn wsX3_set wsX3_cut := goodIn_r _ [19] (by decide +kernel) (by decide +kernel)
set_option maxRecDepth 20000 in
theorem gX3_set_X3_cut : GoodIn wsX3_set (va_wsS RX3 64 yX3_cut wsX3_cut) := goodIn_app (goodIn_of _ (by decide +kernel)) ggX3_set_X3_cut
theorem dX3_set_0 : decode cX3_set 0 = .ok (.aload_n 0, 1) := by decide +kernel
theorem dX3_set_1 : decode cX3_set 1 = .ok (.iload_n 1, 1) := by decide +kernel
theorem dX3_set_2 : decode cX3_set 2 = .ok (.invokevirtual 57, 3) := by decide +kernel
theorem dX3_set_5 : decode cX3_set 5 = .ok (.ifCond .eq 27, 3) := by decide +kernel
theorem dX3_set_8 : decode cX3_set 8 = .ok (.aload_n 0, 1) := by decide +kernel
theorem dX3_set_9 : decode cX3_set 9 = .ok (.iload_n 1, 1) := by decide +kernel
theorem dX3_set_10 : decode cX3_set 10 = .ok (.invokevirtual 61, 3) := by decide +kernel
theorem dX3_set_13 : decode cX3_set 13 = .ok (.ifCond .eq 19, 3) := by decide +kernel
theorem dX3_set_16 : decode cX3_set 16 = .ok (.iload_n 2, 1) := by decide +kernel
theorem dX3_set_17 : decode cX3_set 17 = .ok (.iconst 0, 1) := by decide +kernel
theorem dX3_set_18 : decode cX3_set 18 = .ok (.aload_n 0, 1) := by decide +kernel
theorem dX3_set_19 : decode cX3_set 19 = .ok (.getfield 13, 3) := by decide +kernel
theorem dX3_set_22 : decode cX3_set 22 = .ok (.iload_n 1, 1) := by decide +kernel
theorem dX3_set_23 : decode cX3_set 23 = .ok (.iaload, 1) := by decide +kernel
theorem dX3_set_24 : decode cX3_set 24 = .ok (.iconst 1, 1) := by decide +kernel
theorem dX3_set_25 : decode cX3_set 25 = .ok (.isub, 1) := by decide +kernel
theorem dX3_set_26 : decode cX3_set 26 = .ok (.invokestatic 45, 3) := by decide +kernel
theorem dX3_set_29 : decode cX3_set 29 = .ok (.ifCond .ne 6, 3) := by decide +kernel
theorem dX3_set_32 : decode cX3_set 32 = .ok (.bipush (-3), 2) := by decide +kernel
theorem dX3_set_34 : decode cX3_set 34 = .ok (.ireturn, 1) := by decide +kernel
theorem dX3_set_35 : decode cX3_set 35 = .ok (.aload_n 0, 1) := by decide +kernel
theorem dX3_set_36 : decode cX3_set 36 = .ok (.getfield 19, 3) := by decide +kernel
theorem dX3_set_39 : decode cX3_set 39 = .ok (.bipush 8, 2) := by decide +kernel
theorem dX3_set_41 : decode cX3_set 41 = .ok (.iload_n 1, 1) := by decide +kernel
theorem dX3_set_42 : decode cX3_set 42 = .ok (.imul, 1) := by decide +kernel
theorem dX3_set_43 : decode cX3_set 43 = .ok (.iload_n 2, 1) := by decide +kernel
theorem dX3_set_44 : decode cX3_set 44 = .ok (.iadd, 1) := by decide +kernel
theorem dX3_set_45 : decode cX3_set 45 = .ok (.aload_n 0, 1) := by decide +kernel
theorem dX3_set_46 : decode cX3_set 46 = .ok (.getfield 7, 3) := by decide +kernel
theorem dX3_set_49 : decode cX3_set 49 = .ok (.iload_n 1, 1) := by decide +kernel
theorem dX3_set_50 : decode cX3_set 50 = .ok (.iaload, 1) := by decide +kernel
theorem dX3_set_51 : decode cX3_set 51 = .ok (.lload_n 3, 1) := by decide +kernel
theorem dX3_set_52 : decode cX3_set 52 = .ok (.invokestatic 64, 3) := by decide +kernel
theorem dX3_set_55 : decode cX3_set 55 = .ok (.lastore, 1) := by decide +kernel
theorem dX3_set_56 : decode cX3_set 56 = .ok (.iconst 1, 1) := by decide +kernel
theorem dX3_set_57 : decode cX3_set 57 = .ok (.ireturn, 1) := by decide +kernel
set_option maxRecDepth 20000 in
theorem ggX3_number_X3_isValue : GoodIn wsX3_number wsX3_isValue := goodIn_r _ [8, 9, 10, 11, 7, 12, 25, 26, 27, 28, 29, 30, 31, 32, 33, 34, 35, 36, 37] (by decide +kernel) (by decide +kernel)
set_option maxRecDepth 20000 in
theorem gX3_number_X3_isValue : GoodIn wsX3_number (wsV RX3 57 RX3 yX3_isValue wsX3_isValue) := goodIn_app (goodIn_of _ (by decide +kernel)) ggX3_number_X3_isValue
set_option maxRecDepth 20000 in
theorem ggX3_number_X3_isOf : GoodIn wsX3_number wsX3_isOf := goodIn_r _ [16, 17, 18, 19, 7, 20, 25, 26, 27, 28, 29, 30, 31, 32, 33, 34, 35, 36, 37] (by decide +kernel) (by decide +kernel)
set_option maxRecDepth 20000 in
theorem gX3_number_X3_isOf : GoodIn wsX3_number (wsV RX3 68 RX3 yX3_isOf wsX3_isOf) := goodIn_app (goodIn_of _ (by decide +kernel)) ggX3_number_X3_isOf
set_option maxRecDepth 20000 in
theorem ggX3_number_X3_isRow : GoodIn wsX3_number wsX3_isRow := goodIn_r _ [24, 17, 25, 26, 27, 28, 29, 30, 31, 32, 33, 34, 35, 36, 37] (by decide +kernel) (by decide +kernel)
set_option maxRecDepth 20000 in
theorem gX3_number_X3_isRow : GoodIn wsX3_number (wsV RX3 61 RX3 yX3_isRow wsX3_isRow) := goodIn_app (goodIn_of _ (by decide +kernel)) ggX3_number_X3_isRow
set_option maxRecDepth 20000 in
theorem ggX3_number_X3_isIn : GoodIn wsX3_number wsX3_isIn := goodIn_r _ [12] (by decide +kernel) (by decide +kernel)
set_option maxRecDepth 20000 in
theorem gX3_number_X3_isIn : GoodIn wsX3_number (va_wsS RX3 45 yX3_isIn wsX3_isIn) := goodIn_app (goodIn_of _ (by decide +kernel)) ggX3_number_X3_isIn
theorem dX3_number_0 : decode cX3_number 0 = .ok (.aload_n 0, 1) := by decide +kernel
theorem dX3_number_1 : decode cX3_number 1 = .ok (.iload_n 1, 1) := by decide +kernel
theorem dX3_number_2 : decode cX3_number 2 = .ok (.invokevirtual 57, 3) := by decide +kernel
theorem dX3_number_5 : decode cX3_number 5 = .ok (.ifCond .ne 5, 3) := by decide +kernel
theorem dX3_number_8 : decode cX3_number 8 = .ok (.lconst 0, 1) := by decide +kernel
theorem dX3_number_9 : decode cX3_number 9 = .ok (.lreturn, 1) := by decide +kernel
theorem dX3_number_10 : decode cX3_number 10 = .ok (.aload_n 0, 1) := by decide +kernel
theorem dX3_number_11 : decode cX3_number 11 = .ok (.iload_n 1, 1) := by decide +kernel
theorem dX3_number_12 : decode cX3_number 12 = .ok (.iconst 4, 1) := by decide +kernel
theorem dX3_number_13 : decode cX3_number 13 = .ok (.invokevirtual 68, 3) := by decide +kernel
theorem dX3_number_16 : decode cX3_number 16 = .ok (.ifCond .eq 11, 3) := by decide +kernel
theorem dX3_number_19 : decode cX3_number 19 = .ok (.aload_n 0, 1) := by decide +kernel
theorem dX3_number_20 : decode cX3_number 20 = .ok (.getfield 16, 3) := by decide +kernel
theorem dX3_number_23 : decode cX3_number 23 = .ok (.iload_n 1, 1) := by decide +kernel
theorem dX3_number_24 : decode cX3_number 24 = .ok (.iaload, 1) := by decide +kernel
theorem dX3_number_25 : decode cX3_number 25 = .ok (.i2l, 1) := by decide +kernel
theorem dX3_number_26 : decode cX3_number 26 = .ok (.lreturn, 1) := by decide +kernel
theorem dX3_number_27 : decode cX3_number 27 = .ok (.aload_n 0, 1) := by decide +kernel
theorem dX3_number_28 : decode cX3_number 28 = .ok (.iload_n 1, 1) := by decide +kernel
theorem dX3_number_29 : decode cX3_number 29 = .ok (.invokevirtual 61, 3) := by decide +kernel
theorem dX3_number_32 : decode cX3_number 32 = .ok (.ifCond .eq 33, 3) := by decide +kernel
theorem dX3_number_35 : decode cX3_number 35 = .ok (.iload_n 2, 1) := by decide +kernel
theorem dX3_number_36 : decode cX3_number 36 = .ok (.iconst 0, 1) := by decide +kernel
theorem dX3_number_37 : decode cX3_number 37 = .ok (.aload_n 0, 1) := by decide +kernel
theorem dX3_number_38 : decode cX3_number 38 = .ok (.getfield 13, 3) := by decide +kernel
theorem dX3_number_41 : decode cX3_number 41 = .ok (.iload_n 1, 1) := by decide +kernel
theorem dX3_number_42 : decode cX3_number 42 = .ok (.iaload, 1) := by decide +kernel
theorem dX3_number_43 : decode cX3_number 43 = .ok (.iconst 1, 1) := by decide +kernel
theorem dX3_number_44 : decode cX3_number 44 = .ok (.isub, 1) := by decide +kernel
theorem dX3_number_45 : decode cX3_number 45 = .ok (.invokestatic 45, 3) := by decide +kernel
theorem dX3_number_48 : decode cX3_number 48 = .ok (.ifCond .eq 17, 3) := by decide +kernel
theorem dX3_number_51 : decode cX3_number 51 = .ok (.aload_n 0, 1) := by decide +kernel
theorem dX3_number_52 : decode cX3_number 52 = .ok (.getfield 19, 3) := by decide +kernel
theorem dX3_number_55 : decode cX3_number 55 = .ok (.bipush 8, 2) := by decide +kernel
theorem dX3_number_57 : decode cX3_number 57 = .ok (.iload_n 1, 1) := by decide +kernel
theorem dX3_number_58 : decode cX3_number 58 = .ok (.imul, 1) := by decide +kernel
theorem dX3_number_59 : decode cX3_number 59 = .ok (.iload_n 2, 1) := by decide +kernel
theorem dX3_number_60 : decode cX3_number 60 = .ok (.iadd, 1) := by decide +kernel
theorem dX3_number_61 : decode cX3_number 61 = .ok (.laload, 1) := by decide +kernel
theorem dX3_number_62 : decode cX3_number 62 = .ok (.goto 4, 3) := by decide +kernel
theorem dX3_number_65 : decode cX3_number 65 = .ok (.lconst 0, 1) := by decide +kernel
theorem dX3_number_66 : decode cX3_number 66 = .ok (.lreturn, 1) := by decide +kernel
theorem dX3_with_0 : decode cX3_with 0 = .ok (.bipush (-10), 2) := by decide +kernel
theorem dX3_with_2 : decode cX3_with 2 = .ok (.iload_n 0, 1) := by decide +kernel
theorem dX3_with_3 : decode cX3_with 3 = .ok (.isub, 1) := by decide +kernel
theorem dX3_with_4 : decode cX3_with 4 = .ok (.ireturn, 1) := by decide +kernel
theorem dX3_hasPlaces_0 : decode cX3_hasPlaces 0 = .ok (.aload_n 0, 1) := by decide +kernel
theorem dX3_hasPlaces_1 : decode cX3_hasPlaces 1 = .ok (.getfield 7, 3) := by decide +kernel
theorem dX3_hasPlaces_4 : decode cX3_hasPlaces 4 = .ok (.iload_n 1, 1) := by decide +kernel
theorem dX3_hasPlaces_5 : decode cX3_hasPlaces 5 = .ok (.iaload, 1) := by decide +kernel
theorem dX3_hasPlaces_6 : decode cX3_hasPlaces 6 = .ok (.iconst 3, 1) := by decide +kernel
theorem dX3_hasPlaces_7 : decode cX3_hasPlaces 7 = .ok (.if_icmp .eq 14, 3) := by decide +kernel
theorem dX3_hasPlaces_10 : decode cX3_hasPlaces 10 = .ok (.aload_n 0, 1) := by decide +kernel
theorem dX3_hasPlaces_11 : decode cX3_hasPlaces 11 = .ok (.getfield 7, 3) := by decide +kernel
theorem dX3_hasPlaces_14 : decode cX3_hasPlaces 14 = .ok (.iload_n 1, 1) := by decide +kernel
theorem dX3_hasPlaces_15 : decode cX3_hasPlaces 15 = .ok (.iaload, 1) := by decide +kernel
theorem dX3_hasPlaces_16 : decode cX3_hasPlaces 16 = .ok (.bipush 6, 2) := by decide +kernel
theorem dX3_hasPlaces_18 : decode cX3_hasPlaces 18 = .ok (.if_icmp .lt 7, 3) := by decide +kernel
theorem dX3_hasPlaces_21 : decode cX3_hasPlaces 21 = .ok (.iconst 1, 1) := by decide +kernel
theorem dX3_hasPlaces_22 : decode cX3_hasPlaces 22 = .ok (.goto 4, 3) := by decide +kernel
theorem dX3_hasPlaces_25 : decode cX3_hasPlaces 25 = .ok (.iconst 0, 1) := by decide +kernel
theorem dX3_hasPlaces_26 : decode cX3_hasPlaces 26 = .ok (.ireturn, 1) := by decide +kernel
set_option maxRecDepth 20000 in
theorem ggX3_takes_X3_isOf : GoodIn wsX3_takes wsX3_isOf := goodIn_r _ [6, 1, 7, 8, 5, 9, 10, 11, 12, 13, 14, 15, 16, 17, 18, 19, 20, 21, 22] (by decide +kernel) (by decide +kernel)
set_option maxRecDepth 20000 in
theorem gX3_takes_X3_isOf : GoodIn wsX3_takes (wsV RX3 68 RX3 yX3_isOf wsX3_isOf) := goodIn_app (goodIn_of _ (by decide +kernel)) ggX3_takes_X3_isOf
theorem dX3_takes_0 : decode cX3_takes 0 = .ok (.aload_n 0, 1) := by decide +kernel
theorem dX3_takes_1 : decode cX3_takes 1 = .ok (.getfield 7, 3) := by decide +kernel
theorem dX3_takes_4 : decode cX3_takes 4 = .ok (.iload_n 1, 1) := by decide +kernel
theorem dX3_takes_5 : decode cX3_takes 5 = .ok (.iaload, 1) := by decide +kernel
theorem dX3_takes_6 : decode cX3_takes 6 = .ok (.tableswitch 79 3 9 #[42, 79, 79, 49, 56, 63, 71], 42) := by decide +kernel
theorem dX3_takes_48 : decode cX3_takes 48 = .ok (.aload_n 0, 1) := by decide +kernel
theorem dX3_takes_49 : decode cX3_takes 49 = .ok (.iload_n 2, 1) := by decide +kernel
theorem dX3_takes_50 : decode cX3_takes 50 = .ok (.iconst 1, 1) := by decide +kernel
theorem dX3_takes_51 : decode cX3_takes 51 = .ok (.invokevirtual 68, 3) := by decide +kernel
theorem dX3_takes_54 : decode cX3_takes 54 = .ok (.ireturn, 1) := by decide +kernel
theorem dX3_takes_55 : decode cX3_takes 55 = .ok (.aload_n 0, 1) := by decide +kernel
theorem dX3_takes_56 : decode cX3_takes 56 = .ok (.iload_n 2, 1) := by decide +kernel
theorem dX3_takes_57 : decode cX3_takes 57 = .ok (.iconst 4, 1) := by decide +kernel
theorem dX3_takes_58 : decode cX3_takes 58 = .ok (.invokevirtual 68, 3) := by decide +kernel
theorem dX3_takes_61 : decode cX3_takes 61 = .ok (.ireturn, 1) := by decide +kernel
theorem dX3_takes_62 : decode cX3_takes 62 = .ok (.aload_n 0, 1) := by decide +kernel
theorem dX3_takes_63 : decode cX3_takes 63 = .ok (.iload_n 2, 1) := by decide +kernel
theorem dX3_takes_64 : decode cX3_takes 64 = .ok (.iconst 5, 1) := by decide +kernel
theorem dX3_takes_65 : decode cX3_takes 65 = .ok (.invokevirtual 68, 3) := by decide +kernel
theorem dX3_takes_68 : decode cX3_takes 68 = .ok (.ireturn, 1) := by decide +kernel
theorem dX3_takes_69 : decode cX3_takes 69 = .ok (.aload_n 0, 1) := by decide +kernel
theorem dX3_takes_70 : decode cX3_takes 70 = .ok (.iload_n 2, 1) := by decide +kernel
end
section
theorem dX3_takes_71 : decode cX3_takes 71 = .ok (.bipush 11, 2) := by decide +kernel
theorem dX3_takes_73 : decode cX3_takes 73 = .ok (.invokevirtual 68, 3) := by decide +kernel
theorem dX3_takes_76 : decode cX3_takes 76 = .ok (.ireturn, 1) := by decide +kernel
theorem dX3_takes_77 : decode cX3_takes 77 = .ok (.aload_n 0, 1) := by decide +kernel
theorem dX3_takes_78 : decode cX3_takes 78 = .ok (.iload_n 2, 1) := by decide +kernel
theorem dX3_takes_79 : decode cX3_takes 79 = .ok (.bipush 6, 2) := by decide +kernel
theorem dX3_takes_81 : decode cX3_takes 81 = .ok (.invokevirtual 68, 3) := by decide +kernel
theorem dX3_takes_84 : decode cX3_takes 84 = .ok (.ireturn, 1) := by decide +kernel
theorem dX3_takes_85 : decode cX3_takes 85 = .ok (.aload_n 0, 1) := by decide +kernel
theorem dX3_takes_86 : decode cX3_takes 86 = .ok (.iload_n 2, 1) := by decide +kernel
theorem dX3_takes_87 : decode cX3_takes 87 = .ok (.bipush 7, 2) := by decide +kernel
theorem dX3_takes_89 : decode cX3_takes 89 = .ok (.invokevirtual 68, 3) := by decide +kernel
theorem dX3_takes_92 : decode cX3_takes 92 = .ok (.ireturn, 1) := by decide +kernel
theorem dX3_sumOf_0 : decode cX3_sumOf 0 = .ok (.lconst 0, 1) := by decide +kernel
theorem dX3_sumOf_1 : decode cX3_sumOf 1 = .ok (.lstore_n 2, 1) := by decide +kernel
theorem dX3_sumOf_2 : decode cX3_sumOf 2 = .ok (.iconst 0, 1) := by decide +kernel
theorem dX3_sumOf_3 : decode cX3_sumOf 3 = .ok (.istore 4, 2) := by decide +kernel
theorem dX3_sumOf_5 : decode cX3_sumOf 5 = .ok (.iload 4, 2) := by decide +kernel
theorem dX3_sumOf_7 : decode cX3_sumOf 7 = .ok (.aload_n 0, 1) := by decide +kernel
theorem dX3_sumOf_8 : decode cX3_sumOf 8 = .ok (.getfield 13, 3) := by decide +kernel
theorem dX3_sumOf_11 : decode cX3_sumOf 11 = .ok (.iload_n 1, 1) := by decide +kernel
theorem dX3_sumOf_12 : decode cX3_sumOf 12 = .ok (.iaload, 1) := by decide +kernel
theorem dX3_sumOf_13 : decode cX3_sumOf 13 = .ok (.if_icmp .ge 24, 3) := by decide +kernel
theorem dX3_sumOf_16 : decode cX3_sumOf 16 = .ok (.lload_n 2, 1) := by decide +kernel
theorem dX3_sumOf_17 : decode cX3_sumOf 17 = .ok (.aload_n 0, 1) := by decide +kernel
theorem dX3_sumOf_18 : decode cX3_sumOf 18 = .ok (.getfield 19, 3) := by decide +kernel
theorem dX3_sumOf_21 : decode cX3_sumOf 21 = .ok (.bipush 8, 2) := by decide +kernel
theorem dX3_sumOf_23 : decode cX3_sumOf 23 = .ok (.iload_n 1, 1) := by decide +kernel
theorem dX3_sumOf_24 : decode cX3_sumOf 24 = .ok (.imul, 1) := by decide +kernel
theorem dX3_sumOf_25 : decode cX3_sumOf 25 = .ok (.iload 4, 2) := by decide +kernel
theorem dX3_sumOf_27 : decode cX3_sumOf 27 = .ok (.iadd, 1) := by decide +kernel
theorem dX3_sumOf_28 : decode cX3_sumOf 28 = .ok (.laload, 1) := by decide +kernel
theorem dX3_sumOf_29 : decode cX3_sumOf 29 = .ok (.ladd, 1) := by decide +kernel
theorem dX3_sumOf_30 : decode cX3_sumOf 30 = .ok (.lstore_n 2, 1) := by decide +kernel
theorem dX3_sumOf_31 : decode cX3_sumOf 31 = .ok (.iinc 4 1, 3) := by decide +kernel
theorem dX3_sumOf_34 : decode cX3_sumOf 34 = .ok (.goto (-29), 3) := by decide +kernel
theorem dX3_sumOf_37 : decode cX3_sumOf 37 = .ok (.lload_n 2, 1) := by decide +kernel
theorem dX3_sumOf_38 : decode cX3_sumOf 38 = .ok (.lreturn, 1) := by decide +kernel
set_option maxRecDepth 20000 in
theorem ggX3_sum_X3_isRow : GoodIn wsX3_sum wsX3_isRow := goodIn_r _ [9, 2, 23, 24, 25, 26, 27, 28, 29, 30, 31, 32, 33, 34, 35] (by decide +kernel) (by decide +kernel)
set_option maxRecDepth 20000 in
theorem gX3_sum_X3_isRow : GoodIn wsX3_sum (wsV RX3 61 RX3 yX3_isRow wsX3_isRow) := goodIn_app (goodIn_of _ (by decide +kernel)) ggX3_sum_X3_isRow
set_option maxRecDepth 20000 in
theorem ggX3_sum_X3_make : GoodIn wsX3_sum wsX3_make := goodIn_r _ [13, 14, 2, 3, 15, 1, 4, 23, 24, 25, 26, 27, 28, 29, 30, 31, 32, 33, 34, 35] (by decide +kernel) (by decide +kernel)
set_option maxRecDepth 20000 in
theorem gX3_sum_X3_make : GoodIn wsX3_sum (wsV RX3 53 RX3 yX3_make wsX3_make) := goodIn_app (goodIn_of _ (by decide +kernel)) ggX3_sum_X3_make
set_option maxRecDepth 20000 in
theorem ggX3_sum_X3_sumOf : GoodIn wsX3_sum wsX3_sumOf := goodIn_r _ [19, 3, 1, 23, 24, 25, 26, 27, 28, 29, 30, 31, 32, 33, 34, 35] (by decide +kernel) (by decide +kernel)
set_option maxRecDepth 20000 in
theorem gX3_sum_X3_sumOf : GoodIn wsX3_sum (wsV RX3 71 RX3 yX3_sumOf wsX3_sumOf) := goodIn_app (goodIn_of _ (by decide +kernel)) ggX3_sum_X3_sumOf
set_option maxRecDepth 20000 in
theorem ggX3_sum_X3_with : GoodIn wsX3_sum wsX3_with := goodIn_r _ [22] (by decide +kernel) (by decide +kernel)
set_option maxRecDepth 20000 in
theorem gX3_sum_X3_with : GoodIn wsX3_sum (va_wsS RX3 75 yX3_with wsX3_with) := goodIn_app (goodIn_of _ (by decide +kernel)) ggX3_sum_X3_with
theorem dX3_sum_0 : decode cX3_sum 0 = .ok (.aload_n 0, 1) := by decide +kernel
theorem dX3_sum_1 : decode cX3_sum 1 = .ok (.iload_n 1, 1) := by decide +kernel
theorem dX3_sum_2 : decode cX3_sum 2 = .ok (.invokevirtual 61, 3) := by decide +kernel
theorem dX3_sum_5 : decode cX3_sum 5 = .ok (.ifCond .eq 26, 3) := by decide +kernel
theorem dX3_sum_8 : decode cX3_sum 8 = .ok (.aload_n 0, 1) := by decide +kernel
theorem dX3_sum_9 : decode cX3_sum 9 = .ok (.iconst 2, 1) := by decide +kernel
theorem dX3_sum_10 : decode cX3_sum 10 = .ok (.iconst 1, 1) := by decide +kernel
theorem dX3_sum_11 : decode cX3_sum 11 = .ok (.invokevirtual 53, 3) := by decide +kernel
theorem dX3_sum_14 : decode cX3_sum 14 = .ok (.istore_n 2, 1) := by decide +kernel
theorem dX3_sum_15 : decode cX3_sum 15 = .ok (.aload_n 0, 1) := by decide +kernel
theorem dX3_sum_16 : decode cX3_sum 16 = .ok (.getfield 19, 3) := by decide +kernel
theorem dX3_sum_19 : decode cX3_sum 19 = .ok (.bipush 8, 2) := by decide +kernel
theorem dX3_sum_21 : decode cX3_sum 21 = .ok (.iload_n 2, 1) := by decide +kernel
theorem dX3_sum_22 : decode cX3_sum 22 = .ok (.imul, 1) := by decide +kernel
theorem dX3_sum_23 : decode cX3_sum 23 = .ok (.aload_n 0, 1) := by decide +kernel
theorem dX3_sum_24 : decode cX3_sum 24 = .ok (.iload_n 1, 1) := by decide +kernel
theorem dX3_sum_25 : decode cX3_sum 25 = .ok (.invokevirtual 71, 3) := by decide +kernel
theorem dX3_sum_28 : decode cX3_sum 28 = .ok (.lastore, 1) := by decide +kernel
theorem dX3_sum_29 : decode cX3_sum 29 = .ok (.iload_n 2, 1) := by decide +kernel
theorem dX3_sum_30 : decode cX3_sum 30 = .ok (.ireturn, 1) := by decide +kernel
theorem dX3_sum_31 : decode cX3_sum 31 = .ok (.aload_n 0, 1) := by decide +kernel
theorem dX3_sum_32 : decode cX3_sum 32 = .ok (.getfield 7, 3) := by decide +kernel
theorem dX3_sum_35 : decode cX3_sum 35 = .ok (.iload_n 1, 1) := by decide +kernel
theorem dX3_sum_36 : decode cX3_sum 36 = .ok (.iaload, 1) := by decide +kernel
theorem dX3_sum_37 : decode cX3_sum 37 = .ok (.iconst 3, 1) := by decide +kernel
theorem dX3_sum_38 : decode cX3_sum 38 = .ok (.if_icmp .eq 8, 3) := by decide +kernel
theorem dX3_sum_41 : decode cX3_sum 41 = .ok (.iconst 1, 1) := by decide +kernel
theorem dX3_sum_42 : decode cX3_sum 42 = .ok (.invokestatic 75, 3) := by decide +kernel
theorem dX3_sum_45 : decode cX3_sum 45 = .ok (.ireturn, 1) := by decide +kernel
theorem dX3_sum_46 : decode cX3_sum 46 = .ok (.aload_n 0, 1) := by decide +kernel
theorem dX3_sum_47 : decode cX3_sum 47 = .ok (.iconst 2, 1) := by decide +kernel
theorem dX3_sum_48 : decode cX3_sum 48 = .ok (.aload_n 0, 1) := by decide +kernel
theorem dX3_sum_49 : decode cX3_sum 49 = .ok (.getfield 13, 3) := by decide +kernel
theorem dX3_sum_52 : decode cX3_sum 52 = .ok (.iload_n 1, 1) := by decide +kernel
theorem dX3_sum_53 : decode cX3_sum 53 = .ok (.iaload, 1) := by decide +kernel
theorem dX3_sum_54 : decode cX3_sum 54 = .ok (.invokevirtual 53, 3) := by decide +kernel
theorem dX3_sum_57 : decode cX3_sum 57 = .ok (.istore_n 2, 1) := by decide +kernel
theorem dX3_sum_58 : decode cX3_sum 58 = .ok (.iconst 0, 1) := by decide +kernel
theorem dX3_sum_59 : decode cX3_sum 59 = .ok (.istore_n 3, 1) := by decide +kernel
theorem dX3_sum_60 : decode cX3_sum 60 = .ok (.iload_n 3, 1) := by decide +kernel
theorem dX3_sum_61 : decode cX3_sum 61 = .ok (.aload_n 0, 1) := by decide +kernel
theorem dX3_sum_62 : decode cX3_sum 62 = .ok (.getfield 13, 3) := by decide +kernel
theorem dX3_sum_65 : decode cX3_sum 65 = .ok (.iload_n 1, 1) := by decide +kernel
theorem dX3_sum_66 : decode cX3_sum 66 = .ok (.iaload, 1) := by decide +kernel
theorem dX3_sum_67 : decode cX3_sum 67 = .ok (.if_icmp .ge 49, 3) := by decide +kernel
theorem dX3_sum_70 : decode cX3_sum 70 = .ok (.aload_n 0, 1) := by decide +kernel
theorem dX3_sum_71 : decode cX3_sum 71 = .ok (.getfield 23, 3) := by decide +kernel
theorem dX3_sum_74 : decode cX3_sum 74 = .ok (.bipush 8, 2) := by decide +kernel
theorem dX3_sum_76 : decode cX3_sum 76 = .ok (.iload_n 1, 1) := by decide +kernel
theorem dX3_sum_77 : decode cX3_sum 77 = .ok (.imul, 1) := by decide +kernel
theorem dX3_sum_78 : decode cX3_sum 78 = .ok (.iload_n 3, 1) := by decide +kernel
theorem dX3_sum_79 : decode cX3_sum 79 = .ok (.iadd, 1) := by decide +kernel
theorem dX3_sum_80 : decode cX3_sum 80 = .ok (.iaload, 1) := by decide +kernel
theorem dX3_sum_81 : decode cX3_sum 81 = .ok (.istore 4, 2) := by decide +kernel
theorem dX3_sum_83 : decode cX3_sum 83 = .ok (.aload_n 0, 1) := by decide +kernel
theorem dX3_sum_84 : decode cX3_sum 84 = .ok (.getfield 19, 3) := by decide +kernel
theorem dX3_sum_87 : decode cX3_sum 87 = .ok (.bipush 8, 2) := by decide +kernel
theorem dX3_sum_89 : decode cX3_sum 89 = .ok (.iload_n 2, 1) := by decide +kernel
theorem dX3_sum_90 : decode cX3_sum 90 = .ok (.imul, 1) := by decide +kernel
theorem dX3_sum_91 : decode cX3_sum 91 = .ok (.iload_n 3, 1) := by decide +kernel
theorem dX3_sum_92 : decode cX3_sum 92 = .ok (.iadd, 1) := by decide +kernel
theorem dX3_sum_93 : decode cX3_sum 93 = .ok (.iload 4, 2) := by decide +kernel
theorem dX3_sum_95 : decode cX3_sum 95 = .ok (.iconst (-1), 1) := by decide +kernel
theorem dX3_sum_96 : decode cX3_sum 96 = .ok (.if_icmp .ne 7, 3) := by decide +kernel
theorem dX3_sum_99 : decode cX3_sum 99 = .ok (.lconst 0, 1) := by decide +kernel
theorem dX3_sum_100 : decode cX3_sum 100 = .ok (.goto 9, 3) := by decide +kernel
theorem dX3_sum_103 : decode cX3_sum 103 = .ok (.aload_n 0, 1) := by decide +kernel
theorem dX3_sum_104 : decode cX3_sum 104 = .ok (.iload 4, 2) := by decide +kernel
theorem dX3_sum_106 : decode cX3_sum 106 = .ok (.invokevirtual 71, 3) := by decide +kernel
theorem dX3_sum_109 : decode cX3_sum 109 = .ok (.lastore, 1) := by decide +kernel
theorem dX3_sum_110 : decode cX3_sum 110 = .ok (.iinc 3 1, 3) := by decide +kernel
theorem dX3_sum_113 : decode cX3_sum 113 = .ok (.goto (-53), 3) := by decide +kernel
theorem dX3_sum_116 : decode cX3_sum 116 = .ok (.iload_n 2, 1) := by decide +kernel
theorem dX3_sum_117 : decode cX3_sum 117 = .ok (.ireturn, 1) := by decide +kernel
set_option maxRecDepth 20000 in
theorem ggX3_turned_X3_isRow : GoodIn wsX3_turned wsX3_isRow := goodIn_r _ [8, 1, 25, 26, 27, 28, 29, 30, 31, 32, 33, 34, 35, 36, 37] (by decide +kernel) (by decide +kernel)
set_option maxRecDepth 20000 in
theorem gX3_turned_X3_isRow : GoodIn wsX3_turned (wsV RX3 61 RX3 yX3_isRow wsX3_isRow) := goodIn_app (goodIn_of _ (by decide +kernel)) ggX3_turned_X3_isRow
set_option maxRecDepth 20000 in
theorem ggX3_turned_X3_isIn : GoodIn wsX3_turned wsX3_isIn := goodIn_r _ [11] (by decide +kernel) (by decide +kernel)
set_option maxRecDepth 20000 in
theorem gX3_turned_X3_isIn : GoodIn wsX3_turned (va_wsS RX3 45 yX3_isIn wsX3_isIn) := goodIn_app (goodIn_of _ (by decide +kernel)) ggX3_turned_X3_isIn
set_option maxRecDepth 20000 in
theorem ggX3_turned_X3_with : GoodIn wsX3_turned wsX3_with := goodIn_r _ [14] (by decide +kernel) (by decide +kernel)
set_option maxRecDepth 20000 in
theorem gX3_turned_X3_with : GoodIn wsX3_turned (va_wsS RX3 75 yX3_with wsX3_with) := goodIn_app (goodIn_of _ (by decide +kernel)) ggX3_turned_X3_with
set_option maxRecDepth 20000 in
theorem ggX3_turned_X3_make : GoodIn wsX3_turned wsX3_make := goodIn_r _ [18, 19, 1, 2, 20, 3, 21, 25, 26, 27, 28, 29, 30, 31, 32, 33, 34, 35, 36, 37] (by decide +kernel) (by decide +kernel)
set_option maxRecDepth 20000 in
theorem gX3_turned_X3_make : GoodIn wsX3_turned (wsV RX3 53 RX3 yX3_make wsX3_make) := goodIn_app (goodIn_of _ (by decide +kernel)) ggX3_turned_X3_make
set_option maxRecDepth 20000 in
theorem ggX3_turned_X3_cut : GoodIn wsX3_turned wsX3_cut := goodIn_r _ [24] (by decide +kernel) (by decide +kernel)
set_option maxRecDepth 20000 in
theorem gX3_turned_X3_cut : GoodIn wsX3_turned (va_wsS RX3 64 yX3_cut wsX3_cut) := goodIn_app (goodIn_of _ (by decide +kernel)) ggX3_turned_X3_cut
theorem dX3_turned_0 : decode cX3_turned 0 = .ok (.aload_n 0, 1) := by decide +kernel
theorem dX3_turned_1 : decode cX3_turned 1 = .ok (.getfield 7, 3) := by decide +kernel
theorem dX3_turned_4 : decode cX3_turned 4 = .ok (.iload_n 1, 1) := by decide +kernel
theorem dX3_turned_5 : decode cX3_turned 5 = .ok (.iaload, 1) := by decide +kernel
theorem dX3_turned_6 : decode cX3_turned 6 = .ok (.iload_n 2, 1) := by decide +kernel
theorem dX3_turned_7 : decode cX3_turned 7 = .ok (.iadd, 1) := by decide +kernel
theorem dX3_turned_8 : decode cX3_turned 8 = .ok (.istore_n 3, 1) := by decide +kernel
theorem dX3_turned_9 : decode cX3_turned 9 = .ok (.aload_n 0, 1) := by decide +kernel
theorem dX3_turned_10 : decode cX3_turned 10 = .ok (.iload_n 1, 1) := by decide +kernel
theorem dX3_turned_11 : decode cX3_turned 11 = .ok (.invokevirtual 61, 3) := by decide +kernel
theorem dX3_turned_14 : decode cX3_turned 14 = .ok (.ifCond .eq 12, 3) := by decide +kernel
theorem dX3_turned_17 : decode cX3_turned 17 = .ok (.iload_n 3, 1) := by decide +kernel
theorem dX3_turned_18 : decode cX3_turned 18 = .ok (.iconst 0, 1) := by decide +kernel
theorem dX3_turned_19 : decode cX3_turned 19 = .ok (.iconst 2, 1) := by decide +kernel
theorem dX3_turned_20 : decode cX3_turned 20 = .ok (.invokestatic 45, 3) := by decide +kernel
theorem dX3_turned_23 : decode cX3_turned 23 = .ok (.ifCond .ne 8, 3) := by decide +kernel
theorem dX3_turned_26 : decode cX3_turned 26 = .ok (.iconst 1, 1) := by decide +kernel
theorem dX3_turned_27 : decode cX3_turned 27 = .ok (.invokestatic 75, 3) := by decide +kernel
theorem dX3_turned_30 : decode cX3_turned 30 = .ok (.ireturn, 1) := by decide +kernel
theorem dX3_turned_31 : decode cX3_turned 31 = .ok (.aload_n 0, 1) := by decide +kernel
theorem dX3_turned_32 : decode cX3_turned 32 = .ok (.iload_n 3, 1) := by decide +kernel
theorem dX3_turned_33 : decode cX3_turned 33 = .ok (.aload_n 0, 1) := by decide +kernel
theorem dX3_turned_34 : decode cX3_turned 34 = .ok (.getfield 13, 3) := by decide +kernel
theorem dX3_turned_37 : decode cX3_turned 37 = .ok (.iload_n 1, 1) := by decide +kernel
theorem dX3_turned_38 : decode cX3_turned 38 = .ok (.iaload, 1) := by decide +kernel
theorem dX3_turned_39 : decode cX3_turned 39 = .ok (.invokevirtual 53, 3) := by decide +kernel
theorem dX3_turned_42 : decode cX3_turned 42 = .ok (.istore 4, 2) := by decide +kernel
theorem dX3_turned_44 : decode cX3_turned 44 = .ok (.iconst 0, 1) := by decide +kernel
theorem dX3_turned_45 : decode cX3_turned 45 = .ok (.istore 5, 2) := by decide +kernel
theorem dX3_turned_47 : decode cX3_turned 47 = .ok (.iload 5, 2) := by decide +kernel
theorem dX3_turned_49 : decode cX3_turned 49 = .ok (.aload_n 0, 1) := by decide +kernel
theorem dX3_turned_50 : decode cX3_turned 50 = .ok (.getfield 13, 3) := by decide +kernel
theorem dX3_turned_53 : decode cX3_turned 53 = .ok (.iload_n 1, 1) := by decide +kernel
theorem dX3_turned_54 : decode cX3_turned 54 = .ok (.iaload, 1) := by decide +kernel
theorem dX3_turned_55 : decode cX3_turned 55 = .ok (.if_icmp .ge 38, 3) := by decide +kernel
theorem dX3_turned_58 : decode cX3_turned 58 = .ok (.aload_n 0, 1) := by decide +kernel
theorem dX3_turned_59 : decode cX3_turned 59 = .ok (.getfield 19, 3) := by decide +kernel
theorem dX3_turned_62 : decode cX3_turned 62 = .ok (.bipush 8, 2) := by decide +kernel
theorem dX3_turned_64 : decode cX3_turned 64 = .ok (.iload 4, 2) := by decide +kernel
theorem dX3_turned_66 : decode cX3_turned 66 = .ok (.imul, 1) := by decide +kernel
theorem dX3_turned_67 : decode cX3_turned 67 = .ok (.iload 5, 2) := by decide +kernel
theorem dX3_turned_69 : decode cX3_turned 69 = .ok (.iadd, 1) := by decide +kernel
theorem dX3_turned_70 : decode cX3_turned 70 = .ok (.iload_n 3, 1) := by decide +kernel
theorem dX3_turned_71 : decode cX3_turned 71 = .ok (.aload_n 0, 1) := by decide +kernel
theorem dX3_turned_72 : decode cX3_turned 72 = .ok (.getfield 19, 3) := by decide +kernel
theorem dX3_turned_75 : decode cX3_turned 75 = .ok (.bipush 8, 2) := by decide +kernel
theorem dX3_turned_77 : decode cX3_turned 77 = .ok (.iload_n 1, 1) := by decide +kernel
theorem dX3_turned_78 : decode cX3_turned 78 = .ok (.imul, 1) := by decide +kernel
theorem dX3_turned_79 : decode cX3_turned 79 = .ok (.iload 5, 2) := by decide +kernel
theorem dX3_turned_81 : decode cX3_turned 81 = .ok (.iadd, 1) := by decide +kernel
theorem dX3_turned_82 : decode cX3_turned 82 = .ok (.laload, 1) := by decide +kernel
theorem dX3_turned_83 : decode cX3_turned 83 = .ok (.invokestatic 64, 3) := by decide +kernel
theorem dX3_turned_86 : decode cX3_turned 86 = .ok (.lastore, 1) := by decide +kernel
theorem dX3_turned_87 : decode cX3_turned 87 = .ok (.iinc 5 1, 3) := by decide +kernel
theorem dX3_turned_90 : decode cX3_turned 90 = .ok (.goto (-43), 3) := by decide +kernel
theorem dX3_turned_93 : decode cX3_turned 93 = .ok (.iload 4, 2) := by decide +kernel
theorem dX3_turned_95 : decode cX3_turned 95 = .ok (.ireturn, 1) := by decide +kernel
set_option maxRecDepth 20000 in
theorem ggX3_tap_X3_with : GoodIn wsX3_tap wsX3_with := goodIn_r _ [6] (by decide +kernel) (by decide +kernel)
set_option maxRecDepth 20000 in
theorem gX3_tap_X3_with : GoodIn wsX3_tap (va_wsS RX3 75 yX3_with wsX3_with) := goodIn_app (goodIn_of _ (by decide +kernel)) ggX3_tap_X3_with
set_option maxRecDepth 20000 in
theorem ggX3_tap_X3_hasPlaces : GoodIn wsX3_tap wsX3_hasPlaces := goodIn_r _ [10, 11, 15, 16, 17, 18, 19, 20, 21, 22, 23, 24, 25, 26, 27] (by decide +kernel) (by decide +kernel)
set_option maxRecDepth 20000 in
theorem gX3_tap_X3_hasPlaces : GoodIn wsX3_tap (wsV RX3 79 RX3 yX3_hasPlaces wsX3_hasPlaces) := goodIn_app (goodIn_of _ (by decide +kernel)) ggX3_tap_X3_hasPlaces
set_option maxRecDepth 20000 in
theorem ggX3_tap_X3_isIn : GoodIn wsX3_tap wsX3_isIn := goodIn_r _ [14] (by decide +kernel) (by decide +kernel)
set_option maxRecDepth 20000 in
theorem gX3_tap_X3_isIn : GoodIn wsX3_tap (va_wsS RX3 45 yX3_isIn wsX3_isIn) := goodIn_app (goodIn_of _ (by decide +kernel)) ggX3_tap_X3_isIn
theorem dX3_tap_0 : decode cX3_tap 0 = .ok (.iload_n 1, 1) := by decide +kernel
theorem dX3_tap_1 : decode cX3_tap 1 = .ok (.iconst (-1), 1) := by decide +kernel
theorem dX3_tap_2 : decode cX3_tap 2 = .ok (.if_icmp .ne 8, 3) := by decide +kernel
theorem dX3_tap_5 : decode cX3_tap 5 = .ok (.iconst 2, 1) := by decide +kernel
theorem dX3_tap_6 : decode cX3_tap 6 = .ok (.invokestatic 75, 3) := by decide +kernel
theorem dX3_tap_9 : decode cX3_tap 9 = .ok (.ireturn, 1) := by decide +kernel
theorem dX3_tap_10 : decode cX3_tap 10 = .ok (.aload_n 0, 1) := by decide +kernel
theorem dX3_tap_11 : decode cX3_tap 11 = .ok (.iload_n 1, 1) := by decide +kernel
theorem dX3_tap_12 : decode cX3_tap 12 = .ok (.invokevirtual 79, 3) := by decide +kernel
theorem dX3_tap_15 : decode cX3_tap 15 = .ok (.ifCond .ne 8, 3) := by decide +kernel
theorem dX3_tap_18 : decode cX3_tap 18 = .ok (.iconst 1, 1) := by decide +kernel
theorem dX3_tap_19 : decode cX3_tap 19 = .ok (.invokestatic 75, 3) := by decide +kernel
theorem dX3_tap_22 : decode cX3_tap 22 = .ok (.ireturn, 1) := by decide +kernel
theorem dX3_tap_23 : decode cX3_tap 23 = .ok (.iload_n 2, 1) := by decide +kernel
theorem dX3_tap_24 : decode cX3_tap 24 = .ok (.iconst 0, 1) := by decide +kernel
theorem dX3_tap_25 : decode cX3_tap 25 = .ok (.aload_n 0, 1) := by decide +kernel
theorem dX3_tap_26 : decode cX3_tap 26 = .ok (.getfield 13, 3) := by decide +kernel
theorem dX3_tap_29 : decode cX3_tap 29 = .ok (.iload_n 1, 1) := by decide +kernel
theorem dX3_tap_30 : decode cX3_tap 30 = .ok (.iaload, 1) := by decide +kernel
theorem dX3_tap_31 : decode cX3_tap 31 = .ok (.iconst 1, 1) := by decide +kernel
theorem dX3_tap_32 : decode cX3_tap 32 = .ok (.isub, 1) := by decide +kernel
theorem dX3_tap_33 : decode cX3_tap 33 = .ok (.invokestatic 45, 3) := by decide +kernel
theorem dX3_tap_36 : decode cX3_tap 36 = .ok (.ifCond .ne 8, 3) := by decide +kernel
theorem dX3_tap_39 : decode cX3_tap 39 = .ok (.iconst 3, 1) := by decide +kernel
theorem dX3_tap_40 : decode cX3_tap 40 = .ok (.invokestatic 75, 3) := by decide +kernel
theorem dX3_tap_43 : decode cX3_tap 43 = .ok (.ireturn, 1) := by decide +kernel
theorem dX3_tap_44 : decode cX3_tap 44 = .ok (.aload_n 0, 1) := by decide +kernel
theorem dX3_tap_45 : decode cX3_tap 45 = .ok (.getfield 23, 3) := by decide +kernel
theorem dX3_tap_48 : decode cX3_tap 48 = .ok (.bipush 8, 2) := by decide +kernel
theorem dX3_tap_50 : decode cX3_tap 50 = .ok (.iload_n 1, 1) := by decide +kernel
theorem dX3_tap_51 : decode cX3_tap 51 = .ok (.imul, 1) := by decide +kernel
theorem dX3_tap_52 : decode cX3_tap 52 = .ok (.iload_n 2, 1) := by decide +kernel
theorem dX3_tap_53 : decode cX3_tap 53 = .ok (.iadd, 1) := by decide +kernel
theorem dX3_tap_54 : decode cX3_tap 54 = .ok (.iaload, 1) := by decide +kernel
theorem dX3_tap_55 : decode cX3_tap 55 = .ok (.istore_n 3, 1) := by decide +kernel
theorem dX3_tap_56 : decode cX3_tap 56 = .ok (.iload_n 3, 1) := by decide +kernel
theorem dX3_tap_57 : decode cX3_tap 57 = .ok (.iconst (-1), 1) := by decide +kernel
theorem dX3_tap_58 : decode cX3_tap 58 = .ok (.if_icmp .ne 10, 3) := by decide +kernel
theorem dX3_tap_61 : decode cX3_tap 61 = .ok (.iconst 2, 1) := by decide +kernel
theorem dX3_tap_62 : decode cX3_tap 62 = .ok (.invokestatic 75, 3) := by decide +kernel
theorem dX3_tap_65 : decode cX3_tap 65 = .ok (.goto 4, 3) := by decide +kernel
theorem dX3_tap_68 : decode cX3_tap 68 = .ok (.iload_n 3, 1) := by decide +kernel
theorem dX3_tap_69 : decode cX3_tap 69 = .ok (.ireturn, 1) := by decide +kernel
set_option maxRecDepth 20000 in
theorem ggX3_lay_X3_isOf : GoodIn wsX3_lay wsX3_isOf := goodIn_r _ [8, 1, 9, 10, 7, 11, 26, 27, 28, 29, 30, 31, 32, 33, 34, 35, 36, 37, 38] (by decide +kernel) (by decide +kernel)
set_option maxRecDepth 20000 in
theorem gX3_lay_X3_isOf : GoodIn wsX3_lay (wsV RX3 68 RX3 yX3_isOf wsX3_isOf) := goodIn_app (goodIn_of _ (by decide +kernel)) ggX3_lay_X3_isOf
set_option maxRecDepth 20000 in
theorem ggX3_lay_X3_with : GoodIn wsX3_lay wsX3_with := goodIn_r _ [14] (by decide +kernel) (by decide +kernel)
set_option maxRecDepth 20000 in
theorem gX3_lay_X3_with : GoodIn wsX3_lay (va_wsS RX3 75 yX3_with wsX3_with) := goodIn_app (goodIn_of _ (by decide +kernel)) ggX3_lay_X3_with
set_option maxRecDepth 20000 in
theorem ggX3_lay_X3_hasPlaces : GoodIn wsX3_lay wsX3_hasPlaces := goodIn_r _ [18, 1, 26, 27, 28, 29, 30, 31, 32, 33, 34, 35, 36, 37, 38] (by decide +kernel) (by decide +kernel)
set_option maxRecDepth 20000 in
theorem gX3_lay_X3_hasPlaces : GoodIn wsX3_lay (wsV RX3 79 RX3 yX3_hasPlaces wsX3_hasPlaces) := goodIn_app (goodIn_of _ (by decide +kernel)) ggX3_lay_X3_hasPlaces
set_option maxRecDepth 20000 in
theorem ggX3_lay_X3_isIn : GoodIn wsX3_lay wsX3_isIn := goodIn_r _ [21] (by decide +kernel) (by decide +kernel)
set_option maxRecDepth 20000 in
theorem gX3_lay_X3_isIn : GoodIn wsX3_lay (va_wsS RX3 45 yX3_isIn wsX3_isIn) := goodIn_app (goodIn_of _ (by decide +kernel)) ggX3_lay_X3_isIn
set_option maxRecDepth 20000 in
theorem ggX3_lay_X3_takes : GoodIn wsX3_lay wsX3_takes := goodIn_r _ [25, 1, 4, 5, 6, 7, 8, 9, 10, 11, 26, 27, 28, 29, 30, 31, 32, 33, 34, 35, 36, 37, 38] (by decide +kernel) (by decide +kernel)
set_option maxRecDepth 20000 in
theorem gX3_lay_X3_takes : GoodIn wsX3_lay (wsV RX3 82 RX3 yX3_takes wsX3_takes) := goodIn_app (goodIn_of _ (by decide +kernel)) ggX3_lay_X3_takes
theorem dX3_lay_0 : decode cX3_lay 0 = .ok (.iload_n 1, 1) := by decide +kernel
theorem dX3_lay_1 : decode cX3_lay 1 = .ok (.iconst (-1), 1) := by decide +kernel
theorem dX3_lay_2 : decode cX3_lay 2 = .ok (.if_icmp .ne 7, 3) := by decide +kernel
theorem dX3_lay_5 : decode cX3_lay 5 = .ok (.iconst 4, 1) := by decide +kernel
theorem dX3_lay_6 : decode cX3_lay 6 = .ok (.goto 49, 3) := by decide +kernel
theorem dX3_lay_9 : decode cX3_lay 9 = .ok (.aload_n 0, 1) := by decide +kernel
theorem dX3_lay_10 : decode cX3_lay 10 = .ok (.getfield 7, 3) := by decide +kernel
theorem dX3_lay_13 : decode cX3_lay 13 = .ok (.iload_n 1, 1) := by decide +kernel
theorem dX3_lay_14 : decode cX3_lay 14 = .ok (.iaload, 1) := by decide +kernel
theorem dX3_lay_15 : decode cX3_lay 15 = .ok (.iconst 3, 1) := by decide +kernel
theorem dX3_lay_16 : decode cX3_lay 16 = .ok (.if_icmp .ne 7, 3) := by decide +kernel
theorem dX3_lay_19 : decode cX3_lay 19 = .ok (.iconst 1, 1) := by decide +kernel
theorem dX3_lay_20 : decode cX3_lay 20 = .ok (.goto 35, 3) := by decide +kernel
theorem dX3_lay_23 : decode cX3_lay 23 = .ok (.aload_n 0, 1) := by decide +kernel
theorem dX3_lay_24 : decode cX3_lay 24 = .ok (.iload_n 1, 1) := by decide +kernel
theorem dX3_lay_25 : decode cX3_lay 25 = .ok (.bipush 9, 2) := by decide +kernel
theorem dX3_lay_27 : decode cX3_lay 27 = .ok (.invokevirtual 68, 3) := by decide +kernel
theorem dX3_lay_30 : decode cX3_lay 30 = .ok (.ifCond .eq 8, 3) := by decide +kernel
theorem dX3_lay_33 : decode cX3_lay 33 = .ok (.bipush 6, 2) := by decide +kernel
theorem dX3_lay_35 : decode cX3_lay 35 = .ok (.goto 20, 3) := by decide +kernel
theorem dX3_lay_38 : decode cX3_lay 38 = .ok (.aload_n 0, 1) := by decide +kernel
theorem dX3_lay_39 : decode cX3_lay 39 = .ok (.getfield 7, 3) := by decide +kernel
theorem dX3_lay_42 : decode cX3_lay 42 = .ok (.iload_n 1, 1) := by decide +kernel
theorem dX3_lay_43 : decode cX3_lay 43 = .ok (.iaload, 1) := by decide +kernel
theorem dX3_lay_44 : decode cX3_lay 44 = .ok (.bipush 8, 2) := by decide +kernel
theorem dX3_lay_46 : decode cX3_lay 46 = .ok (.if_icmp .ne 8, 3) := by decide +kernel
theorem dX3_lay_49 : decode cX3_lay 49 = .ok (.bipush 11, 2) := by decide +kernel
theorem dX3_lay_51 : decode cX3_lay 51 = .ok (.goto 4, 3) := by decide +kernel
theorem dX3_lay_54 : decode cX3_lay 54 = .ok (.iconst 4, 1) := by decide +kernel
theorem dX3_lay_55 : decode cX3_lay 55 = .ok (.istore 4, 2) := by decide +kernel
theorem dX3_lay_57 : decode cX3_lay 57 = .ok (.iload_n 2, 1) := by decide +kernel
theorem dX3_lay_58 : decode cX3_lay 58 = .ok (.iconst (-1), 1) := by decide +kernel
theorem dX3_lay_59 : decode cX3_lay 59 = .ok (.if_icmp .eq 18, 3) := by decide +kernel
theorem dX3_lay_62 : decode cX3_lay 62 = .ok (.aload_n 0, 1) := by decide +kernel
theorem dX3_lay_63 : decode cX3_lay 63 = .ok (.iload_n 2, 1) := by decide +kernel
theorem dX3_lay_64 : decode cX3_lay 64 = .ok (.iload 4, 2) := by decide +kernel
theorem dX3_lay_66 : decode cX3_lay 66 = .ok (.invokevirtual 68, 3) := by decide +kernel
theorem dX3_lay_69 : decode cX3_lay 69 = .ok (.ifCond .ne 8, 3) := by decide +kernel
theorem dX3_lay_72 : decode cX3_lay 72 = .ok (.iconst 1, 1) := by decide +kernel
theorem dX3_lay_73 : decode cX3_lay 73 = .ok (.invokestatic 75, 3) := by decide +kernel
theorem dX3_lay_76 : decode cX3_lay 76 = .ok (.ireturn, 1) := by decide +kernel
theorem dX3_lay_77 : decode cX3_lay 77 = .ok (.iload_n 1, 1) := by decide +kernel
theorem dX3_lay_78 : decode cX3_lay 78 = .ok (.iconst (-1), 1) := by decide +kernel
theorem dX3_lay_79 : decode cX3_lay 79 = .ok (.if_icmp .ne 8, 3) := by decide +kernel
theorem dX3_lay_82 : decode cX3_lay 82 = .ok (.iconst 2, 1) := by decide +kernel
theorem dX3_lay_83 : decode cX3_lay 83 = .ok (.invokestatic 75, 3) := by decide +kernel
theorem dX3_lay_86 : decode cX3_lay 86 = .ok (.ireturn, 1) := by decide +kernel
theorem dX3_lay_87 : decode cX3_lay 87 = .ok (.aload_n 0, 1) := by decide +kernel
theorem dX3_lay_88 : decode cX3_lay 88 = .ok (.iload_n 1, 1) := by decide +kernel
theorem dX3_lay_89 : decode cX3_lay 89 = .ok (.invokevirtual 79, 3) := by decide +kernel
theorem dX3_lay_92 : decode cX3_lay 92 = .ok (.ifCond .ne 8, 3) := by decide +kernel
theorem dX3_lay_95 : decode cX3_lay 95 = .ok (.iconst 1, 1) := by decide +kernel
theorem dX3_lay_96 : decode cX3_lay 96 = .ok (.invokestatic 75, 3) := by decide +kernel
theorem dX3_lay_99 : decode cX3_lay 99 = .ok (.ireturn, 1) := by decide +kernel
theorem dX3_lay_100 : decode cX3_lay 100 = .ok (.iload_n 3, 1) := by decide +kernel
theorem dX3_lay_101 : decode cX3_lay 101 = .ok (.iconst 0, 1) := by decide +kernel
theorem dX3_lay_102 : decode cX3_lay 102 = .ok (.aload_n 0, 1) := by decide +kernel
theorem dX3_lay_103 : decode cX3_lay 103 = .ok (.getfield 13, 3) := by decide +kernel
theorem dX3_lay_106 : decode cX3_lay 106 = .ok (.iload_n 1, 1) := by decide +kernel
theorem dX3_lay_107 : decode cX3_lay 107 = .ok (.iaload, 1) := by decide +kernel
theorem dX3_lay_108 : decode cX3_lay 108 = .ok (.iconst 1, 1) := by decide +kernel
theorem dX3_lay_109 : decode cX3_lay 109 = .ok (.isub, 1) := by decide +kernel
theorem dX3_lay_110 : decode cX3_lay 110 = .ok (.invokestatic 45, 3) := by decide +kernel
theorem dX3_lay_113 : decode cX3_lay 113 = .ok (.ifCond .ne 8, 3) := by decide +kernel
theorem dX3_lay_116 : decode cX3_lay 116 = .ok (.iconst 3, 1) := by decide +kernel
theorem dX3_lay_117 : decode cX3_lay 117 = .ok (.invokestatic 75, 3) := by decide +kernel
theorem dX3_lay_120 : decode cX3_lay 120 = .ok (.ireturn, 1) := by decide +kernel
theorem dX3_lay_121 : decode cX3_lay 121 = .ok (.iload_n 2, 1) := by decide +kernel
theorem dX3_lay_122 : decode cX3_lay 122 = .ok (.iconst (-1), 1) := by decide +kernel
theorem dX3_lay_123 : decode cX3_lay 123 = .ok (.if_icmp .eq 17, 3) := by decide +kernel
theorem dX3_lay_126 : decode cX3_lay 126 = .ok (.aload_n 0, 1) := by decide +kernel
theorem dX3_lay_127 : decode cX3_lay 127 = .ok (.iload_n 1, 1) := by decide +kernel
theorem dX3_lay_128 : decode cX3_lay 128 = .ok (.iload_n 2, 1) := by decide +kernel
theorem dX3_lay_129 : decode cX3_lay 129 = .ok (.invokevirtual 82, 3) := by decide +kernel
theorem dX3_lay_132 : decode cX3_lay 132 = .ok (.ifCond .ne 8, 3) := by decide +kernel
theorem dX3_lay_135 : decode cX3_lay 135 = .ok (.iconst 4, 1) := by decide +kernel
theorem dX3_lay_136 : decode cX3_lay 136 = .ok (.invokestatic 75, 3) := by decide +kernel
theorem dX3_lay_139 : decode cX3_lay 139 = .ok (.ireturn, 1) := by decide +kernel
theorem dX3_lay_140 : decode cX3_lay 140 = .ok (.aload_n 0, 1) := by decide +kernel
theorem dX3_lay_141 : decode cX3_lay 141 = .ok (.getfield 23, 3) := by decide +kernel
theorem dX3_lay_144 : decode cX3_lay 144 = .ok (.bipush 8, 2) := by decide +kernel
theorem dX3_lay_146 : decode cX3_lay 146 = .ok (.iload_n 1, 1) := by decide +kernel
theorem dX3_lay_147 : decode cX3_lay 147 = .ok (.imul, 1) := by decide +kernel
theorem dX3_lay_148 : decode cX3_lay 148 = .ok (.iload_n 3, 1) := by decide +kernel
theorem dX3_lay_149 : decode cX3_lay 149 = .ok (.iadd, 1) := by decide +kernel
theorem dX3_lay_150 : decode cX3_lay 150 = .ok (.iload_n 2, 1) := by decide +kernel
theorem dX3_lay_151 : decode cX3_lay 151 = .ok (.iastore, 1) := by decide +kernel
theorem dX3_lay_152 : decode cX3_lay 152 = .ok (.iload_n 1, 1) := by decide +kernel
theorem dX3_lay_153 : decode cX3_lay 153 = .ok (.ireturn, 1) := by decide +kernel
set_option maxRecDepth 20000 in
theorem ggX3_levelsOf_X3_make : GoodIn wsX3_levelsOf wsX3_make := goodIn_r _ [9, 10, 11, 1, 4, 3, 2, 12, 13, 14, 15, 16, 17, 18, 19, 20, 21, 22, 23, 24] (by decide +kernel) (by decide +kernel)
set_option maxRecDepth 20000 in
theorem gX3_levelsOf_X3_make : GoodIn wsX3_levelsOf (wsV RX3 53 RX3 yX3_make wsX3_make) := goodIn_app (goodIn_of _ (by decide +kernel)) ggX3_levelsOf_X3_make
theorem dX3_levelsOf_0 : decode cX3_levelsOf 0 = .ok (.aload_n 0, 1) := by decide +kernel
theorem dX3_levelsOf_1 : decode cX3_levelsOf 1 = .ok (.iconst 1, 1) := by decide +kernel
theorem dX3_levelsOf_2 : decode cX3_levelsOf 2 = .ok (.aload_n 0, 1) := by decide +kernel
theorem dX3_levelsOf_3 : decode cX3_levelsOf 3 = .ok (.getfield 13, 3) := by decide +kernel
theorem dX3_levelsOf_6 : decode cX3_levelsOf 6 = .ok (.iload_n 1, 1) := by decide +kernel
theorem dX3_levelsOf_7 : decode cX3_levelsOf 7 = .ok (.iaload, 1) := by decide +kernel
theorem dX3_levelsOf_8 : decode cX3_levelsOf 8 = .ok (.invokevirtual 53, 3) := by decide +kernel
theorem dX3_levelsOf_11 : decode cX3_levelsOf 11 = .ok (.istore_n 3, 1) := by decide +kernel
theorem dX3_levelsOf_12 : decode cX3_levelsOf 12 = .ok (.iconst 0, 1) := by decide +kernel
theorem dX3_levelsOf_13 : decode cX3_levelsOf 13 = .ok (.istore 4, 2) := by decide +kernel
theorem dX3_levelsOf_15 : decode cX3_levelsOf 15 = .ok (.iload 4, 2) := by decide +kernel
theorem dX3_levelsOf_17 : decode cX3_levelsOf 17 = .ok (.aload_n 0, 1) := by decide +kernel
theorem dX3_levelsOf_18 : decode cX3_levelsOf 18 = .ok (.getfield 13, 3) := by decide +kernel
theorem dX3_levelsOf_21 : decode cX3_levelsOf 21 = .ok (.iload_n 1, 1) := by decide +kernel
theorem dX3_levelsOf_22 : decode cX3_levelsOf 22 = .ok (.iaload, 1) := by decide +kernel
theorem dX3_levelsOf_23 : decode cX3_levelsOf 23 = .ok (.if_icmp .ge 55, 3) := by decide +kernel
theorem dX3_levelsOf_26 : decode cX3_levelsOf 26 = .ok (.aload_n 0, 1) := by decide +kernel
theorem dX3_levelsOf_27 : decode cX3_levelsOf 27 = .ok (.getfield 23, 3) := by decide +kernel
theorem dX3_levelsOf_30 : decode cX3_levelsOf 30 = .ok (.bipush 8, 2) := by decide +kernel
theorem dX3_levelsOf_32 : decode cX3_levelsOf 32 = .ok (.iload_n 1, 1) := by decide +kernel
theorem dX3_levelsOf_33 : decode cX3_levelsOf 33 = .ok (.imul, 1) := by decide +kernel
theorem dX3_levelsOf_34 : decode cX3_levelsOf 34 = .ok (.iload 4, 2) := by decide +kernel
theorem dX3_levelsOf_36 : decode cX3_levelsOf 36 = .ok (.iadd, 1) := by decide +kernel
theorem dX3_levelsOf_37 : decode cX3_levelsOf 37 = .ok (.iaload, 1) := by decide +kernel
theorem dX3_levelsOf_38 : decode cX3_levelsOf 38 = .ok (.istore 5, 2) := by decide +kernel
theorem dX3_levelsOf_40 : decode cX3_levelsOf 40 = .ok (.aload_n 0, 1) := by decide +kernel
theorem dX3_levelsOf_41 : decode cX3_levelsOf 41 = .ok (.getfield 19, 3) := by decide +kernel
theorem dX3_levelsOf_44 : decode cX3_levelsOf 44 = .ok (.bipush 8, 2) := by decide +kernel
theorem dX3_levelsOf_46 : decode cX3_levelsOf 46 = .ok (.iload_n 3, 1) := by decide +kernel
theorem dX3_levelsOf_47 : decode cX3_levelsOf 47 = .ok (.imul, 1) := by decide +kernel
theorem dX3_levelsOf_48 : decode cX3_levelsOf 48 = .ok (.iload 4, 2) := by decide +kernel
theorem dX3_levelsOf_50 : decode cX3_levelsOf 50 = .ok (.iadd, 1) := by decide +kernel
theorem dX3_levelsOf_51 : decode cX3_levelsOf 51 = .ok (.iload 5, 2) := by decide +kernel
theorem dX3_levelsOf_53 : decode cX3_levelsOf 53 = .ok (.iconst (-1), 1) := by decide +kernel
theorem dX3_levelsOf_54 : decode cX3_levelsOf 54 = .ok (.if_icmp .ne 7, 3) := by decide +kernel
theorem dX3_levelsOf_57 : decode cX3_levelsOf 57 = .ok (.lconst 0, 1) := by decide +kernel
theorem dX3_levelsOf_58 : decode cX3_levelsOf 58 = .ok (.goto 13, 3) := by decide +kernel
theorem dX3_levelsOf_61 : decode cX3_levelsOf 61 = .ok (.iload_n 2, 1) := by decide +kernel
theorem dX3_levelsOf_62 : decode cX3_levelsOf 62 = .ok (.aload_n 0, 1) := by decide +kernel
theorem dX3_levelsOf_63 : decode cX3_levelsOf 63 = .ok (.getfield 16, 3) := by decide +kernel
theorem dX3_levelsOf_66 : decode cX3_levelsOf 66 = .ok (.iload 5, 2) := by decide +kernel
theorem dX3_levelsOf_68 : decode cX3_levelsOf 68 = .ok (.iaload, 1) := by decide +kernel
theorem dX3_levelsOf_69 : decode cX3_levelsOf 69 = .ok (.imul, 1) := by decide +kernel
theorem dX3_levelsOf_70 : decode cX3_levelsOf 70 = .ok (.i2l, 1) := by decide +kernel
theorem dX3_levelsOf_71 : decode cX3_levelsOf 71 = .ok (.lastore, 1) := by decide +kernel
theorem dX3_levelsOf_72 : decode cX3_levelsOf 72 = .ok (.iinc 4 1, 3) := by decide +kernel
theorem dX3_levelsOf_75 : decode cX3_levelsOf 75 = .ok (.goto (-60), 3) := by decide +kernel
theorem dX3_levelsOf_78 : decode cX3_levelsOf 78 = .ok (.iload_n 3, 1) := by decide +kernel
theorem dX3_levelsOf_79 : decode cX3_levelsOf 79 = .ok (.ireturn, 1) := by decide +kernel
set_option maxRecDepth 20000 in
theorem ggX3_drive_X3_with : GoodIn wsX3_drive wsX3_with := goodIn_r _ [10] (by decide +kernel) (by decide +kernel)
set_option maxRecDepth 20000 in
theorem gX3_drive_X3_with : GoodIn wsX3_drive (va_wsS RX3 75 yX3_with wsX3_with) := goodIn_app (goodIn_of _ (by decide +kernel)) ggX3_drive_X3_with
set_option maxRecDepth 20000 in
theorem ggX3_drive_X3_make : GoodIn wsX3_drive wsX3_make := goodIn_r _ [14, 2, 1, 3, 4, 5, 6, 15, 16, 17, 18, 19, 20, 21, 22, 23, 24, 25, 26, 27] (by decide +kernel) (by decide +kernel)
set_option maxRecDepth 20000 in
theorem gX3_drive_X3_make : GoodIn wsX3_drive (wsV RX3 53 RX3 yX3_make wsX3_make) := goodIn_app (goodIn_of _ (by decide +kernel)) ggX3_drive_X3_make
theorem dX3_drive_0 : decode cX3_drive 0 = .ok (.aload_n 0, 1) := by decide +kernel
theorem dX3_drive_1 : decode cX3_drive 1 = .ok (.getfield 7, 3) := by decide +kernel
theorem dX3_drive_4 : decode cX3_drive 4 = .ok (.iload_n 1, 1) := by decide +kernel
theorem dX3_drive_5 : decode cX3_drive 5 = .ok (.iaload, 1) := by decide +kernel
theorem dX3_drive_6 : decode cX3_drive 6 = .ok (.iconst 1, 1) := by decide +kernel
theorem dX3_drive_7 : decode cX3_drive 7 = .ok (.if_icmp .eq 8, 3) := by decide +kernel
theorem dX3_drive_10 : decode cX3_drive 10 = .ok (.iconst 1, 1) := by decide +kernel
theorem dX3_drive_11 : decode cX3_drive 11 = .ok (.invokestatic 75, 3) := by decide +kernel
theorem dX3_drive_14 : decode cX3_drive 14 = .ok (.ireturn, 1) := by decide +kernel
theorem dX3_drive_15 : decode cX3_drive 15 = .ok (.aload_n 0, 1) := by decide +kernel
theorem dX3_drive_16 : decode cX3_drive 16 = .ok (.getfield 42, 3) := by decide +kernel
theorem dX3_drive_19 : decode cX3_drive 19 = .ok (.istore_n 3, 1) := by decide +kernel
theorem dX3_drive_20 : decode cX3_drive 20 = .ok (.iconst 0, 1) := by decide +kernel
theorem dX3_drive_21 : decode cX3_drive 21 = .ok (.istore 4, 2) := by decide +kernel
theorem dX3_drive_23 : decode cX3_drive 23 = .ok (.iload 4, 2) := by decide +kernel
theorem dX3_drive_25 : decode cX3_drive 25 = .ok (.aload_n 0, 1) := by decide +kernel
theorem dX3_drive_26 : decode cX3_drive 26 = .ok (.getfield 13, 3) := by decide +kernel
theorem dX3_drive_29 : decode cX3_drive 29 = .ok (.iload_n 1, 1) := by decide +kernel
theorem dX3_drive_30 : decode cX3_drive 30 = .ok (.iaload, 1) := by decide +kernel
theorem dX3_drive_31 : decode cX3_drive 31 = .ok (.if_icmp .ge 45, 3) := by decide +kernel
theorem dX3_drive_34 : decode cX3_drive 34 = .ok (.aload_n 0, 1) := by decide +kernel
theorem dX3_drive_35 : decode cX3_drive 35 = .ok (.iload_n 2, 1) := by decide +kernel
theorem dX3_drive_36 : decode cX3_drive 36 = .ok (.ifCond .ne 7, 3) := by decide +kernel
theorem dX3_drive_39 : decode cX3_drive 39 = .ok (.iconst 4, 1) := by decide +kernel
theorem dX3_drive_40 : decode cX3_drive 40 = .ok (.goto 4, 3) := by decide +kernel
theorem dX3_drive_43 : decode cX3_drive 43 = .ok (.iconst 5, 1) := by decide +kernel
theorem dX3_drive_44 : decode cX3_drive 44 = .ok (.iconst 0, 1) := by decide +kernel
theorem dX3_drive_45 : decode cX3_drive 45 = .ok (.invokevirtual 53, 3) := by decide +kernel
theorem dX3_drive_48 : decode cX3_drive 48 = .ok (.istore 5, 2) := by decide +kernel
theorem dX3_drive_50 : decode cX3_drive 50 = .ok (.aload_n 0, 1) := by decide +kernel
theorem dX3_drive_51 : decode cX3_drive 51 = .ok (.getfield 16, 3) := by decide +kernel
theorem dX3_drive_54 : decode cX3_drive 54 = .ok (.iload 5, 2) := by decide +kernel
theorem dX3_drive_56 : decode cX3_drive 56 = .ok (.aload_n 0, 1) := by decide +kernel
theorem dX3_drive_57 : decode cX3_drive 57 = .ok (.getfield 19, 3) := by decide +kernel
theorem dX3_drive_60 : decode cX3_drive 60 = .ok (.bipush 8, 2) := by decide +kernel
theorem dX3_drive_62 : decode cX3_drive 62 = .ok (.iload_n 1, 1) := by decide +kernel
theorem dX3_drive_63 : decode cX3_drive 63 = .ok (.imul, 1) := by decide +kernel
theorem dX3_drive_64 : decode cX3_drive 64 = .ok (.iload 4, 2) := by decide +kernel
theorem dX3_drive_66 : decode cX3_drive 66 = .ok (.iadd, 1) := by decide +kernel
theorem dX3_drive_67 : decode cX3_drive 67 = .ok (.laload, 1) := by decide +kernel
theorem dX3_drive_68 : decode cX3_drive 68 = .ok (.l2i, 1) := by decide +kernel
theorem dX3_drive_69 : decode cX3_drive 69 = .ok (.iastore, 1) := by decide +kernel
theorem dX3_drive_70 : decode cX3_drive 70 = .ok (.iinc 4 1, 3) := by decide +kernel
theorem dX3_drive_73 : decode cX3_drive 73 = .ok (.goto (-50), 3) := by decide +kernel
theorem dX3_drive_76 : decode cX3_drive 76 = .ok (.aload_n 0, 1) := by decide +kernel
theorem dX3_drive_77 : decode cX3_drive 77 = .ok (.iload_n 2, 1) := by decide +kernel
theorem dX3_drive_78 : decode cX3_drive 78 = .ok (.ifCond .ne 8, 3) := by decide +kernel
theorem dX3_drive_81 : decode cX3_drive 81 = .ok (.bipush 6, 2) := by decide +kernel
theorem dX3_drive_83 : decode cX3_drive 83 = .ok (.goto 5, 3) := by decide +kernel
theorem dX3_drive_86 : decode cX3_drive 86 = .ok (.bipush 7, 2) := by decide +kernel
theorem dX3_drive_88 : decode cX3_drive 88 = .ok (.aload_n 0, 1) := by decide +kernel
theorem dX3_drive_89 : decode cX3_drive 89 = .ok (.getfield 13, 3) := by decide +kernel
theorem dX3_drive_92 : decode cX3_drive 92 = .ok (.iload_n 1, 1) := by decide +kernel
theorem dX3_drive_93 : decode cX3_drive 93 = .ok (.iaload, 1) := by decide +kernel
theorem dX3_drive_94 : decode cX3_drive 94 = .ok (.invokevirtual 53, 3) := by decide +kernel
theorem dX3_drive_97 : decode cX3_drive 97 = .ok (.istore 4, 2) := by decide +kernel
theorem dX3_drive_99 : decode cX3_drive 99 = .ok (.iconst 0, 1) := by decide +kernel
theorem dX3_drive_100 : decode cX3_drive 100 = .ok (.istore 5, 2) := by decide +kernel
theorem dX3_drive_102 : decode cX3_drive 102 = .ok (.iload 5, 2) := by decide +kernel
theorem dX3_drive_104 : decode cX3_drive 104 = .ok (.aload_n 0, 1) := by decide +kernel
theorem dX3_drive_105 : decode cX3_drive 105 = .ok (.getfield 13, 3) := by decide +kernel
theorem dX3_drive_108 : decode cX3_drive 108 = .ok (.iload_n 1, 1) := by decide +kernel
theorem dX3_drive_109 : decode cX3_drive 109 = .ok (.iaload, 1) := by decide +kernel
theorem dX3_drive_110 : decode cX3_drive 110 = .ok (.if_icmp .ge 26, 3) := by decide +kernel
theorem dX3_drive_113 : decode cX3_drive 113 = .ok (.aload_n 0, 1) := by decide +kernel
theorem dX3_drive_114 : decode cX3_drive 114 = .ok (.getfield 23, 3) := by decide +kernel
theorem dX3_drive_117 : decode cX3_drive 117 = .ok (.bipush 8, 2) := by decide +kernel
theorem dX3_drive_119 : decode cX3_drive 119 = .ok (.iload 4, 2) := by decide +kernel
theorem dX3_drive_121 : decode cX3_drive 121 = .ok (.imul, 1) := by decide +kernel
theorem dX3_drive_122 : decode cX3_drive 122 = .ok (.iload 5, 2) := by decide +kernel
theorem dX3_drive_124 : decode cX3_drive 124 = .ok (.iadd, 1) := by decide +kernel
theorem dX3_drive_125 : decode cX3_drive 125 = .ok (.iload_n 3, 1) := by decide +kernel
theorem dX3_drive_126 : decode cX3_drive 126 = .ok (.iload 5, 2) := by decide +kernel
theorem dX3_drive_128 : decode cX3_drive 128 = .ok (.iadd, 1) := by decide +kernel
theorem dX3_drive_129 : decode cX3_drive 129 = .ok (.iastore, 1) := by decide +kernel
theorem dX3_drive_130 : decode cX3_drive 130 = .ok (.iinc 5 1, 3) := by decide +kernel
theorem dX3_drive_133 : decode cX3_drive 133 = .ok (.goto (-31), 3) := by decide +kernel
theorem dX3_drive_136 : decode cX3_drive 136 = .ok (.iload 4, 2) := by decide +kernel
theorem dX3_drive_138 : decode cX3_drive 138 = .ok (.ireturn, 1) := by decide +kernel
set_option maxRecDepth 20000 in
theorem ggX3_pair_X3_isOf : GoodIn wsX3_pair wsX3_isOf := goodIn_r _ [6, 7, 8, 9, 5, 10, 22, 23, 24, 25, 26, 27, 28, 29, 30, 31, 32, 33, 34] (by decide +kernel) (by decide +kernel)
set_option maxRecDepth 20000 in
theorem gX3_pair_X3_isOf : GoodIn wsX3_pair (wsV RX3 68 RX3 yX3_isOf wsX3_isOf) := goodIn_app (goodIn_of _ (by decide +kernel)) ggX3_pair_X3_isOf
set_option maxRecDepth 20000 in
theorem ggX3_pair_X3_with : GoodIn wsX3_pair wsX3_with := goodIn_r _ [13] (by decide +kernel) (by decide +kernel)
set_option maxRecDepth 20000 in
theorem gX3_pair_X3_with : GoodIn wsX3_pair (va_wsS RX3 75 yX3_with wsX3_with) := goodIn_app (goodIn_of _ (by decide +kernel)) ggX3_pair_X3_with
set_option maxRecDepth 20000 in
theorem ggX3_pair_X3_make : GoodIn wsX3_pair wsX3_make := goodIn_r _ [17, 18, 7, 19, 20, 21, 1, 22, 23, 24, 25, 26, 27, 28, 29, 30, 31, 32, 33, 34] (by decide +kernel) (by decide +kernel)
set_option maxRecDepth 20000 in
theorem gX3_pair_X3_make : GoodIn wsX3_pair (wsV RX3 53 RX3 yX3_make wsX3_make) := goodIn_app (goodIn_of _ (by decide +kernel)) ggX3_pair_X3_make
theorem dX3_pair_0 : decode cX3_pair 0 = .ok (.iload_n 3, 1) := by decide +kernel
theorem dX3_pair_1 : decode cX3_pair 1 = .ok (.ifCond .ne 8, 3) := by decide +kernel
theorem dX3_pair_4 : decode cX3_pair 4 = .ok (.bipush 6, 2) := by decide +kernel
theorem dX3_pair_6 : decode cX3_pair 6 = .ok (.goto 5, 3) := by decide +kernel
theorem dX3_pair_9 : decode cX3_pair 9 = .ok (.bipush 7, 2) := by decide +kernel
theorem dX3_pair_11 : decode cX3_pair 11 = .ok (.istore 4, 2) := by decide +kernel
theorem dX3_pair_13 : decode cX3_pair 13 = .ok (.iload_n 1, 1) := by decide +kernel
theorem dX3_pair_14 : decode cX3_pair 14 = .ok (.iconst (-1), 1) := by decide +kernel
theorem dX3_pair_15 : decode cX3_pair 15 = .ok (.if_icmp .eq 13, 3) := by decide +kernel
theorem dX3_pair_18 : decode cX3_pair 18 = .ok (.aload_n 0, 1) := by decide +kernel
theorem dX3_pair_19 : decode cX3_pair 19 = .ok (.iload_n 1, 1) := by decide +kernel
theorem dX3_pair_20 : decode cX3_pair 20 = .ok (.iload 4, 2) := by decide +kernel
theorem dX3_pair_22 : decode cX3_pair 22 = .ok (.invokevirtual 68, 3) := by decide +kernel
theorem dX3_pair_25 : decode cX3_pair 25 = .ok (.ifCond .eq 18, 3) := by decide +kernel
theorem dX3_pair_28 : decode cX3_pair 28 = .ok (.iload_n 2, 1) := by decide +kernel
theorem dX3_pair_29 : decode cX3_pair 29 = .ok (.iconst (-1), 1) := by decide +kernel
theorem dX3_pair_30 : decode cX3_pair 30 = .ok (.if_icmp .eq 18, 3) := by decide +kernel
theorem dX3_pair_33 : decode cX3_pair 33 = .ok (.aload_n 0, 1) := by decide +kernel
theorem dX3_pair_34 : decode cX3_pair 34 = .ok (.iload_n 2, 1) := by decide +kernel
theorem dX3_pair_35 : decode cX3_pair 35 = .ok (.iload 4, 2) := by decide +kernel
theorem dX3_pair_37 : decode cX3_pair 37 = .ok (.invokevirtual 68, 3) := by decide +kernel
theorem dX3_pair_40 : decode cX3_pair 40 = .ok (.ifCond .ne 8, 3) := by decide +kernel
theorem dX3_pair_43 : decode cX3_pair 43 = .ok (.iconst 1, 1) := by decide +kernel
theorem dX3_pair_44 : decode cX3_pair 44 = .ok (.invokestatic 75, 3) := by decide +kernel
theorem dX3_pair_47 : decode cX3_pair 47 = .ok (.ireturn, 1) := by decide +kernel
theorem dX3_pair_48 : decode cX3_pair 48 = .ok (.iload_n 1, 1) := by decide +kernel
theorem dX3_pair_49 : decode cX3_pair 49 = .ok (.iconst (-1), 1) := by decide +kernel
theorem dX3_pair_50 : decode cX3_pair 50 = .ok (.if_icmp .eq 8, 3) := by decide +kernel
theorem dX3_pair_53 : decode cX3_pair 53 = .ok (.iload_n 2, 1) := by decide +kernel
theorem dX3_pair_54 : decode cX3_pair 54 = .ok (.iconst (-1), 1) := by decide +kernel
theorem dX3_pair_55 : decode cX3_pair 55 = .ok (.if_icmp .ne 8, 3) := by decide +kernel
theorem dX3_pair_58 : decode cX3_pair 58 = .ok (.iconst 2, 1) := by decide +kernel
theorem dX3_pair_59 : decode cX3_pair 59 = .ok (.invokestatic 75, 3) := by decide +kernel
theorem dX3_pair_62 : decode cX3_pair 62 = .ok (.ireturn, 1) := by decide +kernel
theorem dX3_pair_63 : decode cX3_pair 63 = .ok (.aload_n 0, 1) := by decide +kernel
theorem dX3_pair_64 : decode cX3_pair 64 = .ok (.iload_n 3, 1) := by decide +kernel
theorem dX3_pair_65 : decode cX3_pair 65 = .ok (.ifCond .ne 8, 3) := by decide +kernel
theorem dX3_pair_68 : decode cX3_pair 68 = .ok (.bipush 9, 2) := by decide +kernel
theorem dX3_pair_70 : decode cX3_pair 70 = .ok (.goto 5, 3) := by decide +kernel
theorem dX3_pair_73 : decode cX3_pair 73 = .ok (.bipush 10, 2) := by decide +kernel
theorem dX3_pair_75 : decode cX3_pair 75 = .ok (.iconst 2, 1) := by decide +kernel
theorem dX3_pair_76 : decode cX3_pair 76 = .ok (.invokevirtual 53, 3) := by decide +kernel
theorem dX3_pair_79 : decode cX3_pair 79 = .ok (.istore 5, 2) := by decide +kernel
theorem dX3_pair_81 : decode cX3_pair 81 = .ok (.aload_n 0, 1) := by decide +kernel
theorem dX3_pair_82 : decode cX3_pair 82 = .ok (.getfield 23, 3) := by decide +kernel
theorem dX3_pair_85 : decode cX3_pair 85 = .ok (.bipush 8, 2) := by decide +kernel
theorem dX3_pair_87 : decode cX3_pair 87 = .ok (.iload 5, 2) := by decide +kernel
theorem dX3_pair_89 : decode cX3_pair 89 = .ok (.imul, 1) := by decide +kernel
theorem dX3_pair_90 : decode cX3_pair 90 = .ok (.iload_n 1, 1) := by decide +kernel
theorem dX3_pair_91 : decode cX3_pair 91 = .ok (.iastore, 1) := by decide +kernel
theorem dX3_pair_92 : decode cX3_pair 92 = .ok (.aload_n 0, 1) := by decide +kernel
theorem dX3_pair_93 : decode cX3_pair 93 = .ok (.getfield 23, 3) := by decide +kernel
theorem dX3_pair_96 : decode cX3_pair 96 = .ok (.bipush 8, 2) := by decide +kernel
theorem dX3_pair_98 : decode cX3_pair 98 = .ok (.iload 5, 2) := by decide +kernel
theorem dX3_pair_100 : decode cX3_pair 100 = .ok (.imul, 1) := by decide +kernel
theorem dX3_pair_101 : decode cX3_pair 101 = .ok (.iconst 1, 1) := by decide +kernel
theorem dX3_pair_102 : decode cX3_pair 102 = .ok (.iadd, 1) := by decide +kernel
theorem dX3_pair_103 : decode cX3_pair 103 = .ok (.iload_n 2, 1) := by decide +kernel
theorem dX3_pair_104 : decode cX3_pair 104 = .ok (.iastore, 1) := by decide +kernel
theorem dX3_pair_105 : decode cX3_pair 105 = .ok (.iload 5, 2) := by decide +kernel
theorem dX3_pair_107 : decode cX3_pair 107 = .ok (.ireturn, 1) := by decide +kernel
set_option maxRecDepth 20000 in
theorem ggX3_power_X3_make : GoodIn wsX3_power wsX3_make := goodIn_r _ [8, 9, 1, 10, 3, 2, 11, 26, 27, 28, 29, 30, 31, 32, 33, 34, 35, 36, 37, 38] (by decide +kernel) (by decide +kernel)
set_option maxRecDepth 20000 in
theorem gX3_power_X3_make : GoodIn wsX3_power (wsV RX3 53 RX3 yX3_make wsX3_make) := goodIn_app (goodIn_of _ (by decide +kernel)) ggX3_power_X3_make
set_option maxRecDepth 20000 in
theorem ggX3_power_X3_isOf : GoodIn wsX3_power wsX3_isOf := goodIn_r _ [15, 1, 16, 17, 7, 18, 26, 27, 28, 29, 30, 31, 32, 33, 34, 35, 36, 37, 38] (by decide +kernel) (by decide +kernel)
set_option maxRecDepth 20000 in
theorem gX3_power_X3_isOf : GoodIn wsX3_power (wsV RX3 68 RX3 yX3_isOf wsX3_isOf) := goodIn_app (goodIn_of _ (by decide +kernel)) ggX3_power_X3_isOf
set_option maxRecDepth 20000 in
theorem ggX3_power_X3_levelsOf : GoodIn wsX3_power wsX3_levelsOf := goodIn_r _ [22, 10, 11, 2, 3, 4, 5, 6, 7, 8, 9, 1, 26, 27, 28, 29, 30, 31, 32, 33, 34, 35, 36, 37, 38] (by decide +kernel) (by decide +kernel)
set_option maxRecDepth 20000 in
theorem gX3_power_X3_levelsOf : GoodIn wsX3_power (wsV RX3 85 RX3 yX3_levelsOf wsX3_levelsOf) := goodIn_app (goodIn_of _ (by decide +kernel)) ggX3_power_X3_levelsOf
set_option maxRecDepth 20000 in
theorem ggX3_power_X3_with : GoodIn wsX3_power wsX3_with := goodIn_r _ [25] (by decide +kernel) (by decide +kernel)
set_option maxRecDepth 20000 in
theorem gX3_power_X3_with : GoodIn wsX3_power (va_wsS RX3 75 yX3_with wsX3_with) := goodIn_app (goodIn_of _ (by decide +kernel)) ggX3_power_X3_with
theorem dX3_power_0 : decode cX3_power 0 = .ok (.aload_n 0, 1) := by decide +kernel
theorem dX3_power_1 : decode cX3_power 1 = .ok (.getfield 7, 3) := by decide +kernel
theorem dX3_power_4 : decode cX3_power 4 = .ok (.iload_n 1, 1) := by decide +kernel
theorem dX3_power_5 : decode cX3_power 5 = .ok (.iaload, 1) := by decide +kernel
theorem dX3_power_6 : decode cX3_power 6 = .ok (.iconst 5, 1) := by decide +kernel
theorem dX3_power_7 : decode cX3_power 7 = .ok (.if_icmp .ne 30, 3) := by decide +kernel
theorem dX3_power_10 : decode cX3_power 10 = .ok (.aload_n 0, 1) := by decide +kernel
theorem dX3_power_11 : decode cX3_power 11 = .ok (.iconst 1, 1) := by decide +kernel
theorem dX3_power_12 : decode cX3_power 12 = .ok (.iconst 1, 1) := by decide +kernel
theorem dX3_power_13 : decode cX3_power 13 = .ok (.invokevirtual 53, 3) := by decide +kernel
theorem dX3_power_16 : decode cX3_power 16 = .ok (.istore_n 2, 1) := by decide +kernel
theorem dX3_power_17 : decode cX3_power 17 = .ok (.aload_n 0, 1) := by decide +kernel
theorem dX3_power_18 : decode cX3_power 18 = .ok (.getfield 19, 3) := by decide +kernel
theorem dX3_power_21 : decode cX3_power 21 = .ok (.bipush 8, 2) := by decide +kernel
theorem dX3_power_23 : decode cX3_power 23 = .ok (.iload_n 2, 1) := by decide +kernel
theorem dX3_power_24 : decode cX3_power 24 = .ok (.imul, 1) := by decide +kernel
theorem dX3_power_25 : decode cX3_power 25 = .ok (.iconst 3, 1) := by decide +kernel
theorem dX3_power_26 : decode cX3_power 26 = .ok (.aload_n 0, 1) := by decide +kernel
theorem dX3_power_27 : decode cX3_power 27 = .ok (.getfield 16, 3) := by decide +kernel
theorem dX3_power_30 : decode cX3_power 30 = .ok (.iload_n 1, 1) := by decide +kernel
theorem dX3_power_31 : decode cX3_power 31 = .ok (.iaload, 1) := by decide +kernel
theorem dX3_power_32 : decode cX3_power 32 = .ok (.imul, 1) := by decide +kernel
theorem dX3_power_33 : decode cX3_power 33 = .ok (.i2l, 1) := by decide +kernel
theorem dX3_power_34 : decode cX3_power 34 = .ok (.lastore, 1) := by decide +kernel
theorem dX3_power_35 : decode cX3_power 35 = .ok (.iload_n 2, 1) := by decide +kernel
theorem dX3_power_36 : decode cX3_power 36 = .ok (.ireturn, 1) := by decide +kernel
theorem dX3_power_37 : decode cX3_power 37 = .ok (.aload_n 0, 1) := by decide +kernel
theorem dX3_power_38 : decode cX3_power 38 = .ok (.iload_n 1, 1) := by decide +kernel
theorem dX3_power_39 : decode cX3_power 39 = .ok (.bipush 8, 2) := by decide +kernel
theorem dX3_power_41 : decode cX3_power 41 = .ok (.invokevirtual 68, 3) := by decide +kernel
theorem dX3_power_44 : decode cX3_power 44 = .ok (.ifCond .eq 12, 3) := by decide +kernel
theorem dX3_power_47 : decode cX3_power 47 = .ok (.aload_n 0, 1) := by decide +kernel
theorem dX3_power_48 : decode cX3_power 48 = .ok (.iload_n 1, 1) := by decide +kernel
theorem dX3_power_49 : decode cX3_power 49 = .ok (.iconst 3, 1) := by decide +kernel
theorem dX3_power_50 : decode cX3_power 50 = .ok (.invokevirtual 85, 3) := by decide +kernel
theorem dX3_power_53 : decode cX3_power 53 = .ok (.goto 7, 3) := by decide +kernel
theorem dX3_power_56 : decode cX3_power 56 = .ok (.iconst 1, 1) := by decide +kernel
theorem dX3_power_57 : decode cX3_power 57 = .ok (.invokestatic 75, 3) := by decide +kernel
theorem dX3_power_60 : decode cX3_power 60 = .ok (.ireturn, 1) := by decide +kernel
set_option maxRecDepth 20000 in
theorem ggX3_join_X3_isOf : GoodIn wsX3_join wsX3_isOf := goodIn_r _ [9, 1, 10, 11, 8, 12, 30, 31, 32, 33, 34, 35, 36, 37, 38, 39, 40, 41, 42] (by decide +kernel) (by decide +kernel)
set_option maxRecDepth 20000 in
theorem gX3_join_X3_isOf : GoodIn wsX3_join (wsV RX3 68 RX3 yX3_isOf wsX3_isOf) := goodIn_app (goodIn_of _ (by decide +kernel)) ggX3_join_X3_isOf
set_option maxRecDepth 20000 in
theorem ggX3_join_X3_isRow : GoodIn wsX3_join wsX3_isRow := goodIn_r _ [16, 1, 30, 31, 32, 33, 34, 35, 36, 37, 38, 39, 40, 41, 42] (by decide +kernel) (by decide +kernel)
set_option maxRecDepth 20000 in
theorem gX3_join_X3_isRow : GoodIn wsX3_join (wsV RX3 61 RX3 yX3_isRow wsX3_isRow) := goodIn_app (goodIn_of _ (by decide +kernel)) ggX3_join_X3_isRow
set_option maxRecDepth 20000 in
theorem ggX3_join_X3_with : GoodIn wsX3_join wsX3_with := goodIn_r _ [19] (by decide +kernel) (by decide +kernel)
set_option maxRecDepth 20000 in
theorem gX3_join_X3_with : GoodIn wsX3_join (va_wsS RX3 75 yX3_with wsX3_with) := goodIn_app (goodIn_of _ (by decide +kernel)) ggX3_join_X3_with
set_option maxRecDepth 20000 in
theorem ggX3_join_X3_takes : GoodIn wsX3_join wsX3_takes := goodIn_r _ [23, 1, 5, 6, 7, 8, 9, 10, 11, 12, 30, 31, 32, 33, 34, 35, 36, 37, 38, 39, 40, 41, 42] (by decide +kernel) (by decide +kernel)
set_option maxRecDepth 20000 in
theorem gX3_join_X3_takes : GoodIn wsX3_join (wsV RX3 82 RX3 yX3_takes wsX3_takes) := goodIn_app (goodIn_of _ (by decide +kernel)) ggX3_join_X3_takes
set_option maxRecDepth 20000 in
theorem ggX3_join_X3_make : GoodIn wsX3_join wsX3_make := goodIn_r _ [27, 28, 1, 2, 29, 4, 3, 30, 31, 32, 33, 34, 35, 36, 37, 38, 39, 40, 41, 42] (by decide +kernel) (by decide +kernel)
set_option maxRecDepth 20000 in
theorem gX3_join_X3_make : GoodIn wsX3_join (wsV RX3 53 RX3 yX3_make wsX3_make) := goodIn_app (goodIn_of _ (by decide +kernel)) ggX3_join_X3_make
theorem dX3_join_0 : decode cX3_join 0 = .ok (.aload_n 0, 1) := by decide +kernel
theorem dX3_join_1 : decode cX3_join 1 = .ok (.iload_n 1, 1) := by decide +kernel
theorem dX3_join_2 : decode cX3_join 2 = .ok (.bipush 6, 2) := by decide +kernel
theorem dX3_join_4 : decode cX3_join 4 = .ok (.invokevirtual 68, 3) := by decide +kernel
theorem dX3_join_7 : decode cX3_join 7 = .ok (.istore_n 3, 1) := by decide +kernel
theorem dX3_join_8 : decode cX3_join 8 = .ok (.iload_n 1, 1) := by decide +kernel
theorem dX3_join_9 : decode cX3_join 9 = .ok (.iconst (-1), 1) := by decide +kernel
theorem dX3_join_10 : decode cX3_join 10 = .ok (.if_icmp .eq 15, 3) := by decide +kernel
theorem dX3_join_13 : decode cX3_join 13 = .ok (.aload_n 0, 1) := by decide +kernel
theorem dX3_join_14 : decode cX3_join 14 = .ok (.iload_n 1, 1) := by decide +kernel
theorem dX3_join_15 : decode cX3_join 15 = .ok (.invokevirtual 61, 3) := by decide +kernel
theorem dX3_join_18 : decode cX3_join 18 = .ok (.ifCond .ne 7, 3) := by decide +kernel
theorem dX3_join_21 : decode cX3_join 21 = .ok (.iload_n 3, 1) := by decide +kernel
theorem dX3_join_22 : decode cX3_join 22 = .ok (.ifCond .eq 36, 3) := by decide +kernel
theorem dX3_join_25 : decode cX3_join 25 = .ok (.iload_n 2, 1) := by decide +kernel
theorem dX3_join_26 : decode cX3_join 26 = .ok (.iconst (-1), 1) := by decide +kernel
theorem dX3_join_27 : decode cX3_join 27 = .ok (.if_icmp .eq 36, 3) := by decide +kernel
theorem dX3_join_30 : decode cX3_join 30 = .ok (.aload_n 0, 1) := by decide +kernel
theorem dX3_join_31 : decode cX3_join 31 = .ok (.iload_n 2, 1) := by decide +kernel
theorem dX3_join_32 : decode cX3_join 32 = .ok (.iload_n 3, 1) := by decide +kernel
theorem dX3_join_33 : decode cX3_join 33 = .ok (.ifCond .ne 8, 3) := by decide +kernel
theorem dX3_join_36 : decode cX3_join 36 = .ok (.iload_n 1, 1) := by decide +kernel
theorem dX3_join_37 : decode cX3_join 37 = .ok (.iconst (-1), 1) := by decide +kernel
theorem dX3_join_38 : decode cX3_join 38 = .ok (.if_icmp .ne 8, 3) := by decide +kernel
theorem dX3_join_41 : decode cX3_join 41 = .ok (.bipush 6, 2) := by decide +kernel
theorem dX3_join_43 : decode cX3_join 43 = .ok (.goto 9, 3) := by decide +kernel
theorem dX3_join_46 : decode cX3_join 46 = .ok (.aload_n 0, 1) := by decide +kernel
theorem dX3_join_47 : decode cX3_join 47 = .ok (.getfield 7, 3) := by decide +kernel
theorem dX3_join_50 : decode cX3_join 50 = .ok (.iload_n 1, 1) := by decide +kernel
theorem dX3_join_51 : decode cX3_join 51 = .ok (.iaload, 1) := by decide +kernel
theorem dX3_join_52 : decode cX3_join 52 = .ok (.invokevirtual 68, 3) := by decide +kernel
theorem dX3_join_55 : decode cX3_join 55 = .ok (.ifCond .ne 8, 3) := by decide +kernel
theorem dX3_join_58 : decode cX3_join 58 = .ok (.iconst 1, 1) := by decide +kernel
theorem dX3_join_59 : decode cX3_join 59 = .ok (.invokestatic 75, 3) := by decide +kernel
theorem dX3_join_62 : decode cX3_join 62 = .ok (.ireturn, 1) := by decide +kernel
theorem dX3_join_63 : decode cX3_join 63 = .ok (.iload_n 1, 1) := by decide +kernel
theorem dX3_join_64 : decode cX3_join 64 = .ok (.iconst (-1), 1) := by decide +kernel
theorem dX3_join_65 : decode cX3_join 65 = .ok (.if_icmp .eq 8, 3) := by decide +kernel
theorem dX3_join_68 : decode cX3_join 68 = .ok (.iload_n 2, 1) := by decide +kernel
theorem dX3_join_69 : decode cX3_join 69 = .ok (.iconst (-1), 1) := by decide +kernel
theorem dX3_join_70 : decode cX3_join 70 = .ok (.if_icmp .ne 8, 3) := by decide +kernel
theorem dX3_join_73 : decode cX3_join 73 = .ok (.iconst 2, 1) := by decide +kernel
theorem dX3_join_74 : decode cX3_join 74 = .ok (.invokestatic 75, 3) := by decide +kernel
end
section
theorem dX3_join_77 : decode cX3_join 77 = .ok (.ireturn, 1) := by decide +kernel
theorem dX3_join_78 : decode cX3_join 78 = .ok (.aload_n 0, 1) := by decide +kernel
theorem dX3_join_79 : decode cX3_join 79 = .ok (.getfield 13, 3) := by decide +kernel
theorem dX3_join_82 : decode cX3_join 82 = .ok (.iload_n 1, 1) := by decide +kernel
theorem dX3_join_83 : decode cX3_join 83 = .ok (.iaload, 1) := by decide +kernel
theorem dX3_join_84 : decode cX3_join 84 = .ok (.istore 4, 2) := by decide +kernel
theorem dX3_join_86 : decode cX3_join 86 = .ok (.aload_n 0, 1) := by decide +kernel
theorem dX3_join_87 : decode cX3_join 87 = .ok (.getfield 13, 3) := by decide +kernel
theorem dX3_join_90 : decode cX3_join 90 = .ok (.iload_n 2, 1) := by decide +kernel
theorem dX3_join_91 : decode cX3_join 91 = .ok (.iaload, 1) := by decide +kernel
theorem dX3_join_92 : decode cX3_join 92 = .ok (.istore 5, 2) := by decide +kernel
theorem dX3_join_94 : decode cX3_join 94 = .ok (.iload 4, 2) := by decide +kernel
theorem dX3_join_96 : decode cX3_join 96 = .ok (.iload 5, 2) := by decide +kernel
theorem dX3_join_98 : decode cX3_join 98 = .ok (.iadd, 1) := by decide +kernel
theorem dX3_join_99 : decode cX3_join 99 = .ok (.bipush 8, 2) := by decide +kernel
theorem dX3_join_101 : decode cX3_join 101 = .ok (.if_icmp .le 8, 3) := by decide +kernel
theorem dX3_join_104 : decode cX3_join 104 = .ok (.iconst 5, 1) := by decide +kernel
theorem dX3_join_105 : decode cX3_join 105 = .ok (.invokestatic 75, 3) := by decide +kernel
theorem dX3_join_108 : decode cX3_join 108 = .ok (.ireturn, 1) := by decide +kernel
theorem dX3_join_109 : decode cX3_join 109 = .ok (.iconst 0, 1) := by decide +kernel
theorem dX3_join_110 : decode cX3_join 110 = .ok (.istore 6, 2) := by decide +kernel
theorem dX3_join_112 : decode cX3_join 112 = .ok (.iload 6, 2) := by decide +kernel
theorem dX3_join_114 : decode cX3_join 114 = .ok (.iload 5, 2) := by decide +kernel
theorem dX3_join_116 : decode cX3_join 116 = .ok (.if_icmp .ge 48, 3) := by decide +kernel
theorem dX3_join_119 : decode cX3_join 119 = .ok (.iload_n 3, 1) := by decide +kernel
theorem dX3_join_120 : decode cX3_join 120 = .ok (.ifCond .eq 44, 3) := by decide +kernel
theorem dX3_join_123 : decode cX3_join 123 = .ok (.aload_n 0, 1) := by decide +kernel
theorem dX3_join_124 : decode cX3_join 124 = .ok (.getfield 23, 3) := by decide +kernel
theorem dX3_join_127 : decode cX3_join 127 = .ok (.bipush 8, 2) := by decide +kernel
theorem dX3_join_129 : decode cX3_join 129 = .ok (.iload_n 2, 1) := by decide +kernel
theorem dX3_join_130 : decode cX3_join 130 = .ok (.imul, 1) := by decide +kernel
theorem dX3_join_131 : decode cX3_join 131 = .ok (.iload 6, 2) := by decide +kernel
theorem dX3_join_133 : decode cX3_join 133 = .ok (.iadd, 1) := by decide +kernel
theorem dX3_join_134 : decode cX3_join 134 = .ok (.iaload, 1) := by decide +kernel
theorem dX3_join_135 : decode cX3_join 135 = .ok (.istore 7, 2) := by decide +kernel
theorem dX3_join_137 : decode cX3_join 137 = .ok (.iload 7, 2) := by decide +kernel
theorem dX3_join_139 : decode cX3_join 139 = .ok (.iconst (-1), 1) := by decide +kernel
theorem dX3_join_140 : decode cX3_join 140 = .ok (.if_icmp .eq 18, 3) := by decide +kernel
theorem dX3_join_143 : decode cX3_join 143 = .ok (.aload_n 0, 1) := by decide +kernel
theorem dX3_join_144 : decode cX3_join 144 = .ok (.iload_n 1, 1) := by decide +kernel
theorem dX3_join_145 : decode cX3_join 145 = .ok (.iload 7, 2) := by decide +kernel
theorem dX3_join_147 : decode cX3_join 147 = .ok (.invokevirtual 82, 3) := by decide +kernel
theorem dX3_join_150 : decode cX3_join 150 = .ok (.ifCond .ne 8, 3) := by decide +kernel
theorem dX3_join_153 : decode cX3_join 153 = .ok (.iconst 4, 1) := by decide +kernel
theorem dX3_join_154 : decode cX3_join 154 = .ok (.invokestatic 75, 3) := by decide +kernel
theorem dX3_join_157 : decode cX3_join 157 = .ok (.ireturn, 1) := by decide +kernel
theorem dX3_join_158 : decode cX3_join 158 = .ok (.iinc 6 1, 3) := by decide +kernel
theorem dX3_join_161 : decode cX3_join 161 = .ok (.goto (-49), 3) := by decide +kernel
theorem dX3_join_164 : decode cX3_join 164 = .ok (.aload_n 0, 1) := by decide +kernel
theorem dX3_join_165 : decode cX3_join 165 = .ok (.aload_n 0, 1) := by decide +kernel
theorem dX3_join_166 : decode cX3_join 166 = .ok (.getfield 7, 3) := by decide +kernel
theorem dX3_join_169 : decode cX3_join 169 = .ok (.iload_n 1, 1) := by decide +kernel
theorem dX3_join_170 : decode cX3_join 170 = .ok (.iaload, 1) := by decide +kernel
theorem dX3_join_171 : decode cX3_join 171 = .ok (.iload 4, 2) := by decide +kernel
theorem dX3_join_173 : decode cX3_join 173 = .ok (.iload 5, 2) := by decide +kernel
theorem dX3_join_175 : decode cX3_join 175 = .ok (.iadd, 1) := by decide +kernel
theorem dX3_join_176 : decode cX3_join 176 = .ok (.invokevirtual 53, 3) := by decide +kernel
theorem dX3_join_179 : decode cX3_join 179 = .ok (.istore 6, 2) := by decide +kernel
theorem dX3_join_181 : decode cX3_join 181 = .ok (.iconst 0, 1) := by decide +kernel
theorem dX3_join_182 : decode cX3_join 182 = .ok (.istore 7, 2) := by decide +kernel
theorem dX3_join_184 : decode cX3_join 184 = .ok (.iload 7, 2) := by decide +kernel
theorem dX3_join_186 : decode cX3_join 186 = .ok (.iload 4, 2) := by decide +kernel
theorem dX3_join_188 : decode cX3_join 188 = .ok (.iload 5, 2) := by decide +kernel
theorem dX3_join_190 : decode cX3_join 190 = .ok (.iadd, 1) := by decide +kernel
theorem dX3_join_191 : decode cX3_join 191 = .ok (.if_icmp .ge 78, 3) := by decide +kernel
theorem dX3_join_194 : decode cX3_join 194 = .ok (.iload 7, 2) := by decide +kernel
theorem dX3_join_196 : decode cX3_join 196 = .ok (.iload 4, 2) := by decide +kernel
theorem dX3_join_198 : decode cX3_join 198 = .ok (.if_icmp .ge 13, 3) := by decide +kernel
theorem dX3_join_201 : decode cX3_join 201 = .ok (.bipush 8, 2) := by decide +kernel
theorem dX3_join_203 : decode cX3_join 203 = .ok (.iload_n 1, 1) := by decide +kernel
theorem dX3_join_204 : decode cX3_join 204 = .ok (.imul, 1) := by decide +kernel
theorem dX3_join_205 : decode cX3_join 205 = .ok (.iload 7, 2) := by decide +kernel
theorem dX3_join_207 : decode cX3_join 207 = .ok (.iadd, 1) := by decide +kernel
theorem dX3_join_208 : decode cX3_join 208 = .ok (.goto 13, 3) := by decide +kernel
theorem dX3_join_211 : decode cX3_join 211 = .ok (.bipush 8, 2) := by decide +kernel
theorem dX3_join_213 : decode cX3_join 213 = .ok (.iload_n 2, 1) := by decide +kernel
theorem dX3_join_214 : decode cX3_join 214 = .ok (.imul, 1) := by decide +kernel
theorem dX3_join_215 : decode cX3_join 215 = .ok (.iload 7, 2) := by decide +kernel
theorem dX3_join_217 : decode cX3_join 217 = .ok (.iadd, 1) := by decide +kernel
theorem dX3_join_218 : decode cX3_join 218 = .ok (.iload 4, 2) := by decide +kernel
theorem dX3_join_220 : decode cX3_join 220 = .ok (.isub, 1) := by decide +kernel
theorem dX3_join_221 : decode cX3_join 221 = .ok (.istore 8, 2) := by decide +kernel
theorem dX3_join_223 : decode cX3_join 223 = .ok (.aload_n 0, 1) := by decide +kernel
theorem dX3_join_224 : decode cX3_join 224 = .ok (.getfield 19, 3) := by decide +kernel
theorem dX3_join_227 : decode cX3_join 227 = .ok (.bipush 8, 2) := by decide +kernel
theorem dX3_join_229 : decode cX3_join 229 = .ok (.iload 6, 2) := by decide +kernel
theorem dX3_join_231 : decode cX3_join 231 = .ok (.imul, 1) := by decide +kernel
theorem dX3_join_232 : decode cX3_join 232 = .ok (.iload 7, 2) := by decide +kernel
theorem dX3_join_234 : decode cX3_join 234 = .ok (.iadd, 1) := by decide +kernel
theorem dX3_join_235 : decode cX3_join 235 = .ok (.aload_n 0, 1) := by decide +kernel
theorem dX3_join_236 : decode cX3_join 236 = .ok (.getfield 19, 3) := by decide +kernel
theorem dX3_join_239 : decode cX3_join 239 = .ok (.iload 8, 2) := by decide +kernel
theorem dX3_join_241 : decode cX3_join 241 = .ok (.laload, 1) := by decide +kernel
theorem dX3_join_242 : decode cX3_join 242 = .ok (.lastore, 1) := by decide +kernel
theorem dX3_join_243 : decode cX3_join 243 = .ok (.aload_n 0, 1) := by decide +kernel
theorem dX3_join_244 : decode cX3_join 244 = .ok (.getfield 23, 3) := by decide +kernel
theorem dX3_join_247 : decode cX3_join 247 = .ok (.bipush 8, 2) := by decide +kernel
theorem dX3_join_249 : decode cX3_join 249 = .ok (.iload 6, 2) := by decide +kernel
theorem dX3_join_251 : decode cX3_join 251 = .ok (.imul, 1) := by decide +kernel
theorem dX3_join_252 : decode cX3_join 252 = .ok (.iload 7, 2) := by decide +kernel
theorem dX3_join_254 : decode cX3_join 254 = .ok (.iadd, 1) := by decide +kernel
theorem dX3_join_255 : decode cX3_join 255 = .ok (.aload_n 0, 1) := by decide +kernel
theorem dX3_join_256 : decode cX3_join 256 = .ok (.getfield 23, 3) := by decide +kernel
theorem dX3_join_259 : decode cX3_join 259 = .ok (.iload 8, 2) := by decide +kernel
theorem dX3_join_261 : decode cX3_join 261 = .ok (.iaload, 1) := by decide +kernel
theorem dX3_join_262 : decode cX3_join 262 = .ok (.iastore, 1) := by decide +kernel
theorem dX3_join_263 : decode cX3_join 263 = .ok (.iinc 7 1, 3) := by decide +kernel
theorem dX3_join_266 : decode cX3_join 266 = .ok (.goto (-82), 3) := by decide +kernel
theorem dX3_join_269 : decode cX3_join 269 = .ok (.iload 6, 2) := by decide +kernel
theorem dX3_join_271 : decode cX3_join 271 = .ok (.ireturn, 1) := by decide +kernel
set_option maxRecDepth 20000 in
theorem ggX3_copy_X3_isOf : GoodIn wsX3_copy wsX3_isOf := goodIn_r _ [9, 1, 10, 11, 8, 12, 22, 23, 24, 25, 26, 27, 28, 29, 30, 31, 32, 33, 34] (by decide +kernel) (by decide +kernel)
set_option maxRecDepth 20000 in
theorem gX3_copy_X3_isOf : GoodIn wsX3_copy (wsV RX3 68 RX3 yX3_isOf wsX3_isOf) := goodIn_app (goodIn_of _ (by decide +kernel)) ggX3_copy_X3_isOf
set_option maxRecDepth 20000 in
theorem ggX3_copy_X3_with : GoodIn wsX3_copy wsX3_with := goodIn_r _ [15] (by decide +kernel) (by decide +kernel)
set_option maxRecDepth 20000 in
theorem gX3_copy_X3_with : GoodIn wsX3_copy (va_wsS RX3 75 yX3_with wsX3_with) := goodIn_app (goodIn_of _ (by decide +kernel)) ggX3_copy_X3_with
set_option maxRecDepth 20000 in
theorem ggX3_copy_X3_make : GoodIn wsX3_copy wsX3_make := goodIn_r _ [19, 20, 1, 2, 21, 3, 4, 22, 23, 24, 25, 26, 27, 28, 29, 30, 31, 32, 33, 34] (by decide +kernel) (by decide +kernel)
set_option maxRecDepth 20000 in
theorem gX3_copy_X3_make : GoodIn wsX3_copy (wsV RX3 53 RX3 yX3_make wsX3_make) := goodIn_app (goodIn_of _ (by decide +kernel)) ggX3_copy_X3_make
theorem dX3_copy_0 : decode cX3_copy 0 = .ok (.aload_n 0, 1) := by decide +kernel
theorem dX3_copy_1 : decode cX3_copy 1 = .ok (.iload_n 1, 1) := by decide +kernel
theorem dX3_copy_2 : decode cX3_copy 2 = .ok (.iconst 4, 1) := by decide +kernel
theorem dX3_copy_3 : decode cX3_copy 3 = .ok (.invokevirtual 68, 3) := by decide +kernel
theorem dX3_copy_6 : decode cX3_copy 6 = .ok (.ifCond .eq 8, 3) := by decide +kernel
theorem dX3_copy_9 : decode cX3_copy 9 = .ok (.iconst 1, 1) := by decide +kernel
theorem dX3_copy_10 : decode cX3_copy 10 = .ok (.invokestatic 75, 3) := by decide +kernel
theorem dX3_copy_13 : decode cX3_copy 13 = .ok (.ireturn, 1) := by decide +kernel
theorem dX3_copy_14 : decode cX3_copy 14 = .ok (.aload_n 0, 1) := by decide +kernel
theorem dX3_copy_15 : decode cX3_copy 15 = .ok (.aload_n 0, 1) := by decide +kernel
theorem dX3_copy_16 : decode cX3_copy 16 = .ok (.getfield 7, 3) := by decide +kernel
theorem dX3_copy_19 : decode cX3_copy 19 = .ok (.iload_n 1, 1) := by decide +kernel
theorem dX3_copy_20 : decode cX3_copy 20 = .ok (.iaload, 1) := by decide +kernel
theorem dX3_copy_21 : decode cX3_copy 21 = .ok (.aload_n 0, 1) := by decide +kernel
theorem dX3_copy_22 : decode cX3_copy 22 = .ok (.getfield 13, 3) := by decide +kernel
theorem dX3_copy_25 : decode cX3_copy 25 = .ok (.iload_n 1, 1) := by decide +kernel
theorem dX3_copy_26 : decode cX3_copy 26 = .ok (.iaload, 1) := by decide +kernel
theorem dX3_copy_27 : decode cX3_copy 27 = .ok (.invokevirtual 53, 3) := by decide +kernel
theorem dX3_copy_30 : decode cX3_copy 30 = .ok (.istore_n 2, 1) := by decide +kernel
theorem dX3_copy_31 : decode cX3_copy 31 = .ok (.iconst 0, 1) := by decide +kernel
theorem dX3_copy_32 : decode cX3_copy 32 = .ok (.istore_n 3, 1) := by decide +kernel
theorem dX3_copy_33 : decode cX3_copy 33 = .ok (.iload_n 3, 1) := by decide +kernel
theorem dX3_copy_34 : decode cX3_copy 34 = .ok (.bipush 8, 2) := by decide +kernel
theorem dX3_copy_36 : decode cX3_copy 36 = .ok (.if_icmp .ge 53, 3) := by decide +kernel
theorem dX3_copy_39 : decode cX3_copy 39 = .ok (.aload_n 0, 1) := by decide +kernel
theorem dX3_copy_40 : decode cX3_copy 40 = .ok (.getfield 19, 3) := by decide +kernel
theorem dX3_copy_43 : decode cX3_copy 43 = .ok (.bipush 8, 2) := by decide +kernel
theorem dX3_copy_45 : decode cX3_copy 45 = .ok (.iload_n 2, 1) := by decide +kernel
theorem dX3_copy_46 : decode cX3_copy 46 = .ok (.imul, 1) := by decide +kernel
theorem dX3_copy_47 : decode cX3_copy 47 = .ok (.iload_n 3, 1) := by decide +kernel
theorem dX3_copy_48 : decode cX3_copy 48 = .ok (.iadd, 1) := by decide +kernel
theorem dX3_copy_49 : decode cX3_copy 49 = .ok (.aload_n 0, 1) := by decide +kernel
theorem dX3_copy_50 : decode cX3_copy 50 = .ok (.getfield 19, 3) := by decide +kernel
theorem dX3_copy_53 : decode cX3_copy 53 = .ok (.bipush 8, 2) := by decide +kernel
theorem dX3_copy_55 : decode cX3_copy 55 = .ok (.iload_n 1, 1) := by decide +kernel
theorem dX3_copy_56 : decode cX3_copy 56 = .ok (.imul, 1) := by decide +kernel
theorem dX3_copy_57 : decode cX3_copy 57 = .ok (.iload_n 3, 1) := by decide +kernel
theorem dX3_copy_58 : decode cX3_copy 58 = .ok (.iadd, 1) := by decide +kernel
theorem dX3_copy_59 : decode cX3_copy 59 = .ok (.laload, 1) := by decide +kernel
theorem dX3_copy_60 : decode cX3_copy 60 = .ok (.lastore, 1) := by decide +kernel
theorem dX3_copy_61 : decode cX3_copy 61 = .ok (.aload_n 0, 1) := by decide +kernel
theorem dX3_copy_62 : decode cX3_copy 62 = .ok (.getfield 23, 3) := by decide +kernel
theorem dX3_copy_65 : decode cX3_copy 65 = .ok (.bipush 8, 2) := by decide +kernel
theorem dX3_copy_67 : decode cX3_copy 67 = .ok (.iload_n 2, 1) := by decide +kernel
theorem dX3_copy_68 : decode cX3_copy 68 = .ok (.imul, 1) := by decide +kernel
theorem dX3_copy_69 : decode cX3_copy 69 = .ok (.iload_n 3, 1) := by decide +kernel
theorem dX3_copy_70 : decode cX3_copy 70 = .ok (.iadd, 1) := by decide +kernel
theorem dX3_copy_71 : decode cX3_copy 71 = .ok (.aload_n 0, 1) := by decide +kernel
theorem dX3_copy_72 : decode cX3_copy 72 = .ok (.getfield 23, 3) := by decide +kernel
theorem dX3_copy_75 : decode cX3_copy 75 = .ok (.bipush 8, 2) := by decide +kernel
theorem dX3_copy_77 : decode cX3_copy 77 = .ok (.iload_n 1, 1) := by decide +kernel
theorem dX3_copy_78 : decode cX3_copy 78 = .ok (.imul, 1) := by decide +kernel
theorem dX3_copy_79 : decode cX3_copy 79 = .ok (.iload_n 3, 1) := by decide +kernel
theorem dX3_copy_80 : decode cX3_copy 80 = .ok (.iadd, 1) := by decide +kernel
theorem dX3_copy_81 : decode cX3_copy 81 = .ok (.iaload, 1) := by decide +kernel
theorem dX3_copy_82 : decode cX3_copy 82 = .ok (.iastore, 1) := by decide +kernel
theorem dX3_copy_83 : decode cX3_copy 83 = .ok (.iinc 3 1, 3) := by decide +kernel
theorem dX3_copy_86 : decode cX3_copy 86 = .ok (.goto (-53), 3) := by decide +kernel
theorem dX3_copy_89 : decode cX3_copy 89 = .ok (.iload_n 2, 1) := by decide +kernel
theorem dX3_copy_90 : decode cX3_copy 90 = .ok (.ireturn, 1) := by decide +kernel
set_option maxRecDepth 20000 in
theorem ggX3_makes_X3_isIn : GoodIn wsX3_makes wsX3_isIn := goodIn_r _ [5] (by decide +kernel) (by decide +kernel)
set_option maxRecDepth 20000 in
theorem gX3_makes_X3_isIn : GoodIn wsX3_makes (va_wsS RX3 45 yX3_isIn wsX3_isIn) := goodIn_app (goodIn_of _ (by decide +kernel)) ggX3_makes_X3_isIn
set_option maxRecDepth 20000 in
theorem ggX3_makes_X3_isOf : GoodIn wsX3_makes wsX3_isOf := goodIn_r _ [9, 10, 11, 12, 4, 13, 14, 15, 16, 17, 18, 19, 20, 21, 22, 23, 24, 25, 26] (by decide +kernel) (by decide +kernel)
set_option maxRecDepth 20000 in
theorem gX3_makes_X3_isOf : GoodIn wsX3_makes (wsV RX3 68 RX3 yX3_isOf wsX3_isOf) := goodIn_app (goodIn_of _ (by decide +kernel)) ggX3_makes_X3_isOf
theorem dX3_makes_0 : decode cX3_makes 0 = .ok (.iload_n 1, 1) := by decide +kernel
theorem dX3_makes_1 : decode cX3_makes 1 = .ok (.iconst 0, 1) := by decide +kernel
theorem dX3_makes_2 : decode cX3_makes 2 = .ok (.iconst 2, 1) := by decide +kernel
theorem dX3_makes_3 : decode cX3_makes 3 = .ok (.invokestatic 45, 3) := by decide +kernel
theorem dX3_makes_6 : decode cX3_makes 6 = .ok (.ifCond .ne 13, 3) := by decide +kernel
theorem dX3_makes_9 : decode cX3_makes 9 = .ok (.iload_n 1, 1) := by decide +kernel
theorem dX3_makes_10 : decode cX3_makes 10 = .ok (.iconst 5, 1) := by decide +kernel
theorem dX3_makes_11 : decode cX3_makes 11 = .ok (.bipush 11, 2) := by decide +kernel
theorem dX3_makes_13 : decode cX3_makes 13 = .ok (.invokestatic 45, 3) := by decide +kernel
theorem dX3_makes_16 : decode cX3_makes 16 = .ok (.ifCond .eq 7, 3) := by decide +kernel
theorem dX3_makes_19 : decode cX3_makes 19 = .ok (.iconst 1, 1) := by decide +kernel
theorem dX3_makes_20 : decode cX3_makes 20 = .ok (.goto 4, 3) := by decide +kernel
theorem dX3_makes_23 : decode cX3_makes 23 = .ok (.iconst 0, 1) := by decide +kernel
theorem dX3_makes_24 : decode cX3_makes 24 = .ok (.istore_n 3, 1) := by decide +kernel
theorem dX3_makes_25 : decode cX3_makes 25 = .ok (.iload_n 3, 1) := by decide +kernel
theorem dX3_makes_26 : decode cX3_makes 26 = .ok (.ifCond .ne 7, 3) := by decide +kernel
theorem dX3_makes_29 : decode cX3_makes 29 = .ok (.iconst 0, 1) := by decide +kernel
theorem dX3_makes_30 : decode cX3_makes 30 = .ok (.goto 30, 3) := by decide +kernel
theorem dX3_makes_33 : decode cX3_makes 33 = .ok (.iload_n 1, 1) := by decide +kernel
theorem dX3_makes_34 : decode cX3_makes 34 = .ok (.bipush 6, 2) := by decide +kernel
theorem dX3_makes_36 : decode cX3_makes 36 = .ok (.if_icmp .ne 23, 3) := by decide +kernel
theorem dX3_makes_39 : decode cX3_makes 39 = .ok (.aload_n 0, 1) := by decide +kernel
theorem dX3_makes_40 : decode cX3_makes 40 = .ok (.iload_n 2, 1) := by decide +kernel
theorem dX3_makes_41 : decode cX3_makes 41 = .ok (.iconst 1, 1) := by decide +kernel
theorem dX3_makes_42 : decode cX3_makes 42 = .ok (.invokevirtual 68, 3) := by decide +kernel
theorem dX3_makes_45 : decode cX3_makes 45 = .ok (.ifCond .eq 14, 3) := by decide +kernel
theorem dX3_makes_48 : decode cX3_makes 48 = .ok (.aload_n 0, 1) := by decide +kernel
theorem dX3_makes_49 : decode cX3_makes 49 = .ok (.getfield 13, 3) := by decide +kernel
theorem dX3_makes_52 : decode cX3_makes 52 = .ok (.iload_n 2, 1) := by decide +kernel
theorem dX3_makes_53 : decode cX3_makes 53 = .ok (.iaload, 1) := by decide +kernel
theorem dX3_makes_54 : decode cX3_makes 54 = .ok (.iconst 1, 1) := by decide +kernel
theorem dX3_makes_55 : decode cX3_makes 55 = .ok (.iadd, 1) := by decide +kernel
theorem dX3_makes_56 : decode cX3_makes 56 = .ok (.goto 4, 3) := by decide +kernel
theorem dX3_makes_59 : decode cX3_makes 59 = .ok (.iconst 1, 1) := by decide +kernel
theorem dX3_makes_60 : decode cX3_makes 60 = .ok (.ireturn, 1) := by decide +kernel
set_option maxRecDepth 20000 in
theorem ggX3_work_X3_makes : GoodIn wsX3_work wsX3_makes := goodIn_r _ [6, 7, 8, 9, 5, 10, 11, 12, 13, 14, 15, 16, 17, 18, 88, 89, 90, 91, 92, 93, 94, 95, 96, 97, 98, 99, 100] (by decide +kernel) (by decide +kernel)
set_option maxRecDepth 20000 in
theorem gX3_work_X3_makes : GoodIn wsX3_work (wsV RX3 88 RX3 yX3_makes wsX3_makes) := goodIn_app (goodIn_of _ (by decide +kernel)) ggX3_work_X3_makes
set_option maxRecDepth 20000 in
theorem ggX3_work_X3_with : GoodIn wsX3_work wsX3_with := goodIn_r _ [21] (by decide +kernel) (by decide +kernel)
set_option maxRecDepth 20000 in
theorem gX3_work_X3_with : GoodIn wsX3_work (va_wsS RX3 75 yX3_with wsX3_with) := goodIn_app (goodIn_of _ (by decide +kernel)) ggX3_work_X3_with
set_option maxRecDepth 20000 in
theorem ggX3_work_X3_tap : GoodIn wsX3_work wsX3_tap := goodIn_r _ [25, 7, 26, 19, 20, 5, 21, 27, 28, 29, 30, 15, 8, 9, 10, 88, 89, 90, 91, 92, 93, 94, 95, 96, 97, 98, 99, 100] (by decide +kernel) (by decide +kernel)
set_option maxRecDepth 20000 in
theorem gX3_work_X3_tap : GoodIn wsX3_work (wsV RX3 91 RX3 yX3_tap wsX3_tap) := goodIn_app (goodIn_of _ (by decide +kernel)) ggX3_work_X3_tap
set_option maxRecDepth 20000 in
theorem ggX3_work_X3_lay : GoodIn wsX3_work wsX3_lay := goodIn_r _ [34, 15, 7, 26, 11, 12, 13, 5, 14, 16, 17, 18, 19, 20, 21, 27, 28, 29, 30, 8, 9, 10, 35, 36, 37, 38, 88, 89, 90, 91, 92, 93, 94, 95, 96, 97, 98, 99, 100] (by decide +kernel) (by decide +kernel)
set_option maxRecDepth 20000 in
theorem gX3_work_X3_lay : GoodIn wsX3_work (wsV RX3 94 RX3 yX3_lay wsX3_lay) := goodIn_app (goodIn_of _ (by decide +kernel)) ggX3_work_X3_lay
set_option maxRecDepth 20000 in
theorem ggX3_work_X3_isIn : GoodIn wsX3_work wsX3_isIn := goodIn_r _ [10] (by decide +kernel) (by decide +kernel)
set_option maxRecDepth 20000 in
theorem gX3_work_X3_isIn : GoodIn wsX3_work (va_wsS RX3 45 yX3_isIn wsX3_isIn) := goodIn_app (goodIn_of _ (by decide +kernel)) ggX3_work_X3_isIn
set_option maxRecDepth 20000 in
theorem ggX3_work_X3_make : GoodIn wsX3_work wsX3_make := goodIn_r _ [42, 1, 15, 7, 43, 44, 26, 88, 89, 90, 91, 92, 93, 94, 95, 96, 97, 98, 99, 100] (by decide +kernel) (by decide +kernel)
set_option maxRecDepth 20000 in
theorem gX3_work_X3_make : GoodIn wsX3_work (wsV RX3 53 RX3 yX3_make wsX3_make) := goodIn_app (goodIn_of _ (by decide +kernel)) ggX3_work_X3_make
set_option maxRecDepth 20000 in
theorem ggX3_work_X3_isOf : GoodIn wsX3_work wsX3_isOf := goodIn_r _ [14, 15, 16, 17, 5, 18, 88, 89, 90, 91, 92, 93, 94, 95, 96, 97, 98, 99, 100] (by decide +kernel) (by decide +kernel)
set_option maxRecDepth 20000 in
theorem gX3_work_X3_isOf : GoodIn wsX3_work (wsV RX3 68 RX3 yX3_isOf wsX3_isOf) := goodIn_app (goodIn_of _ (by decide +kernel)) ggX3_work_X3_isOf
set_option maxRecDepth 20000 in
theorem ggX3_work_X3_sum : GoodIn wsX3_work wsX3_sum := goodIn_r _ [48, 44, 15, 7, 26, 49, 50, 51, 5, 52, 39, 40, 41, 42, 1, 43, 53, 54, 55, 56, 19, 20, 21, 88, 89, 90, 91, 92, 93, 94, 95, 96, 97, 98, 99, 100] (by decide +kernel) (by decide +kernel)
set_option maxRecDepth 20000 in
theorem gX3_work_X3_sum : GoodIn wsX3_work (wsV RX3 98 RX3 yX3_sum wsX3_sum) := goodIn_app (goodIn_of _ (by decide +kernel)) ggX3_work_X3_sum
set_option maxRecDepth 20000 in
theorem ggX3_work_X3_turned : GoodIn wsX3_work wsX3_turned := goodIn_r _ [60, 15, 7, 44, 49, 50, 51, 5, 52, 8, 9, 10, 19, 20, 21, 39, 40, 41, 42, 1, 43, 26, 61, 62, 63, 88, 89, 90, 91, 92, 93, 94, 95, 96, 97, 98, 99, 100] (by decide +kernel) (by decide +kernel)
set_option maxRecDepth 20000 in
theorem gX3_work_X3_turned : GoodIn wsX3_work (wsV RX3 101 RX3 yX3_turned wsX3_turned) := goodIn_app (goodIn_of _ (by decide +kernel)) ggX3_work_X3_turned
set_option maxRecDepth 20000 in
theorem ggX3_work_X3_levelsOf : GoodIn wsX3_work wsX3_levelsOf := goodIn_r _ [67, 7, 26, 44, 43, 39, 40, 41, 5, 42, 1, 15, 88, 89, 90, 91, 92, 93, 94, 95, 96, 97, 98, 99, 100] (by decide +kernel) (by decide +kernel)
set_option maxRecDepth 20000 in
theorem gX3_work_X3_levelsOf : GoodIn wsX3_work (wsV RX3 85 RX3 yX3_levelsOf wsX3_levelsOf) := goodIn_app (goodIn_of _ (by decide +kernel)) ggX3_work_X3_levelsOf
set_option maxRecDepth 20000 in
theorem ggX3_work_X3_drive : GoodIn wsX3_work wsX3_drive := goodIn_r _ [71, 15, 1, 7, 43, 44, 26, 19, 20, 5, 21, 39, 40, 41, 42, 88, 89, 90, 91, 92, 93, 94, 95, 96, 97, 98, 99, 100] (by decide +kernel) (by decide +kernel)
set_option maxRecDepth 20000 in
theorem gX3_work_X3_drive : GoodIn wsX3_work (wsV RX3 104 RX3 yX3_drive wsX3_drive) := goodIn_app (goodIn_of _ (by decide +kernel)) ggX3_work_X3_drive
set_option maxRecDepth 20000 in
theorem ggX3_work_X3_pair : GoodIn wsX3_work wsX3_pair := goodIn_r _ [75, 26, 11, 12, 13, 5, 14, 15, 16, 17, 18, 19, 20, 21, 39, 40, 41, 42, 1, 7, 43, 44, 88, 89, 90, 91, 92, 93, 94, 95, 96, 97, 98, 99, 100] (by decide +kernel) (by decide +kernel)
set_option maxRecDepth 20000 in
theorem gX3_work_X3_pair : GoodIn wsX3_work (wsV RX3 107 RX3 yX3_pair wsX3_pair) := goodIn_app (goodIn_of _ (by decide +kernel)) ggX3_work_X3_pair
set_option maxRecDepth 20000 in
theorem ggX3_work_X3_power : GoodIn wsX3_work wsX3_power := goodIn_r _ [79, 15, 44, 43, 39, 40, 41, 5, 42, 1, 7, 26, 11, 12, 13, 14, 16, 17, 18, 64, 65, 66, 67, 19, 20, 21, 88, 89, 90, 91, 92, 93, 94, 95, 96, 97, 98, 99, 100] (by decide +kernel) (by decide +kernel)
set_option maxRecDepth 20000 in
theorem gX3_work_X3_power : GoodIn wsX3_work (wsV RX3 110 RX3 yX3_power wsX3_power) := goodIn_app (goodIn_of _ (by decide +kernel)) ggX3_work_X3_power
set_option maxRecDepth 20000 in
theorem ggX3_work_X3_join : GoodIn wsX3_work wsX3_join := goodIn_r _ [83, 15, 7, 26, 44, 11, 12, 13, 5, 14, 16, 17, 18, 49, 50, 51, 52, 19, 20, 21, 35, 36, 37, 38, 39, 40, 41, 42, 1, 43, 88, 89, 90, 91, 92, 93, 94, 95, 96, 97, 98, 99, 100] (by decide +kernel) (by decide +kernel)
set_option maxRecDepth 20000 in
theorem gX3_work_X3_join : GoodIn wsX3_work (wsV RX3 113 RX3 yX3_join wsX3_join) := goodIn_app (goodIn_of _ (by decide +kernel)) ggX3_work_X3_join
set_option maxRecDepth 20000 in
theorem ggX3_work_X3_copy : GoodIn wsX3_work wsX3_copy := goodIn_r _ [87, 15, 7, 44, 26, 11, 12, 13, 5, 14, 16, 17, 18, 19, 20, 21, 39, 40, 41, 42, 1, 43, 88, 89, 90, 91, 92, 93, 94, 95, 96, 97, 98, 99, 100] (by decide +kernel) (by decide +kernel)
set_option maxRecDepth 20000 in
theorem gX3_work_X3_copy : GoodIn wsX3_work (wsV RX3 116 RX3 yX3_copy wsX3_copy) := goodIn_app (goodIn_of _ (by decide +kernel)) ggX3_work_X3_copy
theorem dX3_work_0 : decode cX3_work 0 = .ok (.aload_n 0, 1) := by decide +kernel
theorem dX3_work_1 : decode cX3_work 1 = .ok (.getfield 42, 3) := by decide +kernel
theorem dX3_work_4 : decode cX3_work 4 = .ok (.aload_n 0, 1) := by decide +kernel
theorem dX3_work_5 : decode cX3_work 5 = .ok (.iload_n 1, 1) := by decide +kernel
theorem dX3_work_6 : decode cX3_work 6 = .ok (.iload_n 2, 1) := by decide +kernel
theorem dX3_work_7 : decode cX3_work 7 = .ok (.invokevirtual 88, 3) := by decide +kernel
theorem dX3_work_10 : decode cX3_work 10 = .ok (.iadd, 1) := by decide +kernel
theorem dX3_work_11 : decode cX3_work 11 = .ok (.bipush 60, 2) := by decide +kernel
theorem dX3_work_13 : decode cX3_work 13 = .ok (.if_icmp .le 9, 3) := by decide +kernel
theorem dX3_work_16 : decode cX3_work 16 = .ok (.bipush 6, 2) := by decide +kernel
theorem dX3_work_18 : decode cX3_work 18 = .ok (.invokestatic 75, 3) := by decide +kernel
theorem dX3_work_21 : decode cX3_work 21 = .ok (.ireturn, 1) := by decide +kernel
theorem dX3_work_22 : decode cX3_work 22 = .ok (.iload_n 1, 1) := by decide +kernel
theorem dX3_work_23 : decode cX3_work 23 = .ok (.iconst 3, 1) := by decide +kernel
theorem dX3_work_24 : decode cX3_work 24 = .ok (.if_icmp .ne 11, 3) := by decide +kernel
theorem dX3_work_27 : decode cX3_work 27 = .ok (.aload_n 0, 1) := by decide +kernel
theorem dX3_work_28 : decode cX3_work 28 = .ok (.iload_n 2, 1) := by decide +kernel
theorem dX3_work_29 : decode cX3_work 29 = .ok (.iload 4, 2) := by decide +kernel
theorem dX3_work_31 : decode cX3_work 31 = .ok (.invokevirtual 91, 3) := by decide +kernel
theorem dX3_work_34 : decode cX3_work 34 = .ok (.ireturn, 1) := by decide +kernel
theorem dX3_work_35 : decode cX3_work 35 = .ok (.iload_n 1, 1) := by decide +kernel
theorem dX3_work_36 : decode cX3_work 36 = .ok (.iconst 4, 1) := by decide +kernel
theorem dX3_work_37 : decode cX3_work 37 = .ok (.if_icmp .ne 12, 3) := by decide +kernel
theorem dX3_work_40 : decode cX3_work 40 = .ok (.aload_n 0, 1) := by decide +kernel
theorem dX3_work_41 : decode cX3_work 41 = .ok (.iload_n 2, 1) := by decide +kernel
theorem dX3_work_42 : decode cX3_work 42 = .ok (.iload_n 3, 1) := by decide +kernel
theorem dX3_work_43 : decode cX3_work 43 = .ok (.iload 4, 2) := by decide +kernel
theorem dX3_work_45 : decode cX3_work 45 = .ok (.invokevirtual 94, 3) := by decide +kernel
theorem dX3_work_48 : decode cX3_work 48 = .ok (.ireturn, 1) := by decide +kernel
theorem dX3_work_49 : decode cX3_work 49 = .ok (.iload_n 1, 1) := by decide +kernel
theorem dX3_work_50 : decode cX3_work 50 = .ok (.bipush 11, 2) := by decide +kernel
theorem dX3_work_52 : decode cX3_work 52 = .ok (.if_icmp .ne 30, 3) := by decide +kernel
theorem dX3_work_55 : decode cX3_work 55 = .ok (.iload 4, 2) := by decide +kernel
theorem dX3_work_57 : decode cX3_work 57 = .ok (.iconst 0, 1) := by decide +kernel
theorem dX3_work_58 : decode cX3_work 58 = .ok (.bipush 8, 2) := by decide +kernel
theorem dX3_work_60 : decode cX3_work 60 = .ok (.invokestatic 45, 3) := by decide +kernel
theorem dX3_work_63 : decode cX3_work 63 = .ok (.ifCond .eq 14, 3) := by decide +kernel
theorem dX3_work_66 : decode cX3_work 66 = .ok (.aload_n 0, 1) := by decide +kernel
theorem dX3_work_67 : decode cX3_work 67 = .ok (.bipush 6, 2) := by decide +kernel
theorem dX3_work_69 : decode cX3_work 69 = .ok (.iload 4, 2) := by decide +kernel
theorem dX3_work_71 : decode cX3_work 71 = .ok (.invokevirtual 53, 3) := by decide +kernel
theorem dX3_work_74 : decode cX3_work 74 = .ok (.goto 7, 3) := by decide +kernel
theorem dX3_work_77 : decode cX3_work 77 = .ok (.iconst 5, 1) := by decide +kernel
theorem dX3_work_78 : decode cX3_work 78 = .ok (.invokestatic 75, 3) := by decide +kernel
theorem dX3_work_81 : decode cX3_work 81 = .ok (.ireturn, 1) := by decide +kernel
theorem dX3_work_82 : decode cX3_work 82 = .ok (.iload_n 1, 1) := by decide +kernel
theorem dX3_work_83 : decode cX3_work 83 = .ok (.bipush 12, 2) := by decide +kernel
theorem dX3_work_85 : decode cX3_work 85 = .ok (.if_icmp .ne 38, 3) := by decide +kernel
theorem dX3_work_88 : decode cX3_work 88 = .ok (.iload 4, 2) := by decide +kernel
theorem dX3_work_90 : decode cX3_work 90 = .ok (.iconst 0, 1) := by decide +kernel
theorem dX3_work_91 : decode cX3_work 91 = .ok (.bipush 11, 2) := by decide +kernel
theorem dX3_work_93 : decode cX3_work 93 = .ok (.invokestatic 45, 3) := by decide +kernel
theorem dX3_work_96 : decode cX3_work 96 = .ok (.ifCond .eq 22, 3) := by decide +kernel
theorem dX3_work_99 : decode cX3_work 99 = .ok (.iload_n 2, 1) := by decide +kernel
theorem dX3_work_100 : decode cX3_work 100 = .ok (.iconst (-1), 1) := by decide +kernel
theorem dX3_work_101 : decode cX3_work 101 = .ok (.if_icmp .eq 13, 3) := by decide +kernel
theorem dX3_work_104 : decode cX3_work 104 = .ok (.aload_n 0, 1) := by decide +kernel
theorem dX3_work_105 : decode cX3_work 105 = .ok (.iload_n 2, 1) := by decide +kernel
theorem dX3_work_106 : decode cX3_work 106 = .ok (.iload 4, 2) := by decide +kernel
theorem dX3_work_108 : decode cX3_work 108 = .ok (.invokevirtual 68, 3) := by decide +kernel
theorem dX3_work_111 : decode cX3_work 111 = .ok (.ifCond .eq 7, 3) := by decide +kernel
theorem dX3_work_114 : decode cX3_work 114 = .ok (.iload_n 2, 1) := by decide +kernel
theorem dX3_work_115 : decode cX3_work 115 = .ok (.goto 7, 3) := by decide +kernel
theorem dX3_work_118 : decode cX3_work 118 = .ok (.iconst 1, 1) := by decide +kernel
theorem dX3_work_119 : decode cX3_work 119 = .ok (.invokestatic 75, 3) := by decide +kernel
theorem dX3_work_122 : decode cX3_work 122 = .ok (.ireturn, 1) := by decide +kernel
theorem dX3_work_123 : decode cX3_work 123 = .ok (.iload_n 2, 1) := by decide +kernel
theorem dX3_work_124 : decode cX3_work 124 = .ok (.iconst (-1), 1) := by decide +kernel
theorem dX3_work_125 : decode cX3_work 125 = .ok (.if_icmp .ne 20, 3) := by decide +kernel
theorem dX3_work_128 : decode cX3_work 128 = .ok (.iload_n 1, 1) := by decide +kernel
theorem dX3_work_129 : decode cX3_work 129 = .ok (.bipush 7, 2) := by decide +kernel
theorem dX3_work_131 : decode cX3_work 131 = .ok (.if_icmp .eq 14, 3) := by decide +kernel
theorem dX3_work_134 : decode cX3_work 134 = .ok (.iload_n 1, 1) := by decide +kernel
theorem dX3_work_135 : decode cX3_work 135 = .ok (.bipush 9, 2) := by decide +kernel
theorem dX3_work_137 : decode cX3_work 137 = .ok (.if_icmp .eq 8, 3) := by decide +kernel
theorem dX3_work_140 : decode cX3_work 140 = .ok (.iconst 2, 1) := by decide +kernel
theorem dX3_work_141 : decode cX3_work 141 = .ok (.invokestatic 75, 3) := by decide +kernel
theorem dX3_work_144 : decode cX3_work 144 = .ok (.ireturn, 1) := by decide +kernel
theorem dX3_work_145 : decode cX3_work 145 = .ok (.iload_n 1, 1) := by decide +kernel
theorem dX3_work_146 : decode cX3_work 146 = .ok (.tableswitch 138 0 9 #[54, 60, 67, 138, 138, 74, 108, 116, 125, 131], 54) := by decide +kernel
theorem dX3_work_200 : decode cX3_work 200 = .ok (.aload_n 0, 1) := by decide +kernel
theorem dX3_work_201 : decode cX3_work 201 = .ok (.iload_n 2, 1) := by decide +kernel
theorem dX3_work_202 : decode cX3_work 202 = .ok (.invokevirtual 98, 3) := by decide +kernel
theorem dX3_work_205 : decode cX3_work 205 = .ok (.ireturn, 1) := by decide +kernel
theorem dX3_work_206 : decode cX3_work 206 = .ok (.aload_n 0, 1) := by decide +kernel
theorem dX3_work_207 : decode cX3_work 207 = .ok (.iload_n 2, 1) := by decide +kernel
theorem dX3_work_208 : decode cX3_work 208 = .ok (.iconst 1, 1) := by decide +kernel
theorem dX3_work_209 : decode cX3_work 209 = .ok (.invokevirtual 101, 3) := by decide +kernel
theorem dX3_work_212 : decode cX3_work 212 = .ok (.ireturn, 1) := by decide +kernel
theorem dX3_work_213 : decode cX3_work 213 = .ok (.aload_n 0, 1) := by decide +kernel
theorem dX3_work_214 : decode cX3_work 214 = .ok (.iload_n 2, 1) := by decide +kernel
theorem dX3_work_215 : decode cX3_work 215 = .ok (.iconst (-1), 1) := by decide +kernel
theorem dX3_work_216 : decode cX3_work 216 = .ok (.invokevirtual 101, 3) := by decide +kernel
theorem dX3_work_219 : decode cX3_work 219 = .ok (.ireturn, 1) := by decide +kernel
theorem dX3_work_220 : decode cX3_work 220 = .ok (.aload_n 0, 1) := by decide +kernel
theorem dX3_work_221 : decode cX3_work 221 = .ok (.iload_n 2, 1) := by decide +kernel
theorem dX3_work_222 : decode cX3_work 222 = .ok (.bipush 6, 2) := by decide +kernel
theorem dX3_work_224 : decode cX3_work 224 = .ok (.invokevirtual 68, 3) := by decide +kernel
theorem dX3_work_227 : decode cX3_work 227 = .ok (.ifCond .ne 13, 3) := by decide +kernel
theorem dX3_work_230 : decode cX3_work 230 = .ok (.aload_n 0, 1) := by decide +kernel
theorem dX3_work_231 : decode cX3_work 231 = .ok (.iload_n 2, 1) := by decide +kernel
theorem dX3_work_232 : decode cX3_work 232 = .ok (.bipush 8, 2) := by decide +kernel
theorem dX3_work_234 : decode cX3_work 234 = .ok (.invokevirtual 68, 3) := by decide +kernel
theorem dX3_work_237 : decode cX3_work 237 = .ok (.ifCond .eq 12, 3) := by decide +kernel
theorem dX3_work_240 : decode cX3_work 240 = .ok (.aload_n 0, 1) := by decide +kernel
theorem dX3_work_241 : decode cX3_work 241 = .ok (.iload_n 2, 1) := by decide +kernel
theorem dX3_work_242 : decode cX3_work 242 = .ok (.iconst 1, 1) := by decide +kernel
theorem dX3_work_243 : decode cX3_work 243 = .ok (.invokevirtual 85, 3) := by decide +kernel
theorem dX3_work_246 : decode cX3_work 246 = .ok (.goto 7, 3) := by decide +kernel
theorem dX3_work_249 : decode cX3_work 249 = .ok (.iconst 1, 1) := by decide +kernel
theorem dX3_work_250 : decode cX3_work 250 = .ok (.invokestatic 75, 3) := by decide +kernel
theorem dX3_work_253 : decode cX3_work 253 = .ok (.ireturn, 1) := by decide +kernel
theorem dX3_work_254 : decode cX3_work 254 = .ok (.aload_n 0, 1) := by decide +kernel
theorem dX3_work_255 : decode cX3_work 255 = .ok (.iload_n 2, 1) := by decide +kernel
theorem dX3_work_256 : decode cX3_work 256 = .ok (.iload 4, 2) := by decide +kernel
theorem dX3_work_258 : decode cX3_work 258 = .ok (.invokevirtual 104, 3) := by decide +kernel
theorem dX3_work_261 : decode cX3_work 261 = .ok (.ireturn, 1) := by decide +kernel
theorem dX3_work_262 : decode cX3_work 262 = .ok (.aload_n 0, 1) := by decide +kernel
theorem dX3_work_263 : decode cX3_work 263 = .ok (.iload_n 2, 1) := by decide +kernel
theorem dX3_work_264 : decode cX3_work 264 = .ok (.iload_n 3, 1) := by decide +kernel
theorem dX3_work_265 : decode cX3_work 265 = .ok (.iload 4, 2) := by decide +kernel
theorem dX3_work_267 : decode cX3_work 267 = .ok (.invokevirtual 107, 3) := by decide +kernel
theorem dX3_work_270 : decode cX3_work 270 = .ok (.ireturn, 1) := by decide +kernel
theorem dX3_work_271 : decode cX3_work 271 = .ok (.aload_n 0, 1) := by decide +kernel
theorem dX3_work_272 : decode cX3_work 272 = .ok (.iload_n 2, 1) := by decide +kernel
theorem dX3_work_273 : decode cX3_work 273 = .ok (.invokevirtual 110, 3) := by decide +kernel
theorem dX3_work_276 : decode cX3_work 276 = .ok (.ireturn, 1) := by decide +kernel
theorem dX3_work_277 : decode cX3_work 277 = .ok (.aload_n 0, 1) := by decide +kernel
theorem dX3_work_278 : decode cX3_work 278 = .ok (.iload_n 2, 1) := by decide +kernel
theorem dX3_work_279 : decode cX3_work 279 = .ok (.iload_n 3, 1) := by decide +kernel
theorem dX3_work_280 : decode cX3_work 280 = .ok (.invokevirtual 113, 3) := by decide +kernel
theorem dX3_work_283 : decode cX3_work 283 = .ok (.ireturn, 1) := by decide +kernel
theorem dX3_work_284 : decode cX3_work 284 = .ok (.aload_n 0, 1) := by decide +kernel
theorem dX3_work_285 : decode cX3_work 285 = .ok (.iload_n 2, 1) := by decide +kernel
theorem dX3_work_286 : decode cX3_work 286 = .ok (.invokevirtual 116, 3) := by decide +kernel
theorem dX3_work_289 : decode cX3_work 289 = .ok (.ireturn, 1) := by decide +kernel
theorem dX3_noted_0 : decode cX3_noted 0 = .ok (.iload_n 1, 1) := by decide +kernel
theorem dX3_noted_1 : decode cX3_noted 1 = .ok (.bipush (-10), 2) := by decide +kernel
theorem dX3_noted_3 : decode cX3_noted 3 = .ok (.if_icmp .ge 21, 3) := by decide +kernel
theorem dX3_noted_6 : decode cX3_noted 6 = .ok (.aload_n 0, 1) := by decide +kernel
theorem dX3_noted_7 : decode cX3_noted 7 = .ok (.dup, 1) := by decide +kernel
theorem dX3_noted_8 : decode cX3_noted 8 = .ok (.getfield 119, 3) := by decide +kernel
theorem dX3_noted_11 : decode cX3_noted 11 = .ok (.iconst 1, 1) := by decide +kernel
theorem dX3_noted_12 : decode cX3_noted 12 = .ok (.iadd, 1) := by decide +kernel
theorem dX3_noted_13 : decode cX3_noted 13 = .ok (.putfield 119, 3) := by decide +kernel
theorem dX3_noted_16 : decode cX3_noted 16 = .ok (.aload_n 0, 1) := by decide +kernel
theorem dX3_noted_17 : decode cX3_noted 17 = .ok (.bipush (-10), 2) := by decide +kernel
theorem dX3_noted_19 : decode cX3_noted 19 = .ok (.iload_n 1, 1) := by decide +kernel
theorem dX3_noted_20 : decode cX3_noted 20 = .ok (.isub, 1) := by decide +kernel
theorem dX3_noted_21 : decode cX3_noted 21 = .ok (.putfield 122, 3) := by decide +kernel
theorem dX3_noted_24 : decode cX3_noted 24 = .ok (.iload_n 1, 1) := by decide +kernel
theorem dX3_noted_25 : decode cX3_noted 25 = .ok (.ireturn, 1) := by decide +kernel
set_option maxRecDepth 20000 in
theorem ggX3_act_X3_isIn : GoodIn wsX3_act wsX3_isIn := goodIn_r _ [4] (by decide +kernel) (by decide +kernel)
set_option maxRecDepth 20000 in
theorem gX3_act_X3_isIn : GoodIn wsX3_act (va_wsS RX3 45 yX3_isIn wsX3_isIn) := goodIn_app (goodIn_of _ (by decide +kernel)) ggX3_act_X3_isIn
set_option maxRecDepth 20000 in
theorem ggX3_act_X3_mayBe : GoodIn wsX3_act wsX3_mayBe := goodIn_r _ [8, 9, 1, 2, 3, 4, 102, 103, 104, 105, 106, 107, 108, 109, 110, 111, 112, 113, 114] (by decide +kernel) (by decide +kernel)
set_option maxRecDepth 20000 in
theorem gX3_act_X3_mayBe : GoodIn wsX3_act (wsV RX3 125 RX3 yX3_mayBe wsX3_mayBe) := goodIn_app (goodIn_of _ (by decide +kernel)) ggX3_act_X3_mayBe
set_option maxRecDepth 20000 in
theorem ggX3_act_X3_work : GoodIn wsX3_act wsX3_work := goodIn_r _ [13, 9, 14, 15, 16, 3, 17, 18, 1, 2, 4, 19, 20, 21, 22, 23, 24, 25, 26, 27, 28, 29, 30, 31, 32, 33, 34, 35, 36, 37, 38, 39, 40, 41, 42, 43, 44, 45, 46, 47, 48, 49, 50, 51, 52, 53, 54, 55, 56, 57, 58, 59, 60, 61, 62, 63, 64, 65, 66, 67, 68, 69, 70, 71, 72, 73, 74, 75, 76, 77, 78, 79, 80, 81, 82, 83, 84, 85, 86, 87, 88, 89, 90, 91, 92, 93, 94, 95, 102, 103, 104, 105, 106, 107, 108, 109, 110, 111, 112, 113, 114] (by decide +kernel) (by decide +kernel)
set_option maxRecDepth 20000 in
theorem gX3_act_X3_work : GoodIn wsX3_act (wsV RX3 128 RX3 yX3_work wsX3_work) := goodIn_app (goodIn_of _ (by decide +kernel)) ggX3_act_X3_work
set_option maxRecDepth 20000 in
theorem ggX3_act_X3_noted : GoodIn wsX3_act wsX3_noted := goodIn_r _ [99, 100, 101, 102, 103, 104, 105, 106, 107, 108, 109, 110, 111, 112, 113, 114] (by decide +kernel) (by decide +kernel)
set_option maxRecDepth 20000 in
theorem gX3_act_X3_noted : GoodIn wsX3_act (wsV RX3 132 RX3 yX3_noted wsX3_noted) := goodIn_app (goodIn_of _ (by decide +kernel)) ggX3_act_X3_noted
theorem dX3_act_0 : decode cX3_act 0 = .ok (.iload_n 1, 1) := by decide +kernel
theorem dX3_act_1 : decode cX3_act 1 = .ok (.iconst 0, 1) := by decide +kernel
theorem dX3_act_2 : decode cX3_act 2 = .ok (.bipush 12, 2) := by decide +kernel
theorem dX3_act_4 : decode cX3_act 4 = .ok (.invokestatic 45, 3) := by decide +kernel
theorem dX3_act_7 : decode cX3_act 7 = .ok (.ifCond .eq 19, 3) := by decide +kernel
theorem dX3_act_10 : decode cX3_act 10 = .ok (.aload_n 0, 1) := by decide +kernel
theorem dX3_act_11 : decode cX3_act 11 = .ok (.iload_n 2, 1) := by decide +kernel
theorem dX3_act_12 : decode cX3_act 12 = .ok (.invokevirtual 125, 3) := by decide +kernel
theorem dX3_act_15 : decode cX3_act 15 = .ok (.ifCond .eq 11, 3) := by decide +kernel
theorem dX3_act_18 : decode cX3_act 18 = .ok (.aload_n 0, 1) := by decide +kernel
theorem dX3_act_19 : decode cX3_act 19 = .ok (.iload_n 3, 1) := by decide +kernel
theorem dX3_act_20 : decode cX3_act 20 = .ok (.invokevirtual 125, 3) := by decide +kernel
theorem dX3_act_23 : decode cX3_act 23 = .ok (.ifCond .ne 6, 3) := by decide +kernel
theorem dX3_act_26 : decode cX3_act 26 = .ok (.bipush (-3), 2) := by decide +kernel
theorem dX3_act_28 : decode cX3_act 28 = .ok (.ireturn, 1) := by decide +kernel
theorem dX3_act_29 : decode cX3_act 29 = .ok (.aload_n 0, 1) := by decide +kernel
theorem dX3_act_30 : decode cX3_act 30 = .ok (.aload_n 0, 1) := by decide +kernel
theorem dX3_act_31 : decode cX3_act 31 = .ok (.iload_n 1, 1) := by decide +kernel
theorem dX3_act_32 : decode cX3_act 32 = .ok (.iload_n 2, 1) := by decide +kernel
theorem dX3_act_33 : decode cX3_act 33 = .ok (.iload_n 3, 1) := by decide +kernel
theorem dX3_act_34 : decode cX3_act 34 = .ok (.iload 4, 2) := by decide +kernel
theorem dX3_act_36 : decode cX3_act 36 = .ok (.invokevirtual 128, 3) := by decide +kernel
theorem dX3_act_39 : decode cX3_act 39 = .ok (.invokevirtual 132, 3) := by decide +kernel
theorem dX3_act_42 : decode cX3_act 42 = .ok (.ireturn, 1) := by decide +kernel
set_option maxRecDepth 20000 in
theorem ggX3_step_X3_isIn : GoodIn wsX3_step wsX3_isIn := goodIn_r _ [8] (by decide +kernel) (by decide +kernel)
set_option maxRecDepth 20000 in
theorem gX3_step_X3_isIn : GoodIn wsX3_step (va_wsS RX3 45 yX3_isIn wsX3_isIn) := goodIn_app (goodIn_of _ (by decide +kernel)) ggX3_step_X3_isIn
set_option maxRecDepth 20000 in
theorem ggX3_step_X3_mayBe : GoodIn wsX3_step wsX3_mayBe := goodIn_r _ [12, 13, 5, 6, 7, 8, 14, 15, 16, 17, 18, 19, 20, 21, 22, 23, 24, 25, 26] (by decide +kernel) (by decide +kernel)
set_option maxRecDepth 20000 in
theorem gX3_step_X3_mayBe : GoodIn wsX3_step (wsV RX3 125 RX3 yX3_mayBe wsX3_mayBe) := goodIn_app (goodIn_of _ (by decide +kernel)) ggX3_step_X3_mayBe
theorem dX3_step_0 : decode cX3_step 0 = .ok (.iload_n 1, 1) := by decide +kernel
theorem dX3_step_1 : decode cX3_step 1 = .ok (.iconst 0, 1) := by decide +kernel
theorem dX3_step_2 : decode cX3_step 2 = .ok (.iconst 5, 1) := by decide +kernel
theorem dX3_step_3 : decode cX3_step 3 = .ok (.invokestatic 45, 3) := by decide +kernel
theorem dX3_step_6 : decode cX3_step 6 = .ok (.ifCond .eq 27, 3) := by decide +kernel
theorem dX3_step_9 : decode cX3_step 9 = .ok (.iload_n 2, 1) := by decide +kernel
theorem dX3_step_10 : decode cX3_step 10 = .ok (.iconst 0, 1) := by decide +kernel
theorem dX3_step_11 : decode cX3_step 11 = .ok (.bipush 12, 2) := by decide +kernel
theorem dX3_step_13 : decode cX3_step 13 = .ok (.invokestatic 45, 3) := by decide +kernel
theorem dX3_step_16 : decode cX3_step 16 = .ok (.ifCond .eq 17, 3) := by decide +kernel
theorem dX3_step_19 : decode cX3_step 19 = .ok (.iload_n 3, 1) := by decide +kernel
theorem dX3_step_20 : decode cX3_step 20 = .ok (.bipush (-2), 2) := by decide +kernel
theorem dX3_step_22 : decode cX3_step 22 = .ok (.if_icmp .eq 14, 3) := by decide +kernel
theorem dX3_step_25 : decode cX3_step 25 = .ok (.aload_n 0, 1) := by decide +kernel
theorem dX3_step_26 : decode cX3_step 26 = .ok (.iload_n 3, 1) := by decide +kernel
theorem dX3_step_27 : decode cX3_step 27 = .ok (.invokevirtual 125, 3) := by decide +kernel
theorem dX3_step_30 : decode cX3_step 30 = .ok (.ifCond .ne 6, 3) := by decide +kernel
theorem dX3_step_33 : decode cX3_step 33 = .ok (.bipush (-3), 2) := by decide +kernel
theorem dX3_step_35 : decode cX3_step 35 = .ok (.ireturn, 1) := by decide +kernel
theorem dX3_step_36 : decode cX3_step 36 = .ok (.aload_n 0, 1) := by decide +kernel
theorem dX3_step_37 : decode cX3_step 37 = .ok (.getfield 26, 3) := by decide +kernel
theorem dX3_step_40 : decode cX3_step 40 = .ok (.iload_n 1, 1) := by decide +kernel
theorem dX3_step_41 : decode cX3_step 41 = .ok (.iaload, 1) := by decide +kernel
theorem dX3_step_42 : decode cX3_step 42 = .ok (.bipush 12, 2) := by decide +kernel
theorem dX3_step_44 : decode cX3_step 44 = .ok (.if_icmp .ne 6, 3) := by decide +kernel
theorem dX3_step_47 : decode cX3_step 47 = .ok (.bipush (-4), 2) := by decide +kernel
theorem dX3_step_49 : decode cX3_step 49 = .ok (.ireturn, 1) := by decide +kernel
theorem dX3_step_50 : decode cX3_step 50 = .ok (.bipush 12, 2) := by decide +kernel
theorem dX3_step_52 : decode cX3_step 52 = .ok (.iload_n 1, 1) := by decide +kernel
theorem dX3_step_53 : decode cX3_step 53 = .ok (.imul, 1) := by decide +kernel
theorem dX3_step_54 : decode cX3_step 54 = .ok (.aload_n 0, 1) := by decide +kernel
theorem dX3_step_55 : decode cX3_step 55 = .ok (.getfield 26, 3) := by decide +kernel
theorem dX3_step_58 : decode cX3_step 58 = .ok (.iload_n 1, 1) := by decide +kernel
theorem dX3_step_59 : decode cX3_step 59 = .ok (.iaload, 1) := by decide +kernel
theorem dX3_step_60 : decode cX3_step 60 = .ok (.iadd, 1) := by decide +kernel
theorem dX3_step_61 : decode cX3_step 61 = .ok (.istore 5, 2) := by decide +kernel
theorem dX3_step_63 : decode cX3_step 63 = .ok (.aload_n 0, 1) := by decide +kernel
theorem dX3_step_64 : decode cX3_step 64 = .ok (.getfield 29, 3) := by decide +kernel
theorem dX3_step_67 : decode cX3_step 67 = .ok (.iload 5, 2) := by decide +kernel
theorem dX3_step_69 : decode cX3_step 69 = .ok (.iload_n 2, 1) := by decide +kernel
theorem dX3_step_70 : decode cX3_step 70 = .ok (.iastore, 1) := by decide +kernel
theorem dX3_step_71 : decode cX3_step 71 = .ok (.aload_n 0, 1) := by decide +kernel
theorem dX3_step_72 : decode cX3_step 72 = .ok (.getfield 32, 3) := by decide +kernel
theorem dX3_step_75 : decode cX3_step 75 = .ok (.iload 5, 2) := by decide +kernel
theorem dX3_step_77 : decode cX3_step 77 = .ok (.iload_n 3, 1) := by decide +kernel
theorem dX3_step_78 : decode cX3_step 78 = .ok (.iastore, 1) := by decide +kernel
theorem dX3_step_79 : decode cX3_step 79 = .ok (.aload_n 0, 1) := by decide +kernel
theorem dX3_step_80 : decode cX3_step 80 = .ok (.getfield 35, 3) := by decide +kernel
theorem dX3_step_83 : decode cX3_step 83 = .ok (.iload 5, 2) := by decide +kernel
theorem dX3_step_85 : decode cX3_step 85 = .ok (.iload 4, 2) := by decide +kernel
theorem dX3_step_87 : decode cX3_step 87 = .ok (.iastore, 1) := by decide +kernel
theorem dX3_step_88 : decode cX3_step 88 = .ok (.aload_n 0, 1) := by decide +kernel
theorem dX3_step_89 : decode cX3_step 89 = .ok (.getfield 26, 3) := by decide +kernel
theorem dX3_step_92 : decode cX3_step 92 = .ok (.iload_n 1, 1) := by decide +kernel
theorem dX3_step_93 : decode cX3_step 93 = .ok (.dup2, 1) := by decide +kernel
theorem dX3_step_94 : decode cX3_step 94 = .ok (.iaload, 1) := by decide +kernel
theorem dX3_step_95 : decode cX3_step 95 = .ok (.iconst 1, 1) := by decide +kernel
theorem dX3_step_96 : decode cX3_step 96 = .ok (.iadd, 1) := by decide +kernel
theorem dX3_step_97 : decode cX3_step 97 = .ok (.iastore, 1) := by decide +kernel
theorem dX3_step_98 : decode cX3_step 98 = .ok (.aload_n 0, 1) := by decide +kernel
theorem dX3_step_99 : decode cX3_step 99 = .ok (.getfield 26, 3) := by decide +kernel
theorem dX3_step_102 : decode cX3_step 102 = .ok (.iload_n 1, 1) := by decide +kernel
theorem dX3_step_103 : decode cX3_step 103 = .ok (.iaload, 1) := by decide +kernel
theorem dX3_step_104 : decode cX3_step 104 = .ok (.ireturn, 1) := by decide +kernel
set_option maxRecDepth 20000 in
theorem ggX3_play_X3_isIn : GoodIn wsX3_play wsX3_isIn := goodIn_r _ [9] (by decide +kernel) (by decide +kernel)
set_option maxRecDepth 20000 in
theorem gX3_play_X3_isIn : GoodIn wsX3_play (va_wsS RX3 45 yX3_isIn wsX3_isIn) := goodIn_app (goodIn_of _ (by decide +kernel)) ggX3_play_X3_isIn
set_option maxRecDepth 20000 in
theorem ggX3_play_X3_mayBe : GoodIn wsX3_play wsX3_mayBe := goodIn_r _ [13, 14, 6, 7, 8, 9, 107, 108, 109, 110, 111, 112, 113, 114, 115, 116, 117, 118, 119] (by decide +kernel) (by decide +kernel)
set_option maxRecDepth 20000 in
theorem gX3_play_X3_mayBe : GoodIn wsX3_play (wsV RX3 125 RX3 yX3_mayBe wsX3_mayBe) := goodIn_app (goodIn_of _ (by decide +kernel)) ggX3_play_X3_mayBe
set_option maxRecDepth 20000 in
theorem ggX3_play_X3_work : GoodIn wsX3_play wsX3_work := goodIn_r _ [18, 14, 19, 20, 21, 8, 22, 23, 6, 7, 9, 24, 25, 26, 27, 28, 29, 30, 31, 32, 33, 34, 35, 36, 37, 38, 39, 40, 41, 42, 43, 44, 45, 46, 47, 48, 49, 50, 51, 52, 53, 54, 55, 56, 57, 58, 59, 60, 61, 62, 63, 64, 65, 66, 67, 68, 69, 70, 71, 72, 73, 74, 75, 76, 77, 78, 79, 80, 81, 82, 83, 84, 85, 86, 87, 88, 89, 90, 91, 92, 93, 94, 95, 96, 97, 98, 99, 100, 107, 108, 109, 110, 111, 112, 113, 114, 115, 116, 117, 118, 119] (by decide +kernel) (by decide +kernel)
set_option maxRecDepth 20000 in
theorem gX3_play_X3_work : GoodIn wsX3_play (wsV RX3 128 RX3 yX3_work wsX3_work) := goodIn_app (goodIn_of _ (by decide +kernel)) ggX3_play_X3_work
set_option maxRecDepth 20000 in
theorem ggX3_play_X3_noted : GoodIn wsX3_play wsX3_noted := goodIn_r _ [104, 105, 106, 107, 108, 109, 110, 111, 112, 113, 114, 115, 116, 117, 118, 119] (by decide +kernel) (by decide +kernel)
set_option maxRecDepth 20000 in
theorem gX3_play_X3_noted : GoodIn wsX3_play (wsV RX3 132 RX3 yX3_noted wsX3_noted) := goodIn_app (goodIn_of _ (by decide +kernel)) ggX3_play_X3_noted
theorem dX3_play_0 : decode cX3_play 0 = .ok (.iload_n 1, 1) := by decide +kernel
theorem dX3_play_1 : decode cX3_play 1 = .ok (.iconst 0, 1) := by decide +kernel
theorem dX3_play_2 : decode cX3_play 2 = .ok (.iconst 5, 1) := by decide +kernel
theorem dX3_play_3 : decode cX3_play 3 = .ok (.invokestatic 45, 3) := by decide +kernel
theorem dX3_play_6 : decode cX3_play 6 = .ok (.ifCond .eq 11, 3) := by decide +kernel
theorem dX3_play_9 : decode cX3_play 9 = .ok (.aload_n 0, 1) := by decide +kernel
theorem dX3_play_10 : decode cX3_play 10 = .ok (.iload_n 2, 1) := by decide +kernel
theorem dX3_play_11 : decode cX3_play 11 = .ok (.invokevirtual 125, 3) := by decide +kernel
theorem dX3_play_14 : decode cX3_play 14 = .ok (.ifCond .ne 6, 3) := by decide +kernel
theorem dX3_play_17 : decode cX3_play 17 = .ok (.bipush (-3), 2) := by decide +kernel
theorem dX3_play_19 : decode cX3_play 19 = .ok (.ireturn, 1) := by decide +kernel
theorem dX3_play_20 : decode cX3_play 20 = .ok (.aload_n 0, 1) := by decide +kernel
theorem dX3_play_21 : decode cX3_play 21 = .ok (.iconst (-1), 1) := by decide +kernel
theorem dX3_play_22 : decode cX3_play 22 = .ok (.putfield 38, 3) := by decide +kernel
theorem dX3_play_25 : decode cX3_play 25 = .ok (.iload_n 2, 1) := by decide +kernel
theorem dX3_play_26 : decode cX3_play 26 = .ok (.istore_n 3, 1) := by decide +kernel
theorem dX3_play_27 : decode cX3_play 27 = .ok (.iconst 0, 1) := by decide +kernel
theorem dX3_play_28 : decode cX3_play 28 = .ok (.istore 4, 2) := by decide +kernel
theorem dX3_play_30 : decode cX3_play 30 = .ok (.iload 4, 2) := by decide +kernel
theorem dX3_play_32 : decode cX3_play 32 = .ok (.aload_n 0, 1) := by decide +kernel
theorem dX3_play_33 : decode cX3_play 33 = .ok (.getfield 26, 3) := by decide +kernel
theorem dX3_play_36 : decode cX3_play 36 = .ok (.iload_n 1, 1) := by decide +kernel
theorem dX3_play_37 : decode cX3_play 37 = .ok (.iaload, 1) := by decide +kernel
theorem dX3_play_38 : decode cX3_play 38 = .ok (.if_icmp .ge 93, 3) := by decide +kernel
theorem dX3_play_41 : decode cX3_play 41 = .ok (.aload_n 0, 1) := by decide +kernel
theorem dX3_play_42 : decode cX3_play 42 = .ok (.getfield 38, 3) := by decide +kernel
theorem dX3_play_45 : decode cX3_play 45 = .ok (.iconst (-1), 1) := by decide +kernel
theorem dX3_play_46 : decode cX3_play 46 = .ok (.if_icmp .ne 85, 3) := by decide +kernel
theorem dX3_play_49 : decode cX3_play 49 = .ok (.bipush 12, 2) := by decide +kernel
theorem dX3_play_51 : decode cX3_play 51 = .ok (.iload_n 1, 1) := by decide +kernel
theorem dX3_play_52 : decode cX3_play 52 = .ok (.imul, 1) := by decide +kernel
theorem dX3_play_53 : decode cX3_play 53 = .ok (.iload 4, 2) := by decide +kernel
theorem dX3_play_55 : decode cX3_play 55 = .ok (.iadd, 1) := by decide +kernel
theorem dX3_play_56 : decode cX3_play 56 = .ok (.istore 5, 2) := by decide +kernel
theorem dX3_play_58 : decode cX3_play 58 = .ok (.aload_n 0, 1) := by decide +kernel
theorem dX3_play_59 : decode cX3_play 59 = .ok (.getfield 32, 3) := by decide +kernel
theorem dX3_play_62 : decode cX3_play 62 = .ok (.iload 5, 2) := by decide +kernel
theorem dX3_play_64 : decode cX3_play 64 = .ok (.iaload, 1) := by decide +kernel
theorem dX3_play_65 : decode cX3_play 65 = .ok (.bipush (-2), 2) := by decide +kernel
theorem dX3_play_67 : decode cX3_play 67 = .ok (.if_icmp .ne 7, 3) := by decide +kernel
theorem dX3_play_70 : decode cX3_play 70 = .ok (.iload_n 2, 1) := by decide +kernel
theorem dX3_play_71 : decode cX3_play 71 = .ok (.goto 10, 3) := by decide +kernel
theorem dX3_play_74 : decode cX3_play 74 = .ok (.aload_n 0, 1) := by decide +kernel
theorem dX3_play_75 : decode cX3_play 75 = .ok (.getfield 32, 3) := by decide +kernel
theorem dX3_play_78 : decode cX3_play 78 = .ok (.iload 5, 2) := by decide +kernel
theorem dX3_play_80 : decode cX3_play 80 = .ok (.iaload, 1) := by decide +kernel
theorem dX3_play_81 : decode cX3_play 81 = .ok (.istore 6, 2) := by decide +kernel
theorem dX3_play_83 : decode cX3_play 83 = .ok (.aload_n 0, 1) := by decide +kernel
theorem dX3_play_84 : decode cX3_play 84 = .ok (.aload_n 0, 1) := by decide +kernel
theorem dX3_play_85 : decode cX3_play 85 = .ok (.aload_n 0, 1) := by decide +kernel
theorem dX3_play_86 : decode cX3_play 86 = .ok (.getfield 29, 3) := by decide +kernel
theorem dX3_play_89 : decode cX3_play 89 = .ok (.iload 5, 2) := by decide +kernel
theorem dX3_play_91 : decode cX3_play 91 = .ok (.iaload, 1) := by decide +kernel
theorem dX3_play_92 : decode cX3_play 92 = .ok (.iload_n 3, 1) := by decide +kernel
theorem dX3_play_93 : decode cX3_play 93 = .ok (.iload 6, 2) := by decide +kernel
theorem dX3_play_95 : decode cX3_play 95 = .ok (.aload_n 0, 1) := by decide +kernel
theorem dX3_play_96 : decode cX3_play 96 = .ok (.getfield 35, 3) := by decide +kernel
theorem dX3_play_99 : decode cX3_play 99 = .ok (.iload 5, 2) := by decide +kernel
theorem dX3_play_101 : decode cX3_play 101 = .ok (.iaload, 1) := by decide +kernel
theorem dX3_play_102 : decode cX3_play 102 = .ok (.invokevirtual 128, 3) := by decide +kernel
theorem dX3_play_105 : decode cX3_play 105 = .ok (.invokevirtual 132, 3) := by decide +kernel
theorem dX3_play_108 : decode cX3_play 108 = .ok (.istore_n 3, 1) := by decide +kernel
theorem dX3_play_109 : decode cX3_play 109 = .ok (.aload_n 0, 1) := by decide +kernel
theorem dX3_play_110 : decode cX3_play 110 = .ok (.iload_n 3, 1) := by decide +kernel
theorem dX3_play_111 : decode cX3_play 111 = .ok (.bipush (-10), 2) := by decide +kernel
theorem dX3_play_113 : decode cX3_play 113 = .ok (.if_icmp .ge 8, 3) := by decide +kernel
theorem dX3_play_116 : decode cX3_play 116 = .ok (.iload 4, 2) := by decide +kernel
theorem dX3_play_118 : decode cX3_play 118 = .ok (.goto 4, 3) := by decide +kernel
theorem dX3_play_121 : decode cX3_play 121 = .ok (.iconst (-1), 1) := by decide +kernel
theorem dX3_play_122 : decode cX3_play 122 = .ok (.putfield 38, 3) := by decide +kernel
theorem dX3_play_125 : decode cX3_play 125 = .ok (.iinc 4 1, 3) := by decide +kernel
theorem dX3_play_128 : decode cX3_play 128 = .ok (.goto (-98), 3) := by decide +kernel
theorem dX3_play_131 : decode cX3_play 131 = .ok (.iload_n 3, 1) := by decide +kernel
theorem dX3_play_132 : decode cX3_play 132 = .ok (.ireturn, 1) := by decide +kernel
theorem dX3_stopped_0 : decode cX3_stopped 0 = .ok (.aload_n 0, 1) := by decide +kernel
theorem dX3_stopped_1 : decode cX3_stopped 1 = .ok (.getfield 38, 3) := by decide +kernel
theorem dX3_stopped_4 : decode cX3_stopped 4 = .ok (.ireturn, 1) := by decide +kernel
set_option maxRecDepth 20000 in
theorem ggX3_empty_X3_isIn : GoodIn wsX3_empty wsX3_isIn := goodIn_r _ [5] (by decide +kernel) (by decide +kernel)
set_option maxRecDepth 20000 in
theorem gX3_empty_X3_isIn : GoodIn wsX3_empty (va_wsS RX3 45 yX3_isIn wsX3_isIn) := goodIn_app (goodIn_of _ (by decide +kernel)) ggX3_empty_X3_isIn
theorem dX3_empty_0 : decode cX3_empty 0 = .ok (.iload_n 1, 1) := by decide +kernel
theorem dX3_empty_1 : decode cX3_empty 1 = .ok (.iconst 0, 1) := by decide +kernel
theorem dX3_empty_2 : decode cX3_empty 2 = .ok (.iconst 5, 1) := by decide +kernel
theorem dX3_empty_3 : decode cX3_empty 3 = .ok (.invokestatic 45, 3) := by decide +kernel
theorem dX3_empty_6 : decode cX3_empty 6 = .ok (.ifCond .ne 6, 3) := by decide +kernel
theorem dX3_empty_9 : decode cX3_empty 9 = .ok (.bipush (-3), 2) := by decide +kernel
theorem dX3_empty_11 : decode cX3_empty 11 = .ok (.ireturn, 1) := by decide +kernel
theorem dX3_empty_12 : decode cX3_empty 12 = .ok (.aload_n 0, 1) := by decide +kernel
theorem dX3_empty_13 : decode cX3_empty 13 = .ok (.getfield 26, 3) := by decide +kernel
theorem dX3_empty_16 : decode cX3_empty 16 = .ok (.iload_n 1, 1) := by decide +kernel
theorem dX3_empty_17 : decode cX3_empty 17 = .ok (.iaload, 1) := by decide +kernel
theorem dX3_empty_18 : decode cX3_empty 18 = .ok (.istore_n 2, 1) := by decide +kernel
theorem dX3_empty_19 : decode cX3_empty 19 = .ok (.aload_n 0, 1) := by decide +kernel
theorem dX3_empty_20 : decode cX3_empty 20 = .ok (.getfield 26, 3) := by decide +kernel
theorem dX3_empty_23 : decode cX3_empty 23 = .ok (.iload_n 1, 1) := by decide +kernel
theorem dX3_empty_24 : decode cX3_empty 24 = .ok (.iconst 0, 1) := by decide +kernel
theorem dX3_empty_25 : decode cX3_empty 25 = .ok (.iastore, 1) := by decide +kernel
theorem dX3_empty_26 : decode cX3_empty 26 = .ok (.iload_n 2, 1) := by decide +kernel
theorem dX3_empty_27 : decode cX3_empty 27 = .ok (.ireturn, 1) := by decide +kernel
set_option maxRecDepth 20000 in
theorem ggX3_is_X3_isValue : GoodIn wsX3_is wsX3_isValue := goodIn_r _ [5, 6, 7, 8, 4, 9, 18, 19, 20, 21, 22, 23, 24, 25, 26, 27, 28, 29, 30] (by decide +kernel) (by decide +kernel)
set_option maxRecDepth 20000 in
theorem gX3_is_X3_isValue : GoodIn wsX3_is (wsV RX3 57 RX3 yX3_isValue wsX3_isValue) := goodIn_app (goodIn_of _ (by decide +kernel)) ggX3_is_X3_isValue
set_option maxRecDepth 20000 in
theorem ggX3_is_X3_isIn : GoodIn wsX3_is wsX3_isIn := goodIn_r _ [9] (by decide +kernel) (by decide +kernel)
set_option maxRecDepth 20000 in
theorem gX3_is_X3_isIn : GoodIn wsX3_is (va_wsS RX3 45 yX3_isIn wsX3_isIn) := goodIn_app (goodIn_of _ (by decide +kernel)) ggX3_is_X3_isIn
set_option maxRecDepth 20000 in
theorem ggX3_is_X3_isOf : GoodIn wsX3_is wsX3_isOf := goodIn_r _ [13, 14, 15, 16, 4, 17, 18, 19, 20, 21, 22, 23, 24, 25, 26, 27, 28, 29, 30] (by decide +kernel) (by decide +kernel)
set_option maxRecDepth 20000 in
theorem gX3_is_X3_isOf : GoodIn wsX3_is (wsV RX3 68 RX3 yX3_isOf wsX3_isOf) := goodIn_app (goodIn_of _ (by decide +kernel)) ggX3_is_X3_isOf
theorem dX3_is_0 : decode cX3_is 0 = .ok (.aload_n 0, 1) := by decide +kernel
theorem dX3_is_1 : decode cX3_is 1 = .ok (.iload_n 1, 1) := by decide +kernel
theorem dX3_is_2 : decode cX3_is 2 = .ok (.invokevirtual 57, 3) := by decide +kernel
theorem dX3_is_5 : decode cX3_is 5 = .ok (.ifCond .eq 13, 3) := by decide +kernel
theorem dX3_is_8 : decode cX3_is 8 = .ok (.iload_n 2, 1) := by decide +kernel
theorem dX3_is_9 : decode cX3_is 9 = .ok (.iconst 0, 1) := by decide +kernel
theorem dX3_is_10 : decode cX3_is 10 = .ok (.bipush 11, 2) := by decide +kernel
theorem dX3_is_12 : decode cX3_is 12 = .ok (.invokestatic 45, 3) := by decide +kernel
theorem dX3_is_15 : decode cX3_is 15 = .ok (.ifCond .ne 6, 3) := by decide +kernel
theorem dX3_is_18 : decode cX3_is 18 = .ok (.bipush (-3), 2) := by decide +kernel
theorem dX3_is_20 : decode cX3_is 20 = .ok (.ireturn, 1) := by decide +kernel
theorem dX3_is_21 : decode cX3_is 21 = .ok (.aload_n 0, 1) := by decide +kernel
theorem dX3_is_22 : decode cX3_is 22 = .ok (.iload_n 1, 1) := by decide +kernel
theorem dX3_is_23 : decode cX3_is 23 = .ok (.iload_n 2, 1) := by decide +kernel
theorem dX3_is_24 : decode cX3_is 24 = .ok (.invokevirtual 68, 3) := by decide +kernel
theorem dX3_is_27 : decode cX3_is 27 = .ok (.ifCond .eq 7, 3) := by decide +kernel
theorem dX3_is_30 : decode cX3_is 30 = .ok (.iconst 1, 1) := by decide +kernel
theorem dX3_is_31 : decode cX3_is 31 = .ok (.goto 4, 3) := by decide +kernel
theorem dX3_is_34 : decode cX3_is 34 = .ok (.iconst 0, 1) := by decide +kernel
theorem dX3_is_35 : decode cX3_is 35 = .ok (.ireturn, 1) := by decide +kernel
set_option maxRecDepth 20000 in
theorem ggX3_views_X3_isValue : GoodIn wsX3_views wsX3_isValue := goodIn_r _ [5, 6, 7, 8, 4, 9, 18, 19, 20, 21, 22, 23, 24, 25, 26, 27, 28, 29, 30] (by decide +kernel) (by decide +kernel)
set_option maxRecDepth 20000 in
theorem gX3_views_X3_isValue : GoodIn wsX3_views (wsV RX3 57 RX3 yX3_isValue wsX3_isValue) := goodIn_app (goodIn_of _ (by decide +kernel)) ggX3_views_X3_isValue
set_option maxRecDepth 20000 in
theorem ggX3_views_X3_isOf : GoodIn wsX3_views wsX3_isOf := goodIn_r _ [13, 14, 15, 16, 4, 17, 18, 19, 20, 21, 22, 23, 24, 25, 26, 27, 28, 29, 30] (by decide +kernel) (by decide +kernel)
set_option maxRecDepth 20000 in
theorem gX3_views_X3_isOf : GoodIn wsX3_views (wsV RX3 68 RX3 yX3_isOf wsX3_isOf) := goodIn_app (goodIn_of _ (by decide +kernel)) ggX3_views_X3_isOf
theorem dX3_views_0 : decode cX3_views 0 = .ok (.aload_n 0, 1) := by decide +kernel
end
section
theorem dX3_views_1 : decode cX3_views 1 = .ok (.iload_n 1, 1) := by decide +kernel
theorem dX3_views_2 : decode cX3_views 2 = .ok (.invokevirtual 57, 3) := by decide +kernel
theorem dX3_views_5 : decode cX3_views 5 = .ok (.ifCond .ne 6, 3) := by decide +kernel
theorem dX3_views_8 : decode cX3_views 8 = .ok (.bipush (-3), 2) := by decide +kernel
theorem dX3_views_10 : decode cX3_views 10 = .ok (.ireturn, 1) := by decide +kernel
theorem dX3_views_11 : decode cX3_views 11 = .ok (.iconst 0, 1) := by decide +kernel
theorem dX3_views_12 : decode cX3_views 12 = .ok (.istore_n 2, 1) := by decide +kernel
theorem dX3_views_13 : decode cX3_views 13 = .ok (.iconst 0, 1) := by decide +kernel
theorem dX3_views_14 : decode cX3_views 14 = .ok (.istore_n 3, 1) := by decide +kernel
theorem dX3_views_15 : decode cX3_views 15 = .ok (.iload_n 3, 1) := by decide +kernel
theorem dX3_views_16 : decode cX3_views 16 = .ok (.bipush 11, 2) := by decide +kernel
theorem dX3_views_18 : decode cX3_views 18 = .ok (.if_icmp .gt 28, 3) := by decide +kernel
theorem dX3_views_21 : decode cX3_views 21 = .ok (.iload_n 2, 1) := by decide +kernel
theorem dX3_views_22 : decode cX3_views 22 = .ok (.aload_n 0, 1) := by decide +kernel
theorem dX3_views_23 : decode cX3_views 23 = .ok (.iload_n 1, 1) := by decide +kernel
theorem dX3_views_24 : decode cX3_views 24 = .ok (.iload_n 3, 1) := by decide +kernel
theorem dX3_views_25 : decode cX3_views 25 = .ok (.invokevirtual 68, 3) := by decide +kernel
theorem dX3_views_28 : decode cX3_views 28 = .ok (.ifCond .eq 9, 3) := by decide +kernel
theorem dX3_views_31 : decode cX3_views 31 = .ok (.iconst 1, 1) := by decide +kernel
theorem dX3_views_32 : decode cX3_views 32 = .ok (.iload_n 3, 1) := by decide +kernel
theorem dX3_views_33 : decode cX3_views 33 = .ok (.ishl, 1) := by decide +kernel
theorem dX3_views_34 : decode cX3_views 34 = .ok (.goto 4, 3) := by decide +kernel
theorem dX3_views_37 : decode cX3_views 37 = .ok (.iconst 0, 1) := by decide +kernel
theorem dX3_views_38 : decode cX3_views 38 = .ok (.ior, 1) := by decide +kernel
theorem dX3_views_39 : decode cX3_views 39 = .ok (.istore_n 2, 1) := by decide +kernel
theorem dX3_views_40 : decode cX3_views 40 = .ok (.iinc 3 1, 3) := by decide +kernel
theorem dX3_views_43 : decode cX3_views 43 = .ok (.goto (-28), 3) := by decide +kernel
theorem dX3_views_46 : decode cX3_views 46 = .ok (.iload_n 2, 1) := by decide +kernel
theorem dX3_views_47 : decode cX3_views 47 = .ok (.ireturn, 1) := by decide +kernel
set_option maxRecDepth 20000 in
theorem ggX3_size_X3_isValue : GoodIn wsX3_size wsX3_isValue := goodIn_r _ [6, 7, 8, 9, 5, 10, 11, 12, 13, 14, 15, 16, 17, 18, 19, 20, 21, 22, 23] (by decide +kernel) (by decide +kernel)
set_option maxRecDepth 20000 in
theorem gX3_size_X3_isValue : GoodIn wsX3_size (wsV RX3 57 RX3 yX3_isValue wsX3_isValue) := goodIn_app (goodIn_of _ (by decide +kernel)) ggX3_size_X3_isValue
theorem dX3_size_0 : decode cX3_size 0 = .ok (.aload_n 0, 1) := by decide +kernel
theorem dX3_size_1 : decode cX3_size 1 = .ok (.iload_n 1, 1) := by decide +kernel
theorem dX3_size_2 : decode cX3_size 2 = .ok (.invokevirtual 57, 3) := by decide +kernel
theorem dX3_size_5 : decode cX3_size 5 = .ok (.ifCond .eq 12, 3) := by decide +kernel
theorem dX3_size_8 : decode cX3_size 8 = .ok (.aload_n 0, 1) := by decide +kernel
theorem dX3_size_9 : decode cX3_size 9 = .ok (.getfield 13, 3) := by decide +kernel
theorem dX3_size_12 : decode cX3_size 12 = .ok (.iload_n 1, 1) := by decide +kernel
theorem dX3_size_13 : decode cX3_size 13 = .ok (.iaload, 1) := by decide +kernel
theorem dX3_size_14 : decode cX3_size 14 = .ok (.goto 5, 3) := by decide +kernel
theorem dX3_size_17 : decode cX3_size 17 = .ok (.bipush (-3), 2) := by decide +kernel
theorem dX3_size_19 : decode cX3_size 19 = .ok (.ireturn, 1) := by decide +kernel
theorem dX3_count_0 : decode cX3_count 0 = .ok (.iload_n 1, 1) := by decide +kernel
theorem dX3_count_1 : decode cX3_count 1 = .ok (.ifCond .ne 10, 3) := by decide +kernel
theorem dX3_count_4 : decode cX3_count 4 = .ok (.aload_n 0, 1) := by decide +kernel
theorem dX3_count_5 : decode cX3_count 5 = .ok (.getfield 42, 3) := by decide +kernel
theorem dX3_count_8 : decode cX3_count 8 = .ok (.goto 29, 3) := by decide +kernel
theorem dX3_count_11 : decode cX3_count 11 = .ok (.iload_n 1, 1) := by decide +kernel
theorem dX3_count_12 : decode cX3_count 12 = .ok (.iconst 1, 1) := by decide +kernel
theorem dX3_count_13 : decode cX3_count 13 = .ok (.if_icmp .ne 10, 3) := by decide +kernel
theorem dX3_count_16 : decode cX3_count 16 = .ok (.aload_n 0, 1) := by decide +kernel
theorem dX3_count_17 : decode cX3_count 17 = .ok (.getfield 119, 3) := by decide +kernel
theorem dX3_count_20 : decode cX3_count 20 = .ok (.goto 17, 3) := by decide +kernel
theorem dX3_count_23 : decode cX3_count 23 = .ok (.iload_n 1, 1) := by decide +kernel
theorem dX3_count_24 : decode cX3_count 24 = .ok (.iconst 2, 1) := by decide +kernel
theorem dX3_count_25 : decode cX3_count 25 = .ok (.if_icmp .ne 10, 3) := by decide +kernel
theorem dX3_count_28 : decode cX3_count 28 = .ok (.aload_n 0, 1) := by decide +kernel
theorem dX3_count_29 : decode cX3_count 29 = .ok (.getfield 122, 3) := by decide +kernel
theorem dX3_count_32 : decode cX3_count 32 = .ok (.goto 5, 3) := by decide +kernel
theorem dX3_count_35 : decode cX3_count 35 = .ok (.bipush (-3), 2) := by decide +kernel
theorem dX3_count_37 : decode cX3_count 37 = .ok (.ireturn, 1) := by decide +kernel
theorem dX3_clear_0 : decode cX3_clear 0 = .ok (.aload_n 0, 1) := by decide +kernel
theorem dX3_clear_1 : decode cX3_clear 1 = .ok (.getfield 42, 3) := by decide +kernel
theorem dX3_clear_4 : decode cX3_clear 4 = .ok (.istore_n 1, 1) := by decide +kernel
theorem dX3_clear_5 : decode cX3_clear 5 = .ok (.aload_n 0, 1) := by decide +kernel
theorem dX3_clear_6 : decode cX3_clear 6 = .ok (.iconst 0, 1) := by decide +kernel
theorem dX3_clear_7 : decode cX3_clear 7 = .ok (.putfield 42, 3) := by decide +kernel
theorem dX3_clear_10 : decode cX3_clear 10 = .ok (.iconst 0, 1) := by decide +kernel
theorem dX3_clear_11 : decode cX3_clear 11 = .ok (.istore_n 2, 1) := by decide +kernel
theorem dX3_clear_12 : decode cX3_clear 12 = .ok (.iload_n 2, 1) := by decide +kernel
theorem dX3_clear_13 : decode cX3_clear 13 = .ok (.bipush 6, 2) := by decide +kernel
theorem dX3_clear_15 : decode cX3_clear 15 = .ok (.if_icmp .ge 16, 3) := by decide +kernel
theorem dX3_clear_18 : decode cX3_clear 18 = .ok (.aload_n 0, 1) := by decide +kernel
theorem dX3_clear_19 : decode cX3_clear 19 = .ok (.getfield 26, 3) := by decide +kernel
theorem dX3_clear_22 : decode cX3_clear 22 = .ok (.iload_n 2, 1) := by decide +kernel
theorem dX3_clear_23 : decode cX3_clear 23 = .ok (.iconst 0, 1) := by decide +kernel
theorem dX3_clear_24 : decode cX3_clear 24 = .ok (.iastore, 1) := by decide +kernel
theorem dX3_clear_25 : decode cX3_clear 25 = .ok (.iinc 2 1, 3) := by decide +kernel
theorem dX3_clear_28 : decode cX3_clear 28 = .ok (.goto (-16), 3) := by decide +kernel
theorem dX3_clear_31 : decode cX3_clear 31 = .ok (.iload_n 1, 1) := by decide +kernel
theorem dX3_clear_32 : decode cX3_clear 32 = .ok (.ireturn, 1) := by decide +kernel
set_option maxRecDepth 20000 in
theorem ggL_law_X2_init : GoodIn wsL_law wsX2_init := goodIn_r _ [9, 10, 11, 12, 13, 14, 15, 16, 17, 18, 19, 20, 21, 22, 23, 24, 25, 26, 27, 28, 29, 30, 31, 32, 33, 34, 35, 36, 37, 38, 39, 40, 521, 522, 523, 524, 525, 503, 504, 505, 506, 507, 526, 527, 528, 529] (by decide +kernel) (by decide +kernel)
set_option maxRecDepth 20000 in
theorem gL_law_X2_init : GoodIn wsL_law (wsX2_init) := ggL_law_X2_init
set_option maxRecDepth 20000 in
theorem ggL_law_X3_init : GoodIn wsL_law wsX3_init := goodIn_r _ [43, 44, 11, 12, 27, 45, 46, 47, 31, 48, 49, 50, 51, 52, 53, 54, 508, 509, 510, 511, 512, 513, 514, 515, 516, 517, 518, 519, 520] (by decide +kernel) (by decide +kernel)
set_option maxRecDepth 20000 in
theorem gL_law_X3_init : GoodIn wsL_law (wsX3_init) := ggL_law_X3_init
set_option maxRecDepth 20000 in
theorem ggL_law_X2_row : GoodIn wsL_law wsX2_row := goodIn_r _ [58, 16, 59, 60, 2, 61, 62, 63, 64, 15, 65, 33, 28, 29, 30, 32, 66, 67, 503, 504, 505, 506, 507, 521, 522, 523, 524, 525] (by decide +kernel) (by decide +kernel)
set_option maxRecDepth 20000 in
theorem gL_law_X2_row : GoodIn wsL_law (wsV RL 13 RX2 yX2_row wsX2_row) := goodIn_app (goodIn_of _ (by decide +kernel)) ggL_law_X2_row
set_option maxRecDepth 20000 in
theorem ggL_law_X3_row : GoodIn wsL_law wsX3_row := goodIn_r _ [71, 72, 73, 74, 5, 75, 76, 77, 78, 79, 45, 46, 47, 48, 49, 508, 509, 510, 511, 512, 513, 514, 515, 516, 517, 518, 519, 520] (by decide +kernel) (by decide +kernel)
set_option maxRecDepth 20000 in
theorem gL_law_X3_row : GoodIn wsL_law (wsV RL 17 RX3 yX3_row wsX3_row) := goodIn_app (goodIn_of _ (by decide +kernel)) ggL_law_X3_row
set_option maxRecDepth 20000 in
theorem ggL_law_X2_board : GoodIn wsL_law wsX2_board := goodIn_r _ [83, 16, 84, 66, 2, 67, 59, 60, 61, 62, 63, 64, 15, 65, 33, 28, 29, 30, 32, 503, 504, 505, 506, 507, 521, 522, 523, 524, 525] (by decide +kernel) (by decide +kernel)
set_option maxRecDepth 20000 in
theorem gL_law_X2_board : GoodIn wsL_law (wsV RL 18 RX2 yX2_board wsX2_board) := goodIn_app (goodIn_of _ (by decide +kernel)) ggL_law_X2_board
set_option maxRecDepth 20000 in
theorem ggL_law_X3_board : GoodIn wsL_law wsX3_board := goodIn_r _ [88, 72, 73, 74, 5, 75, 76, 77, 78, 79, 45, 46, 47, 48, 49, 508, 509, 510, 511, 512, 513, 514, 515, 516, 517, 518, 519, 520] (by decide +kernel) (by decide +kernel)
set_option maxRecDepth 20000 in
theorem gL_law_X3_board : GoodIn wsL_law (wsV RL 21 RX3 yX3_board wsX3_board) := goodIn_app (goodIn_of _ (by decide +kernel)) ggL_law_X3_board
set_option maxRecDepth 20000 in
theorem ggL_law_X2_wire : GoodIn wsL_law wsX2_wire := goodIn_r _ [92, 16, 93, 94, 95, 15, 96, 30, 97, 63, 64, 65, 33, 28, 29, 32, 60, 2, 61, 66, 67, 98, 99, 100, 101, 503, 504, 505, 506, 507, 521, 522, 523, 524, 525] (by decide +kernel) (by decide +kernel)
set_option maxRecDepth 20000 in
theorem gL_law_X2_wire : GoodIn wsL_law (wsV RL 22 RX2 yX2_wire wsX2_wire) := goodIn_app (goodIn_of _ (by decide +kernel)) ggL_law_X2_wire
set_option maxRecDepth 20000 in
theorem ggL_law_X3_wire : GoodIn wsL_law wsX3_wire := goodIn_r _ [105, 72, 47, 76, 77, 78, 5, 79, 45, 46, 48, 49, 508, 509, 510, 511, 512, 513, 514, 515, 516, 517, 518, 519, 520] (by decide +kernel) (by decide +kernel)
set_option maxRecDepth 20000 in
theorem gL_law_X3_wire : GoodIn wsL_law (wsV RL 26 RX3 yX3_wire wsX3_wire) := goodIn_app (goodIn_of _ (by decide +kernel)) ggL_law_X3_wire
set_option maxRecDepth 20000 in
theorem ggL_law_X2_set : GoodIn wsL_law wsX2_set := goodIn_r _ [109, 16, 110, 111, 112, 15, 113, 28, 98, 99, 100, 101, 33, 114, 115, 116, 117, 29, 118, 119, 120, 121, 32, 122, 123, 124, 125, 503, 504, 505, 506, 507, 521, 522, 523, 524, 525] (by decide +kernel) (by decide +kernel)
set_option maxRecDepth 20000 in
theorem gL_law_X2_set : GoodIn wsL_law (wsV RL 29 RX2 yX2_set wsX2_set) := goodIn_app (goodIn_of _ (by decide +kernel)) ggL_law_X2_set
set_option maxRecDepth 20000 in
theorem ggL_law_X3_set : GoodIn wsL_law wsX3_set := goodIn_r _ [129, 46, 48, 45, 130, 131, 132, 5, 133, 72, 73, 74, 75, 134, 135, 136, 137, 138, 139, 140, 508, 509, 510, 511, 512, 513, 514, 515, 516, 517, 518, 519, 520] (by decide +kernel) (by decide +kernel)
set_option maxRecDepth 20000 in
theorem gL_law_X3_set : GoodIn wsL_law (wsV RL 33 RX3 yX3_set wsX3_set) := goodIn_app (goodIn_of _ (by decide +kernel)) ggL_law_X3_set
set_option maxRecDepth 20000 in
theorem ggL_law_X2_number : GoodIn wsL_law wsX2_number := goodIn_r _ [144, 16, 145, 146, 147, 15, 148, 28, 98, 99, 100, 101, 33, 149, 2, 150, 151, 152, 153, 154, 30, 110, 111, 112, 113, 155, 156, 157, 158, 32, 122, 115, 116, 117, 29, 503, 504, 505, 506, 507, 521, 522, 523, 524, 525] (by decide +kernel) (by decide +kernel)
set_option maxRecDepth 20000 in
theorem gL_law_X2_number : GoodIn wsL_law (wsV RL 34 RX2 yX2_number wsX2_number) := goodIn_app (goodIn_of _ (by decide +kernel)) ggL_law_X2_number
set_option maxRecDepth 20000 in
theorem ggL_law_X3_number : GoodIn wsL_law wsX3_number := goodIn_r _ [162, 47, 46, 48, 130, 131, 132, 5, 133, 72, 73, 74, 75, 163, 164, 165, 166, 45, 167, 168, 169, 134, 135, 136, 137, 508, 509, 510, 511, 512, 513, 514, 515, 516, 517, 518, 519, 520] (by decide +kernel) (by decide +kernel)
set_option maxRecDepth 20000 in
theorem gL_law_X3_number : GoodIn wsL_law (wsV RL 38 RX3 yX3_number wsX3_number) := goodIn_app (goodIn_of _ (by decide +kernel)) ggL_law_X3_number
set_option maxRecDepth 20000 in
theorem ggL_law_X2_act : GoodIn wsL_law wsX2_act := goodIn_r _ [173, 174, 175, 2, 176, 177, 178, 179, 180, 16, 181, 99, 100, 15, 101, 33, 182, 183, 184, 185, 186, 187, 188, 189, 190, 191, 192, 193, 145, 146, 147, 148, 28, 98, 149, 150, 194, 195, 196, 197, 29, 198, 199, 200, 201, 202, 203, 204, 110, 111, 112, 113, 205, 206, 207, 208, 155, 156, 157, 158, 32, 122, 115, 116, 117, 209, 210, 211, 212, 97, 63, 64, 65, 30, 60, 61, 66, 67, 213, 119, 120, 121, 123, 124, 125, 62, 214, 215, 216, 217, 118, 218, 219, 220, 221, 222, 223, 224, 225, 226, 227, 228, 229, 230, 231, 232, 233, 234, 235, 236, 237, 238, 239, 240, 241, 242, 243, 84, 114, 244, 245, 246, 247, 248, 249, 250, 251, 252, 253, 254, 255, 256, 257, 258, 259, 260, 261, 262, 263, 264, 265, 266, 151, 152, 153, 154, 267, 268, 269, 270, 93, 94, 95, 96, 271, 272, 273, 274, 275, 276, 277, 278, 279, 280, 281, 282, 283, 284, 285, 286, 287, 288, 289, 290, 291, 292, 293, 294, 295, 296, 59, 297, 298, 299, 300, 301, 302, 303, 304, 305, 306, 307, 22, 23, 308, 309, 310, 503, 504, 505, 506, 507, 521, 522, 523, 524, 525] (by decide +kernel) (by decide +kernel)
set_option maxRecDepth 20000 in
theorem gL_law_X2_act : GoodIn wsL_law (wsV RL 39 RX2 yX2_act wsX2_act) := goodIn_app (goodIn_of _ (by decide +kernel)) ggL_law_X2_act
set_option maxRecDepth 20000 in
theorem ggL_law_X3_act : GoodIn wsL_law wsX3_act := goodIn_r _ [314, 73, 74, 5, 75, 315, 316, 317, 318, 72, 319, 320, 321, 322, 323, 324, 325, 326, 46, 163, 164, 165, 166, 45, 167, 168, 169, 327, 328, 329, 330, 331, 332, 333, 49, 334, 335, 336, 337, 338, 339, 340, 341, 342, 343, 344, 345, 76, 77, 78, 79, 47, 48, 346, 347, 348, 349, 134, 135, 136, 137, 350, 351, 352, 353, 354, 355, 356, 357, 138, 139, 140, 358, 359, 360, 361, 362, 363, 364, 365, 366, 367, 368, 369, 370, 371, 372, 373, 374, 375, 376, 377, 378, 379, 380, 381, 382, 383, 384, 385, 386, 387, 508, 509, 510, 511, 512, 513, 514, 515, 516, 517, 518, 519, 520] (by decide +kernel) (by decide +kernel)
set_option maxRecDepth 20000 in
theorem gL_law_X3_act : GoodIn wsL_law (wsV RL 43 RX3 yX3_act wsX3_act) := goodIn_app (goodIn_of _ (by decide +kernel)) ggL_law_X3_act
set_option maxRecDepth 20000 in
theorem ggL_law_X2_step : GoodIn wsL_law wsX2_step := goodIn_r _ [391, 20, 177, 178, 179, 2, 180, 16, 181, 99, 100, 15, 101, 33, 392, 393, 394, 19, 395, 174, 175, 176, 396, 397, 398, 399, 37, 38, 39, 40, 400, 503, 504, 505, 506, 507, 521, 522, 523, 524, 525, 526, 527, 528, 529] (by decide +kernel) (by decide +kernel)
set_option maxRecDepth 20000 in
theorem gL_law_X2_step : GoodIn wsL_law (wsV RL 44 RX2 yX2_step wsX2_step) := goodIn_app (goodIn_of _ (by decide +kernel)) ggL_law_X2_step
set_option maxRecDepth 20000 in
theorem ggL_law_X3_step : GoodIn wsL_law wsX3_step := goodIn_r _ [404, 50, 51, 52, 53, 73, 74, 5, 75, 315, 316, 317, 318, 72, 508, 509, 510, 511, 512, 513, 514, 515, 516, 517, 518, 519, 520] (by decide +kernel) (by decide +kernel)
set_option maxRecDepth 20000 in
theorem gL_law_X3_step : GoodIn wsL_law (wsV RL 47 RX3 yX3_step wsX3_step) := goodIn_app (goodIn_of _ (by decide +kernel)) ggL_law_X3_step
set_option maxRecDepth 20000 in
theorem ggL_law_X2_play : GoodIn wsL_law wsX2_play := goodIn_r _ [408, 20, 21, 392, 393, 394, 19, 395, 177, 178, 179, 2, 180, 16, 181, 99, 100, 15, 101, 33, 409, 410, 411, 412, 37, 400, 413, 414, 415, 416, 38, 417, 418, 419, 420, 421, 422, 423, 424, 39, 425, 426, 427, 428, 40, 182, 183, 184, 185, 186, 187, 188, 189, 190, 191, 192, 193, 145, 146, 147, 148, 28, 98, 149, 150, 194, 195, 196, 197, 29, 198, 199, 200, 201, 202, 203, 204, 110, 111, 112, 113, 205, 206, 207, 208, 155, 156, 157, 158, 32, 122, 115, 116, 117, 209, 210, 211, 212, 97, 63, 64, 65, 30, 60, 61, 66, 67, 213, 119, 120, 121, 123, 124, 125, 62, 214, 215, 216, 217, 118, 218, 219, 220, 221, 222, 223, 224, 225, 226, 227, 228, 229, 230, 231, 232, 233, 234, 235, 236, 237, 238, 239, 240, 241, 242, 243, 84, 114, 244, 245, 246, 247, 248, 249, 250, 251, 252, 253, 254, 255, 256, 257, 258, 259, 260, 261, 262, 263, 264, 265, 266, 151, 152, 153, 154, 267, 268, 269, 270, 93, 94, 95, 96, 271, 272, 273, 274, 275, 276, 277, 278, 279, 280, 281, 282, 283, 284, 285, 286, 287, 288, 289, 290, 291, 292, 293, 294, 295, 296, 59, 297, 298, 299, 300, 301, 302, 303, 304, 305, 306, 307, 22, 23, 308, 309, 310, 503, 504, 505, 506, 507, 521, 522, 523, 524, 525, 526, 527, 528, 529] (by decide +kernel) (by decide +kernel)
set_option maxRecDepth 20000 in
theorem gL_law_X2_play : GoodIn wsL_law (wsV RL 48 RX2 yX2_play wsX2_play) := goodIn_app (goodIn_of _ (by decide +kernel)) ggL_law_X2_play
set_option maxRecDepth 20000 in
theorem ggL_law_X3_play : GoodIn wsL_law wsX3_play := goodIn_r _ [432, 54, 50, 52, 51, 53, 73, 74, 5, 75, 315, 316, 317, 318, 72, 319, 320, 321, 322, 323, 324, 325, 326, 46, 163, 164, 165, 166, 45, 167, 168, 169, 327, 328, 329, 330, 331, 332, 333, 49, 334, 335, 336, 337, 338, 339, 340, 341, 342, 343, 344, 345, 76, 77, 78, 79, 47, 48, 346, 347, 348, 349, 134, 135, 136, 137, 350, 351, 352, 353, 354, 355, 356, 357, 138, 139, 140, 358, 359, 360, 361, 362, 363, 364, 365, 366, 367, 368, 369, 370, 371, 372, 373, 374, 375, 376, 377, 378, 379, 380, 381, 382, 383, 384, 385, 386, 387, 508, 509, 510, 511, 512, 513, 514, 515, 516, 517, 518, 519, 520] (by decide +kernel) (by decide +kernel)
set_option maxRecDepth 20000 in
theorem gL_law_X3_play : GoodIn wsL_law (wsV RL 51 RX3 yX3_play wsX3_play) := goodIn_app (goodIn_of _ (by decide +kernel)) ggL_law_X3_play
set_option maxRecDepth 20000 in
theorem ggL_law_X2_stopped : GoodIn wsL_law wsX2_stopped := goodIn_r _ [436, 21, 503, 504, 505, 506, 507] (by decide +kernel) (by decide +kernel)
set_option maxRecDepth 20000 in
theorem gL_law_X2_stopped : GoodIn wsL_law (wsV RL 52 RX2 yX2_stopped wsX2_stopped) := goodIn_app (goodIn_of _ (by decide +kernel)) ggL_law_X2_stopped
set_option maxRecDepth 20000 in
theorem ggL_law_X3_stopped : GoodIn wsL_law wsX3_stopped := goodIn_r _ [440, 54, 508, 509, 510, 511, 512, 513, 514, 515, 516, 517, 518, 519, 520] (by decide +kernel) (by decide +kernel)
set_option maxRecDepth 20000 in
theorem gL_law_X3_stopped : GoodIn wsL_law (wsV RL 56 RX3 yX3_stopped wsX3_stopped) := goodIn_app (goodIn_of _ (by decide +kernel)) ggL_law_X3_stopped
set_option maxRecDepth 20000 in
theorem ggL_law_X2_empty : GoodIn wsL_law wsX2_empty := goodIn_r _ [444, 20, 392, 393, 394, 19, 395, 445, 446, 447, 448, 37, 449, 410, 411, 412, 400, 503, 504, 505, 506, 507, 526, 527, 528, 529] (by decide +kernel) (by decide +kernel)
set_option maxRecDepth 20000 in
theorem gL_law_X2_empty : GoodIn wsL_law (wsV RL 57 RX2 yX2_empty wsX2_empty) := goodIn_app (goodIn_of _ (by decide +kernel)) ggL_law_X2_empty
set_option maxRecDepth 20000 in
theorem ggL_law_X3_empty : GoodIn wsL_law wsX3_empty := goodIn_r _ [453, 50, 73, 74, 5, 75, 508, 509, 510, 511, 512, 513, 514, 515, 516, 517, 518, 519, 520] (by decide +kernel) (by decide +kernel)
set_option maxRecDepth 20000 in
theorem gL_law_X3_empty : GoodIn wsL_law (wsV RL 61 RX3 yX3_empty wsX3_empty) := goodIn_app (goodIn_of _ (by decide +kernel)) ggL_law_X3_empty
set_option maxRecDepth 20000 in
theorem ggL_law_X2_is : GoodIn wsL_law wsX2_is := goodIn_r _ [457, 16, 181, 99, 100, 15, 101, 33, 301, 302, 2, 303, 145, 146, 147, 148, 28, 98, 149, 150, 503, 504, 505, 506, 507, 521, 522, 523, 524, 525] (by decide +kernel) (by decide +kernel)
set_option maxRecDepth 20000 in
theorem gL_law_X2_is : GoodIn wsL_law (wsV RL 62 RX2 yX2_is wsX2_is) := goodIn_app (goodIn_of _ (by decide +kernel)) ggL_law_X2_is
set_option maxRecDepth 20000 in
theorem ggL_law_X3_is : GoodIn wsL_law wsX3_is := goodIn_r _ [461, 130, 131, 132, 5, 133, 72, 73, 74, 75, 163, 164, 165, 166, 45, 167, 168, 169, 508, 509, 510, 511, 512, 513, 514, 515, 516, 517, 518, 519, 520] (by decide +kernel) (by decide +kernel)
set_option maxRecDepth 20000 in
theorem gL_law_X3_is : GoodIn wsL_law (wsV RL 65 RX3 yX3_is wsX3_is) := goodIn_app (goodIn_of _ (by decide +kernel)) ggL_law_X3_is
set_option maxRecDepth 20000 in
theorem ggL_law_X2_views : GoodIn wsL_law wsX2_views := goodIn_r _ [465, 16, 181, 99, 100, 15, 101, 33, 240, 241, 242, 243, 28, 98, 466, 149, 2, 150, 503, 504, 505, 506, 507, 521, 522, 523, 524, 525] (by decide +kernel) (by decide +kernel)
set_option maxRecDepth 20000 in
theorem gL_law_X2_views : GoodIn wsL_law (wsV RL 66 RX2 yX2_views wsX2_views) := goodIn_app (goodIn_of _ (by decide +kernel)) ggL_law_X2_views
set_option maxRecDepth 20000 in
theorem ggL_law_X3_views : GoodIn wsL_law wsX3_views := goodIn_r _ [470, 130, 131, 132, 5, 133, 72, 73, 74, 75, 163, 164, 165, 166, 45, 167, 168, 169, 508, 509, 510, 511, 512, 513, 514, 515, 516, 517, 518, 519, 520] (by decide +kernel) (by decide +kernel)
set_option maxRecDepth 20000 in
theorem gL_law_X3_views : GoodIn wsL_law (wsV RL 69 RX3 yX3_views wsX3_views) := goodIn_app (goodIn_of _ (by decide +kernel)) ggL_law_X3_views
set_option maxRecDepth 20000 in
theorem ggL_law_X2_size : GoodIn wsL_law wsX2_size := goodIn_r _ [474, 16, 181, 99, 100, 15, 101, 33, 194, 195, 196, 197, 29, 98, 503, 504, 505, 506, 507, 521, 522, 523, 524, 525] (by decide +kernel) (by decide +kernel)
set_option maxRecDepth 20000 in
theorem gL_law_X2_size : GoodIn wsL_law (wsV RL 70 RX2 yX2_size wsX2_size) := goodIn_app (goodIn_of _ (by decide +kernel)) ggL_law_X2_size
set_option maxRecDepth 20000 in
theorem ggL_law_X3_size : GoodIn wsL_law wsX3_size := goodIn_r _ [478, 46, 130, 131, 132, 5, 133, 72, 73, 74, 75, 508, 509, 510, 511, 512, 513, 514, 515, 516, 517, 518, 519, 520] (by decide +kernel) (by decide +kernel)
set_option maxRecDepth 20000 in
theorem gL_law_X3_size : GoodIn wsL_law (wsV RL 73 RX3 yX3_size wsX3_size) := goodIn_app (goodIn_of _ (by decide +kernel)) ggL_law_X3_size
set_option maxRecDepth 20000 in
theorem ggL_law_X2_count : GoodIn wsL_law wsX2_count := goodIn_r _ [482, 16, 22, 23, 186, 187, 188, 15, 189, 33, 503, 504, 505, 506, 507, 521, 522, 523, 524, 525] (by decide +kernel) (by decide +kernel)
set_option maxRecDepth 20000 in
theorem gL_law_X2_count : GoodIn wsL_law (wsV RL 74 RX2 yX2_count wsX2_count) := goodIn_app (goodIn_of _ (by decide +kernel)) ggL_law_X2_count
set_option maxRecDepth 20000 in
theorem ggL_law_X3_count : GoodIn wsL_law wsX3_count := goodIn_r _ [486, 72, 386, 387, 508, 509, 510, 511, 512, 513, 514, 515, 516, 517, 518, 519, 520] (by decide +kernel) (by decide +kernel)
set_option maxRecDepth 20000 in
theorem gL_law_X3_count : GoodIn wsL_law (wsV RL 77 RX3 yX3_count wsX3_count) := goodIn_app (goodIn_of _ (by decide +kernel)) ggL_law_X3_count
set_option maxRecDepth 20000 in
theorem ggL_law_X2_clear : GoodIn wsL_law wsX2_clear := goodIn_r _ [490, 20, 16, 491, 492, 493, 19, 494, 37, 495, 496, 497, 15, 498, 33, 503, 504, 505, 506, 507, 526, 527, 528, 529, 521, 522, 523, 524, 525] (by decide +kernel) (by decide +kernel)
set_option maxRecDepth 20000 in
theorem gL_law_X2_clear : GoodIn wsL_law (wsV RL 78 RX2 yX2_clear wsX2_clear) := goodIn_app (goodIn_of _ (by decide +kernel)) ggL_law_X2_clear
set_option maxRecDepth 20000 in
theorem ggL_law_X3_clear : GoodIn wsL_law wsX3_clear := goodIn_r _ [502, 72, 50, 508, 509, 510, 511, 512, 513, 514, 515, 516, 517, 518, 519, 520] (by decide +kernel) (by decide +kernel)
set_option maxRecDepth 20000 in
theorem gL_law_X3_clear : GoodIn wsL_law (wsV RL 81 RX3 yX3_clear wsX3_clear) := goodIn_app (goodIn_of _ (by decide +kernel)) ggL_law_X3_clear
theorem dL_law_0 : decode cL_law 0 = .ok (.new 7, 3) := by decide +kernel
theorem dL_law_3 : decode cL_law 3 = .ok (.dup, 1) := by decide +kernel
theorem dL_law_4 : decode cL_law 4 = .ok (.invokespecial 9, 3) := by decide +kernel
theorem dL_law_7 : decode cL_law 7 = .ok (.astore_n 1, 1) := by decide +kernel
theorem dL_law_8 : decode cL_law 8 = .ok (.new 10, 3) := by decide +kernel
theorem dL_law_11 : decode cL_law 11 = .ok (.dup, 1) := by decide +kernel
theorem dL_law_12 : decode cL_law 12 = .ok (.invokespecial 12, 3) := by decide +kernel
theorem dL_law_15 : decode cL_law 15 = .ok (.astore_n 2, 1) := by decide +kernel
theorem dL_law_16 : decode cL_law 16 = .ok (.iconst 0, 1) := by decide +kernel
theorem dL_law_17 : decode cL_law 17 = .ok (.istore_n 3, 1) := by decide +kernel
theorem dL_law_18 : decode cL_law 18 = .ok (.iload_n 3, 1) := by decide +kernel
theorem dL_law_19 : decode cL_law 19 = .ok (.aload_n 0, 1) := by decide +kernel
theorem dL_law_20 : decode cL_law 20 = .ok (.arraylength, 1) := by decide +kernel
theorem dL_law_21 : decode cL_law 21 = .ok (.iconst 5, 1) := by decide +kernel
theorem dL_law_22 : decode cL_law 22 = .ok (.isub, 1) := by decide +kernel
theorem dL_law_23 : decode cL_law 23 = .ok (.if_icmp .gt 603, 3) := by decide +kernel
theorem dL_law_26 : decode cL_law 26 = .ok (.aload_n 0, 1) := by decide +kernel
theorem dL_law_27 : decode cL_law 27 = .ok (.iload_n 3, 1) := by decide +kernel
theorem dL_law_28 : decode cL_law 28 = .ok (.iaload, 1) := by decide +kernel
theorem dL_law_29 : decode cL_law 29 = .ok (.bipush 15, 2) := by decide +kernel
theorem dL_law_31 : decode cL_law 31 = .ok (.iand, 1) := by decide +kernel
theorem dL_law_32 : decode cL_law 32 = .ok (.tableswitch 588 0 14 #[76, 109, 142, 191, 264, 298, 351, 404, 437, 450, 473, 506, 529, 552, 575], 76) := by decide +kernel
theorem dL_law_108 : decode cL_law 108 = .ok (.aload_n 1, 1) := by decide +kernel
theorem dL_law_109 : decode cL_law 109 = .ok (.aload_n 0, 1) := by decide +kernel
theorem dL_law_110 : decode cL_law 110 = .ok (.iload_n 3, 1) := by decide +kernel
theorem dL_law_111 : decode cL_law 111 = .ok (.iconst 1, 1) := by decide +kernel
theorem dL_law_112 : decode cL_law 112 = .ok (.iadd, 1) := by decide +kernel
theorem dL_law_113 : decode cL_law 113 = .ok (.iaload, 1) := by decide +kernel
theorem dL_law_114 : decode cL_law 114 = .ok (.aload_n 0, 1) := by decide +kernel
theorem dL_law_115 : decode cL_law 115 = .ok (.iload_n 3, 1) := by decide +kernel
theorem dL_law_116 : decode cL_law 116 = .ok (.iconst 2, 1) := by decide +kernel
theorem dL_law_117 : decode cL_law 117 = .ok (.iadd, 1) := by decide +kernel
theorem dL_law_118 : decode cL_law 118 = .ok (.iaload, 1) := by decide +kernel
theorem dL_law_119 : decode cL_law 119 = .ok (.invokevirtual 13, 3) := by decide +kernel
theorem dL_law_122 : decode cL_law 122 = .ok (.aload_n 2, 1) := by decide +kernel
theorem dL_law_123 : decode cL_law 123 = .ok (.aload_n 0, 1) := by decide +kernel
theorem dL_law_124 : decode cL_law 124 = .ok (.iload_n 3, 1) := by decide +kernel
theorem dL_law_125 : decode cL_law 125 = .ok (.iconst 1, 1) := by decide +kernel
theorem dL_law_126 : decode cL_law 126 = .ok (.iadd, 1) := by decide +kernel
theorem dL_law_127 : decode cL_law 127 = .ok (.iaload, 1) := by decide +kernel
theorem dL_law_128 : decode cL_law 128 = .ok (.aload_n 0, 1) := by decide +kernel
theorem dL_law_129 : decode cL_law 129 = .ok (.iload_n 3, 1) := by decide +kernel
theorem dL_law_130 : decode cL_law 130 = .ok (.iconst 2, 1) := by decide +kernel
theorem dL_law_131 : decode cL_law 131 = .ok (.iadd, 1) := by decide +kernel
theorem dL_law_132 : decode cL_law 132 = .ok (.iaload, 1) := by decide +kernel
theorem dL_law_133 : decode cL_law 133 = .ok (.invokevirtual 17, 3) := by decide +kernel
theorem dL_law_136 : decode cL_law 136 = .ok (.if_icmp .eq 484, 3) := by decide +kernel
theorem dL_law_139 : decode cL_law 139 = .ok (.iconst 0, 1) := by decide +kernel
theorem dL_law_140 : decode cL_law 140 = .ok (.ireturn, 1) := by decide +kernel
theorem dL_law_141 : decode cL_law 141 = .ok (.aload_n 1, 1) := by decide +kernel
theorem dL_law_142 : decode cL_law 142 = .ok (.aload_n 0, 1) := by decide +kernel
theorem dL_law_143 : decode cL_law 143 = .ok (.iload_n 3, 1) := by decide +kernel
theorem dL_law_144 : decode cL_law 144 = .ok (.iconst 1, 1) := by decide +kernel
theorem dL_law_145 : decode cL_law 145 = .ok (.iadd, 1) := by decide +kernel
theorem dL_law_146 : decode cL_law 146 = .ok (.iaload, 1) := by decide +kernel
theorem dL_law_147 : decode cL_law 147 = .ok (.aload_n 0, 1) := by decide +kernel
theorem dL_law_148 : decode cL_law 148 = .ok (.iload_n 3, 1) := by decide +kernel
theorem dL_law_149 : decode cL_law 149 = .ok (.iconst 2, 1) := by decide +kernel
theorem dL_law_150 : decode cL_law 150 = .ok (.iadd, 1) := by decide +kernel
theorem dL_law_151 : decode cL_law 151 = .ok (.iaload, 1) := by decide +kernel
theorem dL_law_152 : decode cL_law 152 = .ok (.invokevirtual 18, 3) := by decide +kernel
theorem dL_law_155 : decode cL_law 155 = .ok (.aload_n 2, 1) := by decide +kernel
theorem dL_law_156 : decode cL_law 156 = .ok (.aload_n 0, 1) := by decide +kernel
theorem dL_law_157 : decode cL_law 157 = .ok (.iload_n 3, 1) := by decide +kernel
theorem dL_law_158 : decode cL_law 158 = .ok (.iconst 1, 1) := by decide +kernel
theorem dL_law_159 : decode cL_law 159 = .ok (.iadd, 1) := by decide +kernel
theorem dL_law_160 : decode cL_law 160 = .ok (.iaload, 1) := by decide +kernel
theorem dL_law_161 : decode cL_law 161 = .ok (.aload_n 0, 1) := by decide +kernel
theorem dL_law_162 : decode cL_law 162 = .ok (.iload_n 3, 1) := by decide +kernel
theorem dL_law_163 : decode cL_law 163 = .ok (.iconst 2, 1) := by decide +kernel
theorem dL_law_164 : decode cL_law 164 = .ok (.iadd, 1) := by decide +kernel
theorem dL_law_165 : decode cL_law 165 = .ok (.iaload, 1) := by decide +kernel
theorem dL_law_166 : decode cL_law 166 = .ok (.invokevirtual 21, 3) := by decide +kernel
theorem dL_law_169 : decode cL_law 169 = .ok (.if_icmp .eq 451, 3) := by decide +kernel
theorem dL_law_172 : decode cL_law 172 = .ok (.iconst 0, 1) := by decide +kernel
theorem dL_law_173 : decode cL_law 173 = .ok (.ireturn, 1) := by decide +kernel
theorem dL_law_174 : decode cL_law 174 = .ok (.aload_n 1, 1) := by decide +kernel
theorem dL_law_175 : decode cL_law 175 = .ok (.aload_n 0, 1) := by decide +kernel
theorem dL_law_176 : decode cL_law 176 = .ok (.iload_n 3, 1) := by decide +kernel
theorem dL_law_177 : decode cL_law 177 = .ok (.iconst 1, 1) := by decide +kernel
theorem dL_law_178 : decode cL_law 178 = .ok (.iadd, 1) := by decide +kernel
theorem dL_law_179 : decode cL_law 179 = .ok (.iaload, 1) := by decide +kernel
theorem dL_law_180 : decode cL_law 180 = .ok (.ifCond .eq 7, 3) := by decide +kernel
theorem dL_law_183 : decode cL_law 183 = .ok (.iconst 1, 1) := by decide +kernel
theorem dL_law_184 : decode cL_law 184 = .ok (.goto 4, 3) := by decide +kernel
theorem dL_law_187 : decode cL_law 187 = .ok (.iconst 0, 1) := by decide +kernel
theorem dL_law_188 : decode cL_law 188 = .ok (.aload_n 0, 1) := by decide +kernel
theorem dL_law_189 : decode cL_law 189 = .ok (.iload_n 3, 1) := by decide +kernel
theorem dL_law_190 : decode cL_law 190 = .ok (.iconst 2, 1) := by decide +kernel
theorem dL_law_191 : decode cL_law 191 = .ok (.iadd, 1) := by decide +kernel
theorem dL_law_192 : decode cL_law 192 = .ok (.iaload, 1) := by decide +kernel
theorem dL_law_193 : decode cL_law 193 = .ok (.invokevirtual 22, 3) := by decide +kernel
theorem dL_law_196 : decode cL_law 196 = .ok (.aload_n 2, 1) := by decide +kernel
theorem dL_law_197 : decode cL_law 197 = .ok (.aload_n 0, 1) := by decide +kernel
theorem dL_law_198 : decode cL_law 198 = .ok (.iload_n 3, 1) := by decide +kernel
theorem dL_law_199 : decode cL_law 199 = .ok (.iconst 1, 1) := by decide +kernel
theorem dL_law_200 : decode cL_law 200 = .ok (.iadd, 1) := by decide +kernel
theorem dL_law_201 : decode cL_law 201 = .ok (.iaload, 1) := by decide +kernel
theorem dL_law_202 : decode cL_law 202 = .ok (.ifCond .eq 7, 3) := by decide +kernel
theorem dL_law_205 : decode cL_law 205 = .ok (.iconst 1, 1) := by decide +kernel
theorem dL_law_206 : decode cL_law 206 = .ok (.goto 4, 3) := by decide +kernel
theorem dL_law_209 : decode cL_law 209 = .ok (.iconst 0, 1) := by decide +kernel
theorem dL_law_210 : decode cL_law 210 = .ok (.aload_n 0, 1) := by decide +kernel
theorem dL_law_211 : decode cL_law 211 = .ok (.iload_n 3, 1) := by decide +kernel
theorem dL_law_212 : decode cL_law 212 = .ok (.iconst 2, 1) := by decide +kernel
theorem dL_law_213 : decode cL_law 213 = .ok (.iadd, 1) := by decide +kernel
theorem dL_law_214 : decode cL_law 214 = .ok (.iaload, 1) := by decide +kernel
theorem dL_law_215 : decode cL_law 215 = .ok (.invokevirtual 26, 3) := by decide +kernel
theorem dL_law_218 : decode cL_law 218 = .ok (.if_icmp .eq 402, 3) := by decide +kernel
theorem dL_law_221 : decode cL_law 221 = .ok (.iconst 0, 1) := by decide +kernel
theorem dL_law_222 : decode cL_law 222 = .ok (.ireturn, 1) := by decide +kernel
theorem dL_law_223 : decode cL_law 223 = .ok (.aload_n 1, 1) := by decide +kernel
theorem dL_law_224 : decode cL_law 224 = .ok (.aload_n 0, 1) := by decide +kernel
theorem dL_law_225 : decode cL_law 225 = .ok (.iload_n 3, 1) := by decide +kernel
theorem dL_law_226 : decode cL_law 226 = .ok (.iconst 1, 1) := by decide +kernel
theorem dL_law_227 : decode cL_law 227 = .ok (.iadd, 1) := by decide +kernel
theorem dL_law_228 : decode cL_law 228 = .ok (.iaload, 1) := by decide +kernel
theorem dL_law_229 : decode cL_law 229 = .ok (.aload_n 0, 1) := by decide +kernel
theorem dL_law_230 : decode cL_law 230 = .ok (.iload_n 3, 1) := by decide +kernel
theorem dL_law_231 : decode cL_law 231 = .ok (.iconst 2, 1) := by decide +kernel
theorem dL_law_232 : decode cL_law 232 = .ok (.iadd, 1) := by decide +kernel
theorem dL_law_233 : decode cL_law 233 = .ok (.iaload, 1) := by decide +kernel
theorem dL_law_234 : decode cL_law 234 = .ok (.aload_n 0, 1) := by decide +kernel
theorem dL_law_235 : decode cL_law 235 = .ok (.iload_n 3, 1) := by decide +kernel
theorem dL_law_236 : decode cL_law 236 = .ok (.iconst 3, 1) := by decide +kernel
theorem dL_law_237 : decode cL_law 237 = .ok (.iadd, 1) := by decide +kernel
theorem dL_law_238 : decode cL_law 238 = .ok (.iaload, 1) := by decide +kernel
theorem dL_law_239 : decode cL_law 239 = .ok (.i2l, 1) := by decide +kernel
theorem dL_law_240 : decode cL_law 240 = .ok (.bipush 32, 2) := by decide +kernel
theorem dL_law_242 : decode cL_law 242 = .ok (.lshl, 1) := by decide +kernel
theorem dL_law_243 : decode cL_law 243 = .ok (.aload_n 0, 1) := by decide +kernel
theorem dL_law_244 : decode cL_law 244 = .ok (.iload_n 3, 1) := by decide +kernel
theorem dL_law_245 : decode cL_law 245 = .ok (.iconst 4, 1) := by decide +kernel
theorem dL_law_246 : decode cL_law 246 = .ok (.iadd, 1) := by decide +kernel
theorem dL_law_247 : decode cL_law 247 = .ok (.iaload, 1) := by decide +kernel
theorem dL_law_248 : decode cL_law 248 = .ok (.i2l, 1) := by decide +kernel
theorem dL_law_249 : decode cL_law 249 = .ok (.ldc2_w 27, 3) := by decide +kernel
theorem dL_law_252 : decode cL_law 252 = .ok (.land, 1) := by decide +kernel
theorem dL_law_253 : decode cL_law 253 = .ok (.lor, 1) := by decide +kernel
theorem dL_law_254 : decode cL_law 254 = .ok (.invokevirtual 29, 3) := by decide +kernel
theorem dL_law_257 : decode cL_law 257 = .ok (.aload_n 2, 1) := by decide +kernel
theorem dL_law_258 : decode cL_law 258 = .ok (.aload_n 0, 1) := by decide +kernel
theorem dL_law_259 : decode cL_law 259 = .ok (.iload_n 3, 1) := by decide +kernel
theorem dL_law_260 : decode cL_law 260 = .ok (.iconst 1, 1) := by decide +kernel
theorem dL_law_261 : decode cL_law 261 = .ok (.iadd, 1) := by decide +kernel
theorem dL_law_262 : decode cL_law 262 = .ok (.iaload, 1) := by decide +kernel
theorem dL_law_263 : decode cL_law 263 = .ok (.aload_n 0, 1) := by decide +kernel
theorem dL_law_264 : decode cL_law 264 = .ok (.iload_n 3, 1) := by decide +kernel
theorem dL_law_265 : decode cL_law 265 = .ok (.iconst 2, 1) := by decide +kernel
theorem dL_law_266 : decode cL_law 266 = .ok (.iadd, 1) := by decide +kernel
theorem dL_law_267 : decode cL_law 267 = .ok (.iaload, 1) := by decide +kernel
theorem dL_law_268 : decode cL_law 268 = .ok (.aload_n 0, 1) := by decide +kernel
theorem dL_law_269 : decode cL_law 269 = .ok (.iload_n 3, 1) := by decide +kernel
theorem dL_law_270 : decode cL_law 270 = .ok (.iconst 3, 1) := by decide +kernel
theorem dL_law_271 : decode cL_law 271 = .ok (.iadd, 1) := by decide +kernel
theorem dL_law_272 : decode cL_law 272 = .ok (.iaload, 1) := by decide +kernel
theorem dL_law_273 : decode cL_law 273 = .ok (.i2l, 1) := by decide +kernel
theorem dL_law_274 : decode cL_law 274 = .ok (.bipush 32, 2) := by decide +kernel
theorem dL_law_276 : decode cL_law 276 = .ok (.lshl, 1) := by decide +kernel
theorem dL_law_277 : decode cL_law 277 = .ok (.aload_n 0, 1) := by decide +kernel
theorem dL_law_278 : decode cL_law 278 = .ok (.iload_n 3, 1) := by decide +kernel
theorem dL_law_279 : decode cL_law 279 = .ok (.iconst 4, 1) := by decide +kernel
theorem dL_law_280 : decode cL_law 280 = .ok (.iadd, 1) := by decide +kernel
theorem dL_law_281 : decode cL_law 281 = .ok (.iaload, 1) := by decide +kernel
theorem dL_law_282 : decode cL_law 282 = .ok (.i2l, 1) := by decide +kernel
theorem dL_law_283 : decode cL_law 283 = .ok (.ldc2_w 27, 3) := by decide +kernel
theorem dL_law_286 : decode cL_law 286 = .ok (.land, 1) := by decide +kernel
theorem dL_law_287 : decode cL_law 287 = .ok (.lor, 1) := by decide +kernel
theorem dL_law_288 : decode cL_law 288 = .ok (.invokevirtual 33, 3) := by decide +kernel
theorem dL_law_291 : decode cL_law 291 = .ok (.if_icmp .eq 329, 3) := by decide +kernel
theorem dL_law_294 : decode cL_law 294 = .ok (.iconst 0, 1) := by decide +kernel
theorem dL_law_295 : decode cL_law 295 = .ok (.ireturn, 1) := by decide +kernel
theorem dL_law_296 : decode cL_law 296 = .ok (.aload_n 1, 1) := by decide +kernel
theorem dL_law_297 : decode cL_law 297 = .ok (.aload_n 0, 1) := by decide +kernel
theorem dL_law_298 : decode cL_law 298 = .ok (.iload_n 3, 1) := by decide +kernel
theorem dL_law_299 : decode cL_law 299 = .ok (.iconst 1, 1) := by decide +kernel
theorem dL_law_300 : decode cL_law 300 = .ok (.iadd, 1) := by decide +kernel
theorem dL_law_301 : decode cL_law 301 = .ok (.iaload, 1) := by decide +kernel
theorem dL_law_302 : decode cL_law 302 = .ok (.aload_n 0, 1) := by decide +kernel
theorem dL_law_303 : decode cL_law 303 = .ok (.iload_n 3, 1) := by decide +kernel
theorem dL_law_304 : decode cL_law 304 = .ok (.iconst 2, 1) := by decide +kernel
theorem dL_law_305 : decode cL_law 305 = .ok (.iadd, 1) := by decide +kernel
theorem dL_law_306 : decode cL_law 306 = .ok (.iaload, 1) := by decide +kernel
theorem dL_law_307 : decode cL_law 307 = .ok (.invokevirtual 34, 3) := by decide +kernel
theorem dL_law_310 : decode cL_law 310 = .ok (.aload_n 2, 1) := by decide +kernel
theorem dL_law_311 : decode cL_law 311 = .ok (.aload_n 0, 1) := by decide +kernel
theorem dL_law_312 : decode cL_law 312 = .ok (.iload_n 3, 1) := by decide +kernel
theorem dL_law_313 : decode cL_law 313 = .ok (.iconst 1, 1) := by decide +kernel
theorem dL_law_314 : decode cL_law 314 = .ok (.iadd, 1) := by decide +kernel
theorem dL_law_315 : decode cL_law 315 = .ok (.iaload, 1) := by decide +kernel
theorem dL_law_316 : decode cL_law 316 = .ok (.aload_n 0, 1) := by decide +kernel
theorem dL_law_317 : decode cL_law 317 = .ok (.iload_n 3, 1) := by decide +kernel
theorem dL_law_318 : decode cL_law 318 = .ok (.iconst 2, 1) := by decide +kernel
theorem dL_law_319 : decode cL_law 319 = .ok (.iadd, 1) := by decide +kernel
theorem dL_law_320 : decode cL_law 320 = .ok (.iaload, 1) := by decide +kernel
theorem dL_law_321 : decode cL_law 321 = .ok (.invokevirtual 38, 3) := by decide +kernel
theorem dL_law_324 : decode cL_law 324 = .ok (.lcmp, 1) := by decide +kernel
theorem dL_law_325 : decode cL_law 325 = .ok (.ifCond .eq 295, 3) := by decide +kernel
theorem dL_law_328 : decode cL_law 328 = .ok (.iconst 0, 1) := by decide +kernel
theorem dL_law_329 : decode cL_law 329 = .ok (.ireturn, 1) := by decide +kernel
theorem dL_law_330 : decode cL_law 330 = .ok (.aload_n 1, 1) := by decide +kernel
theorem dL_law_331 : decode cL_law 331 = .ok (.aload_n 0, 1) := by decide +kernel
theorem dL_law_332 : decode cL_law 332 = .ok (.iload_n 3, 1) := by decide +kernel
theorem dL_law_333 : decode cL_law 333 = .ok (.iconst 1, 1) := by decide +kernel
theorem dL_law_334 : decode cL_law 334 = .ok (.iadd, 1) := by decide +kernel
theorem dL_law_335 : decode cL_law 335 = .ok (.iaload, 1) := by decide +kernel
theorem dL_law_336 : decode cL_law 336 = .ok (.aload_n 0, 1) := by decide +kernel
theorem dL_law_337 : decode cL_law 337 = .ok (.iload_n 3, 1) := by decide +kernel
theorem dL_law_338 : decode cL_law 338 = .ok (.iconst 2, 1) := by decide +kernel
theorem dL_law_339 : decode cL_law 339 = .ok (.iadd, 1) := by decide +kernel
theorem dL_law_340 : decode cL_law 340 = .ok (.iaload, 1) := by decide +kernel
theorem dL_law_341 : decode cL_law 341 = .ok (.aload_n 0, 1) := by decide +kernel
theorem dL_law_342 : decode cL_law 342 = .ok (.iload_n 3, 1) := by decide +kernel
theorem dL_law_343 : decode cL_law 343 = .ok (.iconst 3, 1) := by decide +kernel
theorem dL_law_344 : decode cL_law 344 = .ok (.iadd, 1) := by decide +kernel
theorem dL_law_345 : decode cL_law 345 = .ok (.iaload, 1) := by decide +kernel
theorem dL_law_346 : decode cL_law 346 = .ok (.aload_n 0, 1) := by decide +kernel
theorem dL_law_347 : decode cL_law 347 = .ok (.iload_n 3, 1) := by decide +kernel
theorem dL_law_348 : decode cL_law 348 = .ok (.iconst 4, 1) := by decide +kernel
theorem dL_law_349 : decode cL_law 349 = .ok (.iadd, 1) := by decide +kernel
theorem dL_law_350 : decode cL_law 350 = .ok (.iaload, 1) := by decide +kernel
theorem dL_law_351 : decode cL_law 351 = .ok (.invokevirtual 39, 3) := by decide +kernel
theorem dL_law_354 : decode cL_law 354 = .ok (.aload_n 2, 1) := by decide +kernel
theorem dL_law_355 : decode cL_law 355 = .ok (.aload_n 0, 1) := by decide +kernel
theorem dL_law_356 : decode cL_law 356 = .ok (.iload_n 3, 1) := by decide +kernel
theorem dL_law_357 : decode cL_law 357 = .ok (.iconst 1, 1) := by decide +kernel
theorem dL_law_358 : decode cL_law 358 = .ok (.iadd, 1) := by decide +kernel
theorem dL_law_359 : decode cL_law 359 = .ok (.iaload, 1) := by decide +kernel
theorem dL_law_360 : decode cL_law 360 = .ok (.aload_n 0, 1) := by decide +kernel
theorem dL_law_361 : decode cL_law 361 = .ok (.iload_n 3, 1) := by decide +kernel
theorem dL_law_362 : decode cL_law 362 = .ok (.iconst 2, 1) := by decide +kernel
theorem dL_law_363 : decode cL_law 363 = .ok (.iadd, 1) := by decide +kernel
theorem dL_law_364 : decode cL_law 364 = .ok (.iaload, 1) := by decide +kernel
theorem dL_law_365 : decode cL_law 365 = .ok (.aload_n 0, 1) := by decide +kernel
theorem dL_law_366 : decode cL_law 366 = .ok (.iload_n 3, 1) := by decide +kernel
theorem dL_law_367 : decode cL_law 367 = .ok (.iconst 3, 1) := by decide +kernel
theorem dL_law_368 : decode cL_law 368 = .ok (.iadd, 1) := by decide +kernel
theorem dL_law_369 : decode cL_law 369 = .ok (.iaload, 1) := by decide +kernel
theorem dL_law_370 : decode cL_law 370 = .ok (.aload_n 0, 1) := by decide +kernel
theorem dL_law_371 : decode cL_law 371 = .ok (.iload_n 3, 1) := by decide +kernel
theorem dL_law_372 : decode cL_law 372 = .ok (.iconst 4, 1) := by decide +kernel
theorem dL_law_373 : decode cL_law 373 = .ok (.iadd, 1) := by decide +kernel
theorem dL_law_374 : decode cL_law 374 = .ok (.iaload, 1) := by decide +kernel
theorem dL_law_375 : decode cL_law 375 = .ok (.invokevirtual 43, 3) := by decide +kernel
theorem dL_law_378 : decode cL_law 378 = .ok (.if_icmp .eq 242, 3) := by decide +kernel
theorem dL_law_381 : decode cL_law 381 = .ok (.iconst 0, 1) := by decide +kernel
theorem dL_law_382 : decode cL_law 382 = .ok (.ireturn, 1) := by decide +kernel
theorem dL_law_383 : decode cL_law 383 = .ok (.aload_n 1, 1) := by decide +kernel
theorem dL_law_384 : decode cL_law 384 = .ok (.aload_n 0, 1) := by decide +kernel
theorem dL_law_385 : decode cL_law 385 = .ok (.iload_n 3, 1) := by decide +kernel
theorem dL_law_386 : decode cL_law 386 = .ok (.iconst 1, 1) := by decide +kernel
theorem dL_law_387 : decode cL_law 387 = .ok (.iadd, 1) := by decide +kernel
theorem dL_law_388 : decode cL_law 388 = .ok (.iaload, 1) := by decide +kernel
theorem dL_law_389 : decode cL_law 389 = .ok (.aload_n 0, 1) := by decide +kernel
theorem dL_law_390 : decode cL_law 390 = .ok (.iload_n 3, 1) := by decide +kernel
theorem dL_law_391 : decode cL_law 391 = .ok (.iconst 2, 1) := by decide +kernel
theorem dL_law_392 : decode cL_law 392 = .ok (.iadd, 1) := by decide +kernel
theorem dL_law_393 : decode cL_law 393 = .ok (.iaload, 1) := by decide +kernel
theorem dL_law_394 : decode cL_law 394 = .ok (.aload_n 0, 1) := by decide +kernel
theorem dL_law_395 : decode cL_law 395 = .ok (.iload_n 3, 1) := by decide +kernel
theorem dL_law_396 : decode cL_law 396 = .ok (.iconst 3, 1) := by decide +kernel
theorem dL_law_397 : decode cL_law 397 = .ok (.iadd, 1) := by decide +kernel
theorem dL_law_398 : decode cL_law 398 = .ok (.iaload, 1) := by decide +kernel
theorem dL_law_399 : decode cL_law 399 = .ok (.aload_n 0, 1) := by decide +kernel
theorem dL_law_400 : decode cL_law 400 = .ok (.iload_n 3, 1) := by decide +kernel
theorem dL_law_401 : decode cL_law 401 = .ok (.iconst 4, 1) := by decide +kernel
theorem dL_law_402 : decode cL_law 402 = .ok (.iadd, 1) := by decide +kernel
theorem dL_law_403 : decode cL_law 403 = .ok (.iaload, 1) := by decide +kernel
theorem dL_law_404 : decode cL_law 404 = .ok (.invokevirtual 44, 3) := by decide +kernel
theorem dL_law_407 : decode cL_law 407 = .ok (.aload_n 2, 1) := by decide +kernel
theorem dL_law_408 : decode cL_law 408 = .ok (.aload_n 0, 1) := by decide +kernel
theorem dL_law_409 : decode cL_law 409 = .ok (.iload_n 3, 1) := by decide +kernel
theorem dL_law_410 : decode cL_law 410 = .ok (.iconst 1, 1) := by decide +kernel
theorem dL_law_411 : decode cL_law 411 = .ok (.iadd, 1) := by decide +kernel
theorem dL_law_412 : decode cL_law 412 = .ok (.iaload, 1) := by decide +kernel
theorem dL_law_413 : decode cL_law 413 = .ok (.aload_n 0, 1) := by decide +kernel
theorem dL_law_414 : decode cL_law 414 = .ok (.iload_n 3, 1) := by decide +kernel
theorem dL_law_415 : decode cL_law 415 = .ok (.iconst 2, 1) := by decide +kernel
theorem dL_law_416 : decode cL_law 416 = .ok (.iadd, 1) := by decide +kernel
theorem dL_law_417 : decode cL_law 417 = .ok (.iaload, 1) := by decide +kernel
theorem dL_law_418 : decode cL_law 418 = .ok (.aload_n 0, 1) := by decide +kernel
theorem dL_law_419 : decode cL_law 419 = .ok (.iload_n 3, 1) := by decide +kernel
theorem dL_law_420 : decode cL_law 420 = .ok (.iconst 3, 1) := by decide +kernel
theorem dL_law_421 : decode cL_law 421 = .ok (.iadd, 1) := by decide +kernel
theorem dL_law_422 : decode cL_law 422 = .ok (.iaload, 1) := by decide +kernel
theorem dL_law_423 : decode cL_law 423 = .ok (.aload_n 0, 1) := by decide +kernel
theorem dL_law_424 : decode cL_law 424 = .ok (.iload_n 3, 1) := by decide +kernel
theorem dL_law_425 : decode cL_law 425 = .ok (.iconst 4, 1) := by decide +kernel
theorem dL_law_426 : decode cL_law 426 = .ok (.iadd, 1) := by decide +kernel
theorem dL_law_427 : decode cL_law 427 = .ok (.iaload, 1) := by decide +kernel
theorem dL_law_428 : decode cL_law 428 = .ok (.invokevirtual 47, 3) := by decide +kernel
theorem dL_law_431 : decode cL_law 431 = .ok (.if_icmp .eq 189, 3) := by decide +kernel
theorem dL_law_434 : decode cL_law 434 = .ok (.iconst 0, 1) := by decide +kernel
theorem dL_law_435 : decode cL_law 435 = .ok (.ireturn, 1) := by decide +kernel
theorem dL_law_436 : decode cL_law 436 = .ok (.aload_n 1, 1) := by decide +kernel
theorem dL_law_437 : decode cL_law 437 = .ok (.aload_n 0, 1) := by decide +kernel
theorem dL_law_438 : decode cL_law 438 = .ok (.iload_n 3, 1) := by decide +kernel
theorem dL_law_439 : decode cL_law 439 = .ok (.iconst 1, 1) := by decide +kernel
theorem dL_law_440 : decode cL_law 440 = .ok (.iadd, 1) := by decide +kernel
theorem dL_law_441 : decode cL_law 441 = .ok (.iaload, 1) := by decide +kernel
theorem dL_law_442 : decode cL_law 442 = .ok (.aload_n 0, 1) := by decide +kernel
theorem dL_law_443 : decode cL_law 443 = .ok (.iload_n 3, 1) := by decide +kernel
theorem dL_law_444 : decode cL_law 444 = .ok (.iconst 2, 1) := by decide +kernel
theorem dL_law_445 : decode cL_law 445 = .ok (.iadd, 1) := by decide +kernel
theorem dL_law_446 : decode cL_law 446 = .ok (.iaload, 1) := by decide +kernel
theorem dL_law_447 : decode cL_law 447 = .ok (.invokevirtual 48, 3) := by decide +kernel
theorem dL_law_450 : decode cL_law 450 = .ok (.aload_n 2, 1) := by decide +kernel
theorem dL_law_451 : decode cL_law 451 = .ok (.aload_n 0, 1) := by decide +kernel
theorem dL_law_452 : decode cL_law 452 = .ok (.iload_n 3, 1) := by decide +kernel
theorem dL_law_453 : decode cL_law 453 = .ok (.iconst 1, 1) := by decide +kernel
theorem dL_law_454 : decode cL_law 454 = .ok (.iadd, 1) := by decide +kernel
theorem dL_law_455 : decode cL_law 455 = .ok (.iaload, 1) := by decide +kernel
theorem dL_law_456 : decode cL_law 456 = .ok (.aload_n 0, 1) := by decide +kernel
theorem dL_law_457 : decode cL_law 457 = .ok (.iload_n 3, 1) := by decide +kernel
theorem dL_law_458 : decode cL_law 458 = .ok (.iconst 2, 1) := by decide +kernel
theorem dL_law_459 : decode cL_law 459 = .ok (.iadd, 1) := by decide +kernel
theorem dL_law_460 : decode cL_law 460 = .ok (.iaload, 1) := by decide +kernel
theorem dL_law_461 : decode cL_law 461 = .ok (.invokevirtual 51, 3) := by decide +kernel
theorem dL_law_464 : decode cL_law 464 = .ok (.if_icmp .eq 156, 3) := by decide +kernel
theorem dL_law_467 : decode cL_law 467 = .ok (.iconst 0, 1) := by decide +kernel
theorem dL_law_468 : decode cL_law 468 = .ok (.ireturn, 1) := by decide +kernel
theorem dL_law_469 : decode cL_law 469 = .ok (.aload_n 1, 1) := by decide +kernel
theorem dL_law_470 : decode cL_law 470 = .ok (.invokevirtual 52, 3) := by decide +kernel
theorem dL_law_473 : decode cL_law 473 = .ok (.aload_n 2, 1) := by decide +kernel
theorem dL_law_474 : decode cL_law 474 = .ok (.invokevirtual 56, 3) := by decide +kernel
theorem dL_law_477 : decode cL_law 477 = .ok (.if_icmp .eq 143, 3) := by decide +kernel
theorem dL_law_480 : decode cL_law 480 = .ok (.iconst 0, 1) := by decide +kernel
theorem dL_law_481 : decode cL_law 481 = .ok (.ireturn, 1) := by decide +kernel
theorem dL_law_482 : decode cL_law 482 = .ok (.aload_n 1, 1) := by decide +kernel
theorem dL_law_483 : decode cL_law 483 = .ok (.aload_n 0, 1) := by decide +kernel
theorem dL_law_484 : decode cL_law 484 = .ok (.iload_n 3, 1) := by decide +kernel
theorem dL_law_485 : decode cL_law 485 = .ok (.iconst 1, 1) := by decide +kernel
theorem dL_law_486 : decode cL_law 486 = .ok (.iadd, 1) := by decide +kernel
theorem dL_law_487 : decode cL_law 487 = .ok (.iaload, 1) := by decide +kernel
theorem dL_law_488 : decode cL_law 488 = .ok (.invokevirtual 57, 3) := by decide +kernel
theorem dL_law_491 : decode cL_law 491 = .ok (.aload_n 2, 1) := by decide +kernel
theorem dL_law_492 : decode cL_law 492 = .ok (.aload_n 0, 1) := by decide +kernel
theorem dL_law_493 : decode cL_law 493 = .ok (.iload_n 3, 1) := by decide +kernel
theorem dL_law_494 : decode cL_law 494 = .ok (.iconst 1, 1) := by decide +kernel
theorem dL_law_495 : decode cL_law 495 = .ok (.iadd, 1) := by decide +kernel
theorem dL_law_496 : decode cL_law 496 = .ok (.iaload, 1) := by decide +kernel
theorem dL_law_497 : decode cL_law 497 = .ok (.invokevirtual 61, 3) := by decide +kernel
theorem dL_law_500 : decode cL_law 500 = .ok (.if_icmp .eq 120, 3) := by decide +kernel
theorem dL_law_503 : decode cL_law 503 = .ok (.iconst 0, 1) := by decide +kernel
theorem dL_law_504 : decode cL_law 504 = .ok (.ireturn, 1) := by decide +kernel
theorem dL_law_505 : decode cL_law 505 = .ok (.aload_n 1, 1) := by decide +kernel
theorem dL_law_506 : decode cL_law 506 = .ok (.aload_n 0, 1) := by decide +kernel
theorem dL_law_507 : decode cL_law 507 = .ok (.iload_n 3, 1) := by decide +kernel
theorem dL_law_508 : decode cL_law 508 = .ok (.iconst 1, 1) := by decide +kernel
theorem dL_law_509 : decode cL_law 509 = .ok (.iadd, 1) := by decide +kernel
theorem dL_law_510 : decode cL_law 510 = .ok (.iaload, 1) := by decide +kernel
theorem dL_law_511 : decode cL_law 511 = .ok (.aload_n 0, 1) := by decide +kernel
theorem dL_law_512 : decode cL_law 512 = .ok (.iload_n 3, 1) := by decide +kernel
theorem dL_law_513 : decode cL_law 513 = .ok (.iconst 2, 1) := by decide +kernel
theorem dL_law_514 : decode cL_law 514 = .ok (.iadd, 1) := by decide +kernel
theorem dL_law_515 : decode cL_law 515 = .ok (.iaload, 1) := by decide +kernel
theorem dL_law_516 : decode cL_law 516 = .ok (.invokevirtual 62, 3) := by decide +kernel
theorem dL_law_519 : decode cL_law 519 = .ok (.aload_n 2, 1) := by decide +kernel
theorem dL_law_520 : decode cL_law 520 = .ok (.aload_n 0, 1) := by decide +kernel
theorem dL_law_521 : decode cL_law 521 = .ok (.iload_n 3, 1) := by decide +kernel
theorem dL_law_522 : decode cL_law 522 = .ok (.iconst 1, 1) := by decide +kernel
theorem dL_law_523 : decode cL_law 523 = .ok (.iadd, 1) := by decide +kernel
theorem dL_law_524 : decode cL_law 524 = .ok (.iaload, 1) := by decide +kernel
theorem dL_law_525 : decode cL_law 525 = .ok (.aload_n 0, 1) := by decide +kernel
theorem dL_law_526 : decode cL_law 526 = .ok (.iload_n 3, 1) := by decide +kernel
theorem dL_law_527 : decode cL_law 527 = .ok (.iconst 2, 1) := by decide +kernel
theorem dL_law_528 : decode cL_law 528 = .ok (.iadd, 1) := by decide +kernel
theorem dL_law_529 : decode cL_law 529 = .ok (.iaload, 1) := by decide +kernel
theorem dL_law_530 : decode cL_law 530 = .ok (.invokevirtual 65, 3) := by decide +kernel
theorem dL_law_533 : decode cL_law 533 = .ok (.if_icmp .eq 87, 3) := by decide +kernel
theorem dL_law_536 : decode cL_law 536 = .ok (.iconst 0, 1) := by decide +kernel
theorem dL_law_537 : decode cL_law 537 = .ok (.ireturn, 1) := by decide +kernel
theorem dL_law_538 : decode cL_law 538 = .ok (.aload_n 1, 1) := by decide +kernel
theorem dL_law_539 : decode cL_law 539 = .ok (.aload_n 0, 1) := by decide +kernel
theorem dL_law_540 : decode cL_law 540 = .ok (.iload_n 3, 1) := by decide +kernel
theorem dL_law_541 : decode cL_law 541 = .ok (.iconst 1, 1) := by decide +kernel
theorem dL_law_542 : decode cL_law 542 = .ok (.iadd, 1) := by decide +kernel
theorem dL_law_543 : decode cL_law 543 = .ok (.iaload, 1) := by decide +kernel
theorem dL_law_544 : decode cL_law 544 = .ok (.invokevirtual 66, 3) := by decide +kernel
theorem dL_law_547 : decode cL_law 547 = .ok (.aload_n 2, 1) := by decide +kernel
theorem dL_law_548 : decode cL_law 548 = .ok (.aload_n 0, 1) := by decide +kernel
theorem dL_law_549 : decode cL_law 549 = .ok (.iload_n 3, 1) := by decide +kernel
theorem dL_law_550 : decode cL_law 550 = .ok (.iconst 1, 1) := by decide +kernel
theorem dL_law_551 : decode cL_law 551 = .ok (.iadd, 1) := by decide +kernel
theorem dL_law_552 : decode cL_law 552 = .ok (.iaload, 1) := by decide +kernel
theorem dL_law_553 : decode cL_law 553 = .ok (.invokevirtual 69, 3) := by decide +kernel
theorem dL_law_556 : decode cL_law 556 = .ok (.if_icmp .eq 64, 3) := by decide +kernel
theorem dL_law_559 : decode cL_law 559 = .ok (.iconst 0, 1) := by decide +kernel
theorem dL_law_560 : decode cL_law 560 = .ok (.ireturn, 1) := by decide +kernel
theorem dL_law_561 : decode cL_law 561 = .ok (.aload_n 1, 1) := by decide +kernel
theorem dL_law_562 : decode cL_law 562 = .ok (.aload_n 0, 1) := by decide +kernel
theorem dL_law_563 : decode cL_law 563 = .ok (.iload_n 3, 1) := by decide +kernel
theorem dL_law_564 : decode cL_law 564 = .ok (.iconst 1, 1) := by decide +kernel
theorem dL_law_565 : decode cL_law 565 = .ok (.iadd, 1) := by decide +kernel
theorem dL_law_566 : decode cL_law 566 = .ok (.iaload, 1) := by decide +kernel
theorem dL_law_567 : decode cL_law 567 = .ok (.invokevirtual 70, 3) := by decide +kernel
theorem dL_law_570 : decode cL_law 570 = .ok (.aload_n 2, 1) := by decide +kernel
theorem dL_law_571 : decode cL_law 571 = .ok (.aload_n 0, 1) := by decide +kernel
theorem dL_law_572 : decode cL_law 572 = .ok (.iload_n 3, 1) := by decide +kernel
theorem dL_law_573 : decode cL_law 573 = .ok (.iconst 1, 1) := by decide +kernel
theorem dL_law_574 : decode cL_law 574 = .ok (.iadd, 1) := by decide +kernel
theorem dL_law_575 : decode cL_law 575 = .ok (.iaload, 1) := by decide +kernel
theorem dL_law_576 : decode cL_law 576 = .ok (.invokevirtual 73, 3) := by decide +kernel
theorem dL_law_579 : decode cL_law 579 = .ok (.if_icmp .eq 41, 3) := by decide +kernel
theorem dL_law_582 : decode cL_law 582 = .ok (.iconst 0, 1) := by decide +kernel
theorem dL_law_583 : decode cL_law 583 = .ok (.ireturn, 1) := by decide +kernel
theorem dL_law_584 : decode cL_law 584 = .ok (.aload_n 1, 1) := by decide +kernel
theorem dL_law_585 : decode cL_law 585 = .ok (.aload_n 0, 1) := by decide +kernel
theorem dL_law_586 : decode cL_law 586 = .ok (.iload_n 3, 1) := by decide +kernel
theorem dL_law_587 : decode cL_law 587 = .ok (.iconst 1, 1) := by decide +kernel
theorem dL_law_588 : decode cL_law 588 = .ok (.iadd, 1) := by decide +kernel
theorem dL_law_589 : decode cL_law 589 = .ok (.iaload, 1) := by decide +kernel
theorem dL_law_590 : decode cL_law 590 = .ok (.invokevirtual 74, 3) := by decide +kernel
theorem dL_law_593 : decode cL_law 593 = .ok (.aload_n 2, 1) := by decide +kernel
theorem dL_law_594 : decode cL_law 594 = .ok (.aload_n 0, 1) := by decide +kernel
theorem dL_law_595 : decode cL_law 595 = .ok (.iload_n 3, 1) := by decide +kernel
theorem dL_law_596 : decode cL_law 596 = .ok (.iconst 1, 1) := by decide +kernel
theorem dL_law_597 : decode cL_law 597 = .ok (.iadd, 1) := by decide +kernel
theorem dL_law_598 : decode cL_law 598 = .ok (.iaload, 1) := by decide +kernel
theorem dL_law_599 : decode cL_law 599 = .ok (.invokevirtual 77, 3) := by decide +kernel
theorem dL_law_602 : decode cL_law 602 = .ok (.if_icmp .eq 18, 3) := by decide +kernel
theorem dL_law_605 : decode cL_law 605 = .ok (.iconst 0, 1) := by decide +kernel
theorem dL_law_606 : decode cL_law 606 = .ok (.ireturn, 1) := by decide +kernel
theorem dL_law_607 : decode cL_law 607 = .ok (.aload_n 1, 1) := by decide +kernel
theorem dL_law_608 : decode cL_law 608 = .ok (.invokevirtual 78, 3) := by decide +kernel
theorem dL_law_611 : decode cL_law 611 = .ok (.aload_n 2, 1) := by decide +kernel
theorem dL_law_612 : decode cL_law 612 = .ok (.invokevirtual 81, 3) := by decide +kernel
theorem dL_law_615 : decode cL_law 615 = .ok (.if_icmp .eq 5, 3) := by decide +kernel
theorem dL_law_618 : decode cL_law 618 = .ok (.iconst 0, 1) := by decide +kernel
theorem dL_law_619 : decode cL_law 619 = .ok (.ireturn, 1) := by decide +kernel
theorem dL_law_620 : decode cL_law 620 = .ok (.iinc 3 5, 3) := by decide +kernel
theorem dL_law_623 : decode cL_law 623 = .ok (.goto (-605), 3) := by decide +kernel
theorem dL_law_626 : decode cL_law 626 = .ok (.iconst 1, 1) := by decide +kernel
theorem dL_law_627 : decode cL_law 627 = .ok (.ireturn, 1) := by decide +kernel
end
section
/-! the base: contracts over a fixed world whose state is a value; calls and returns of such contracts -/
def KN (U : State) : Prop := va_Nw (.methodLinkNest RX1 33 yX2_viewsOfForm "LoomPanel") U ∧ va_Nw (.methodLinkNest RX1 45 yX2_isLength "LoomPanel") U ∧ va_Nw (.methodLinkNest RX1 48 yX2_isBoardForm "LoomPanel") U ∧ va_Nw (.methodLinkNest RX2 9 yX1_init "LoomPanel") U ∧ va_Nw (.methodLinkNest RX2 18 yX0_init "LoomPanel") U
theorem KN_warm {s U : State} (hW : s.WarmedH U.vm) (h : KN s) : KN U := ⟨va_Nw.warmM hW h.1, va_Nw.warmM hW h.2.1, va_Nw.warmM hW h.2.2.1, va_Nw.warmM hW h.2.2.2.1, va_Nw.warmM hW h.2.2.2.2⟩
theorem KN_calling {U : State} {g : JFrame} {mk : MethodId} {a : Array Value} (h : KN U) : KN (U.calling g mk a) := ⟨va_Nw.same rfl rfl h.1, va_Nw.same rfl rfl h.2.1, va_Nw.same rfl rfl h.2.2.1, va_Nw.same rfl rfl h.2.2.2.1, va_Nw.same rfl rfl h.2.2.2.2⟩
abbrev TyL : Type := List (ClassId × FieldType)
def GB {σ : Type} (D : va_G) (tys : TyL) (Wd : σ → va_W) (Iv : σ → Prop) (S : σ) (U : State) : Prop := va_P D vwCl (Wd S) U.heap ∧ va_K D vwCl tys U ∧ KN U ∧ Iv S
def GE {σ : Type} (D : va_G) (Wd : σ → va_W) (Iv : σ → Prop) (u : σ) (t : State) : Prop := va_P D vwCl (Wd u) t.heap ∧ Iv u
def GRi {σ : Type} (l : Launch) (y : MethodName) (ws : List Cond) (rm : Room) (av : List Value) (D : va_G) (tys : TyL) (Wd : σ → va_W) (Iv : σ → Prop) (A : Nat → Prop) (S : σ) (v : Int32) : Prop := Met l y ws rm (va_Pc av (GB D tys Wd Iv S)) (va_Qi (fun r u => r = v ∧ u = S) (GE D Wd Iv) A) 0 0 A
def GRl {σ : Type} (l : Launch) (y : MethodName) (ws : List Cond) (rm : Room) (av : List Value) (D : va_G) (tys : TyL) (Wd : σ → va_W) (Iv : σ → Prop) (A : Nat → Prop) (S : σ) (v : Int64) : Prop := Met l y ws rm (va_Pc av (GB D tys Wd Iv S)) (va_Ql (fun r u => r = v ∧ u = S) (GE D Wd Iv) A) 0 0 A
def GWi {σ : Type} (l : Launch) (y : MethodName) (ws : List Cond) (rm : Room) (av : List Value) (D : va_G) (tys : TyL) (Wd : σ → va_W) (Iv : σ → Prop) (A : Nat → Prop) (S : σ) (v : Int32 × σ) : Prop := Met l y ws rm (va_Pc av (GB D tys Wd Iv S)) (va_Qi (fun r u => v = (r, u)) (GE D Wd Iv) A) 0 0 A
def GWv {σ : Type} (l : Launch) (y : MethodName) (ws : List Cond) (rm : Room) (av : List Value) (D : va_G) (tys : TyL) (Wd : σ → va_W) (Iv : σ → Prop) (A : Nat → Prop) (S : σ) (v : σ) : Prop := Met l y ws rm (va_Pc av (GB D tys Wd Iv S)) (va_Qv (fun u => v = u) (GE D Wd Iv) A) 0 0 A
def GSi (l : Launch) (y : MethodName) (ws : List Cond) (rm : Room) (av : List Value) (v : Int32) : Prop := Met l y ws rm (va_Pc av (fun _ => True)) (va_Qi (fun r (_ : Unit) => r = v) (fun _ _ => True) (fun _ => False)) 0 0 (fun _ => False)
def GSl (l : Launch) (y : MethodName) (ws : List Cond) (rm : Room) (av : List Value) (v : Int64) : Prop := Met l y ws rm (va_Pc av (fun _ => True)) (va_Ql (fun r (_ : Unit) => r = v) (fun _ _ => True) (fun _ => False)) 0 0 (fun _ => False)
/-- what a method's walk stands on -/
def GC (p : Program) (s : State) (m : MethodId) (meth : Method) (c : Code) (cc : ByteArray) (ret : Option FieldType) (nL : Nat) (own : String) (ws : List Cond) (args : Array Value) (D : va_G) (tys : TyL) : Prop := p.tables.exec = Jvm.exec ∧ c.code = cc ∧ meth.sig.returnType = ret ∧ meth.locks = false ∧ c.maxLocals = nL ∧ s.vm.findClass own = some m.cls ∧ (∀ w ∈ ws, w.before args s = true) ∧ va_K D vwCl tys s ∧ KN s
def GS (p : Program) (s : State) (m : MethodId) (meth : Method) (c : Code) (cc : ByteArray) (ret : Option FieldType) (nL : Nat) (own : String) (ws : List Cond) (args : Array Value) : Prop := p.tables.exec = Jvm.exec ∧ c.code = cc ∧ meth.sig.returnType = ret ∧ meth.locks = false ∧ c.maxLocals = nL ∧ s.vm.findClass own = some m.cls ∧ (∀ w ∈ ws, w.before args s = true)
theorem GB_of {σ : Type} {l : Launch} {y : MethodName} {ws ws' : List Cond} {rm : Room} {av : List Value} {D : va_G} {tys : TyL} {Wd : σ → va_W} {Iv : σ → Prop} {A : Nat → Prop} {S : σ} {Qc : Array Value → State → Outcome → State → Prop} {cc : ByteArray} {maxL : Nat} {ret : Option FieldType} (hy : plainName y.cls = true) (hw : ws = Cond.code y cc maxL ret :: ws') (hlen : (lg_sl av).length ≤ maxL)
    (body : ∀ (p : Program) (e : Env) (s : State) (m : MethodId) (below : List Frame) (meth : Method) (c : Code), GC p s m meth c cc ret maxL y.cls ws av.toArray D tys → va_P D vwCl (Wd S) s.heap → Iv S → ∀ ls : Array Slot, lv_has ls maxL (lv_args 0 av) → W p l e rm s m av.toArray below meth c s.heap [] 0 0 (MQ below Qc av.toArray s 0 0 A) (F0 m 0 ls [])) : Met l y ws rm (va_Pc av (GB D tys Wd Iv S)) Qc 0 0 A := by
  refine Met.ofW (cc := cc) (maxL := maxL) (ret := ret) hy hw ?_
  intro p e s m args below meth c s₁ B hml hv
  obtain ⟨rfl, hP, hK, hN, hI⟩ := hv
  have hl := lv_entry av (n := maxL) hlen
  rw [lg_entry_eq]
  generalize (lg_sl av ++ List.replicate (maxL - (lg_sl av).length) Slot.unset).toArray = ls at hl ⊢
  exact body p e s m below meth c ⟨B.exec, B.bytes, B.returns, B.notSynchronized, hml, findClass_of_methodNamed B.named, atoms_spec B.pre, hK, hN⟩ hP hI ls hl
theorem GS_of {l : Launch} {y : MethodName} {ws ws' : List Cond} {rm : Room} {av : List Value} {Qc : Array Value → State → Outcome → State → Prop} {A : Nat → Prop} {cc : ByteArray} {maxL : Nat} {ret : Option FieldType} (hy : plainName y.cls = true) (hw : ws = Cond.code y cc maxL ret :: ws') (hlen : (lg_sl av).length ≤ maxL)
    (body : ∀ (p : Program) (e : Env) (s : State) (m : MethodId) (below : List Frame) (meth : Method) (c : Code), GS p s m meth c cc ret maxL y.cls ws av.toArray → ∀ ls : Array Slot, lv_has ls maxL (lv_args 0 av) → W p l e rm s m av.toArray below meth c s.heap [] 0 0 (MQ below Qc av.toArray s 0 0 A) (F0 m 0 ls [])) : Met l y ws rm (va_Pc av (fun _ => True)) Qc 0 0 A := by
  refine Met.ofW (cc := cc) (maxL := maxL) (ret := ret) hy hw ?_
  intro p e s m args below meth c s₁ B hml hv
  obtain ⟨rfl, -⟩ := hv
  have hl := lv_entry av (n := maxL) hlen
  rw [lg_entry_eq]
  generalize (lg_sl av ++ List.replicate (maxL - (lg_sl av).length) Slot.unset).toArray = ls at hl ⊢
  exact body p e s m below meth c ⟨B.exec, B.bytes, B.returns, B.notSynchronized, hml, findClass_of_methodNamed B.named, atoms_spec B.pre⟩ ls hl
section GCALL
variable {p : Program} {l : Launch} {e : Env} {R : Room} {s : State} {m : MethodId} {args : Array Value} {below : List Frame} {meth : Method} {c : Code} {H : Heap} {locs : List Loc} {cells slots : Nat} {Q : State → Prop}
variable {y : MethodName} {bytes cc : ByteArray} {maxL nL n index : Nat} {ret : Option FieldType} {ws : List Cond} {rm : Room} {Ts : List Cond} {own C : String} {b : Nat} {As rest st0 : List Value} {pc : Nat} {ls : Array Slot} {D : va_G} {tys : TyL} {A : Nat → Prop} {H0 : Heap}
variable {σ : Type} {Wd : σ → va_W} {Iv : σ → Prop} {S : σ}
theorem g_preV (hK : va_K D vwCl tys s) (hN : KN s) (hP : va_P D vwCl (Wd S) H) (hI : Iv S) (hrec : ∃ cell : Cell, H[b]? = some cell ∧ cell.vm.isStatics = false ∧ s.vm.findClass C = some cell.cls) : PreV s H C b (va_Pc (.ref b :: As) (GB D tys Wd Iv S)) As :=
  ⟨fun a U g mk q => by obtain ⟨q0, qP, qK, qN, qI⟩ := q; exact ⟨q0, qP, va_K.moved (u := U) (U := U.calling g mk a) (Vm.Alike.refl U.vm) qK, KN_calling qN, qI⟩, hrec, fun U hU hW => ⟨rfl, by rw [hU]; exact hP, va_K.moved hW.alike hK, KN_warm hW hN, hI⟩⟩
theorem g_Ri {v : Int32} (F : CallFix p m c cc nL s args Ts own) (hM : GRi l y ws rm (.ref b :: As) D tys Wd Iv A S v) (cw : CallW R s args own C index y bytes maxL ret ws rm 0 0 n) (hK : va_K D vwCl tys s) (hN : KN s) (hP : va_P D vwCl (Wd S) H) (hI : Iv S) (hrec : ∃ cell : Cell, H[b]? = some cell ∧ cell.vm.isStatics = false ∧ s.vm.findClass C = some cell.cls) (hS : va_S A H0 H locs) (hn : As.length = n) (hsize : ls.size = nL) (hst : st0 = As.reverse ++ .ref b :: rest) (hW : (rest.map fun v => v.category).sum ≤ 8) (hdg : decode cc pc = .ok (.invokevirtual index, 3)) (hf : cells ≤ R.cells ∧ slots ≤ R.slots)
    (kk : ∀ (H1 : Heap) (locs1 : List Loc), va_P D vwCl (Wd S) H1 → va_S A H0 H1 locs1 → W p l e R s m args below meth c H1 locs1 cells slots Q (F0 m (pc + 3) ls (.int v :: rest))) : W p l e R s m args below meth c H locs cells slots Q (F0 m pc ls st0) :=
  va_calli (va_runV F hM cw (g_preV hK hN hP hI hrec) rfl hn hsize hst (lv_room hW) hdg hf) hS (fun q _ h => h) (fun q h => h) (fun r u t H1 locs1 ht _ hp hB _ _ hS1 => by
    obtain ⟨h1, h2⟩ := hp
    subst h1; subst h2; subst ht
    exact kk _ locs1 hB.1 hS1)
theorem g_Rl {v : Int64} (F : CallFix p m c cc nL s args Ts own) (hM : GRl l y ws rm (.ref b :: As) D tys Wd Iv A S v) (cw : CallW R s args own C index y bytes maxL ret ws rm 0 0 n) (hK : va_K D vwCl tys s) (hN : KN s) (hP : va_P D vwCl (Wd S) H) (hI : Iv S) (hrec : ∃ cell : Cell, H[b]? = some cell ∧ cell.vm.isStatics = false ∧ s.vm.findClass C = some cell.cls) (hS : va_S A H0 H locs) (hn : As.length = n) (hsize : ls.size = nL) (hst : st0 = As.reverse ++ .ref b :: rest) (hW : (rest.map fun v => v.category).sum ≤ 8) (hdg : decode cc pc = .ok (.invokevirtual index, 3)) (hf : cells ≤ R.cells ∧ slots ≤ R.slots)
    (kk : ∀ (H1 : Heap) (locs1 : List Loc), va_P D vwCl (Wd S) H1 → va_S A H0 H1 locs1 → W p l e R s m args below meth c H1 locs1 cells slots Q (F0 m (pc + 3) ls (.long v :: rest))) : W p l e R s m args below meth c H locs cells slots Q (F0 m pc ls st0) :=
  va_calll (va_runV F hM cw (g_preV hK hN hP hI hrec) rfl hn hsize hst (lv_room hW) hdg hf) hS (fun q _ h => h) (fun q h => h) (fun r u t H1 locs1 ht _ hp hB _ _ hS1 => by
    obtain ⟨h1, h2⟩ := hp
    subst h1; subst h2; subst ht
    exact kk _ locs1 hB.1 hS1)
theorem g_Wi {v : Int32 × σ} (F : CallFix p m c cc nL s args Ts own) (hM : GWi l y ws rm (.ref b :: As) D tys Wd Iv A S v) (cw : CallW R s args own C index y bytes maxL ret ws rm 0 0 n) (hK : va_K D vwCl tys s) (hN : KN s) (hP : va_P D vwCl (Wd S) H) (hI : Iv S) (hrec : ∃ cell : Cell, H[b]? = some cell ∧ cell.vm.isStatics = false ∧ s.vm.findClass C = some cell.cls) (hS : va_S A H0 H locs) (hn : As.length = n) (hsize : ls.size = nL) (hst : st0 = As.reverse ++ .ref b :: rest) (hW : (rest.map fun v => v.category).sum ≤ 8) (hdg : decode cc pc = .ok (.invokevirtual index, 3)) (hf : cells ≤ R.cells ∧ slots ≤ R.slots)
    (kk : ∀ (H1 : Heap) (locs1 : List Loc), Iv v.2 → va_P D vwCl (Wd v.2) H1 → va_S A H0 H1 locs1 → W p l e R s m args below meth c H1 locs1 cells slots Q (F0 m (pc + 3) ls (.int v.1 :: rest))) : W p l e R s m args below meth c H locs cells slots Q (F0 m pc ls st0) :=
  va_calli (va_runV F hM cw (g_preV hK hN hP hI hrec) rfl hn hsize hst (lv_room hW) hdg hf) hS (fun q _ h => h) (fun q h => h) (fun r u t H1 locs1 ht _ hp hB _ _ hS1 => by
    subst ht; subst hp
    exact kk _ locs1 hB.2 hB.1 hS1)
theorem g_Wv {v : σ} (F : CallFix p m c cc nL s args Ts own) (hM : GWv l y ws rm (.ref b :: As) D tys Wd Iv A S v) (cw : CallW R s args own C index y bytes maxL ret ws rm 0 0 n) (hK : va_K D vwCl tys s) (hN : KN s) (hP : va_P D vwCl (Wd S) H) (hI : Iv S) (hrec : ∃ cell : Cell, H[b]? = some cell ∧ cell.vm.isStatics = false ∧ s.vm.findClass C = some cell.cls) (hS : va_S A H0 H locs) (hn : As.length = n) (hsize : ls.size = nL) (hst : st0 = As.reverse ++ .ref b :: rest) (hW : (rest.map fun v => v.category).sum ≤ 8) (hdg : decode cc pc = .ok (.invokevirtual index, 3)) (hf : cells ≤ R.cells ∧ slots ≤ R.slots)
    (kk : ∀ (H1 : Heap) (locs1 : List Loc), Iv v → va_P D vwCl (Wd v) H1 → va_S A H0 H1 locs1 → W p l e R s m args below meth c H1 locs1 cells slots Q (F0 m (pc + 3) ls rest)) : W p l e R s m args below meth c H locs cells slots Q (F0 m pc ls st0) :=
  va_callv (va_runV F hM cw (g_preV hK hN hP hI hrec) rfl hn hsize hst (lv_room hW) hdg hf) hS (fun q _ h => h) (fun q h => h) (fun u t H1 locs1 ht _ hp hB _ _ hS1 => by
    subst ht; subst hp
    exact kk _ locs1 hB.2 hB.1 hS1)
theorem g_Si {v : Int32} {w : va_W} (F : CallFix p m c cc nL s args Ts own) (hM : GSi l y ws rm As v) (cw : CallB R s args own index y bytes maxL ret ws rm 0 0 n ∧ (Cond.static y).before args s = true) (hP : va_P D vwCl w H) (hS : va_S A H0 H locs) (hn : As.length = n) (hsize : ls.size = nL) (hst : st0 = As.reverse ++ rest) (hW : (rest.map fun v => v.category).sum ≤ 8) (hdg : decode cc pc = .ok (.invokestatic index, 3)) (hf : cells ≤ R.cells ∧ slots ≤ R.slots)
    (kk : ∀ (H1 : Heap) (locs1 : List Loc), va_P D vwCl w H1 → va_S A H0 H1 locs1 → W p l e R s m args below meth c H1 locs1 cells slots Q (F0 m (pc + 3) ls (.int v :: rest))) : W p l e R s m args below meth c H locs cells slots Q (F0 m pc ls st0) :=
  va_calli (va_runS F hM cw ⟨fun _ _ _ _ q => ⟨q.1, trivial⟩, fun _ _ _ => ⟨rfl, trivial⟩⟩ rfl hn hsize hst (lv_room hW) hdg hf) hS (fun q _ h => h.elim) (fun q h => h.elim) (fun r u t H1 locs1 ht _ hp _ _ hk hS1 => by
    subst hp
    exact kk H1 locs1 (hP.kept (fun k q hq => hk q.1 (hP k q hq).lt (fun h => h))) hS1)
theorem g_Sl {v : Int64} {w : va_W} (F : CallFix p m c cc nL s args Ts own) (hM : GSl l y ws rm As v) (cw : CallB R s args own index y bytes maxL ret ws rm 0 0 n ∧ (Cond.static y).before args s = true) (hP : va_P D vwCl w H) (hS : va_S A H0 H locs) (hn : As.length = n) (hsize : ls.size = nL) (hst : st0 = As.reverse ++ rest) (hW : (rest.map fun v => v.category).sum ≤ 8) (hdg : decode cc pc = .ok (.invokestatic index, 3)) (hf : cells ≤ R.cells ∧ slots ≤ R.slots)
    (kk : ∀ (H1 : Heap) (locs1 : List Loc), va_P D vwCl w H1 → va_S A H0 H1 locs1 → W p l e R s m args below meth c H1 locs1 cells slots Q (F0 m (pc + 3) ls (.long v :: rest))) : W p l e R s m args below meth c H locs cells slots Q (F0 m pc ls st0) :=
  va_calll (va_runS F hM cw ⟨fun _ _ _ _ q => ⟨q.1, trivial⟩, fun _ _ _ => ⟨rfl, trivial⟩⟩ rfl hn hsize hst (lv_room hW) hdg hf) hS (fun q _ h => h.elim) (fun q h => h.elim) (fun r u t H1 locs1 ht _ hp _ _ hk hS1 => by
    subst hp
    exact kk H1 locs1 (hP.kept (fun k q hq => hk q.1 (hP k q hq).lt (fun h => h))) hS1)
theorem g_SiN {v : Int32} {w : va_W} {host : String} (F : CallFix p m c cc nL s args Ts own) (hM : GSi l y ws rm As v) (cw : va_CN R s args own index y host bytes maxL ret ws rm 0 0 n ∧ (Cond.static y).before args s = true ∧ True) (hP : va_P D vwCl w H) (hS : va_S A H0 H locs) (hn : As.length = n) (hsize : ls.size = nL) (hst : st0 = As.reverse ++ rest) (hW : (rest.map fun v => v.category).sum ≤ 8) (hdg : decode cc pc = .ok (.invokestatic index, 3)) (hf : cells ≤ R.cells ∧ slots ≤ R.slots)
    (kk : ∀ (H1 : Heap) (locs1 : List Loc), va_P D vwCl w H1 → va_S A H0 H1 locs1 → W p l e R s m args below meth c H1 locs1 cells slots Q (F0 m (pc + 3) ls (.int v :: rest))) : W p l e R s m args below meth c H locs cells slots Q (F0 m pc ls st0) :=
  va_calli (va_runSN F hM cw ⟨fun _ _ _ _ q => ⟨q.1, trivial⟩, fun _ _ _ => ⟨rfl, trivial⟩⟩ rfl hn hsize hst (lv_room hW) hdg hf) hS (fun q _ h => h.elim) (fun q h => h.elim) (fun r u t H1 locs1 ht _ hp _ _ hk hS1 => by
    subst hp
    exact kk H1 locs1 (hP.kept (fun k q hq => hk q.1 (hP k q hq).lt (fun h => h))) hS1)
theorem r_Ri {v w : Int32} (hx : p.tables.exec = Jvm.exec) (hb : c.code = cc) (hr : meth.sig.returnType = some .int) (hlocks : meth.locks = false) (hP : va_P D vwCl (Wd S) H) (hI : Iv S) (hS : va_S A s.heap H locs) (hv : v = w) (hdg : decode cc pc = .ok (.ireturn, 1)) : W p l e R s m args below meth c H locs 0 0 (MQ below (va_Qi (fun r u => r = v ∧ u = S) (GE D Wd Iv) A) args s 0 0 A) (F0 m pc ls [.int w]) :=
  W.iret (v := w) hx hb hr (fun t ht hW => ⟨⟨w, S, rfl, ⟨hv.symm, rfl⟩, by rw [ht]; exact hP, hI⟩, hS.F ht⟩) hS.2.2 hdg hlocks
theorem r_Rz {v w : Int32} (hx : p.tables.exec = Jvm.exec) (hb : c.code = cc) (hr : meth.sig.returnType = some .boolean) (hlocks : meth.locks = false) (hP : va_P D vwCl (Wd S) H) (hI : Iv S) (hS : va_S A s.heap H locs) (hn : narrow .boolean (.int w) = .int w) (hv : v = w) (hdg : decode cc pc = .ok (.ireturn, 1)) : W p l e R s m args below meth c H locs 0 0 (MQ below (va_Qi (fun r u => r = v ∧ u = S) (GE D Wd Iv) A) args s 0 0 A) (F0 m pc ls [.int w]) :=
  W.zret (v := w) hx hb hr hn (fun t ht hW => ⟨⟨w, S, rfl, ⟨hv.symm, rfl⟩, by rw [ht]; exact hP, hI⟩, hS.F ht⟩) hS.2.2 hdg hlocks
theorem r_Rl {v w : Int64} (hx : p.tables.exec = Jvm.exec) (hb : c.code = cc) (hr : meth.sig.returnType = some .long) (hlocks : meth.locks = false) (hP : va_P D vwCl (Wd S) H) (hI : Iv S) (hS : va_S A s.heap H locs) (hv : v = w) (hdg : decode cc pc = .ok (.lreturn, 1)) : W p l e R s m args below meth c H locs 0 0 (MQ below (va_Ql (fun r u => r = v ∧ u = S) (GE D Wd Iv) A) args s 0 0 A) (F0 m pc ls [.long w]) :=
  W.lret (v := w) hx hb hr (fun t ht hW => ⟨⟨w, S, rfl, ⟨hv.symm, rfl⟩, by rw [ht]; exact hP, hI⟩, hS.F ht⟩) hS.2.2 hdg hlocks
theorem r_Wi {v : Int32 × σ} {w : Int32} (hx : p.tables.exec = Jvm.exec) (hb : c.code = cc) (hr : meth.sig.returnType = some .int) (hlocks : meth.locks = false) (hP : va_P D vwCl (Wd S) H) (hI : Iv S) (hS : va_S A s.heap H locs) (hv : v = (w, S)) (hdg : decode cc pc = .ok (.ireturn, 1)) : W p l e R s m args below meth c H locs 0 0 (MQ below (va_Qi (fun r u => v = (r, u)) (GE D Wd Iv) A) args s 0 0 A) (F0 m pc ls [.int w]) :=
  W.iret (v := w) hx hb hr (fun t ht hW => ⟨⟨w, S, rfl, hv, by rw [ht]; exact hP, hI⟩, hS.F ht⟩) hS.2.2 hdg hlocks
theorem r_Wv {v : σ} (hx : p.tables.exec = Jvm.exec) (hb : c.code = cc) (hr : meth.sig.returnType = none) (hlocks : meth.locks = false) (hP : va_P D vwCl (Wd S) H) (hI : Iv S) (hS : va_S A s.heap H locs) (hv : v = S) (hdg : decode cc pc = .ok (.return_, 1)) : W p l e R s m args below meth c H locs 0 0 (MQ below (va_Qv (fun u => v = u) (GE D Wd Iv) A) args s 0 0 A) (F0 m pc ls []) :=
  W.vret hx hb hr (fun t ht hW => ⟨⟨S, rfl, hv, by rw [ht]; exact hP, hI⟩, hS.F ht⟩) hS.2.2 hdg hlocks
theorem r_Si {v w : Int32} (hx : p.tables.exec = Jvm.exec) (hb : c.code = cc) (hr : meth.sig.returnType = some .int) (hlocks : meth.locks = false) (hv : v = w) (hdg : decode cc pc = .ok (.ireturn, 1)) : W p l e R s m args below meth c s.heap [] 0 0 (MQ below (va_Qi (fun r (_ : Unit) => r = v) (fun _ _ => True) (fun _ => False)) args s 0 0 (fun _ => False)) (F0 m pc ls [.int w]) :=
  W.iret (v := w) hx hb hr (fun t ht hW => ⟨⟨w, (), rfl, hv.symm, trivial⟩, va_S.rf.F ht⟩) (fun _ h => absurd h List.not_mem_nil) hdg hlocks
theorem r_Sz {v w : Int32} (hx : p.tables.exec = Jvm.exec) (hb : c.code = cc) (hr : meth.sig.returnType = some .boolean) (hlocks : meth.locks = false) (hn : narrow .boolean (.int w) = .int w) (hv : v = w) (hdg : decode cc pc = .ok (.ireturn, 1)) : W p l e R s m args below meth c s.heap [] 0 0 (MQ below (va_Qi (fun r (_ : Unit) => r = v) (fun _ _ => True) (fun _ => False)) args s 0 0 (fun _ => False)) (F0 m pc ls [.int w]) :=
  W.zret (v := w) hx hb hr hn (fun t ht hW => ⟨⟨w, (), rfl, hv.symm, trivial⟩, va_S.rf.F ht⟩) (fun _ h => absurd h List.not_mem_nil) hdg hlocks
theorem r_Sl {v w : Int64} (hx : p.tables.exec = Jvm.exec) (hb : c.code = cc) (hr : meth.sig.returnType = some .long) (hlocks : meth.locks = false) (hv : v = w) (hdg : decode cc pc = .ok (.lreturn, 1)) : W p l e R s m args below meth c s.heap [] 0 0 (MQ below (va_Ql (fun r (_ : Unit) => r = v) (fun _ _ => True) (fun _ => False)) args s 0 0 (fun _ => False)) (F0 m pc ls [.long w]) :=
  W.lret (v := w) hx hb hr (fun t ht hW => ⟨⟨w, (), rfl, hv.symm, trivial⟩, va_S.rf.F ht⟩) (fun _ h => absurd h List.not_mem_nil) hdg hlocks
end GCALL
theorem b_nar {w : Int32} (h : w = 0 ∨ w = 1) : narrow .boolean (.int w) = .int w := by rcases h with rfl | rfl <;> rfl
end
section
def KS : Type := Int32 × Int32 × Int32 × Int32 × (Nat → Int32) × (Nat → Int32) × (Nat → Int32) × (Nat → Int64) × (Nat → Int32) × (Nat → Int32) × (Nat → Int32) × (Nat → Int32)
def KS.stop (S : KS) : Int32 := S.1
def KS.faults (S : KS) : Int32 := S.2.1
def KS.latest (S : KS) : Int32 := S.2.2.1
def KS.made (S : KS) : Int32 := S.2.2.2.1
def KS.forms (S : KS) : Nat → Int32 := S.2.2.2.2.1
def KS.lens (S : KS) : Nat → Int32 := S.2.2.2.2.2.1
def KS.levels (S : KS) : Nat → Int32 := S.2.2.2.2.2.2.1
def KS.cells (S : KS) : Nat → Int64 := S.2.2.2.2.2.2.2.1
def KS.plen (S : KS) : Nat → Int32 := S.2.2.2.2.2.2.2.2.1
def KS.pact (S : KS) : Nat → Int32 := S.2.2.2.2.2.2.2.2.2.1
def KS.py (S : KS) : Nat → Int32 := S.2.2.2.2.2.2.2.2.2.2.1
def KS.pn (S : KS) : Nat → Int32 := S.2.2.2.2.2.2.2.2.2.2.2
def mkKS (stop : Int32) (faults : Int32) (latest : Int32) (made : Int32) (forms : (Nat → Int32)) (lens : (Nat → Int32)) (levels : (Nat → Int32)) (cells : (Nat → Int64)) (plen : (Nat → Int32)) (pact : (Nat → Int32)) (py : (Nat → Int32)) (pn : (Nat → Int32)) : KS := (stop, faults, latest, made, forms, lens, levels, cells, plen, pact, py, pn)
def KS.set_stop (S : KS) (v : Int32) : KS := mkKS v S.faults S.latest S.made S.forms S.lens S.levels S.cells S.plen S.pact S.py S.pn
def KS.set_faults (S : KS) (v : Int32) : KS := mkKS S.stop v S.latest S.made S.forms S.lens S.levels S.cells S.plen S.pact S.py S.pn
def KS.set_latest (S : KS) (v : Int32) : KS := mkKS S.stop S.faults v S.made S.forms S.lens S.levels S.cells S.plen S.pact S.py S.pn
def KS.set_made (S : KS) (v : Int32) : KS := mkKS S.stop S.faults S.latest v S.forms S.lens S.levels S.cells S.plen S.pact S.py S.pn
def KS.set_forms (S : KS) (v : (Nat → Int32)) : KS := mkKS S.stop S.faults S.latest S.made v S.lens S.levels S.cells S.plen S.pact S.py S.pn
def KS.set_lens (S : KS) (v : (Nat → Int32)) : KS := mkKS S.stop S.faults S.latest S.made S.forms v S.levels S.cells S.plen S.pact S.py S.pn
def KS.set_levels (S : KS) (v : (Nat → Int32)) : KS := mkKS S.stop S.faults S.latest S.made S.forms S.lens v S.cells S.plen S.pact S.py S.pn
def KS.set_cells (S : KS) (v : (Nat → Int64)) : KS := mkKS S.stop S.faults S.latest S.made S.forms S.lens S.levels v S.plen S.pact S.py S.pn
def KS.set_plen (S : KS) (v : (Nat → Int32)) : KS := mkKS S.stop S.faults S.latest S.made S.forms S.lens S.levels S.cells v S.pact S.py S.pn
def KS.set_pact (S : KS) (v : (Nat → Int32)) : KS := mkKS S.stop S.faults S.latest S.made S.forms S.lens S.levels S.cells S.plen v S.py S.pn
def KS.set_py (S : KS) (v : (Nat → Int32)) : KS := mkKS S.stop S.faults S.latest S.made S.forms S.lens S.levels S.cells S.plen S.pact v S.pn
def KS.set_pn (S : KS) (v : (Nat → Int32)) : KS := mkKS S.stop S.faults S.latest S.made S.forms S.lens S.levels S.cells S.plen S.pact S.py v
theorem KS.stop_set_stop (S : KS) (v : Int32) : (S.set_stop v).stop = v := rfl
theorem KS.faults_set_stop (S : KS) (v : Int32) : (S.set_stop v).faults = S.faults := rfl
theorem KS.latest_set_stop (S : KS) (v : Int32) : (S.set_stop v).latest = S.latest := rfl
theorem KS.made_set_stop (S : KS) (v : Int32) : (S.set_stop v).made = S.made := rfl
theorem KS.forms_set_stop (S : KS) (v : Int32) : (S.set_stop v).forms = S.forms := rfl
theorem KS.lens_set_stop (S : KS) (v : Int32) : (S.set_stop v).lens = S.lens := rfl
theorem KS.levels_set_stop (S : KS) (v : Int32) : (S.set_stop v).levels = S.levels := rfl
theorem KS.cells_set_stop (S : KS) (v : Int32) : (S.set_stop v).cells = S.cells := rfl
theorem KS.plen_set_stop (S : KS) (v : Int32) : (S.set_stop v).plen = S.plen := rfl
theorem KS.pact_set_stop (S : KS) (v : Int32) : (S.set_stop v).pact = S.pact := rfl
theorem KS.py_set_stop (S : KS) (v : Int32) : (S.set_stop v).py = S.py := rfl
theorem KS.pn_set_stop (S : KS) (v : Int32) : (S.set_stop v).pn = S.pn := rfl
theorem KS.stop_set_faults (S : KS) (v : Int32) : (S.set_faults v).stop = S.stop := rfl
theorem KS.faults_set_faults (S : KS) (v : Int32) : (S.set_faults v).faults = v := rfl
theorem KS.latest_set_faults (S : KS) (v : Int32) : (S.set_faults v).latest = S.latest := rfl
theorem KS.made_set_faults (S : KS) (v : Int32) : (S.set_faults v).made = S.made := rfl
theorem KS.forms_set_faults (S : KS) (v : Int32) : (S.set_faults v).forms = S.forms := rfl
theorem KS.lens_set_faults (S : KS) (v : Int32) : (S.set_faults v).lens = S.lens := rfl
theorem KS.levels_set_faults (S : KS) (v : Int32) : (S.set_faults v).levels = S.levels := rfl
theorem KS.cells_set_faults (S : KS) (v : Int32) : (S.set_faults v).cells = S.cells := rfl
theorem KS.plen_set_faults (S : KS) (v : Int32) : (S.set_faults v).plen = S.plen := rfl
theorem KS.pact_set_faults (S : KS) (v : Int32) : (S.set_faults v).pact = S.pact := rfl
theorem KS.py_set_faults (S : KS) (v : Int32) : (S.set_faults v).py = S.py := rfl
theorem KS.pn_set_faults (S : KS) (v : Int32) : (S.set_faults v).pn = S.pn := rfl
theorem KS.stop_set_latest (S : KS) (v : Int32) : (S.set_latest v).stop = S.stop := rfl
theorem KS.faults_set_latest (S : KS) (v : Int32) : (S.set_latest v).faults = S.faults := rfl
theorem KS.latest_set_latest (S : KS) (v : Int32) : (S.set_latest v).latest = v := rfl
theorem KS.made_set_latest (S : KS) (v : Int32) : (S.set_latest v).made = S.made := rfl
theorem KS.forms_set_latest (S : KS) (v : Int32) : (S.set_latest v).forms = S.forms := rfl
theorem KS.lens_set_latest (S : KS) (v : Int32) : (S.set_latest v).lens = S.lens := rfl
theorem KS.levels_set_latest (S : KS) (v : Int32) : (S.set_latest v).levels = S.levels := rfl
theorem KS.cells_set_latest (S : KS) (v : Int32) : (S.set_latest v).cells = S.cells := rfl
theorem KS.plen_set_latest (S : KS) (v : Int32) : (S.set_latest v).plen = S.plen := rfl
theorem KS.pact_set_latest (S : KS) (v : Int32) : (S.set_latest v).pact = S.pact := rfl
theorem KS.py_set_latest (S : KS) (v : Int32) : (S.set_latest v).py = S.py := rfl
theorem KS.pn_set_latest (S : KS) (v : Int32) : (S.set_latest v).pn = S.pn := rfl
theorem KS.stop_set_made (S : KS) (v : Int32) : (S.set_made v).stop = S.stop := rfl
theorem KS.faults_set_made (S : KS) (v : Int32) : (S.set_made v).faults = S.faults := rfl
theorem KS.latest_set_made (S : KS) (v : Int32) : (S.set_made v).latest = S.latest := rfl
theorem KS.made_set_made (S : KS) (v : Int32) : (S.set_made v).made = v := rfl
theorem KS.forms_set_made (S : KS) (v : Int32) : (S.set_made v).forms = S.forms := rfl
theorem KS.lens_set_made (S : KS) (v : Int32) : (S.set_made v).lens = S.lens := rfl
theorem KS.levels_set_made (S : KS) (v : Int32) : (S.set_made v).levels = S.levels := rfl
theorem KS.cells_set_made (S : KS) (v : Int32) : (S.set_made v).cells = S.cells := rfl
theorem KS.plen_set_made (S : KS) (v : Int32) : (S.set_made v).plen = S.plen := rfl
theorem KS.pact_set_made (S : KS) (v : Int32) : (S.set_made v).pact = S.pact := rfl
theorem KS.py_set_made (S : KS) (v : Int32) : (S.set_made v).py = S.py := rfl
theorem KS.pn_set_made (S : KS) (v : Int32) : (S.set_made v).pn = S.pn := rfl
theorem KS.stop_set_forms (S : KS) (v : (Nat → Int32)) : (S.set_forms v).stop = S.stop := rfl
theorem KS.faults_set_forms (S : KS) (v : (Nat → Int32)) : (S.set_forms v).faults = S.faults := rfl
theorem KS.latest_set_forms (S : KS) (v : (Nat → Int32)) : (S.set_forms v).latest = S.latest := rfl
theorem KS.made_set_forms (S : KS) (v : (Nat → Int32)) : (S.set_forms v).made = S.made := rfl
theorem KS.forms_set_forms (S : KS) (v : (Nat → Int32)) : (S.set_forms v).forms = v := rfl
theorem KS.lens_set_forms (S : KS) (v : (Nat → Int32)) : (S.set_forms v).lens = S.lens := rfl
theorem KS.levels_set_forms (S : KS) (v : (Nat → Int32)) : (S.set_forms v).levels = S.levels := rfl
theorem KS.cells_set_forms (S : KS) (v : (Nat → Int32)) : (S.set_forms v).cells = S.cells := rfl
theorem KS.plen_set_forms (S : KS) (v : (Nat → Int32)) : (S.set_forms v).plen = S.plen := rfl
theorem KS.pact_set_forms (S : KS) (v : (Nat → Int32)) : (S.set_forms v).pact = S.pact := rfl
theorem KS.py_set_forms (S : KS) (v : (Nat → Int32)) : (S.set_forms v).py = S.py := rfl
theorem KS.pn_set_forms (S : KS) (v : (Nat → Int32)) : (S.set_forms v).pn = S.pn := rfl
theorem KS.stop_set_lens (S : KS) (v : (Nat → Int32)) : (S.set_lens v).stop = S.stop := rfl
theorem KS.faults_set_lens (S : KS) (v : (Nat → Int32)) : (S.set_lens v).faults = S.faults := rfl
theorem KS.latest_set_lens (S : KS) (v : (Nat → Int32)) : (S.set_lens v).latest = S.latest := rfl
theorem KS.made_set_lens (S : KS) (v : (Nat → Int32)) : (S.set_lens v).made = S.made := rfl
theorem KS.forms_set_lens (S : KS) (v : (Nat → Int32)) : (S.set_lens v).forms = S.forms := rfl
theorem KS.lens_set_lens (S : KS) (v : (Nat → Int32)) : (S.set_lens v).lens = v := rfl
theorem KS.levels_set_lens (S : KS) (v : (Nat → Int32)) : (S.set_lens v).levels = S.levels := rfl
theorem KS.cells_set_lens (S : KS) (v : (Nat → Int32)) : (S.set_lens v).cells = S.cells := rfl
theorem KS.plen_set_lens (S : KS) (v : (Nat → Int32)) : (S.set_lens v).plen = S.plen := rfl
theorem KS.pact_set_lens (S : KS) (v : (Nat → Int32)) : (S.set_lens v).pact = S.pact := rfl
theorem KS.py_set_lens (S : KS) (v : (Nat → Int32)) : (S.set_lens v).py = S.py := rfl
theorem KS.pn_set_lens (S : KS) (v : (Nat → Int32)) : (S.set_lens v).pn = S.pn := rfl
theorem KS.stop_set_levels (S : KS) (v : (Nat → Int32)) : (S.set_levels v).stop = S.stop := rfl
theorem KS.faults_set_levels (S : KS) (v : (Nat → Int32)) : (S.set_levels v).faults = S.faults := rfl
theorem KS.latest_set_levels (S : KS) (v : (Nat → Int32)) : (S.set_levels v).latest = S.latest := rfl
theorem KS.made_set_levels (S : KS) (v : (Nat → Int32)) : (S.set_levels v).made = S.made := rfl
theorem KS.forms_set_levels (S : KS) (v : (Nat → Int32)) : (S.set_levels v).forms = S.forms := rfl
theorem KS.lens_set_levels (S : KS) (v : (Nat → Int32)) : (S.set_levels v).lens = S.lens := rfl
theorem KS.levels_set_levels (S : KS) (v : (Nat → Int32)) : (S.set_levels v).levels = v := rfl
theorem KS.cells_set_levels (S : KS) (v : (Nat → Int32)) : (S.set_levels v).cells = S.cells := rfl
theorem KS.plen_set_levels (S : KS) (v : (Nat → Int32)) : (S.set_levels v).plen = S.plen := rfl
theorem KS.pact_set_levels (S : KS) (v : (Nat → Int32)) : (S.set_levels v).pact = S.pact := rfl
theorem KS.py_set_levels (S : KS) (v : (Nat → Int32)) : (S.set_levels v).py = S.py := rfl
theorem KS.pn_set_levels (S : KS) (v : (Nat → Int32)) : (S.set_levels v).pn = S.pn := rfl
theorem KS.stop_set_cells (S : KS) (v : (Nat → Int64)) : (S.set_cells v).stop = S.stop := rfl
theorem KS.faults_set_cells (S : KS) (v : (Nat → Int64)) : (S.set_cells v).faults = S.faults := rfl
theorem KS.latest_set_cells (S : KS) (v : (Nat → Int64)) : (S.set_cells v).latest = S.latest := rfl
theorem KS.made_set_cells (S : KS) (v : (Nat → Int64)) : (S.set_cells v).made = S.made := rfl
theorem KS.forms_set_cells (S : KS) (v : (Nat → Int64)) : (S.set_cells v).forms = S.forms := rfl
theorem KS.lens_set_cells (S : KS) (v : (Nat → Int64)) : (S.set_cells v).lens = S.lens := rfl
theorem KS.levels_set_cells (S : KS) (v : (Nat → Int64)) : (S.set_cells v).levels = S.levels := rfl
theorem KS.cells_set_cells (S : KS) (v : (Nat → Int64)) : (S.set_cells v).cells = v := rfl
theorem KS.plen_set_cells (S : KS) (v : (Nat → Int64)) : (S.set_cells v).plen = S.plen := rfl
theorem KS.pact_set_cells (S : KS) (v : (Nat → Int64)) : (S.set_cells v).pact = S.pact := rfl
theorem KS.py_set_cells (S : KS) (v : (Nat → Int64)) : (S.set_cells v).py = S.py := rfl
theorem KS.pn_set_cells (S : KS) (v : (Nat → Int64)) : (S.set_cells v).pn = S.pn := rfl
theorem KS.stop_set_plen (S : KS) (v : (Nat → Int32)) : (S.set_plen v).stop = S.stop := rfl
theorem KS.faults_set_plen (S : KS) (v : (Nat → Int32)) : (S.set_plen v).faults = S.faults := rfl
theorem KS.latest_set_plen (S : KS) (v : (Nat → Int32)) : (S.set_plen v).latest = S.latest := rfl
theorem KS.made_set_plen (S : KS) (v : (Nat → Int32)) : (S.set_plen v).made = S.made := rfl
theorem KS.forms_set_plen (S : KS) (v : (Nat → Int32)) : (S.set_plen v).forms = S.forms := rfl
theorem KS.lens_set_plen (S : KS) (v : (Nat → Int32)) : (S.set_plen v).lens = S.lens := rfl
theorem KS.levels_set_plen (S : KS) (v : (Nat → Int32)) : (S.set_plen v).levels = S.levels := rfl
theorem KS.cells_set_plen (S : KS) (v : (Nat → Int32)) : (S.set_plen v).cells = S.cells := rfl
theorem KS.plen_set_plen (S : KS) (v : (Nat → Int32)) : (S.set_plen v).plen = v := rfl
theorem KS.pact_set_plen (S : KS) (v : (Nat → Int32)) : (S.set_plen v).pact = S.pact := rfl
theorem KS.py_set_plen (S : KS) (v : (Nat → Int32)) : (S.set_plen v).py = S.py := rfl
theorem KS.pn_set_plen (S : KS) (v : (Nat → Int32)) : (S.set_plen v).pn = S.pn := rfl
theorem KS.stop_set_pact (S : KS) (v : (Nat → Int32)) : (S.set_pact v).stop = S.stop := rfl
theorem KS.faults_set_pact (S : KS) (v : (Nat → Int32)) : (S.set_pact v).faults = S.faults := rfl
theorem KS.latest_set_pact (S : KS) (v : (Nat → Int32)) : (S.set_pact v).latest = S.latest := rfl
theorem KS.made_set_pact (S : KS) (v : (Nat → Int32)) : (S.set_pact v).made = S.made := rfl
theorem KS.forms_set_pact (S : KS) (v : (Nat → Int32)) : (S.set_pact v).forms = S.forms := rfl
theorem KS.lens_set_pact (S : KS) (v : (Nat → Int32)) : (S.set_pact v).lens = S.lens := rfl
theorem KS.levels_set_pact (S : KS) (v : (Nat → Int32)) : (S.set_pact v).levels = S.levels := rfl
theorem KS.cells_set_pact (S : KS) (v : (Nat → Int32)) : (S.set_pact v).cells = S.cells := rfl
theorem KS.plen_set_pact (S : KS) (v : (Nat → Int32)) : (S.set_pact v).plen = S.plen := rfl
theorem KS.pact_set_pact (S : KS) (v : (Nat → Int32)) : (S.set_pact v).pact = v := rfl
theorem KS.py_set_pact (S : KS) (v : (Nat → Int32)) : (S.set_pact v).py = S.py := rfl
theorem KS.pn_set_pact (S : KS) (v : (Nat → Int32)) : (S.set_pact v).pn = S.pn := rfl
theorem KS.stop_set_py (S : KS) (v : (Nat → Int32)) : (S.set_py v).stop = S.stop := rfl
theorem KS.faults_set_py (S : KS) (v : (Nat → Int32)) : (S.set_py v).faults = S.faults := rfl
theorem KS.latest_set_py (S : KS) (v : (Nat → Int32)) : (S.set_py v).latest = S.latest := rfl
theorem KS.made_set_py (S : KS) (v : (Nat → Int32)) : (S.set_py v).made = S.made := rfl
theorem KS.forms_set_py (S : KS) (v : (Nat → Int32)) : (S.set_py v).forms = S.forms := rfl
theorem KS.lens_set_py (S : KS) (v : (Nat → Int32)) : (S.set_py v).lens = S.lens := rfl
theorem KS.levels_set_py (S : KS) (v : (Nat → Int32)) : (S.set_py v).levels = S.levels := rfl
theorem KS.cells_set_py (S : KS) (v : (Nat → Int32)) : (S.set_py v).cells = S.cells := rfl
theorem KS.plen_set_py (S : KS) (v : (Nat → Int32)) : (S.set_py v).plen = S.plen := rfl
theorem KS.pact_set_py (S : KS) (v : (Nat → Int32)) : (S.set_py v).pact = S.pact := rfl
theorem KS.py_set_py (S : KS) (v : (Nat → Int32)) : (S.set_py v).py = v := rfl
theorem KS.pn_set_py (S : KS) (v : (Nat → Int32)) : (S.set_py v).pn = S.pn := rfl
theorem KS.stop_set_pn (S : KS) (v : (Nat → Int32)) : (S.set_pn v).stop = S.stop := rfl
theorem KS.faults_set_pn (S : KS) (v : (Nat → Int32)) : (S.set_pn v).faults = S.faults := rfl
theorem KS.latest_set_pn (S : KS) (v : (Nat → Int32)) : (S.set_pn v).latest = S.latest := rfl
theorem KS.made_set_pn (S : KS) (v : (Nat → Int32)) : (S.set_pn v).made = S.made := rfl
theorem KS.forms_set_pn (S : KS) (v : (Nat → Int32)) : (S.set_pn v).forms = S.forms := rfl
theorem KS.lens_set_pn (S : KS) (v : (Nat → Int32)) : (S.set_pn v).lens = S.lens := rfl
theorem KS.levels_set_pn (S : KS) (v : (Nat → Int32)) : (S.set_pn v).levels = S.levels := rfl
theorem KS.cells_set_pn (S : KS) (v : (Nat → Int32)) : (S.set_pn v).cells = S.cells := rfl
theorem KS.plen_set_pn (S : KS) (v : (Nat → Int32)) : (S.set_pn v).plen = S.plen := rfl
theorem KS.pact_set_pn (S : KS) (v : (Nat → Int32)) : (S.set_pn v).pact = S.pact := rfl
theorem KS.py_set_pn (S : KS) (v : (Nat → Int32)) : (S.set_pn v).py = S.py := rfl
theorem KS.pn_set_pn (S : KS) (v : (Nat → Int32)) : (S.set_pn v).pn = v := rfl
def cw (cI cJ : ClassId) (a : Nat → Nat) (S : KS) : va_W := [(a 0, .inr (2, [.ref (a 1), .ref (a 2), .int S.stop, .int S.faults, .int S.latest])), (a 1, .inr (1, [.ref (a 3), .ref (a 4), .ref (a 5), .ref (a 6), .int S.made])), (a 2, .inr (0, [.ref (a 7), .ref (a 8), .ref (a 9), .ref (a 10)])), (a 3, .inl (cI, 60, .inl S.forms)), (a 4, .inl (cI, 60, .inl S.lens)), (a 5, .inl (cI, 60, .inl S.levels)), (a 6, .inl (cJ, 480, .inr (.inl S.cells))), (a 7, .inl (cI, 6, .inl S.plen)), (a 8, .inl (cI, 72, .inl S.pact)), (a 9, .inl (cI, 72, .inl S.py)), (a 10, .inl (cI, 72, .inl S.pn))]
theorem cw_set_stop (cI cJ : ClassId) (a : Nat → Nat) (S : KS) (v : Int32) : (cw cI cJ a S).set 0 (a 0, .inr (2, ([.ref (a 1), .ref (a 2), .int S.stop, .int S.faults, .int S.latest] : List Value).set 2 (.int v))) = cw cI cJ a (S.set_stop v) := rfl
theorem cw_set_faults (cI cJ : ClassId) (a : Nat → Nat) (S : KS) (v : Int32) : (cw cI cJ a S).set 0 (a 0, .inr (2, ([.ref (a 1), .ref (a 2), .int S.stop, .int S.faults, .int S.latest] : List Value).set 3 (.int v))) = cw cI cJ a (S.set_faults v) := rfl
theorem cw_set_latest (cI cJ : ClassId) (a : Nat → Nat) (S : KS) (v : Int32) : (cw cI cJ a S).set 0 (a 0, .inr (2, ([.ref (a 1), .ref (a 2), .int S.stop, .int S.faults, .int S.latest] : List Value).set 4 (.int v))) = cw cI cJ a (S.set_latest v) := rfl
theorem cw_set_made (cI cJ : ClassId) (a : Nat → Nat) (S : KS) (v : Int32) : (cw cI cJ a S).set 1 (a 1, .inr (1, ([.ref (a 3), .ref (a 4), .ref (a 5), .ref (a 6), .int S.made] : List Value).set 4 (.int v))) = cw cI cJ a (S.set_made v) := rfl
theorem cw_set_forms (cI cJ : ClassId) (a : Nat → Nat) (S : KS) (v : (Nat → Int32)) : (cw cI cJ a S).set 3 (a 3, .inl (cI, 60, .inl v)) = cw cI cJ a (S.set_forms v) := rfl
theorem cw_set_lens (cI cJ : ClassId) (a : Nat → Nat) (S : KS) (v : (Nat → Int32)) : (cw cI cJ a S).set 4 (a 4, .inl (cI, 60, .inl v)) = cw cI cJ a (S.set_lens v) := rfl
theorem cw_set_levels (cI cJ : ClassId) (a : Nat → Nat) (S : KS) (v : (Nat → Int32)) : (cw cI cJ a S).set 5 (a 5, .inl (cI, 60, .inl v)) = cw cI cJ a (S.set_levels v) := rfl
theorem cw_set_cells (cI cJ : ClassId) (a : Nat → Nat) (S : KS) (v : (Nat → Int64)) : (cw cI cJ a S).set 6 (a 6, .inl (cJ, 480, .inr (.inl v))) = cw cI cJ a (S.set_cells v) := rfl
theorem cw_set_plen (cI cJ : ClassId) (a : Nat → Nat) (S : KS) (v : (Nat → Int32)) : (cw cI cJ a S).set 7 (a 7, .inl (cI, 6, .inl v)) = cw cI cJ a (S.set_plen v) := rfl
theorem cw_set_pact (cI cJ : ClassId) (a : Nat → Nat) (S : KS) (v : (Nat → Int32)) : (cw cI cJ a S).set 8 (a 8, .inl (cI, 72, .inl v)) = cw cI cJ a (S.set_pact v) := rfl
theorem cw_set_py (cI cJ : ClassId) (a : Nat → Nat) (S : KS) (v : (Nat → Int32)) : (cw cI cJ a S).set 9 (a 9, .inl (cI, 72, .inl v)) = cw cI cJ a (S.set_py v) := rfl
theorem cw_set_pn (cI cJ : ClassId) (a : Nat → Nat) (S : KS) (v : (Nat → Int32)) : (cw cI cJ a S).set 10 (a 10, .inl (cI, 72, .inl v)) = cw cI cJ a (S.set_pn v) := rfl
def kA (a : Nat → Nat) (q : Nat) : Prop := ∃ i, i < 11 ∧ q = a i
theorem cw_at {cI cJ : ClassId} {a : Nat → Nat} {S : KS} {k : Nat} {q : Nat × va_E} (h : (cw cI cJ a S)[k]? = some q) : k < 11 ∧ q.1 = a k := by
  match k, h with
  | 0, h => exact ⟨by decide, by cases h; rfl⟩
  | 1, h => exact ⟨by decide, by cases h; rfl⟩
  | 2, h => exact ⟨by decide, by cases h; rfl⟩
  | 3, h => exact ⟨by decide, by cases h; rfl⟩
  | 4, h => exact ⟨by decide, by cases h; rfl⟩
  | 5, h => exact ⟨by decide, by cases h; rfl⟩
  | 6, h => exact ⟨by decide, by cases h; rfl⟩
  | 7, h => exact ⟨by decide, by cases h; rfl⟩
  | 8, h => exact ⟨by decide, by cases h; rfl⟩
  | 9, h => exact ⟨by decide, by cases h; rfl⟩
  | 10, h => exact ⟨by decide, by cases h; rfl⟩
  | k + 11, h => simp [cw] at h
theorem cw_D {cI cJ : ClassId} {a : Nat → Nat} {S : KS} (hd : ∀ i j, i < 11 → j < 11 → a i = a j → i = j) : va_D (kA a) (cw cI cJ a S) := ⟨fun i j p q hp hq h => hd i j (cw_at hp).1 (cw_at hq).1 (by rw [← (cw_at hp).2, ← (cw_at hq).2]; exact h), fun k q h => ⟨k, (cw_at h).1, (cw_at h).2⟩⟩
abbrev cw_tys (cI cJ : ClassId) : TyL := [(cI, .int), (cJ, .long)]
def MS : Type := Int32 × Int32 × Int32 × Int32 × (Nat → Int32) × (Nat → Int32) × (Nat → Int32) × (Nat → Int64) × (Nat → Int32) × (Nat → Int32) × (Nat → Int32) × (Nat → Int32) × (Nat → Int32)
def MS.vals (S : MS) : Int32 := S.1
def MS.faults (S : MS) : Int32 := S.2.1
def MS.latest (S : MS) : Int32 := S.2.2.1
def MS.stop (S : MS) : Int32 := S.2.2.2.1
def MS.forms (S : MS) : Nat → Int32 := S.2.2.2.2.1
def MS.sizes (S : MS) : Nat → Int32 := S.2.2.2.2.2.1
def MS.levels (S : MS) : Nat → Int32 := S.2.2.2.2.2.2.1
def MS.nums (S : MS) : Nat → Int64 := S.2.2.2.2.2.2.2.1
def MS.lies (S : MS) : Nat → Int32 := S.2.2.2.2.2.2.2.2.1
def MS.steps (S : MS) : Nat → Int32 := S.2.2.2.2.2.2.2.2.2.1
def MS.sact (S : MS) : Nat → Int32 := S.2.2.2.2.2.2.2.2.2.2.1
def MS.soth (S : MS) : Nat → Int32 := S.2.2.2.2.2.2.2.2.2.2.2.1
def MS.snum (S : MS) : Nat → Int32 := S.2.2.2.2.2.2.2.2.2.2.2.2
def mkMS (vals : Int32) (faults : Int32) (latest : Int32) (stop : Int32) (forms : (Nat → Int32)) (sizes : (Nat → Int32)) (levels : (Nat → Int32)) (nums : (Nat → Int64)) (lies : (Nat → Int32)) (steps : (Nat → Int32)) (sact : (Nat → Int32)) (soth : (Nat → Int32)) (snum : (Nat → Int32)) : MS := (vals, faults, latest, stop, forms, sizes, levels, nums, lies, steps, sact, soth, snum)
def MS.set_vals (S : MS) (v : Int32) : MS := mkMS v S.faults S.latest S.stop S.forms S.sizes S.levels S.nums S.lies S.steps S.sact S.soth S.snum
def MS.set_faults (S : MS) (v : Int32) : MS := mkMS S.vals v S.latest S.stop S.forms S.sizes S.levels S.nums S.lies S.steps S.sact S.soth S.snum
def MS.set_latest (S : MS) (v : Int32) : MS := mkMS S.vals S.faults v S.stop S.forms S.sizes S.levels S.nums S.lies S.steps S.sact S.soth S.snum
def MS.set_stop (S : MS) (v : Int32) : MS := mkMS S.vals S.faults S.latest v S.forms S.sizes S.levels S.nums S.lies S.steps S.sact S.soth S.snum
def MS.set_forms (S : MS) (v : (Nat → Int32)) : MS := mkMS S.vals S.faults S.latest S.stop v S.sizes S.levels S.nums S.lies S.steps S.sact S.soth S.snum
def MS.set_sizes (S : MS) (v : (Nat → Int32)) : MS := mkMS S.vals S.faults S.latest S.stop S.forms v S.levels S.nums S.lies S.steps S.sact S.soth S.snum
def MS.set_levels (S : MS) (v : (Nat → Int32)) : MS := mkMS S.vals S.faults S.latest S.stop S.forms S.sizes v S.nums S.lies S.steps S.sact S.soth S.snum
def MS.set_nums (S : MS) (v : (Nat → Int64)) : MS := mkMS S.vals S.faults S.latest S.stop S.forms S.sizes S.levels v S.lies S.steps S.sact S.soth S.snum
def MS.set_lies (S : MS) (v : (Nat → Int32)) : MS := mkMS S.vals S.faults S.latest S.stop S.forms S.sizes S.levels S.nums v S.steps S.sact S.soth S.snum
def MS.set_steps (S : MS) (v : (Nat → Int32)) : MS := mkMS S.vals S.faults S.latest S.stop S.forms S.sizes S.levels S.nums S.lies v S.sact S.soth S.snum
def MS.set_sact (S : MS) (v : (Nat → Int32)) : MS := mkMS S.vals S.faults S.latest S.stop S.forms S.sizes S.levels S.nums S.lies S.steps v S.soth S.snum
def MS.set_soth (S : MS) (v : (Nat → Int32)) : MS := mkMS S.vals S.faults S.latest S.stop S.forms S.sizes S.levels S.nums S.lies S.steps S.sact v S.snum
def MS.set_snum (S : MS) (v : (Nat → Int32)) : MS := mkMS S.vals S.faults S.latest S.stop S.forms S.sizes S.levels S.nums S.lies S.steps S.sact S.soth v
theorem MS.vals_set_vals (S : MS) (v : Int32) : (S.set_vals v).vals = v := rfl
theorem MS.faults_set_vals (S : MS) (v : Int32) : (S.set_vals v).faults = S.faults := rfl
theorem MS.latest_set_vals (S : MS) (v : Int32) : (S.set_vals v).latest = S.latest := rfl
theorem MS.stop_set_vals (S : MS) (v : Int32) : (S.set_vals v).stop = S.stop := rfl
theorem MS.forms_set_vals (S : MS) (v : Int32) : (S.set_vals v).forms = S.forms := rfl
theorem MS.sizes_set_vals (S : MS) (v : Int32) : (S.set_vals v).sizes = S.sizes := rfl
theorem MS.levels_set_vals (S : MS) (v : Int32) : (S.set_vals v).levels = S.levels := rfl
theorem MS.nums_set_vals (S : MS) (v : Int32) : (S.set_vals v).nums = S.nums := rfl
theorem MS.lies_set_vals (S : MS) (v : Int32) : (S.set_vals v).lies = S.lies := rfl
theorem MS.steps_set_vals (S : MS) (v : Int32) : (S.set_vals v).steps = S.steps := rfl
theorem MS.sact_set_vals (S : MS) (v : Int32) : (S.set_vals v).sact = S.sact := rfl
theorem MS.soth_set_vals (S : MS) (v : Int32) : (S.set_vals v).soth = S.soth := rfl
theorem MS.snum_set_vals (S : MS) (v : Int32) : (S.set_vals v).snum = S.snum := rfl
theorem MS.vals_set_faults (S : MS) (v : Int32) : (S.set_faults v).vals = S.vals := rfl
theorem MS.faults_set_faults (S : MS) (v : Int32) : (S.set_faults v).faults = v := rfl
theorem MS.latest_set_faults (S : MS) (v : Int32) : (S.set_faults v).latest = S.latest := rfl
theorem MS.stop_set_faults (S : MS) (v : Int32) : (S.set_faults v).stop = S.stop := rfl
theorem MS.forms_set_faults (S : MS) (v : Int32) : (S.set_faults v).forms = S.forms := rfl
theorem MS.sizes_set_faults (S : MS) (v : Int32) : (S.set_faults v).sizes = S.sizes := rfl
theorem MS.levels_set_faults (S : MS) (v : Int32) : (S.set_faults v).levels = S.levels := rfl
theorem MS.nums_set_faults (S : MS) (v : Int32) : (S.set_faults v).nums = S.nums := rfl
theorem MS.lies_set_faults (S : MS) (v : Int32) : (S.set_faults v).lies = S.lies := rfl
theorem MS.steps_set_faults (S : MS) (v : Int32) : (S.set_faults v).steps = S.steps := rfl
theorem MS.sact_set_faults (S : MS) (v : Int32) : (S.set_faults v).sact = S.sact := rfl
theorem MS.soth_set_faults (S : MS) (v : Int32) : (S.set_faults v).soth = S.soth := rfl
theorem MS.snum_set_faults (S : MS) (v : Int32) : (S.set_faults v).snum = S.snum := rfl
theorem MS.vals_set_latest (S : MS) (v : Int32) : (S.set_latest v).vals = S.vals := rfl
theorem MS.faults_set_latest (S : MS) (v : Int32) : (S.set_latest v).faults = S.faults := rfl
theorem MS.latest_set_latest (S : MS) (v : Int32) : (S.set_latest v).latest = v := rfl
theorem MS.stop_set_latest (S : MS) (v : Int32) : (S.set_latest v).stop = S.stop := rfl
theorem MS.forms_set_latest (S : MS) (v : Int32) : (S.set_latest v).forms = S.forms := rfl
theorem MS.sizes_set_latest (S : MS) (v : Int32) : (S.set_latest v).sizes = S.sizes := rfl
theorem MS.levels_set_latest (S : MS) (v : Int32) : (S.set_latest v).levels = S.levels := rfl
theorem MS.nums_set_latest (S : MS) (v : Int32) : (S.set_latest v).nums = S.nums := rfl
theorem MS.lies_set_latest (S : MS) (v : Int32) : (S.set_latest v).lies = S.lies := rfl
theorem MS.steps_set_latest (S : MS) (v : Int32) : (S.set_latest v).steps = S.steps := rfl
theorem MS.sact_set_latest (S : MS) (v : Int32) : (S.set_latest v).sact = S.sact := rfl
theorem MS.soth_set_latest (S : MS) (v : Int32) : (S.set_latest v).soth = S.soth := rfl
theorem MS.snum_set_latest (S : MS) (v : Int32) : (S.set_latest v).snum = S.snum := rfl
theorem MS.vals_set_stop (S : MS) (v : Int32) : (S.set_stop v).vals = S.vals := rfl
theorem MS.faults_set_stop (S : MS) (v : Int32) : (S.set_stop v).faults = S.faults := rfl
theorem MS.latest_set_stop (S : MS) (v : Int32) : (S.set_stop v).latest = S.latest := rfl
theorem MS.stop_set_stop (S : MS) (v : Int32) : (S.set_stop v).stop = v := rfl
theorem MS.forms_set_stop (S : MS) (v : Int32) : (S.set_stop v).forms = S.forms := rfl
theorem MS.sizes_set_stop (S : MS) (v : Int32) : (S.set_stop v).sizes = S.sizes := rfl
theorem MS.levels_set_stop (S : MS) (v : Int32) : (S.set_stop v).levels = S.levels := rfl
theorem MS.nums_set_stop (S : MS) (v : Int32) : (S.set_stop v).nums = S.nums := rfl
theorem MS.lies_set_stop (S : MS) (v : Int32) : (S.set_stop v).lies = S.lies := rfl
theorem MS.steps_set_stop (S : MS) (v : Int32) : (S.set_stop v).steps = S.steps := rfl
theorem MS.sact_set_stop (S : MS) (v : Int32) : (S.set_stop v).sact = S.sact := rfl
theorem MS.soth_set_stop (S : MS) (v : Int32) : (S.set_stop v).soth = S.soth := rfl
theorem MS.snum_set_stop (S : MS) (v : Int32) : (S.set_stop v).snum = S.snum := rfl
theorem MS.vals_set_forms (S : MS) (v : (Nat → Int32)) : (S.set_forms v).vals = S.vals := rfl
theorem MS.faults_set_forms (S : MS) (v : (Nat → Int32)) : (S.set_forms v).faults = S.faults := rfl
theorem MS.latest_set_forms (S : MS) (v : (Nat → Int32)) : (S.set_forms v).latest = S.latest := rfl
theorem MS.stop_set_forms (S : MS) (v : (Nat → Int32)) : (S.set_forms v).stop = S.stop := rfl
theorem MS.forms_set_forms (S : MS) (v : (Nat → Int32)) : (S.set_forms v).forms = v := rfl
theorem MS.sizes_set_forms (S : MS) (v : (Nat → Int32)) : (S.set_forms v).sizes = S.sizes := rfl
theorem MS.levels_set_forms (S : MS) (v : (Nat → Int32)) : (S.set_forms v).levels = S.levels := rfl
theorem MS.nums_set_forms (S : MS) (v : (Nat → Int32)) : (S.set_forms v).nums = S.nums := rfl
theorem MS.lies_set_forms (S : MS) (v : (Nat → Int32)) : (S.set_forms v).lies = S.lies := rfl
theorem MS.steps_set_forms (S : MS) (v : (Nat → Int32)) : (S.set_forms v).steps = S.steps := rfl
theorem MS.sact_set_forms (S : MS) (v : (Nat → Int32)) : (S.set_forms v).sact = S.sact := rfl
theorem MS.soth_set_forms (S : MS) (v : (Nat → Int32)) : (S.set_forms v).soth = S.soth := rfl
theorem MS.snum_set_forms (S : MS) (v : (Nat → Int32)) : (S.set_forms v).snum = S.snum := rfl
theorem MS.vals_set_sizes (S : MS) (v : (Nat → Int32)) : (S.set_sizes v).vals = S.vals := rfl
theorem MS.faults_set_sizes (S : MS) (v : (Nat → Int32)) : (S.set_sizes v).faults = S.faults := rfl
theorem MS.latest_set_sizes (S : MS) (v : (Nat → Int32)) : (S.set_sizes v).latest = S.latest := rfl
theorem MS.stop_set_sizes (S : MS) (v : (Nat → Int32)) : (S.set_sizes v).stop = S.stop := rfl
theorem MS.forms_set_sizes (S : MS) (v : (Nat → Int32)) : (S.set_sizes v).forms = S.forms := rfl
theorem MS.sizes_set_sizes (S : MS) (v : (Nat → Int32)) : (S.set_sizes v).sizes = v := rfl
theorem MS.levels_set_sizes (S : MS) (v : (Nat → Int32)) : (S.set_sizes v).levels = S.levels := rfl
theorem MS.nums_set_sizes (S : MS) (v : (Nat → Int32)) : (S.set_sizes v).nums = S.nums := rfl
theorem MS.lies_set_sizes (S : MS) (v : (Nat → Int32)) : (S.set_sizes v).lies = S.lies := rfl
theorem MS.steps_set_sizes (S : MS) (v : (Nat → Int32)) : (S.set_sizes v).steps = S.steps := rfl
theorem MS.sact_set_sizes (S : MS) (v : (Nat → Int32)) : (S.set_sizes v).sact = S.sact := rfl
theorem MS.soth_set_sizes (S : MS) (v : (Nat → Int32)) : (S.set_sizes v).soth = S.soth := rfl
theorem MS.snum_set_sizes (S : MS) (v : (Nat → Int32)) : (S.set_sizes v).snum = S.snum := rfl
theorem MS.vals_set_levels (S : MS) (v : (Nat → Int32)) : (S.set_levels v).vals = S.vals := rfl
theorem MS.faults_set_levels (S : MS) (v : (Nat → Int32)) : (S.set_levels v).faults = S.faults := rfl
theorem MS.latest_set_levels (S : MS) (v : (Nat → Int32)) : (S.set_levels v).latest = S.latest := rfl
theorem MS.stop_set_levels (S : MS) (v : (Nat → Int32)) : (S.set_levels v).stop = S.stop := rfl
theorem MS.forms_set_levels (S : MS) (v : (Nat → Int32)) : (S.set_levels v).forms = S.forms := rfl
theorem MS.sizes_set_levels (S : MS) (v : (Nat → Int32)) : (S.set_levels v).sizes = S.sizes := rfl
theorem MS.levels_set_levels (S : MS) (v : (Nat → Int32)) : (S.set_levels v).levels = v := rfl
theorem MS.nums_set_levels (S : MS) (v : (Nat → Int32)) : (S.set_levels v).nums = S.nums := rfl
theorem MS.lies_set_levels (S : MS) (v : (Nat → Int32)) : (S.set_levels v).lies = S.lies := rfl
theorem MS.steps_set_levels (S : MS) (v : (Nat → Int32)) : (S.set_levels v).steps = S.steps := rfl
theorem MS.sact_set_levels (S : MS) (v : (Nat → Int32)) : (S.set_levels v).sact = S.sact := rfl
theorem MS.soth_set_levels (S : MS) (v : (Nat → Int32)) : (S.set_levels v).soth = S.soth := rfl
theorem MS.snum_set_levels (S : MS) (v : (Nat → Int32)) : (S.set_levels v).snum = S.snum := rfl
theorem MS.vals_set_nums (S : MS) (v : (Nat → Int64)) : (S.set_nums v).vals = S.vals := rfl
theorem MS.faults_set_nums (S : MS) (v : (Nat → Int64)) : (S.set_nums v).faults = S.faults := rfl
theorem MS.latest_set_nums (S : MS) (v : (Nat → Int64)) : (S.set_nums v).latest = S.latest := rfl
theorem MS.stop_set_nums (S : MS) (v : (Nat → Int64)) : (S.set_nums v).stop = S.stop := rfl
theorem MS.forms_set_nums (S : MS) (v : (Nat → Int64)) : (S.set_nums v).forms = S.forms := rfl
theorem MS.sizes_set_nums (S : MS) (v : (Nat → Int64)) : (S.set_nums v).sizes = S.sizes := rfl
theorem MS.levels_set_nums (S : MS) (v : (Nat → Int64)) : (S.set_nums v).levels = S.levels := rfl
theorem MS.nums_set_nums (S : MS) (v : (Nat → Int64)) : (S.set_nums v).nums = v := rfl
theorem MS.lies_set_nums (S : MS) (v : (Nat → Int64)) : (S.set_nums v).lies = S.lies := rfl
theorem MS.steps_set_nums (S : MS) (v : (Nat → Int64)) : (S.set_nums v).steps = S.steps := rfl
theorem MS.sact_set_nums (S : MS) (v : (Nat → Int64)) : (S.set_nums v).sact = S.sact := rfl
theorem MS.soth_set_nums (S : MS) (v : (Nat → Int64)) : (S.set_nums v).soth = S.soth := rfl
theorem MS.snum_set_nums (S : MS) (v : (Nat → Int64)) : (S.set_nums v).snum = S.snum := rfl
theorem MS.vals_set_lies (S : MS) (v : (Nat → Int32)) : (S.set_lies v).vals = S.vals := rfl
theorem MS.faults_set_lies (S : MS) (v : (Nat → Int32)) : (S.set_lies v).faults = S.faults := rfl
theorem MS.latest_set_lies (S : MS) (v : (Nat → Int32)) : (S.set_lies v).latest = S.latest := rfl
theorem MS.stop_set_lies (S : MS) (v : (Nat → Int32)) : (S.set_lies v).stop = S.stop := rfl
theorem MS.forms_set_lies (S : MS) (v : (Nat → Int32)) : (S.set_lies v).forms = S.forms := rfl
theorem MS.sizes_set_lies (S : MS) (v : (Nat → Int32)) : (S.set_lies v).sizes = S.sizes := rfl
theorem MS.levels_set_lies (S : MS) (v : (Nat → Int32)) : (S.set_lies v).levels = S.levels := rfl
theorem MS.nums_set_lies (S : MS) (v : (Nat → Int32)) : (S.set_lies v).nums = S.nums := rfl
theorem MS.lies_set_lies (S : MS) (v : (Nat → Int32)) : (S.set_lies v).lies = v := rfl
theorem MS.steps_set_lies (S : MS) (v : (Nat → Int32)) : (S.set_lies v).steps = S.steps := rfl
theorem MS.sact_set_lies (S : MS) (v : (Nat → Int32)) : (S.set_lies v).sact = S.sact := rfl
theorem MS.soth_set_lies (S : MS) (v : (Nat → Int32)) : (S.set_lies v).soth = S.soth := rfl
theorem MS.snum_set_lies (S : MS) (v : (Nat → Int32)) : (S.set_lies v).snum = S.snum := rfl
theorem MS.vals_set_steps (S : MS) (v : (Nat → Int32)) : (S.set_steps v).vals = S.vals := rfl
theorem MS.faults_set_steps (S : MS) (v : (Nat → Int32)) : (S.set_steps v).faults = S.faults := rfl
theorem MS.latest_set_steps (S : MS) (v : (Nat → Int32)) : (S.set_steps v).latest = S.latest := rfl
theorem MS.stop_set_steps (S : MS) (v : (Nat → Int32)) : (S.set_steps v).stop = S.stop := rfl
theorem MS.forms_set_steps (S : MS) (v : (Nat → Int32)) : (S.set_steps v).forms = S.forms := rfl
theorem MS.sizes_set_steps (S : MS) (v : (Nat → Int32)) : (S.set_steps v).sizes = S.sizes := rfl
theorem MS.levels_set_steps (S : MS) (v : (Nat → Int32)) : (S.set_steps v).levels = S.levels := rfl
theorem MS.nums_set_steps (S : MS) (v : (Nat → Int32)) : (S.set_steps v).nums = S.nums := rfl
theorem MS.lies_set_steps (S : MS) (v : (Nat → Int32)) : (S.set_steps v).lies = S.lies := rfl
theorem MS.steps_set_steps (S : MS) (v : (Nat → Int32)) : (S.set_steps v).steps = v := rfl
theorem MS.sact_set_steps (S : MS) (v : (Nat → Int32)) : (S.set_steps v).sact = S.sact := rfl
theorem MS.soth_set_steps (S : MS) (v : (Nat → Int32)) : (S.set_steps v).soth = S.soth := rfl
theorem MS.snum_set_steps (S : MS) (v : (Nat → Int32)) : (S.set_steps v).snum = S.snum := rfl
theorem MS.vals_set_sact (S : MS) (v : (Nat → Int32)) : (S.set_sact v).vals = S.vals := rfl
theorem MS.faults_set_sact (S : MS) (v : (Nat → Int32)) : (S.set_sact v).faults = S.faults := rfl
theorem MS.latest_set_sact (S : MS) (v : (Nat → Int32)) : (S.set_sact v).latest = S.latest := rfl
theorem MS.stop_set_sact (S : MS) (v : (Nat → Int32)) : (S.set_sact v).stop = S.stop := rfl
theorem MS.forms_set_sact (S : MS) (v : (Nat → Int32)) : (S.set_sact v).forms = S.forms := rfl
theorem MS.sizes_set_sact (S : MS) (v : (Nat → Int32)) : (S.set_sact v).sizes = S.sizes := rfl
theorem MS.levels_set_sact (S : MS) (v : (Nat → Int32)) : (S.set_sact v).levels = S.levels := rfl
theorem MS.nums_set_sact (S : MS) (v : (Nat → Int32)) : (S.set_sact v).nums = S.nums := rfl
theorem MS.lies_set_sact (S : MS) (v : (Nat → Int32)) : (S.set_sact v).lies = S.lies := rfl
theorem MS.steps_set_sact (S : MS) (v : (Nat → Int32)) : (S.set_sact v).steps = S.steps := rfl
theorem MS.sact_set_sact (S : MS) (v : (Nat → Int32)) : (S.set_sact v).sact = v := rfl
theorem MS.soth_set_sact (S : MS) (v : (Nat → Int32)) : (S.set_sact v).soth = S.soth := rfl
theorem MS.snum_set_sact (S : MS) (v : (Nat → Int32)) : (S.set_sact v).snum = S.snum := rfl
theorem MS.vals_set_soth (S : MS) (v : (Nat → Int32)) : (S.set_soth v).vals = S.vals := rfl
theorem MS.faults_set_soth (S : MS) (v : (Nat → Int32)) : (S.set_soth v).faults = S.faults := rfl
theorem MS.latest_set_soth (S : MS) (v : (Nat → Int32)) : (S.set_soth v).latest = S.latest := rfl
theorem MS.stop_set_soth (S : MS) (v : (Nat → Int32)) : (S.set_soth v).stop = S.stop := rfl
theorem MS.forms_set_soth (S : MS) (v : (Nat → Int32)) : (S.set_soth v).forms = S.forms := rfl
theorem MS.sizes_set_soth (S : MS) (v : (Nat → Int32)) : (S.set_soth v).sizes = S.sizes := rfl
theorem MS.levels_set_soth (S : MS) (v : (Nat → Int32)) : (S.set_soth v).levels = S.levels := rfl
theorem MS.nums_set_soth (S : MS) (v : (Nat → Int32)) : (S.set_soth v).nums = S.nums := rfl
theorem MS.lies_set_soth (S : MS) (v : (Nat → Int32)) : (S.set_soth v).lies = S.lies := rfl
theorem MS.steps_set_soth (S : MS) (v : (Nat → Int32)) : (S.set_soth v).steps = S.steps := rfl
theorem MS.sact_set_soth (S : MS) (v : (Nat → Int32)) : (S.set_soth v).sact = S.sact := rfl
theorem MS.soth_set_soth (S : MS) (v : (Nat → Int32)) : (S.set_soth v).soth = v := rfl
theorem MS.snum_set_soth (S : MS) (v : (Nat → Int32)) : (S.set_soth v).snum = S.snum := rfl
theorem MS.vals_set_snum (S : MS) (v : (Nat → Int32)) : (S.set_snum v).vals = S.vals := rfl
theorem MS.faults_set_snum (S : MS) (v : (Nat → Int32)) : (S.set_snum v).faults = S.faults := rfl
theorem MS.latest_set_snum (S : MS) (v : (Nat → Int32)) : (S.set_snum v).latest = S.latest := rfl
theorem MS.stop_set_snum (S : MS) (v : (Nat → Int32)) : (S.set_snum v).stop = S.stop := rfl
theorem MS.forms_set_snum (S : MS) (v : (Nat → Int32)) : (S.set_snum v).forms = S.forms := rfl
theorem MS.sizes_set_snum (S : MS) (v : (Nat → Int32)) : (S.set_snum v).sizes = S.sizes := rfl
theorem MS.levels_set_snum (S : MS) (v : (Nat → Int32)) : (S.set_snum v).levels = S.levels := rfl
theorem MS.nums_set_snum (S : MS) (v : (Nat → Int32)) : (S.set_snum v).nums = S.nums := rfl
theorem MS.lies_set_snum (S : MS) (v : (Nat → Int32)) : (S.set_snum v).lies = S.lies := rfl
theorem MS.steps_set_snum (S : MS) (v : (Nat → Int32)) : (S.set_snum v).steps = S.steps := rfl
theorem MS.sact_set_snum (S : MS) (v : (Nat → Int32)) : (S.set_snum v).sact = S.sact := rfl
theorem MS.soth_set_snum (S : MS) (v : (Nat → Int32)) : (S.set_snum v).soth = S.soth := rfl
theorem MS.snum_set_snum (S : MS) (v : (Nat → Int32)) : (S.set_snum v).snum = v := rfl
def mw (cI cJ : ClassId) (a : Nat → Nat) (S : MS) : va_W := [(a 0, .inr (3, [.int S.vals, .ref (a 1), .ref (a 2), .ref (a 3), .ref (a 4), .ref (a 5), .ref (a 6), .ref (a 7), .ref (a 8), .ref (a 9), .int S.faults, .int S.latest, .int S.stop])), (a 1, .inl (cI, 60, .inl S.forms)), (a 2, .inl (cI, 60, .inl S.sizes)), (a 3, .inl (cI, 60, .inl S.levels)), (a 4, .inl (cJ, 480, .inr (.inl S.nums))), (a 5, .inl (cI, 480, .inl S.lies)), (a 6, .inl (cI, 6, .inl S.steps)), (a 7, .inl (cI, 72, .inl S.sact)), (a 8, .inl (cI, 72, .inl S.soth)), (a 9, .inl (cI, 72, .inl S.snum))]
theorem mw_set_vals (cI cJ : ClassId) (a : Nat → Nat) (S : MS) (v : Int32) : (mw cI cJ a S).set 0 (a 0, .inr (3, ([.int S.vals, .ref (a 1), .ref (a 2), .ref (a 3), .ref (a 4), .ref (a 5), .ref (a 6), .ref (a 7), .ref (a 8), .ref (a 9), .int S.faults, .int S.latest, .int S.stop] : List Value).set 0 (.int v))) = mw cI cJ a (S.set_vals v) := rfl
theorem mw_set_faults (cI cJ : ClassId) (a : Nat → Nat) (S : MS) (v : Int32) : (mw cI cJ a S).set 0 (a 0, .inr (3, ([.int S.vals, .ref (a 1), .ref (a 2), .ref (a 3), .ref (a 4), .ref (a 5), .ref (a 6), .ref (a 7), .ref (a 8), .ref (a 9), .int S.faults, .int S.latest, .int S.stop] : List Value).set 10 (.int v))) = mw cI cJ a (S.set_faults v) := rfl
theorem mw_set_latest (cI cJ : ClassId) (a : Nat → Nat) (S : MS) (v : Int32) : (mw cI cJ a S).set 0 (a 0, .inr (3, ([.int S.vals, .ref (a 1), .ref (a 2), .ref (a 3), .ref (a 4), .ref (a 5), .ref (a 6), .ref (a 7), .ref (a 8), .ref (a 9), .int S.faults, .int S.latest, .int S.stop] : List Value).set 11 (.int v))) = mw cI cJ a (S.set_latest v) := rfl
theorem mw_set_stop (cI cJ : ClassId) (a : Nat → Nat) (S : MS) (v : Int32) : (mw cI cJ a S).set 0 (a 0, .inr (3, ([.int S.vals, .ref (a 1), .ref (a 2), .ref (a 3), .ref (a 4), .ref (a 5), .ref (a 6), .ref (a 7), .ref (a 8), .ref (a 9), .int S.faults, .int S.latest, .int S.stop] : List Value).set 12 (.int v))) = mw cI cJ a (S.set_stop v) := rfl
theorem mw_set_forms (cI cJ : ClassId) (a : Nat → Nat) (S : MS) (v : (Nat → Int32)) : (mw cI cJ a S).set 1 (a 1, .inl (cI, 60, .inl v)) = mw cI cJ a (S.set_forms v) := rfl
theorem mw_set_sizes (cI cJ : ClassId) (a : Nat → Nat) (S : MS) (v : (Nat → Int32)) : (mw cI cJ a S).set 2 (a 2, .inl (cI, 60, .inl v)) = mw cI cJ a (S.set_sizes v) := rfl
theorem mw_set_levels (cI cJ : ClassId) (a : Nat → Nat) (S : MS) (v : (Nat → Int32)) : (mw cI cJ a S).set 3 (a 3, .inl (cI, 60, .inl v)) = mw cI cJ a (S.set_levels v) := rfl
theorem mw_set_nums (cI cJ : ClassId) (a : Nat → Nat) (S : MS) (v : (Nat → Int64)) : (mw cI cJ a S).set 4 (a 4, .inl (cJ, 480, .inr (.inl v))) = mw cI cJ a (S.set_nums v) := rfl
theorem mw_set_lies (cI cJ : ClassId) (a : Nat → Nat) (S : MS) (v : (Nat → Int32)) : (mw cI cJ a S).set 5 (a 5, .inl (cI, 480, .inl v)) = mw cI cJ a (S.set_lies v) := rfl
theorem mw_set_steps (cI cJ : ClassId) (a : Nat → Nat) (S : MS) (v : (Nat → Int32)) : (mw cI cJ a S).set 6 (a 6, .inl (cI, 6, .inl v)) = mw cI cJ a (S.set_steps v) := rfl
theorem mw_set_sact (cI cJ : ClassId) (a : Nat → Nat) (S : MS) (v : (Nat → Int32)) : (mw cI cJ a S).set 7 (a 7, .inl (cI, 72, .inl v)) = mw cI cJ a (S.set_sact v) := rfl
theorem mw_set_soth (cI cJ : ClassId) (a : Nat → Nat) (S : MS) (v : (Nat → Int32)) : (mw cI cJ a S).set 8 (a 8, .inl (cI, 72, .inl v)) = mw cI cJ a (S.set_soth v) := rfl
theorem mw_set_snum (cI cJ : ClassId) (a : Nat → Nat) (S : MS) (v : (Nat → Int32)) : (mw cI cJ a S).set 9 (a 9, .inl (cI, 72, .inl v)) = mw cI cJ a (S.set_snum v) := rfl
def mA (a : Nat → Nat) (q : Nat) : Prop := ∃ i, i < 10 ∧ q = a i
theorem mw_at {cI cJ : ClassId} {a : Nat → Nat} {S : MS} {k : Nat} {q : Nat × va_E} (h : (mw cI cJ a S)[k]? = some q) : k < 10 ∧ q.1 = a k := by
  match k, h with
  | 0, h => exact ⟨by decide, by cases h; rfl⟩
  | 1, h => exact ⟨by decide, by cases h; rfl⟩
  | 2, h => exact ⟨by decide, by cases h; rfl⟩
  | 3, h => exact ⟨by decide, by cases h; rfl⟩
  | 4, h => exact ⟨by decide, by cases h; rfl⟩
  | 5, h => exact ⟨by decide, by cases h; rfl⟩
  | 6, h => exact ⟨by decide, by cases h; rfl⟩
  | 7, h => exact ⟨by decide, by cases h; rfl⟩
  | 8, h => exact ⟨by decide, by cases h; rfl⟩
  | 9, h => exact ⟨by decide, by cases h; rfl⟩
  | k + 10, h => simp [mw] at h
theorem mw_D {cI cJ : ClassId} {a : Nat → Nat} {S : MS} (hd : ∀ i j, i < 10 → j < 10 → a i = a j → i = j) : va_D (mA a) (mw cI cJ a S) := ⟨fun i j p q hp hq h => hd i j (mw_at hp).1 (mw_at hq).1 (by rw [← (mw_at hp).2, ← (mw_at hq).2]; exact h), fun k q h => ⟨k, (mw_at h).1, (mw_at h).2⟩⟩
abbrev mw_tys (cI cJ : ClassId) : TyL := [(cI, .int), (cJ, .long)]
/-- a number of a value, or none -/
def NV (x : Int32) : Prop := -1 ≤ x.toInt ∧ x.toInt < 60
def KInv (S : KS) : Prop := (0 ≤ S.made.toInt ∧ S.made.toInt ≤ 60) ∧ (∀ i, 0 ≤ (S.lens i).toInt ∧ (S.lens i).toInt ≤ 8) ∧ (∀ i, 0 ≤ (S.plen i).toInt ∧ (S.plen i).toInt ≤ 12)
def MInv (S : MS) : Prop := (0 ≤ S.vals.toInt ∧ S.vals.toInt ≤ 60) ∧ (∀ i, 0 ≤ (S.sizes i).toInt ∧ (S.sizes i).toInt ≤ 8) ∧ (∀ i, NV (S.lies i)) ∧ (∀ i, 0 ≤ (S.steps i).toInt ∧ (S.steps i).toInt ≤ 12) ∧ (∀ i, -2 ≤ (S.soth i).toInt ∧ (S.soth i).toInt < 60)
theorem KInv_set_stop {S : KS} {v : Int32} (h : KInv S) : KInv (S.set_stop v) := h
theorem KInv_set_faults {S : KS} {v : Int32} (h : KInv S) : KInv (S.set_faults v) := h
theorem KInv_set_latest {S : KS} {v : Int32} (h : KInv S) : KInv (S.set_latest v) := h
theorem KInv_set_forms {S : KS} {v : (Nat → Int32)} (h : KInv S) : KInv (S.set_forms v) := h
theorem KInv_set_levels {S : KS} {v : (Nat → Int32)} (h : KInv S) : KInv (S.set_levels v) := h
theorem KInv_set_cells {S : KS} {v : (Nat → Int64)} (h : KInv S) : KInv (S.set_cells v) := h
theorem KInv_set_pact {S : KS} {v : (Nat → Int32)} (h : KInv S) : KInv (S.set_pact v) := h
theorem KInv_set_py {S : KS} {v : (Nat → Int32)} (h : KInv S) : KInv (S.set_py v) := h
theorem KInv_set_pn {S : KS} {v : (Nat → Int32)} (h : KInv S) : KInv (S.set_pn v) := h
theorem MInv_set_faults {S : MS} {v : Int32} (h : MInv S) : MInv (S.set_faults v) := h
theorem MInv_set_latest {S : MS} {v : Int32} (h : MInv S) : MInv (S.set_latest v) := h
theorem MInv_set_stop {S : MS} {v : Int32} (h : MInv S) : MInv (S.set_stop v) := h
theorem MInv_set_forms {S : MS} {v : (Nat → Int32)} (h : MInv S) : MInv (S.set_forms v) := h
theorem MInv_set_levels {S : MS} {v : (Nat → Int32)} (h : MInv S) : MInv (S.set_levels v) := h
theorem MInv_set_nums {S : MS} {v : (Nat → Int64)} (h : MInv S) : MInv (S.set_nums v) := h
theorem MInv_set_sact {S : MS} {v : (Nat → Int32)} (h : MInv S) : MInv (S.set_sact v) := h
theorem MInv_set_snum {S : MS} {v : (Nat → Int32)} (h : MInv S) : MInv (S.set_snum v) := h
end
section
/-! numbers: ranges of indices -/
theorem lt0 {x : Int32} (h : ¬ x < 0) : 0 ≤ x.toInt := by
  rw [Int32.lt_iff_toInt_lt] at h
  have : (0 : Int32).toInt = 0 := by decide
  omega
theorem nle {x k : Int32} (h : ¬ k ≤ x) : x.toInt < k.toInt := by
  rw [Int32.le_iff_toInt_le] at h
  omega
theorem nlt {x k : Int32} (h : ¬ x < k) : k.toInt ≤ x.toInt := by
  rw [Int32.lt_iff_toInt_lt] at h
  omega
theorem in2 {x : Int32} {n : Nat} (h0 : 0 ≤ x.toInt) (h1 : x.toInt < n) : vp_in x n := vp_in_iff.mpr ⟨h0, h1⟩
theorem ne_ite {p : Prop} [Decidable p] {q : Int32} (h : ¬ (if p then (0 : Int32) else q) = 0) : ¬ p ∧ ¬ q = 0 := by
  by_cases hp : p
  · rw [if_pos hp] at h; exact absurd rfl h
  · rw [if_neg hp] at h; exact ⟨hp, h⟩
theorem ix8 {x i : Int32} (hx : vp_in x 60) (hi : vp_in i 8) : vp_in (x * 8 + i) 480 := by
  obtain ⟨X, h1, rfl⟩ := vp_in_of hx (by decide)
  obtain ⟨I, h2, rfl⟩ := vp_in_of hi (by decide)
  rw [show (8 : Int32) = nI 8 from rfl, pk_mul, nI_add]
  exact vp_in_nI (by omega) (by decide)
theorem ix8' {x i : Int32} (hx : vp_in x 60) (hi : vp_in i 8) : vp_in (8 * x + i) 480 := by
  obtain ⟨X, h1, rfl⟩ := vp_in_of hx (by decide)
  obtain ⟨I, h2, rfl⟩ := vp_in_of hi (by decide)
  rw [show (8 : Int32) = nI 8 from rfl, pk_mul, nI_add]
  exact vp_in_nI (by omega) (by decide)
theorem ix80 {x : Int32} (hx : vp_in x 60) : vp_in (8 * x) 480 := by
  obtain ⟨X, h1, rfl⟩ := vp_in_of hx (by decide)
  rw [show (8 : Int32) = nI 8 from rfl, pk_mul]
  exact vp_in_nI (by omega) (by decide)
theorem ix12 {x i : Int32} (hx : vp_in x 6) (hi : vp_in i 12) : vp_in (x * 12 + i) 72 := by
  obtain ⟨X, h1, rfl⟩ := vp_in_of hx (by decide)
  obtain ⟨I, h2, rfl⟩ := vp_in_of hi (by decide)
  rw [show (12 : Int32) = nI 12 from rfl, pk_mul, nI_add]
  exact vp_in_nI (by omega) (by decide)
theorem ix12' {x i : Int32} (hx : vp_in x 6) (hi : vp_in i 12) : vp_in (12 * x + i) 72 := by
  obtain ⟨X, h1, rfl⟩ := vp_in_of hx (by decide)
  obtain ⟨I, h2, rfl⟩ := vp_in_of hi (by decide)
  rw [show (12 : Int32) = nI 12 from rfl, pk_mul, nI_add]
  exact vp_in_nI (by omega) (by decide)
theorem jl8 {x : Int32} {j : Nat} (c : ¬ x ≤ nI j) (hx : x.toInt ≤ 8) (hj : j ≤ 8) : j < 8 := by
  have h := nle c
  rw [nI_toInt (by omega)] at h
  omega
theorem jl12 {x : Int32} {j : Nat} (c : ¬ x ≤ nI j) (hx : x.toInt ≤ 12) (hj : j ≤ 12) : j < 12 := by
  have h := nle c
  rw [nI_toInt (by omega)] at h
  omega
theorem jin {j k : Nat} (h : j < k) (hk : k < 2 ^ 31) : vp_in (nI j) k := vp_in_nI h hk
theorem jl6 {j : Nat} (c : ¬ (6 : Int32) ≤ nI j) (hj : j ≤ 6) : j < 6 := by
  have h := nle c
  rw [nI_toInt (by omega)] at h
  have : (6 : Int32).toInt = 6 := by decide
  omega
theorem add1 {x : Int32} {k : Int} (h0 : 0 ≤ x.toInt) (h1 : x.toInt < k) (hk : k ≤ 1000) : (x + 1).toInt = x.toInt + 1 := by
  obtain ⟨X, h2, rfl⟩ := nI_of (x := x) (by rw [Int32.lt_iff_toInt_lt]; have : (0 : Int32).toInt = 0 := by decide
                                            omega)
  rw [nI_toInt h2] at h1 ⊢
  rw [nI_1, nI_toInt (by omega)]
  omega
end
section
abbrev rmX0_has : Room := { frames := 0, cells := 0, slots := 0, locals := 0 }
theorem eeX0_has : yX0_has.cls = RX0 ∧ yX0_has.cls ≠ "java/lang/invoke/MethodHandle" ∧ yX0_has.cls ≠ "java/lang/invoke/VarHandle" ∧ (parseMethodDescriptor yX0_has.desc).map (fun d => d.parameters.length) = some 1 := by decide +kernel
def f_X0_has (S : KS) (x1 : Int32) : Int32 := if x1 < 0 then (0) else (if 6 ≤ x1 then (0) else (1))
set_option maxHeartbeats 4000000 in
set_option maxRecDepth 100000 in
theorem c_X0_has (l : Launch) (D : va_G) (cI cJ : ClassId) (a : Nat → Nat) (hd : ∀ i j, i < 11 → j < 11 → a i = a j → i = j) (S : KS) (x1 : Int32) : GRi l yX0_has wsX0_has rmX0_has [.ref (a 2), .int x1] D (cw_tys cI cJ) (cw cI cJ a) KInv (kA a) S (f_X0_has S x1) := by
  refine GB_of (cc := cX0_has) (maxL := 2) (ret := (some .boolean)) (by decide) rfl (Nat.le_of_ble_eq_true rfl) ?_
  intro p e s m below meth c C hP hI ls hl
  obtain ⟨hx, hb, hr, hlocks, hml, hown, hts, hK, hN⟩ := id C
  have hS : va_S (kA a) s.heap s.heap [] := va_S.rf
  have hl : lv_has ls 2 [(0, .ref (a 2)), (1, .int x1)] := hl
  refine lv_iload_n hx hb dX0_has_0 rfl (lv_at hl 1 rfl) ?_
  refine lv_if_lt (tgt := 14) hx hb dX0_has_1 (by decide) (fun c_1 => ?_) (fun c_1 => ?_)
  · skip
    refine lv_iconst (v := 0) hx hb dX0_has_14 (by decide) ?_
    exact r_Rz hx hb hr hlocks hP hI hS rfl (by simp only [f_X0_has, if_pos c_1]) dX0_has_15
  · skip
    refine lv_iload_n hx hb dX0_has_4 rfl (lv_at hl 1 rfl) ?_
    refine lv_bipush (v := 6) hx hb dX0_has_5 (by decide) ?_
    refine lv_icmp_ge (tgt := 14) hx hb dX0_has_7 (by decide) (fun c_7 => ?_) (fun c_7 => ?_)
    · skip
      refine lv_iconst (v := 0) hx hb dX0_has_14 (by decide) ?_
      exact r_Rz hx hb hr hlocks hP hI hS rfl (by simp only [f_X0_has, if_neg c_1, if_pos c_7]) dX0_has_15
    · skip
      refine lv_iconst (v := 1) hx hb dX0_has_10 (by decide) ?_
      refine lv_goto (tgt := 15) hx hb dX0_has_11 (by decide) ?_
      exact r_Rz hx hb hr hlocks hP hI hS rfl (by simp only [f_X0_has, if_neg c_1, if_neg c_7]) dX0_has_15
theorem hasP_in {S : KS} {x : Int32} (h : ¬ f_X0_has S x = 0) : vp_in x 6 := by
  unfold f_X0_has at h
  obtain ⟨h1, h⟩ := ne_ite h
  obtain ⟨h2, h⟩ := ne_ite h
  exact in2 (lt0 h1) (nle h2)
abbrev rmX0_hasStep : Room := { frames := 1, cells := 0, slots := 0, locals := 21 }
theorem eeX0_hasStep : yX0_hasStep.cls = RX0 ∧ yX0_hasStep.cls ≠ "java/lang/invoke/MethodHandle" ∧ yX0_hasStep.cls ≠ "java/lang/invoke/VarHandle" ∧ (parseMethodDescriptor yX0_hasStep.desc).map (fun d => d.parameters.length) = some 2 := by decide +kernel
theorem iwX0_hasStep : ∀ w ∈ u_ws RX0 TX0 4, w ∈ wsX0_hasStep := by decide +kernel
theorem flX0_hasStep_9 : Cond.fieldLink RX0 9 "LoomPanel$Patches" "lengths" "[I" ∈ wsX0_hasStep := by decide +kernel
def f_X0_hasStep (S : KS) (x1 : Int32) (x2 : Int32) : Int32 := if (f_X0_has S x1) = 0 then (0) else (if x2 < 0 then (0) else (if (S.plen x1.toNatClampNeg) ≤ x2 then (0) else (1)))
set_option maxHeartbeats 4000000 in
set_option maxRecDepth 100000 in
theorem c_X0_hasStep (l : Launch) (D : va_G) (cI cJ : ClassId) (a : Nat → Nat) (hd : ∀ i j, i < 11 → j < 11 → a i = a j → i = j) (S : KS) (x1 : Int32) (x2 : Int32) : GRi l yX0_hasStep wsX0_hasStep rmX0_hasStep [.ref (a 2), .int x1, .int x2] D (cw_tys cI cJ) (cw cI cJ a) KInv (kA a) S (f_X0_hasStep S x1 x2) := by
  refine GB_of (cc := cX0_hasStep) (maxL := 3) (ret := (some .boolean)) (by decide) rfl (Nat.le_of_ble_eq_true rfl) ?_
  intro p e s m below meth c C hP hI ls hl
  obtain ⟨hx, hb, hr, hlocks, hml, hown, hts, hK, hN⟩ := id C
  have hS : va_S (kA a) s.heap s.heap [] := va_S.rf
  have hl : lv_has ls 3 [(0, .ref (a 2)), (1, .int x1), (2, .int x2)] := hl
  refine lv_aload_n hx hb dX0_hasStep_0 rfl (lv_at hl 0 rfl) ?_
  refine lv_iload_n hx hb dX0_hasStep_1 rfl (lv_at hl 1 rfl) ?_
  refine g_Ri (As := [.int x1]) (rest := []) ⟨hx, hb, hml, hown, hts⟩ (c_X0_has l D cI cJ a hd S x1 ) (cwV 1 hts gX0_hasStep_X0_has rfl rfl rfl eeX0_has ⟨Nat.le_of_ble_eq_true rfl, Nat.le_of_ble_eq_true rfl⟩) hK hN hP hI (va_recv hK hP (ci := 0) (q0 := 2) rfl rfl) hS rfl hl.1 rfl (Nat.le_of_ble_eq_true rfl) dX0_hasStep_2 ⟨Nat.zero_le _, Nat.zero_le _⟩ (fun H locs hP hS => ?_)
  refine lv_if_eq (tgt := 26) hx hb dX0_hasStep_5 (by decide) (fun c_5 => ?_) (fun c_5 => ?_)
  · skip
    refine lv_iconst (v := 0) hx hb dX0_hasStep_26 (by decide) ?_
    exact r_Rz hx hb hr hlocks hP hI hS rfl (by simp only [f_X0_hasStep, if_pos c_5]) dX0_hasStep_27
  · skip
    refine lv_iload_n hx hb dX0_hasStep_8 rfl (lv_at hl 2 rfl) ?_
    refine lv_if_lt (tgt := 26) hx hb dX0_hasStep_9 (by decide) (fun c_9 => ?_) (fun c_9 => ?_)
    · skip
      refine lv_iconst (v := 0) hx hb dX0_hasStep_26 (by decide) ?_
      exact r_Rz hx hb hr hlocks hP hI hS rfl (by simp only [f_X0_hasStep, if_neg c_5, if_pos c_9]) dX0_hasStep_27
    · skip
      refine lv_iload_n hx hb dX0_hasStep_12 rfl (lv_at hl 2 rfl) ?_
      refine lv_aload_n hx hb dX0_hasStep_13 rfl (lv_at hl 0 rfl) ?_
      refine va_get (D := D) (ci := 0) (v := .ref (a 7)) (C := RX0) (T := TX0) (N := 4) hx hb hts iwX0_hasStep hown hK hP 2 rfl rfl 0 (by decide) (hts (.fieldLink RX0 9 "LoomPanel$Patches" "lengths" "[I") flX0_hasStep_9) (fun _ h9 => h9) rfl dX0_hasStep_14 ?_
      refine lv_iload_n hx hb dX0_hasStep_17 rfl (lv_at hl 1 rfl) ?_
      refine va_iald hx hb hK hP 7 0 (f := S.plen) rfl rfl (hasP_in c_5) dX0_hasStep_18 ?_
      refine lv_icmp_ge (tgt := 26) hx hb dX0_hasStep_19 (by decide) (fun c_19 => ?_) (fun c_19 => ?_)
      · skip
        refine lv_iconst (v := 0) hx hb dX0_hasStep_26 (by decide) ?_
        exact r_Rz hx hb hr hlocks hP hI hS rfl (by simp only [f_X0_hasStep, if_neg c_5, if_neg c_9, if_pos c_19]) dX0_hasStep_27
      · skip
        refine lv_iconst (v := 1) hx hb dX0_hasStep_22 (by decide) ?_
        refine lv_goto (tgt := 27) hx hb dX0_hasStep_23 (by decide) ?_
        exact r_Rz hx hb hr hlocks hP hI hS rfl (by simp only [f_X0_hasStep, if_neg c_5, if_neg c_9, if_neg c_19]) dX0_hasStep_27
abbrev rmX0_lengthOf : Room := { frames := 1, cells := 0, slots := 0, locals := 21 }
theorem eeX0_lengthOf : yX0_lengthOf.cls = RX0 ∧ yX0_lengthOf.cls ≠ "java/lang/invoke/MethodHandle" ∧ yX0_lengthOf.cls ≠ "java/lang/invoke/VarHandle" ∧ (parseMethodDescriptor yX0_lengthOf.desc).map (fun d => d.parameters.length) = some 1 := by decide +kernel
theorem iwX0_lengthOf : ∀ w ∈ u_ws RX0 TX0 4, w ∈ wsX0_lengthOf := by decide +kernel
theorem flX0_lengthOf_9 : Cond.fieldLink RX0 9 "LoomPanel$Patches" "lengths" "[I" ∈ wsX0_lengthOf := by decide +kernel
def f_X0_lengthOf (S : KS) (x1 : Int32) : Int32 := if (f_X0_has S x1) = 0 then (0) else (S.plen x1.toNatClampNeg)
set_option maxHeartbeats 4000000 in
set_option maxRecDepth 100000 in
theorem c_X0_lengthOf (l : Launch) (D : va_G) (cI cJ : ClassId) (a : Nat → Nat) (hd : ∀ i j, i < 11 → j < 11 → a i = a j → i = j) (S : KS) (x1 : Int32) : GRi l yX0_lengthOf wsX0_lengthOf rmX0_lengthOf [.ref (a 2), .int x1] D (cw_tys cI cJ) (cw cI cJ a) KInv (kA a) S (f_X0_lengthOf S x1) := by
  refine GB_of (cc := cX0_lengthOf) (maxL := 2) (ret := (some .int)) (by decide) rfl (Nat.le_of_ble_eq_true rfl) ?_
  intro p e s m below meth c C hP hI ls hl
  obtain ⟨hx, hb, hr, hlocks, hml, hown, hts, hK, hN⟩ := id C
  have hS : va_S (kA a) s.heap s.heap [] := va_S.rf
  have hl : lv_has ls 2 [(0, .ref (a 2)), (1, .int x1)] := hl
  refine lv_aload_n hx hb dX0_lengthOf_0 rfl (lv_at hl 0 rfl) ?_
  refine lv_iload_n hx hb dX0_lengthOf_1 rfl (lv_at hl 1 rfl) ?_
  refine g_Ri (As := [.int x1]) (rest := []) ⟨hx, hb, hml, hown, hts⟩ (c_X0_has l D cI cJ a hd S x1 ) (cwV 1 hts gX0_lengthOf_X0_has rfl rfl rfl eeX0_has ⟨Nat.le_of_ble_eq_true rfl, Nat.le_of_ble_eq_true rfl⟩) hK hN hP hI (va_recv hK hP (ci := 0) (q0 := 2) rfl rfl) hS rfl hl.1 rfl (Nat.le_of_ble_eq_true rfl) dX0_lengthOf_2 ⟨Nat.zero_le _, Nat.zero_le _⟩ (fun H locs hP hS => ?_)
  refine lv_if_eq (tgt := 17) hx hb dX0_lengthOf_5 (by decide) (fun c_5 => ?_) (fun c_5 => ?_)
  · skip
    refine lv_iconst (v := 0) hx hb dX0_lengthOf_17 (by decide) ?_
    exact r_Ri hx hb hr hlocks hP hI hS (by simp only [f_X0_lengthOf, if_pos c_5]) dX0_lengthOf_18
  · skip
    refine lv_aload_n hx hb dX0_lengthOf_8 rfl (lv_at hl 0 rfl) ?_
    refine va_get (D := D) (ci := 0) (v := .ref (a 7)) (C := RX0) (T := TX0) (N := 4) hx hb hts iwX0_lengthOf hown hK hP 2 rfl rfl 0 (by decide) (hts (.fieldLink RX0 9 "LoomPanel$Patches" "lengths" "[I") flX0_lengthOf_9) (fun _ h9 => h9) rfl dX0_lengthOf_9 ?_
    refine lv_iload_n hx hb dX0_lengthOf_12 rfl (lv_at hl 1 rfl) ?_
    refine va_iald hx hb hK hP 7 0 (f := S.plen) rfl rfl (hasP_in c_5) dX0_lengthOf_13 ?_
    refine lv_goto (tgt := 18) hx hb dX0_lengthOf_14 (by decide) ?_
    exact r_Ri hx hb hr hlocks hP hI hS (by simp only [f_X0_lengthOf, if_neg c_5]) dX0_lengthOf_18
theorem hasStep_in {S : KS} {x k : Int32} (hI : KInv S) (h : ¬ f_X0_hasStep S x k = 0) : vp_in x 6 ∧ vp_in k 12 := by
  unfold f_X0_hasStep at h
  obtain ⟨h1, h⟩ := ne_ite h
  obtain ⟨h2, h⟩ := ne_ite h
  obtain ⟨h3, h⟩ := ne_ite h
  have := hI.2.2 x.toNatClampNeg
  have := nle h3
  exact ⟨hasP_in h1, in2 (lt0 h2) (by omega)⟩
abbrev rmX0_actOf : Room := { frames := 2, cells := 0, slots := 0, locals := 43 }
theorem eeX0_actOf : yX0_actOf.cls = RX0 ∧ yX0_actOf.cls ≠ "java/lang/invoke/MethodHandle" ∧ yX0_actOf.cls ≠ "java/lang/invoke/VarHandle" ∧ (parseMethodDescriptor yX0_actOf.desc).map (fun d => d.parameters.length) = some 2 := by decide +kernel
theorem iwX0_actOf : ∀ w ∈ u_ws RX0 TX0 4, w ∈ wsX0_actOf := by decide +kernel
theorem flX0_actOf_15 : Cond.fieldLink RX0 15 "LoomPanel$Patches" "acts" "[I" ∈ wsX0_actOf := by decide +kernel
def f_X0_actOf (S : KS) (x1 : Int32) (x2 : Int32) : Int32 := if (f_X0_hasStep S x1 x2) = 0 then (12) else (S.pact ((x1 * 12) + x2).toNatClampNeg)
set_option maxHeartbeats 4000000 in
set_option maxRecDepth 100000 in
theorem c_X0_actOf (l : Launch) (D : va_G) (cI cJ : ClassId) (a : Nat → Nat) (hd : ∀ i j, i < 11 → j < 11 → a i = a j → i = j) (S : KS) (x1 : Int32) (x2 : Int32) : GRi l yX0_actOf wsX0_actOf rmX0_actOf [.ref (a 2), .int x1, .int x2] D (cw_tys cI cJ) (cw cI cJ a) KInv (kA a) S (f_X0_actOf S x1 x2) := by
  refine GB_of (cc := cX0_actOf) (maxL := 3) (ret := (some .int)) (by decide) rfl (Nat.le_of_ble_eq_true rfl) ?_
  intro p e s m below meth c C hP hI ls hl
  obtain ⟨hx, hb, hr, hlocks, hml, hown, hts, hK, hN⟩ := id C
  have hS : va_S (kA a) s.heap s.heap [] := va_S.rf
  have hl : lv_has ls 3 [(0, .ref (a 2)), (1, .int x1), (2, .int x2)] := hl
  refine lv_aload_n hx hb dX0_actOf_0 rfl (lv_at hl 0 rfl) ?_
  refine lv_iload_n hx hb dX0_actOf_1 rfl (lv_at hl 1 rfl) ?_
  refine lv_iload_n hx hb dX0_actOf_2 rfl (lv_at hl 2 rfl) ?_
  refine g_Ri (As := [.int x1, .int x2]) (rest := []) ⟨hx, hb, hml, hown, hts⟩ (c_X0_hasStep l D cI cJ a hd S x1 x2 ) (cwV 2 hts gX0_actOf_X0_hasStep rfl rfl rfl eeX0_hasStep ⟨Nat.le_of_ble_eq_true rfl, Nat.le_of_ble_eq_true rfl⟩) hK hN hP hI (va_recv hK hP (ci := 0) (q0 := 2) rfl rfl) hS rfl hl.1 rfl (Nat.le_of_ble_eq_true rfl) dX0_actOf_3 ⟨Nat.zero_le _, Nat.zero_le _⟩ (fun H locs hP hS => ?_)
  refine lv_if_eq (tgt := 23) hx hb dX0_actOf_6 (by decide) (fun c_6 => ?_) (fun c_6 => ?_)
  · skip
    refine lv_bipush (v := 12) hx hb dX0_actOf_23 (by decide) ?_
    exact r_Ri hx hb hr hlocks hP hI hS (by simp only [f_X0_actOf, if_pos c_6]) dX0_actOf_25
  · skip
    refine lv_aload_n hx hb dX0_actOf_9 rfl (lv_at hl 0 rfl) ?_
    refine va_get (D := D) (ci := 0) (v := .ref (a 8)) (C := RX0) (T := TX0) (N := 4) hx hb hts iwX0_actOf hown hK hP 2 rfl rfl 1 (by decide) (hts (.fieldLink RX0 15 "LoomPanel$Patches" "acts" "[I") flX0_actOf_15) (fun _ h9 => h9) rfl dX0_actOf_10 ?_
    refine lv_iload_n hx hb dX0_actOf_13 rfl (lv_at hl 1 rfl) ?_
    refine lv_bipush (v := 12) hx hb dX0_actOf_14 (by decide) ?_
    refine lv_imul hx hb dX0_actOf_16 ?_
    refine lv_iload_n hx hb dX0_actOf_17 rfl (lv_at hl 2 rfl) ?_
    refine lv_iadd hx hb dX0_actOf_18 ?_
    refine va_iald hx hb hK hP 8 0 (f := S.pact) rfl rfl (ix12 (hasStep_in hI c_6).1 (hasStep_in hI c_6).2) dX0_actOf_19 ?_
    refine lv_goto (tgt := 25) hx hb dX0_actOf_20 (by decide) ?_
    exact r_Ri hx hb hr hlocks hP hI hS (by simp only [f_X0_actOf, if_neg c_6]) dX0_actOf_25
abbrev rmX0_yOf : Room := { frames := 2, cells := 0, slots := 0, locals := 43 }
theorem eeX0_yOf : yX0_yOf.cls = RX0 ∧ yX0_yOf.cls ≠ "java/lang/invoke/MethodHandle" ∧ yX0_yOf.cls ≠ "java/lang/invoke/VarHandle" ∧ (parseMethodDescriptor yX0_yOf.desc).map (fun d => d.parameters.length) = some 2 := by decide +kernel
theorem iwX0_yOf : ∀ w ∈ u_ws RX0 TX0 4, w ∈ wsX0_yOf := by decide +kernel
theorem flX0_yOf_18 : Cond.fieldLink RX0 18 "LoomPanel$Patches" "ys" "[I" ∈ wsX0_yOf := by decide +kernel
def f_X0_yOf (S : KS) (x1 : Int32) (x2 : Int32) : Int32 := if (f_X0_hasStep S x1 x2) = 0 then ((-1)) else (S.py ((x1 * 12) + x2).toNatClampNeg)
set_option maxHeartbeats 4000000 in
set_option maxRecDepth 100000 in
theorem c_X0_yOf (l : Launch) (D : va_G) (cI cJ : ClassId) (a : Nat → Nat) (hd : ∀ i j, i < 11 → j < 11 → a i = a j → i = j) (S : KS) (x1 : Int32) (x2 : Int32) : GRi l yX0_yOf wsX0_yOf rmX0_yOf [.ref (a 2), .int x1, .int x2] D (cw_tys cI cJ) (cw cI cJ a) KInv (kA a) S (f_X0_yOf S x1 x2) := by
  refine GB_of (cc := cX0_yOf) (maxL := 3) (ret := (some .int)) (by decide) rfl (Nat.le_of_ble_eq_true rfl) ?_
  intro p e s m below meth c C hP hI ls hl
  obtain ⟨hx, hb, hr, hlocks, hml, hown, hts, hK, hN⟩ := id C
  have hS : va_S (kA a) s.heap s.heap [] := va_S.rf
  have hl : lv_has ls 3 [(0, .ref (a 2)), (1, .int x1), (2, .int x2)] := hl
  refine lv_aload_n hx hb dX0_yOf_0 rfl (lv_at hl 0 rfl) ?_
  refine lv_iload_n hx hb dX0_yOf_1 rfl (lv_at hl 1 rfl) ?_
  refine lv_iload_n hx hb dX0_yOf_2 rfl (lv_at hl 2 rfl) ?_
  refine g_Ri (As := [.int x1, .int x2]) (rest := []) ⟨hx, hb, hml, hown, hts⟩ (c_X0_hasStep l D cI cJ a hd S x1 x2 ) (cwV 2 hts gX0_yOf_X0_hasStep rfl rfl rfl eeX0_hasStep ⟨Nat.le_of_ble_eq_true rfl, Nat.le_of_ble_eq_true rfl⟩) hK hN hP hI (va_recv hK hP (ci := 0) (q0 := 2) rfl rfl) hS rfl hl.1 rfl (Nat.le_of_ble_eq_true rfl) dX0_yOf_3 ⟨Nat.zero_le _, Nat.zero_le _⟩ (fun H locs hP hS => ?_)
  refine lv_if_eq (tgt := 23) hx hb dX0_yOf_6 (by decide) (fun c_6 => ?_) (fun c_6 => ?_)
  · skip
    refine lv_iconst (v := (-1)) hx hb dX0_yOf_23 (by decide) ?_
    exact r_Ri hx hb hr hlocks hP hI hS (by simp only [f_X0_yOf, if_pos c_6]) dX0_yOf_24
  · skip
    refine lv_aload_n hx hb dX0_yOf_9 rfl (lv_at hl 0 rfl) ?_
    refine va_get (D := D) (ci := 0) (v := .ref (a 9)) (C := RX0) (T := TX0) (N := 4) hx hb hts iwX0_yOf hown hK hP 2 rfl rfl 2 (by decide) (hts (.fieldLink RX0 18 "LoomPanel$Patches" "ys" "[I") flX0_yOf_18) (fun _ h9 => h9) rfl dX0_yOf_10 ?_
    refine lv_iload_n hx hb dX0_yOf_13 rfl (lv_at hl 1 rfl) ?_
    refine lv_bipush (v := 12) hx hb dX0_yOf_14 (by decide) ?_
    refine lv_imul hx hb dX0_yOf_16 ?_
    refine lv_iload_n hx hb dX0_yOf_17 rfl (lv_at hl 2 rfl) ?_
    refine lv_iadd hx hb dX0_yOf_18 ?_
    refine va_iald hx hb hK hP 9 0 (f := S.py) rfl rfl (ix12 (hasStep_in hI c_6).1 (hasStep_in hI c_6).2) dX0_yOf_19 ?_
    refine lv_goto (tgt := 24) hx hb dX0_yOf_20 (by decide) ?_
    exact r_Ri hx hb hr hlocks hP hI hS (by simp only [f_X0_yOf, if_neg c_6]) dX0_yOf_24
abbrev rmX0_nOf : Room := { frames := 2, cells := 0, slots := 0, locals := 43 }
theorem eeX0_nOf : yX0_nOf.cls = RX0 ∧ yX0_nOf.cls ≠ "java/lang/invoke/MethodHandle" ∧ yX0_nOf.cls ≠ "java/lang/invoke/VarHandle" ∧ (parseMethodDescriptor yX0_nOf.desc).map (fun d => d.parameters.length) = some 2 := by decide +kernel
theorem iwX0_nOf : ∀ w ∈ u_ws RX0 TX0 4, w ∈ wsX0_nOf := by decide +kernel
theorem flX0_nOf_21 : Cond.fieldLink RX0 21 "LoomPanel$Patches" "ns" "[I" ∈ wsX0_nOf := by decide +kernel
def f_X0_nOf (S : KS) (x1 : Int32) (x2 : Int32) : Int32 := if (f_X0_hasStep S x1 x2) = 0 then (0) else (S.pn ((x1 * 12) + x2).toNatClampNeg)
set_option maxHeartbeats 4000000 in
set_option maxRecDepth 100000 in
theorem c_X0_nOf (l : Launch) (D : va_G) (cI cJ : ClassId) (a : Nat → Nat) (hd : ∀ i j, i < 11 → j < 11 → a i = a j → i = j) (S : KS) (x1 : Int32) (x2 : Int32) : GRi l yX0_nOf wsX0_nOf rmX0_nOf [.ref (a 2), .int x1, .int x2] D (cw_tys cI cJ) (cw cI cJ a) KInv (kA a) S (f_X0_nOf S x1 x2) := by
  refine GB_of (cc := cX0_nOf) (maxL := 3) (ret := (some .int)) (by decide) rfl (Nat.le_of_ble_eq_true rfl) ?_
  intro p e s m below meth c C hP hI ls hl
  obtain ⟨hx, hb, hr, hlocks, hml, hown, hts, hK, hN⟩ := id C
  have hS : va_S (kA a) s.heap s.heap [] := va_S.rf
  have hl : lv_has ls 3 [(0, .ref (a 2)), (1, .int x1), (2, .int x2)] := hl
  refine lv_aload_n hx hb dX0_nOf_0 rfl (lv_at hl 0 rfl) ?_
  refine lv_iload_n hx hb dX0_nOf_1 rfl (lv_at hl 1 rfl) ?_
  refine lv_iload_n hx hb dX0_nOf_2 rfl (lv_at hl 2 rfl) ?_
  refine g_Ri (As := [.int x1, .int x2]) (rest := []) ⟨hx, hb, hml, hown, hts⟩ (c_X0_hasStep l D cI cJ a hd S x1 x2 ) (cwV 2 hts gX0_nOf_X0_hasStep rfl rfl rfl eeX0_hasStep ⟨Nat.le_of_ble_eq_true rfl, Nat.le_of_ble_eq_true rfl⟩) hK hN hP hI (va_recv hK hP (ci := 0) (q0 := 2) rfl rfl) hS rfl hl.1 rfl (Nat.le_of_ble_eq_true rfl) dX0_nOf_3 ⟨Nat.zero_le _, Nat.zero_le _⟩ (fun H locs hP hS => ?_)
  refine lv_if_eq (tgt := 23) hx hb dX0_nOf_6 (by decide) (fun c_6 => ?_) (fun c_6 => ?_)
  · skip
    refine lv_iconst (v := 0) hx hb dX0_nOf_23 (by decide) ?_
    exact r_Ri hx hb hr hlocks hP hI hS (by simp only [f_X0_nOf, if_pos c_6]) dX0_nOf_24
  · skip
    refine lv_aload_n hx hb dX0_nOf_9 rfl (lv_at hl 0 rfl) ?_
    refine va_get (D := D) (ci := 0) (v := .ref (a 10)) (C := RX0) (T := TX0) (N := 4) hx hb hts iwX0_nOf hown hK hP 2 rfl rfl 3 (by decide) (hts (.fieldLink RX0 21 "LoomPanel$Patches" "ns" "[I") flX0_nOf_21) (fun _ h9 => h9) rfl dX0_nOf_10 ?_
    refine lv_iload_n hx hb dX0_nOf_13 rfl (lv_at hl 1 rfl) ?_
    refine lv_bipush (v := 12) hx hb dX0_nOf_14 (by decide) ?_
    refine lv_imul hx hb dX0_nOf_16 ?_
    refine lv_iload_n hx hb dX0_nOf_17 rfl (lv_at hl 2 rfl) ?_
    refine lv_iadd hx hb dX0_nOf_18 ?_
    refine va_iald hx hb hK hP 10 0 (f := S.pn) rfl rfl (ix12 (hasStep_in hI c_6).1 (hasStep_in hI c_6).2) dX0_nOf_19 ?_
    refine lv_goto (tgt := 24) hx hb dX0_nOf_20 (by decide) ?_
    exact r_Ri hx hb hr hlocks hP hI hS (by simp only [f_X0_nOf, if_neg c_6]) dX0_nOf_24
theorem plen_set {S : KS} {k : Nat} {v : Int32} (hI : KInv S) (h0 : 0 ≤ v.toInt) (h1 : v.toInt ≤ 12) : KInv (S.set_plen (upd S.plen k v)) := by
  refine ⟨hI.1, hI.2.1, fun i => ?_⟩
  show 0 ≤ (upd S.plen k v i).toInt ∧ (upd S.plen k v i).toInt ≤ 12
  by_cases h : i = k
  · subst h; rw [pk_us]; exact ⟨h0, h1⟩
  · rw [pk_un h]; exact hI.2.2 i
theorem plen_up {S : KS} {k j : Nat} (hI : KInv S) (h1 : (S.plen j).toInt < 12) : KInv (S.set_plen (upd S.plen k (S.plen j + 1))) := by
  have h := add1 (hI.2.2 j).1 h1 (by decide)
  exact plen_set hI (by have := hI.2.2 j; omega) (by omega)
abbrev rmX0_append : Room := { frames := 1, cells := 0, slots := 0, locals := 21 }
theorem eeX0_append : yX0_append.cls = RX0 ∧ yX0_append.cls ≠ "java/lang/invoke/MethodHandle" ∧ yX0_append.cls ≠ "java/lang/invoke/VarHandle" ∧ (parseMethodDescriptor yX0_append.desc).map (fun d => d.parameters.length) = some 4 := by decide +kernel
theorem iwX0_append : ∀ w ∈ u_ws RX0 TX0 4, w ∈ wsX0_append := by decide +kernel
theorem flX0_append_15 : Cond.fieldLink RX0 15 "LoomPanel$Patches" "acts" "[I" ∈ wsX0_append := by decide +kernel
theorem flX0_append_18 : Cond.fieldLink RX0 18 "LoomPanel$Patches" "ys" "[I" ∈ wsX0_append := by decide +kernel
theorem flX0_append_21 : Cond.fieldLink RX0 21 "LoomPanel$Patches" "ns" "[I" ∈ wsX0_append := by decide +kernel
theorem flX0_append_9 : Cond.fieldLink RX0 9 "LoomPanel$Patches" "lengths" "[I" ∈ wsX0_append := by decide +kernel
def f_X0_append (S : KS) (x1 : Int32) (x2 : Int32) (x3 : Int32) (x4 : Int32) : Int32 × KS := if (f_X0_has S x1) = 0 then (((-4), S)) else (if (S.plen x1.toNatClampNeg) < 12 then (((((((S.set_pact (upd S.pact ((x1 * 12) + (S.plen x1.toNatClampNeg)).toNatClampNeg x2)).set_py (upd ((S.set_pact (upd S.pact ((x1 * 12) + (S.plen x1.toNatClampNeg)).toNatClampNeg x2)).py) ((x1 * 12) + (S.plen x1.toNatClampNeg)).toNatClampNeg x3)).set_pn (upd (((S.set_pact (upd S.pact ((x1 * 12) + (S.plen x1.toNatClampNeg)).toNatClampNeg x2)).set_py (upd ((S.set_pact (upd S.pact ((x1 * 12) + (S.plen x1.toNatClampNeg)).toNatClampNeg x2)).py) ((x1 * 12) + (S.plen x1.toNatClampNeg)).toNatClampNeg x3)).pn) ((x1 * 12) + (S.plen x1.toNatClampNeg)).toNatClampNeg x4)).set_plen (upd ((((S.set_pact (upd S.pact ((x1 * 12) + (S.plen x1.toNatClampNeg)).toNatClampNeg x2)).set_py (upd ((S.set_pact (upd S.pact ((x1 * 12) + (S.plen x1.toNatClampNeg)).toNatClampNeg x2)).py) ((x1 * 12) + (S.plen x1.toNatClampNeg)).toNatClampNeg x3)).set_pn (upd (((S.set_pact (upd S.pact ((x1 * 12) + (S.plen x1.toNatClampNeg)).toNatClampNeg x2)).set_py (upd ((S.set_pact (upd S.pact ((x1 * 12) + (S.plen x1.toNatClampNeg)).toNatClampNeg x2)).py) ((x1 * 12) + (S.plen x1.toNatClampNeg)).toNatClampNeg x3)).pn) ((x1 * 12) + (S.plen x1.toNatClampNeg)).toNatClampNeg x4)).plen) x1.toNatClampNeg ((((((S.set_pact (upd S.pact ((x1 * 12) + (S.plen x1.toNatClampNeg)).toNatClampNeg x2)).set_py (upd ((S.set_pact (upd S.pact ((x1 * 12) + (S.plen x1.toNatClampNeg)).toNatClampNeg x2)).py) ((x1 * 12) + (S.plen x1.toNatClampNeg)).toNatClampNeg x3)).set_pn (upd (((S.set_pact (upd S.pact ((x1 * 12) + (S.plen x1.toNatClampNeg)).toNatClampNeg x2)).set_py (upd ((S.set_pact (upd S.pact ((x1 * 12) + (S.plen x1.toNatClampNeg)).toNatClampNeg x2)).py) ((x1 * 12) + (S.plen x1.toNatClampNeg)).toNatClampNeg x3)).pn) ((x1 * 12) + (S.plen x1.toNatClampNeg)).toNatClampNeg x4)).plen) x1.toNatClampNeg) + 1))).plen) x1.toNatClampNeg, (((S.set_pact (upd S.pact ((x1 * 12) + (S.plen x1.toNatClampNeg)).toNatClampNeg x2)).set_py (upd ((S.set_pact (upd S.pact ((x1 * 12) + (S.plen x1.toNatClampNeg)).toNatClampNeg x2)).py) ((x1 * 12) + (S.plen x1.toNatClampNeg)).toNatClampNeg x3)).set_pn (upd (((S.set_pact (upd S.pact ((x1 * 12) + (S.plen x1.toNatClampNeg)).toNatClampNeg x2)).set_py (upd ((S.set_pact (upd S.pact ((x1 * 12) + (S.plen x1.toNatClampNeg)).toNatClampNeg x2)).py) ((x1 * 12) + (S.plen x1.toNatClampNeg)).toNatClampNeg x3)).pn) ((x1 * 12) + (S.plen x1.toNatClampNeg)).toNatClampNeg x4)).set_plen (upd ((((S.set_pact (upd S.pact ((x1 * 12) + (S.plen x1.toNatClampNeg)).toNatClampNeg x2)).set_py (upd ((S.set_pact (upd S.pact ((x1 * 12) + (S.plen x1.toNatClampNeg)).toNatClampNeg x2)).py) ((x1 * 12) + (S.plen x1.toNatClampNeg)).toNatClampNeg x3)).set_pn (upd (((S.set_pact (upd S.pact ((x1 * 12) + (S.plen x1.toNatClampNeg)).toNatClampNeg x2)).set_py (upd ((S.set_pact (upd S.pact ((x1 * 12) + (S.plen x1.toNatClampNeg)).toNatClampNeg x2)).py) ((x1 * 12) + (S.plen x1.toNatClampNeg)).toNatClampNeg x3)).pn) ((x1 * 12) + (S.plen x1.toNatClampNeg)).toNatClampNeg x4)).plen) x1.toNatClampNeg ((((((S.set_pact (upd S.pact ((x1 * 12) + (S.plen x1.toNatClampNeg)).toNatClampNeg x2)).set_py (upd ((S.set_pact (upd S.pact ((x1 * 12) + (S.plen x1.toNatClampNeg)).toNatClampNeg x2)).py) ((x1 * 12) + (S.plen x1.toNatClampNeg)).toNatClampNeg x3)).set_pn (upd (((S.set_pact (upd S.pact ((x1 * 12) + (S.plen x1.toNatClampNeg)).toNatClampNeg x2)).set_py (upd ((S.set_pact (upd S.pact ((x1 * 12) + (S.plen x1.toNatClampNeg)).toNatClampNeg x2)).py) ((x1 * 12) + (S.plen x1.toNatClampNeg)).toNatClampNeg x3)).pn) ((x1 * 12) + (S.plen x1.toNatClampNeg)).toNatClampNeg x4)).plen) x1.toNatClampNeg) + 1)))) else (((-4), S)))
set_option maxHeartbeats 4000000 in
set_option maxRecDepth 100000 in
theorem c_X0_append (l : Launch) (D : va_G) (cI cJ : ClassId) (a : Nat → Nat) (hd : ∀ i j, i < 11 → j < 11 → a i = a j → i = j) (S : KS) (x1 : Int32) (x2 : Int32) (x3 : Int32) (x4 : Int32) : GWi l yX0_append wsX0_append rmX0_append [.ref (a 2), .int x1, .int x2, .int x3, .int x4] D (cw_tys cI cJ) (cw cI cJ a) KInv (kA a) S (f_X0_append S x1 x2 x3 x4) := by
  refine GB_of (cc := cX0_append) (maxL := 6) (ret := (some .int)) (by decide) rfl (Nat.le_of_ble_eq_true rfl) ?_
  intro p e s m below meth c C hP hI ls hl
  obtain ⟨hx, hb, hr, hlocks, hml, hown, hts, hK, hN⟩ := id C
  have hS : va_S (kA a) s.heap s.heap [] := va_S.rf
  have hl : lv_has ls 6 [(0, .ref (a 2)), (1, .int x1), (2, .int x2), (3, .int x3), (4, .int x4)] := hl
  refine lv_aload_n hx hb dX0_append_0 rfl (lv_at hl 0 rfl) ?_
  refine lv_iload_n hx hb dX0_append_1 rfl (lv_at hl 1 rfl) ?_
  refine g_Ri (As := [.int x1]) (rest := []) ⟨hx, hb, hml, hown, hts⟩ (c_X0_has l D cI cJ a hd S x1 ) (cwV 1 hts gX0_append_X0_has rfl rfl rfl eeX0_has ⟨Nat.le_of_ble_eq_true rfl, Nat.le_of_ble_eq_true rfl⟩) hK hN hP hI (va_recv hK hP (ci := 0) (q0 := 2) rfl rfl) hS rfl hl.1 rfl (Nat.le_of_ble_eq_true rfl) dX0_append_2 ⟨Nat.zero_le _, Nat.zero_le _⟩ (fun H locs hP hS => ?_)
  refine lv_if_eq (tgt := 19) hx hb dX0_append_5 (by decide) (fun c_5 => ?_) (fun c_5 => ?_)
  · skip
    refine lv_bipush (v := (-4)) hx hb dX0_append_19 (by decide) ?_
    exact r_Wi hx hb hr hlocks hP hI hS (by simp only [f_X0_append, if_pos c_5]) dX0_append_21
  · skip
    refine lv_aload_n hx hb dX0_append_8 rfl (lv_at hl 0 rfl) ?_
    refine va_get (D := D) (ci := 0) (v := .ref (a 7)) (C := RX0) (T := TX0) (N := 4) hx hb hts iwX0_append hown hK hP 2 rfl rfl 0 (by decide) (hts (.fieldLink RX0 9 "LoomPanel$Patches" "lengths" "[I") flX0_append_9) (fun _ h9 => h9) rfl dX0_append_9 ?_
    refine lv_iload_n hx hb dX0_append_12 rfl (lv_at hl 1 rfl) ?_
    refine va_iald hx hb hK hP 7 0 (f := S.plen) rfl rfl (hasP_in c_5) dX0_append_13 ?_
    refine lv_bipush (v := 12) hx hb dX0_append_14 (by decide) ?_
    refine lv_icmp_lt (tgt := 22) hx hb dX0_append_16 (by decide) (fun c_16 => ?_) (fun c_16 => ?_)
    · skip
      refine lv_iload_n hx hb dX0_append_22 rfl (lv_at hl 1 rfl) ?_
      refine lv_bipush (v := 12) hx hb dX0_append_23 (by decide) ?_
      refine lv_imul hx hb dX0_append_25 ?_
      refine lv_aload_n hx hb dX0_append_26 rfl (lv_at hl 0 rfl) ?_
      refine va_get (D := D) (ci := 0) (v := .ref (a 7)) (C := RX0) (T := TX0) (N := 4) hx hb hts iwX0_append hown hK hP 2 rfl rfl 0 (by decide) (hts (.fieldLink RX0 9 "LoomPanel$Patches" "lengths" "[I") flX0_append_9) (fun _ h9 => h9) rfl dX0_append_27 ?_
      refine lv_iload_n hx hb dX0_append_30 rfl (lv_at hl 1 rfl) ?_
      refine va_iald hx hb hK hP 7 0 (f := S.plen) rfl rfl (hasP_in c_5) dX0_append_31 ?_
      refine lv_iadd hx hb dX0_append_32 ?_
      refine lv_istore (lv' := [(5, .int ((x1 * 12) + (S.plen x1.toNatClampNeg))), (0, .ref (a 2)), (1, .int x1), (2, .int x2), (3, .int x3), (4, .int x4)]) hx hb dX0_append_33 hl (by decide) rfl (fun ls hl => ?_)
      refine lv_aload_n hx hb dX0_append_35 rfl (lv_at hl 1 rfl) ?_
      refine va_get (D := D) (ci := 0) (v := .ref (a 8)) (C := RX0) (T := TX0) (N := 4) hx hb hts iwX0_append hown hK hP 2 rfl rfl 1 (by decide) (hts (.fieldLink RX0 15 "LoomPanel$Patches" "acts" "[I") flX0_append_15) (fun _ h9 => h9) rfl dX0_append_36 ?_
      refine lv_iload hx hb dX0_append_39 (lv_at hl 0 rfl) ?_
      refine lv_iload_n hx hb dX0_append_41 rfl (lv_at hl 3 rfl) ?_
      refine va_iast hx hb hK hP (cw_D hd) hS 8 0 (f := S.pact) rfl rfl (ix12 (hasP_in c_5) (in2 (hI.2.2 _).1 (by have h7 := Int32.lt_iff_toInt_lt.mp c_16; exact h7))) dX0_append_42 (fun H locs hP _ hS => ?_)
      have hP : va_P D vwCl (cw cI cJ a (S.set_pact (upd S.pact ((x1 * 12) + (S.plen x1.toNatClampNeg)).toNatClampNeg x2))) H := by rw [← cw_set_pact]; exact hP
      have hI : KInv (S.set_pact (upd S.pact ((x1 * 12) + (S.plen x1.toNatClampNeg)).toNatClampNeg x2)) := KInv_set_pact hI
      refine lv_aload_n hx hb dX0_append_43 rfl (lv_at hl 1 rfl) ?_
      refine va_get (D := D) (ci := 0) (v := .ref (a 9)) (C := RX0) (T := TX0) (N := 4) hx hb hts iwX0_append hown hK hP 2 rfl rfl 2 (by decide) (hts (.fieldLink RX0 18 "LoomPanel$Patches" "ys" "[I") flX0_append_18) (fun _ h9 => h9) rfl dX0_append_44 ?_
      refine lv_iload hx hb dX0_append_47 (lv_at hl 0 rfl) ?_
      refine lv_iload_n hx hb dX0_append_49 rfl (lv_at hl 4 rfl) ?_
      refine va_iast hx hb hK hP (cw_D hd) hS 9 0 (f := (S.set_pact (upd S.pact ((x1 * 12) + (S.plen x1.toNatClampNeg)).toNatClampNeg x2)).py) rfl rfl (ix12 (hasP_in c_5) (in2 (hI.2.2 _).1 (by have h7 := Int32.lt_iff_toInt_lt.mp c_16; exact h7))) dX0_append_50 (fun H locs hP _ hS => ?_)
      have hP : va_P D vwCl (cw cI cJ a ((S.set_pact (upd S.pact ((x1 * 12) + (S.plen x1.toNatClampNeg)).toNatClampNeg x2)).set_py (upd ((S.set_pact (upd S.pact ((x1 * 12) + (S.plen x1.toNatClampNeg)).toNatClampNeg x2)).py) ((x1 * 12) + (S.plen x1.toNatClampNeg)).toNatClampNeg x3))) H := by rw [← cw_set_py]; exact hP
      have hI : KInv ((S.set_pact (upd S.pact ((x1 * 12) + (S.plen x1.toNatClampNeg)).toNatClampNeg x2)).set_py (upd ((S.set_pact (upd S.pact ((x1 * 12) + (S.plen x1.toNatClampNeg)).toNatClampNeg x2)).py) ((x1 * 12) + (S.plen x1.toNatClampNeg)).toNatClampNeg x3)) := KInv_set_py hI
      refine lv_aload_n hx hb dX0_append_51 rfl (lv_at hl 1 rfl) ?_
      refine va_get (D := D) (ci := 0) (v := .ref (a 10)) (C := RX0) (T := TX0) (N := 4) hx hb hts iwX0_append hown hK hP 2 rfl rfl 3 (by decide) (hts (.fieldLink RX0 21 "LoomPanel$Patches" "ns" "[I") flX0_append_21) (fun _ h9 => h9) rfl dX0_append_52 ?_
      refine lv_iload hx hb dX0_append_55 (lv_at hl 0 rfl) ?_
      refine lv_iload hx hb dX0_append_57 (lv_at hl 5 rfl) ?_
      refine va_iast hx hb hK hP (cw_D hd) hS 10 0 (f := ((S.set_pact (upd S.pact ((x1 * 12) + (S.plen x1.toNatClampNeg)).toNatClampNeg x2)).set_py (upd ((S.set_pact (upd S.pact ((x1 * 12) + (S.plen x1.toNatClampNeg)).toNatClampNeg x2)).py) ((x1 * 12) + (S.plen x1.toNatClampNeg)).toNatClampNeg x3)).pn) rfl rfl (ix12 (hasP_in c_5) (in2 (hI.2.2 _).1 (by have h7 := Int32.lt_iff_toInt_lt.mp c_16; exact h7))) dX0_append_59 (fun H locs hP _ hS => ?_)
      have hP : va_P D vwCl (cw cI cJ a (((S.set_pact (upd S.pact ((x1 * 12) + (S.plen x1.toNatClampNeg)).toNatClampNeg x2)).set_py (upd ((S.set_pact (upd S.pact ((x1 * 12) + (S.plen x1.toNatClampNeg)).toNatClampNeg x2)).py) ((x1 * 12) + (S.plen x1.toNatClampNeg)).toNatClampNeg x3)).set_pn (upd (((S.set_pact (upd S.pact ((x1 * 12) + (S.plen x1.toNatClampNeg)).toNatClampNeg x2)).set_py (upd ((S.set_pact (upd S.pact ((x1 * 12) + (S.plen x1.toNatClampNeg)).toNatClampNeg x2)).py) ((x1 * 12) + (S.plen x1.toNatClampNeg)).toNatClampNeg x3)).pn) ((x1 * 12) + (S.plen x1.toNatClampNeg)).toNatClampNeg x4))) H := by rw [← cw_set_pn]; exact hP
      have hI : KInv (((S.set_pact (upd S.pact ((x1 * 12) + (S.plen x1.toNatClampNeg)).toNatClampNeg x2)).set_py (upd ((S.set_pact (upd S.pact ((x1 * 12) + (S.plen x1.toNatClampNeg)).toNatClampNeg x2)).py) ((x1 * 12) + (S.plen x1.toNatClampNeg)).toNatClampNeg x3)).set_pn (upd (((S.set_pact (upd S.pact ((x1 * 12) + (S.plen x1.toNatClampNeg)).toNatClampNeg x2)).set_py (upd ((S.set_pact (upd S.pact ((x1 * 12) + (S.plen x1.toNatClampNeg)).toNatClampNeg x2)).py) ((x1 * 12) + (S.plen x1.toNatClampNeg)).toNatClampNeg x3)).pn) ((x1 * 12) + (S.plen x1.toNatClampNeg)).toNatClampNeg x4)) := KInv_set_pn hI
      refine lv_aload_n hx hb dX0_append_60 rfl (lv_at hl 1 rfl) ?_
      refine va_get (D := D) (ci := 0) (v := .ref (a 7)) (C := RX0) (T := TX0) (N := 4) hx hb hts iwX0_append hown hK hP 2 rfl rfl 0 (by decide) (hts (.fieldLink RX0 9 "LoomPanel$Patches" "lengths" "[I") flX0_append_9) (fun _ h9 => h9) rfl dX0_append_61 ?_
      refine lv_iload_n hx hb dX0_append_64 rfl (lv_at hl 2 rfl) ?_
      refine lv_dup2_11 hx hb dX0_append_65 rfl rfl ?_
      refine va_iald hx hb hK hP 7 0 (f := (((S.set_pact (upd S.pact ((x1 * 12) + (S.plen x1.toNatClampNeg)).toNatClampNeg x2)).set_py (upd ((S.set_pact (upd S.pact ((x1 * 12) + (S.plen x1.toNatClampNeg)).toNatClampNeg x2)).py) ((x1 * 12) + (S.plen x1.toNatClampNeg)).toNatClampNeg x3)).set_pn (upd (((S.set_pact (upd S.pact ((x1 * 12) + (S.plen x1.toNatClampNeg)).toNatClampNeg x2)).set_py (upd ((S.set_pact (upd S.pact ((x1 * 12) + (S.plen x1.toNatClampNeg)).toNatClampNeg x2)).py) ((x1 * 12) + (S.plen x1.toNatClampNeg)).toNatClampNeg x3)).pn) ((x1 * 12) + (S.plen x1.toNatClampNeg)).toNatClampNeg x4)).plen) rfl rfl (hasP_in c_5) dX0_append_66 ?_
      refine lv_iconst (v := 1) hx hb dX0_append_67 (by decide) ?_
      refine lv_iadd hx hb dX0_append_68 ?_
      refine va_iast hx hb hK hP (cw_D hd) hS 7 0 (f := (((S.set_pact (upd S.pact ((x1 * 12) + (S.plen x1.toNatClampNeg)).toNatClampNeg x2)).set_py (upd ((S.set_pact (upd S.pact ((x1 * 12) + (S.plen x1.toNatClampNeg)).toNatClampNeg x2)).py) ((x1 * 12) + (S.plen x1.toNatClampNeg)).toNatClampNeg x3)).set_pn (upd (((S.set_pact (upd S.pact ((x1 * 12) + (S.plen x1.toNatClampNeg)).toNatClampNeg x2)).set_py (upd ((S.set_pact (upd S.pact ((x1 * 12) + (S.plen x1.toNatClampNeg)).toNatClampNeg x2)).py) ((x1 * 12) + (S.plen x1.toNatClampNeg)).toNatClampNeg x3)).pn) ((x1 * 12) + (S.plen x1.toNatClampNeg)).toNatClampNeg x4)).plen) rfl rfl (hasP_in c_5) dX0_append_69 (fun H locs hP _ hS => ?_)
      have hP : va_P D vwCl (cw cI cJ a ((((S.set_pact (upd S.pact ((x1 * 12) + (S.plen x1.toNatClampNeg)).toNatClampNeg x2)).set_py (upd ((S.set_pact (upd S.pact ((x1 * 12) + (S.plen x1.toNatClampNeg)).toNatClampNeg x2)).py) ((x1 * 12) + (S.plen x1.toNatClampNeg)).toNatClampNeg x3)).set_pn (upd (((S.set_pact (upd S.pact ((x1 * 12) + (S.plen x1.toNatClampNeg)).toNatClampNeg x2)).set_py (upd ((S.set_pact (upd S.pact ((x1 * 12) + (S.plen x1.toNatClampNeg)).toNatClampNeg x2)).py) ((x1 * 12) + (S.plen x1.toNatClampNeg)).toNatClampNeg x3)).pn) ((x1 * 12) + (S.plen x1.toNatClampNeg)).toNatClampNeg x4)).set_plen (upd ((((S.set_pact (upd S.pact ((x1 * 12) + (S.plen x1.toNatClampNeg)).toNatClampNeg x2)).set_py (upd ((S.set_pact (upd S.pact ((x1 * 12) + (S.plen x1.toNatClampNeg)).toNatClampNeg x2)).py) ((x1 * 12) + (S.plen x1.toNatClampNeg)).toNatClampNeg x3)).set_pn (upd (((S.set_pact (upd S.pact ((x1 * 12) + (S.plen x1.toNatClampNeg)).toNatClampNeg x2)).set_py (upd ((S.set_pact (upd S.pact ((x1 * 12) + (S.plen x1.toNatClampNeg)).toNatClampNeg x2)).py) ((x1 * 12) + (S.plen x1.toNatClampNeg)).toNatClampNeg x3)).pn) ((x1 * 12) + (S.plen x1.toNatClampNeg)).toNatClampNeg x4)).plen) x1.toNatClampNeg ((((((S.set_pact (upd S.pact ((x1 * 12) + (S.plen x1.toNatClampNeg)).toNatClampNeg x2)).set_py (upd ((S.set_pact (upd S.pact ((x1 * 12) + (S.plen x1.toNatClampNeg)).toNatClampNeg x2)).py) ((x1 * 12) + (S.plen x1.toNatClampNeg)).toNatClampNeg x3)).set_pn (upd (((S.set_pact (upd S.pact ((x1 * 12) + (S.plen x1.toNatClampNeg)).toNatClampNeg x2)).set_py (upd ((S.set_pact (upd S.pact ((x1 * 12) + (S.plen x1.toNatClampNeg)).toNatClampNeg x2)).py) ((x1 * 12) + (S.plen x1.toNatClampNeg)).toNatClampNeg x3)).pn) ((x1 * 12) + (S.plen x1.toNatClampNeg)).toNatClampNeg x4)).plen) x1.toNatClampNeg) + 1)))) H := by rw [← cw_set_plen]; exact hP
      have hI : KInv ((((S.set_pact (upd S.pact ((x1 * 12) + (S.plen x1.toNatClampNeg)).toNatClampNeg x2)).set_py (upd ((S.set_pact (upd S.pact ((x1 * 12) + (S.plen x1.toNatClampNeg)).toNatClampNeg x2)).py) ((x1 * 12) + (S.plen x1.toNatClampNeg)).toNatClampNeg x3)).set_pn (upd (((S.set_pact (upd S.pact ((x1 * 12) + (S.plen x1.toNatClampNeg)).toNatClampNeg x2)).set_py (upd ((S.set_pact (upd S.pact ((x1 * 12) + (S.plen x1.toNatClampNeg)).toNatClampNeg x2)).py) ((x1 * 12) + (S.plen x1.toNatClampNeg)).toNatClampNeg x3)).pn) ((x1 * 12) + (S.plen x1.toNatClampNeg)).toNatClampNeg x4)).set_plen (upd ((((S.set_pact (upd S.pact ((x1 * 12) + (S.plen x1.toNatClampNeg)).toNatClampNeg x2)).set_py (upd ((S.set_pact (upd S.pact ((x1 * 12) + (S.plen x1.toNatClampNeg)).toNatClampNeg x2)).py) ((x1 * 12) + (S.plen x1.toNatClampNeg)).toNatClampNeg x3)).set_pn (upd (((S.set_pact (upd S.pact ((x1 * 12) + (S.plen x1.toNatClampNeg)).toNatClampNeg x2)).set_py (upd ((S.set_pact (upd S.pact ((x1 * 12) + (S.plen x1.toNatClampNeg)).toNatClampNeg x2)).py) ((x1 * 12) + (S.plen x1.toNatClampNeg)).toNatClampNeg x3)).pn) ((x1 * 12) + (S.plen x1.toNatClampNeg)).toNatClampNeg x4)).plen) x1.toNatClampNeg ((((((S.set_pact (upd S.pact ((x1 * 12) + (S.plen x1.toNatClampNeg)).toNatClampNeg x2)).set_py (upd ((S.set_pact (upd S.pact ((x1 * 12) + (S.plen x1.toNatClampNeg)).toNatClampNeg x2)).py) ((x1 * 12) + (S.plen x1.toNatClampNeg)).toNatClampNeg x3)).set_pn (upd (((S.set_pact (upd S.pact ((x1 * 12) + (S.plen x1.toNatClampNeg)).toNatClampNeg x2)).set_py (upd ((S.set_pact (upd S.pact ((x1 * 12) + (S.plen x1.toNatClampNeg)).toNatClampNeg x2)).py) ((x1 * 12) + (S.plen x1.toNatClampNeg)).toNatClampNeg x3)).pn) ((x1 * 12) + (S.plen x1.toNatClampNeg)).toNatClampNeg x4)).plen) x1.toNatClampNeg) + 1))) := plen_up hI (by simp only [KS.plen_set_pact, KS.plen_set_py, KS.plen_set_pn]; exact Int32.lt_iff_toInt_lt.mp c_16)
      refine lv_aload_n hx hb dX0_append_70 rfl (lv_at hl 1 rfl) ?_
      refine va_get (D := D) (ci := 0) (v := .ref (a 7)) (C := RX0) (T := TX0) (N := 4) hx hb hts iwX0_append hown hK hP 2 rfl rfl 0 (by decide) (hts (.fieldLink RX0 9 "LoomPanel$Patches" "lengths" "[I") flX0_append_9) (fun _ h9 => h9) rfl dX0_append_71 ?_
      refine lv_iload_n hx hb dX0_append_74 rfl (lv_at hl 2 rfl) ?_
      refine va_iald hx hb hK hP 7 0 (f := ((((S.set_pact (upd S.pact ((x1 * 12) + (S.plen x1.toNatClampNeg)).toNatClampNeg x2)).set_py (upd ((S.set_pact (upd S.pact ((x1 * 12) + (S.plen x1.toNatClampNeg)).toNatClampNeg x2)).py) ((x1 * 12) + (S.plen x1.toNatClampNeg)).toNatClampNeg x3)).set_pn (upd (((S.set_pact (upd S.pact ((x1 * 12) + (S.plen x1.toNatClampNeg)).toNatClampNeg x2)).set_py (upd ((S.set_pact (upd S.pact ((x1 * 12) + (S.plen x1.toNatClampNeg)).toNatClampNeg x2)).py) ((x1 * 12) + (S.plen x1.toNatClampNeg)).toNatClampNeg x3)).pn) ((x1 * 12) + (S.plen x1.toNatClampNeg)).toNatClampNeg x4)).set_plen (upd ((((S.set_pact (upd S.pact ((x1 * 12) + (S.plen x1.toNatClampNeg)).toNatClampNeg x2)).set_py (upd ((S.set_pact (upd S.pact ((x1 * 12) + (S.plen x1.toNatClampNeg)).toNatClampNeg x2)).py) ((x1 * 12) + (S.plen x1.toNatClampNeg)).toNatClampNeg x3)).set_pn (upd (((S.set_pact (upd S.pact ((x1 * 12) + (S.plen x1.toNatClampNeg)).toNatClampNeg x2)).set_py (upd ((S.set_pact (upd S.pact ((x1 * 12) + (S.plen x1.toNatClampNeg)).toNatClampNeg x2)).py) ((x1 * 12) + (S.plen x1.toNatClampNeg)).toNatClampNeg x3)).pn) ((x1 * 12) + (S.plen x1.toNatClampNeg)).toNatClampNeg x4)).plen) x1.toNatClampNeg ((((((S.set_pact (upd S.pact ((x1 * 12) + (S.plen x1.toNatClampNeg)).toNatClampNeg x2)).set_py (upd ((S.set_pact (upd S.pact ((x1 * 12) + (S.plen x1.toNatClampNeg)).toNatClampNeg x2)).py) ((x1 * 12) + (S.plen x1.toNatClampNeg)).toNatClampNeg x3)).set_pn (upd (((S.set_pact (upd S.pact ((x1 * 12) + (S.plen x1.toNatClampNeg)).toNatClampNeg x2)).set_py (upd ((S.set_pact (upd S.pact ((x1 * 12) + (S.plen x1.toNatClampNeg)).toNatClampNeg x2)).py) ((x1 * 12) + (S.plen x1.toNatClampNeg)).toNatClampNeg x3)).pn) ((x1 * 12) + (S.plen x1.toNatClampNeg)).toNatClampNeg x4)).plen) x1.toNatClampNeg) + 1))).plen) rfl rfl (hasP_in c_5) dX0_append_75 ?_
      exact r_Wi hx hb hr hlocks hP hI hS (by simp only [f_X0_append, if_neg c_5, if_pos c_16]) dX0_append_76
    · skip
      refine lv_bipush (v := (-4)) hx hb dX0_append_19 (by decide) ?_
      exact r_Wi hx hb hr hlocks hP hI hS (by simp only [f_X0_append, if_neg c_5, if_neg c_16]) dX0_append_21
abbrev rmX0_drop : Room := { frames := 2, cells := 0, slots := 0, locals := 42 }
theorem eeX0_drop : yX0_drop.cls = RX0 ∧ yX0_drop.cls ≠ "java/lang/invoke/MethodHandle" ∧ yX0_drop.cls ≠ "java/lang/invoke/VarHandle" ∧ (parseMethodDescriptor yX0_drop.desc).map (fun d => d.parameters.length) = some 1 := by decide +kernel
theorem iwX0_drop : ∀ w ∈ u_ws RX0 TX0 4, w ∈ wsX0_drop := by decide +kernel
theorem flX0_drop_9 : Cond.fieldLink RX0 9 "LoomPanel$Patches" "lengths" "[I" ∈ wsX0_drop := by decide +kernel
def f_X0_drop (S : KS) (x1 : Int32) : Int32 × KS := if (f_X0_has S x1) = 0 then ((f_X0_lengthOf S x1, S)) else ((f_X0_lengthOf S x1, S.set_plen (upd S.plen x1.toNatClampNeg 0)))
set_option maxHeartbeats 4000000 in
set_option maxRecDepth 100000 in
theorem c_X0_drop (l : Launch) (D : va_G) (cI cJ : ClassId) (a : Nat → Nat) (hd : ∀ i j, i < 11 → j < 11 → a i = a j → i = j) (S : KS) (x1 : Int32) : GWi l yX0_drop wsX0_drop rmX0_drop [.ref (a 2), .int x1] D (cw_tys cI cJ) (cw cI cJ a) KInv (kA a) S (f_X0_drop S x1) := by
  refine GB_of (cc := cX0_drop) (maxL := 3) (ret := (some .int)) (by decide) rfl (Nat.le_of_ble_eq_true rfl) ?_
  intro p e s m below meth c C hP hI ls hl
  obtain ⟨hx, hb, hr, hlocks, hml, hown, hts, hK, hN⟩ := id C
  have hS : va_S (kA a) s.heap s.heap [] := va_S.rf
  have hl : lv_has ls 3 [(0, .ref (a 2)), (1, .int x1)] := hl
  refine lv_aload_n hx hb dX0_drop_0 rfl (lv_at hl 0 rfl) ?_
  refine lv_iload_n hx hb dX0_drop_1 rfl (lv_at hl 1 rfl) ?_
  refine g_Ri (As := [.int x1]) (rest := []) ⟨hx, hb, hml, hown, hts⟩ (c_X0_lengthOf l D cI cJ a hd S x1 ) (cwV 1 hts gX0_drop_X0_lengthOf rfl rfl rfl eeX0_lengthOf ⟨Nat.le_of_ble_eq_true rfl, Nat.le_of_ble_eq_true rfl⟩) hK hN hP hI (va_recv hK hP (ci := 0) (q0 := 2) rfl rfl) hS rfl hl.1 rfl (Nat.le_of_ble_eq_true rfl) dX0_drop_2 ⟨Nat.zero_le _, Nat.zero_le _⟩ (fun H locs hP hS => ?_)
  refine lv_istore_n (lv' := [(2, .int (f_X0_lengthOf S x1)), (0, .ref (a 2)), (1, .int x1)]) hx hb dX0_drop_5 rfl hl (by decide) rfl (fun ls hl => ?_)
  refine lv_aload_n hx hb dX0_drop_6 rfl (lv_at hl 1 rfl) ?_
  refine lv_iload_n hx hb dX0_drop_7 rfl (lv_at hl 2 rfl) ?_
  refine g_Ri (As := [.int x1]) (rest := []) ⟨hx, hb, hml, hown, hts⟩ (c_X0_has l D cI cJ a hd S x1 ) (cwV 1 hts gX0_drop_X0_has rfl rfl rfl eeX0_has ⟨Nat.le_of_ble_eq_true rfl, Nat.le_of_ble_eq_true rfl⟩) hK hN hP hI (va_recv hK hP (ci := 0) (q0 := 2) rfl rfl) hS rfl hl.1 rfl (Nat.le_of_ble_eq_true rfl) dX0_drop_8 ⟨Nat.zero_le _, Nat.zero_le _⟩ (fun H locs hP hS => ?_)
  refine lv_if_eq (tgt := 21) hx hb dX0_drop_11 (by decide) (fun c_11 => ?_) (fun c_11 => ?_)
  · skip
    refine lv_iload_n hx hb dX0_drop_21 rfl (lv_at hl 0 rfl) ?_
    exact r_Wi hx hb hr hlocks hP hI hS (by simp only [f_X0_drop, if_pos c_11]) dX0_drop_22
  · skip
    refine lv_aload_n hx hb dX0_drop_14 rfl (lv_at hl 1 rfl) ?_
    refine va_get (D := D) (ci := 0) (v := .ref (a 7)) (C := RX0) (T := TX0) (N := 4) hx hb hts iwX0_drop hown hK hP 2 rfl rfl 0 (by decide) (hts (.fieldLink RX0 9 "LoomPanel$Patches" "lengths" "[I") flX0_drop_9) (fun _ h9 => h9) rfl dX0_drop_15 ?_
    refine lv_iload_n hx hb dX0_drop_18 rfl (lv_at hl 2 rfl) ?_
    refine lv_iconst (v := 0) hx hb dX0_drop_19 (by decide) ?_
    refine va_iast hx hb hK hP (cw_D hd) hS 7 0 (f := S.plen) rfl rfl (hasP_in c_11) dX0_drop_20 (fun H locs hP _ hS => ?_)
    have hP : va_P D vwCl (cw cI cJ a (S.set_plen (upd S.plen x1.toNatClampNeg 0))) H := by rw [← cw_set_plen]; exact hP
    have hI : KInv (S.set_plen (upd S.plen x1.toNatClampNeg 0)) := plen_set hI (by decide) (by decide)
    refine lv_iload_n hx hb dX0_drop_21 rfl (lv_at hl 0 rfl) ?_
    exact r_Wi hx hb hr hlocks hP hI hS (by simp only [f_X0_drop, if_neg c_11]) dX0_drop_22
abbrev rmX0_dropAll : Room := { frames := 0, cells := 0, slots := 0, locals := 0 }
theorem eeX0_dropAll : yX0_dropAll.cls = RX0 ∧ yX0_dropAll.cls ≠ "java/lang/invoke/MethodHandle" ∧ yX0_dropAll.cls ≠ "java/lang/invoke/VarHandle" ∧ (parseMethodDescriptor yX0_dropAll.desc).map (fun d => d.parameters.length) = some 0 := by decide +kernel
theorem iwX0_dropAll : ∀ w ∈ u_ws RX0 TX0 4, w ∈ wsX0_dropAll := by decide +kernel
theorem flX0_dropAll_9 : Cond.fieldLink RX0 9 "LoomPanel$Patches" "lengths" "[I" ∈ wsX0_dropAll := by decide +kernel
def f_X0_dropAll_c2 : Nat → KS → Nat → KS
  | 0, S, _ => S
  | n + 1, S, j => if 6 ≤ (nI j) then (S) else (f_X0_dropAll_c2 n (S.set_plen (upd S.plen (nI j).toNatClampNeg 0)) (j + 1))
set_option maxHeartbeats 4000000 in
set_option maxRecDepth 100000 in
theorem w_X0_dropAll_c2 {l : Launch} {D : va_G} {cI cJ : ClassId} {a : Nat → Nat} (hd : ∀ i j, i < 11 → j < 11 → a i = a j → i = j) {p : Program} {e : Env} {s : State} {m : MethodId} {args : Array Value} {below : List Frame} {meth : Method} {c : Code} (C : GC p s m meth c cX0_dropAll none 2 RX0 wsX0_dropAll args D (cw_tys cI cJ)) {v : KS} : ∀ (n : Nat) (S : KS) (j : Nat) (hj : j ≤ 6) (hn : j + n = 7) (H : Heap) (locs : List Loc) (ls : Array Slot), va_P D vwCl (cw cI cJ a S) H → KInv S → va_S (kA a) s.heap H locs → lv_has ls 2 [(0, .ref (a 2)), (1, .int (nI j))] → v = f_X0_dropAll_c2 n S j → W p l e rmX0_dropAll s m args below meth c H locs 0 0 (MQ below (va_Qv (fun u => v = u) (GE D (cw cI cJ a) KInv) (kA a)) args s 0 0 (kA a)) (F0 m 2 ls []) := by
  obtain ⟨hx, hb, hr, hlocks, hml, hown, hts, hK, hN⟩ := id C
  intro n
  induction n with
  | zero =>
    intro S j hj hn H locs ls hP hI hS hl hq
    exact absurd hn (by omega)
  | succ n ih =>
    intro S j hj hn H locs ls hP hI hS hl hq
    refine lv_iload_n hx hb dX0_dropAll_2 rfl (lv_at hl 1 rfl) ?_
    refine lv_bipush (v := 6) hx hb dX0_dropAll_3 (by decide) ?_
    refine lv_icmp_ge (tgt := 21) hx hb dX0_dropAll_5 (by decide) (fun c_5 => ?_) (fun c_5 => ?_)
    · skip
      exact r_Wv hx hb hr hlocks hP hI hS (hq.trans (by simp only [f_X0_dropAll_c2, if_pos c_5])) dX0_dropAll_21
    · skip
      refine lv_aload_n hx hb dX0_dropAll_8 rfl (lv_at hl 0 rfl) ?_
      refine va_get (D := D) (ci := 0) (v := .ref (a 7)) (C := RX0) (T := TX0) (N := 4) hx hb hts iwX0_dropAll hown hK hP 2 rfl rfl 0 (by decide) (hts (.fieldLink RX0 9 "LoomPanel$Patches" "lengths" "[I") flX0_dropAll_9) (fun _ h9 => h9) rfl dX0_dropAll_9 ?_
      refine lv_iload_n hx hb dX0_dropAll_12 rfl (lv_at hl 1 rfl) ?_
      refine lv_iconst (v := 0) hx hb dX0_dropAll_13 (by decide) ?_
      refine va_iast hx hb hK hP (cw_D hd) hS 7 0 (f := S.plen) rfl rfl (jin (jl6 c_5 hj) (by decide)) dX0_dropAll_14 (fun H locs hP _ hS => ?_)
      have hP : va_P D vwCl (cw cI cJ a (S.set_plen (upd S.plen (nI j).toNatClampNeg 0))) H := by rw [← cw_set_plen]; exact hP
      have hI : KInv (S.set_plen (upd S.plen (nI j).toNatClampNeg 0)) := plen_set hI (by decide) (by decide)
      refine lv_iinc (v := nI (j + 1)) (lv' := [(1, .int (nI (j + 1))), (0, .ref (a 2))]) hx hb dX0_dropAll_15 hl (k := 1) rfl (nI_1 _) (by decide) rfl (fun ls hl => ?_)
      refine lv_goto (tgt := 2) hx hb dX0_dropAll_18 (by decide) ?_
      exact ih (S.set_plen (upd S.plen (nI j).toNatClampNeg 0)) (j + 1) (jl6 c_5 hj) (by omega) _ _ _ hP hI hS (lv_sub hl [1, 0] rfl) (hq.trans (by simp only [f_X0_dropAll_c2, if_neg c_5]))
def f_X0_dropAll (S : KS)  : KS := f_X0_dropAll_c2 7 S 0
set_option maxHeartbeats 4000000 in
set_option maxRecDepth 100000 in
theorem c_X0_dropAll (l : Launch) (D : va_G) (cI cJ : ClassId) (a : Nat → Nat) (hd : ∀ i j, i < 11 → j < 11 → a i = a j → i = j) (S : KS)  : GWv l yX0_dropAll wsX0_dropAll rmX0_dropAll [.ref (a 2)] D (cw_tys cI cJ) (cw cI cJ a) KInv (kA a) S (f_X0_dropAll S ) := by
  refine GB_of (cc := cX0_dropAll) (maxL := 2) (ret := none) (by decide) rfl (Nat.le_of_ble_eq_true rfl) ?_
  intro p e s m below meth c C hP hI ls hl
  obtain ⟨hx, hb, hr, hlocks, hml, hown, hts, hK, hN⟩ := id C
  have hS : va_S (kA a) s.heap s.heap [] := va_S.rf
  have hl : lv_has ls 2 [(0, .ref (a 2))] := hl
  refine lv_iconst (v := 0) hx hb dX0_dropAll_0 (by decide) ?_
  refine lv_istore_n (lv' := [(1, .int 0), (0, .ref (a 2))]) hx hb dX0_dropAll_1 rfl hl (by decide) rfl (fun ls hl => ?_)
  exact w_X0_dropAll_c2 hd C 7 S 0 (Nat.zero_le _) rfl _ _ _ hP hI hS (lv_sub hl [1, 0] rfl) (by simp only [f_X0_dropAll])
abbrev rmX1_made : Room := { frames := 0, cells := 0, slots := 0, locals := 0 }
theorem eeX1_made : yX1_made.cls = RX1 ∧ yX1_made.cls ≠ "java/lang/invoke/MethodHandle" ∧ yX1_made.cls ≠ "java/lang/invoke/VarHandle" ∧ (parseMethodDescriptor yX1_made.desc).map (fun d => d.parameters.length) = some 0 := by decide +kernel
theorem iwX1_made : ∀ w ∈ u_ws RX1 TX1 5, w ∈ wsX1_made := by decide +kernel
theorem flX1_made_25 : Cond.fieldLink RX1 25 "LoomPanel$Values" "made" "I" ∈ wsX1_made := by decide +kernel
def f_X1_made (S : KS)  : Int32 := S.made
set_option maxHeartbeats 4000000 in
set_option maxRecDepth 100000 in
theorem c_X1_made (l : Launch) (D : va_G) (cI cJ : ClassId) (a : Nat → Nat) (hd : ∀ i j, i < 11 → j < 11 → a i = a j → i = j) (S : KS)  : GRi l yX1_made wsX1_made rmX1_made [.ref (a 1)] D (cw_tys cI cJ) (cw cI cJ a) KInv (kA a) S (f_X1_made S ) := by
  refine GB_of (cc := cX1_made) (maxL := 1) (ret := (some .int)) (by decide) rfl (Nat.le_of_ble_eq_true rfl) ?_
  intro p e s m below meth c C hP hI ls hl
  obtain ⟨hx, hb, hr, hlocks, hml, hown, hts, hK, hN⟩ := id C
  have hS : va_S (kA a) s.heap s.heap [] := va_S.rf
  have hl : lv_has ls 1 [(0, .ref (a 1))] := hl
  refine lv_aload_n hx hb dX1_made_0 rfl (lv_at hl 0 rfl) ?_
  refine va_get (D := D) (ci := 1) (v := .int S.made) (C := RX1) (T := TX1) (N := 5) hx hb hts iwX1_made hown hK hP 1 rfl rfl 4 (by decide) (hts (.fieldLink RX1 25 "LoomPanel$Values" "made" "I") flX1_made_25) (fun _ h9 => h9) rfl dX1_made_1 ?_
  exact r_Ri hx hb hr hlocks hP hI hS (by simp only [f_X1_made]) dX1_made_4
abbrev rmX1_has : Room := { frames := 0, cells := 0, slots := 0, locals := 0 }
theorem eeX1_has : yX1_has.cls = RX1 ∧ yX1_has.cls ≠ "java/lang/invoke/MethodHandle" ∧ yX1_has.cls ≠ "java/lang/invoke/VarHandle" ∧ (parseMethodDescriptor yX1_has.desc).map (fun d => d.parameters.length) = some 1 := by decide +kernel
theorem iwX1_has : ∀ w ∈ u_ws RX1 TX1 5, w ∈ wsX1_has := by decide +kernel
theorem flX1_has_25 : Cond.fieldLink RX1 25 "LoomPanel$Values" "made" "I" ∈ wsX1_has := by decide +kernel
def f_X1_has (S : KS) (x1 : Int32) : Int32 := if x1 < 0 then (0) else (if S.made ≤ x1 then (0) else (1))
set_option maxHeartbeats 4000000 in
set_option maxRecDepth 100000 in
theorem c_X1_has (l : Launch) (D : va_G) (cI cJ : ClassId) (a : Nat → Nat) (hd : ∀ i j, i < 11 → j < 11 → a i = a j → i = j) (S : KS) (x1 : Int32) : GRi l yX1_has wsX1_has rmX1_has [.ref (a 1), .int x1] D (cw_tys cI cJ) (cw cI cJ a) KInv (kA a) S (f_X1_has S x1) := by
  refine GB_of (cc := cX1_has) (maxL := 2) (ret := (some .boolean)) (by decide) rfl (Nat.le_of_ble_eq_true rfl) ?_
  intro p e s m below meth c C hP hI ls hl
  obtain ⟨hx, hb, hr, hlocks, hml, hown, hts, hK, hN⟩ := id C
  have hS : va_S (kA a) s.heap s.heap [] := va_S.rf
  have hl : lv_has ls 2 [(0, .ref (a 1)), (1, .int x1)] := hl
  refine lv_iload_n hx hb dX1_has_0 rfl (lv_at hl 1 rfl) ?_
  refine lv_if_lt (tgt := 16) hx hb dX1_has_1 (by decide) (fun c_1 => ?_) (fun c_1 => ?_)
  · skip
    refine lv_iconst (v := 0) hx hb dX1_has_16 (by decide) ?_
    exact r_Rz hx hb hr hlocks hP hI hS rfl (by simp only [f_X1_has, if_pos c_1]) dX1_has_17
  · skip
    refine lv_iload_n hx hb dX1_has_4 rfl (lv_at hl 1 rfl) ?_
    refine lv_aload_n hx hb dX1_has_5 rfl (lv_at hl 0 rfl) ?_
    refine va_get (D := D) (ci := 1) (v := .int S.made) (C := RX1) (T := TX1) (N := 5) hx hb hts iwX1_has hown hK hP 1 rfl rfl 4 (by decide) (hts (.fieldLink RX1 25 "LoomPanel$Values" "made" "I") flX1_has_25) (fun _ h9 => h9) rfl dX1_has_6 ?_
    refine lv_icmp_ge (tgt := 16) hx hb dX1_has_9 (by decide) (fun c_9 => ?_) (fun c_9 => ?_)
    · skip
      refine lv_iconst (v := 0) hx hb dX1_has_16 (by decide) ?_
      exact r_Rz hx hb hr hlocks hP hI hS rfl (by simp only [f_X1_has, if_neg c_1, if_pos c_9]) dX1_has_17
    · skip
      refine lv_iconst (v := 1) hx hb dX1_has_12 (by decide) ?_
      refine lv_goto (tgt := 17) hx hb dX1_has_13 (by decide) ?_
      exact r_Rz hx hb hr hlocks hP hI hS rfl (by simp only [f_X1_has, if_neg c_1, if_neg c_9]) dX1_has_17
abbrev rmX1_hasPlace : Room := { frames := 0, cells := 0, slots := 0, locals := 0 }
theorem eeX1_hasPlace : yX1_hasPlace.cls = RX1 ∧ yX1_hasPlace.cls ≠ "java/lang/invoke/MethodHandle" ∧ yX1_hasPlace.cls ≠ "java/lang/invoke/VarHandle" ∧ (parseMethodDescriptor yX1_hasPlace.desc).map (fun d => d.parameters.length) = some 2 := by decide +kernel
theorem iwX1_hasPlace : ∀ w ∈ u_ws RX1 TX1 5, w ∈ wsX1_hasPlace := by decide +kernel
theorem flX1_hasPlace_15 : Cond.fieldLink RX1 15 "LoomPanel$Values" "lengths" "[I" ∈ wsX1_hasPlace := by decide +kernel
theorem flX1_hasPlace_25 : Cond.fieldLink RX1 25 "LoomPanel$Values" "made" "I" ∈ wsX1_hasPlace := by decide +kernel
def f_X1_hasPlace (S : KS) (x1 : Int32) (x2 : Int32) : Int32 := if x1 < 0 then (0) else (if S.made ≤ x1 then (0) else (if x2 < 0 then (0) else (if (S.lens x1.toNatClampNeg) ≤ x2 then (0) else (1))))
set_option maxHeartbeats 4000000 in
set_option maxRecDepth 100000 in
theorem c_X1_hasPlace (l : Launch) (D : va_G) (cI cJ : ClassId) (a : Nat → Nat) (hd : ∀ i j, i < 11 → j < 11 → a i = a j → i = j) (S : KS) (x1 : Int32) (x2 : Int32) : GRi l yX1_hasPlace wsX1_hasPlace rmX1_hasPlace [.ref (a 1), .int x1, .int x2] D (cw_tys cI cJ) (cw cI cJ a) KInv (kA a) S (f_X1_hasPlace S x1 x2) := by
  refine GB_of (cc := cX1_hasPlace) (maxL := 3) (ret := (some .boolean)) (by decide) rfl (Nat.le_of_ble_eq_true rfl) ?_
  intro p e s m below meth c C hP hI ls hl
  obtain ⟨hx, hb, hr, hlocks, hml, hown, hts, hK, hN⟩ := id C
  have hS : va_S (kA a) s.heap s.heap [] := va_S.rf
  have hl : lv_has ls 3 [(0, .ref (a 1)), (1, .int x1), (2, .int x2)] := hl
  refine lv_iload_n hx hb dX1_hasPlace_0 rfl (lv_at hl 1 rfl) ?_
  refine lv_if_lt (tgt := 30) hx hb dX1_hasPlace_1 (by decide) (fun c_1 => ?_) (fun c_1 => ?_)
  · skip
    refine lv_iconst (v := 0) hx hb dX1_hasPlace_30 (by decide) ?_
    exact r_Rz hx hb hr hlocks hP hI hS rfl (by simp only [f_X1_hasPlace, if_pos c_1]) dX1_hasPlace_31
  · skip
    refine lv_iload_n hx hb dX1_hasPlace_4 rfl (lv_at hl 1 rfl) ?_
    refine lv_aload_n hx hb dX1_hasPlace_5 rfl (lv_at hl 0 rfl) ?_
    refine va_get (D := D) (ci := 1) (v := .int S.made) (C := RX1) (T := TX1) (N := 5) hx hb hts iwX1_hasPlace hown hK hP 1 rfl rfl 4 (by decide) (hts (.fieldLink RX1 25 "LoomPanel$Values" "made" "I") flX1_hasPlace_25) (fun _ h9 => h9) rfl dX1_hasPlace_6 ?_
    refine lv_icmp_ge (tgt := 30) hx hb dX1_hasPlace_9 (by decide) (fun c_9 => ?_) (fun c_9 => ?_)
    · skip
      refine lv_iconst (v := 0) hx hb dX1_hasPlace_30 (by decide) ?_
      exact r_Rz hx hb hr hlocks hP hI hS rfl (by simp only [f_X1_hasPlace, if_neg c_1, if_pos c_9]) dX1_hasPlace_31
    · skip
      refine lv_iload_n hx hb dX1_hasPlace_12 rfl (lv_at hl 2 rfl) ?_
      refine lv_if_lt (tgt := 30) hx hb dX1_hasPlace_13 (by decide) (fun c_13 => ?_) (fun c_13 => ?_)
      · skip
        refine lv_iconst (v := 0) hx hb dX1_hasPlace_30 (by decide) ?_
        exact r_Rz hx hb hr hlocks hP hI hS rfl (by simp only [f_X1_hasPlace, if_neg c_1, if_neg c_9, if_pos c_13]) dX1_hasPlace_31
      · skip
        refine lv_iload_n hx hb dX1_hasPlace_16 rfl (lv_at hl 2 rfl) ?_
        refine lv_aload_n hx hb dX1_hasPlace_17 rfl (lv_at hl 0 rfl) ?_
        refine va_get (D := D) (ci := 1) (v := .ref (a 4)) (C := RX1) (T := TX1) (N := 5) hx hb hts iwX1_hasPlace hown hK hP 1 rfl rfl 1 (by decide) (hts (.fieldLink RX1 15 "LoomPanel$Values" "lengths" "[I") flX1_hasPlace_15) (fun _ h9 => h9) rfl dX1_hasPlace_18 ?_
        refine lv_iload_n hx hb dX1_hasPlace_21 rfl (lv_at hl 1 rfl) ?_
        refine va_iald hx hb hK hP 4 0 (f := S.lens) rfl rfl (in2 (lt0 c_1) (by have := nle c_9; have := hI.1.2; omega)) dX1_hasPlace_22 ?_
        refine lv_icmp_ge (tgt := 30) hx hb dX1_hasPlace_23 (by decide) (fun c_23 => ?_) (fun c_23 => ?_)
        · skip
          refine lv_iconst (v := 0) hx hb dX1_hasPlace_30 (by decide) ?_
          exact r_Rz hx hb hr hlocks hP hI hS rfl (by simp only [f_X1_hasPlace, if_neg c_1, if_neg c_9, if_neg c_13, if_pos c_23]) dX1_hasPlace_31
        · skip
          refine lv_iconst (v := 1) hx hb dX1_hasPlace_26 (by decide) ?_
          refine lv_goto (tgt := 31) hx hb dX1_hasPlace_27 (by decide) ?_
          exact r_Rz hx hb hr hlocks hP hI hS rfl (by simp only [f_X1_hasPlace, if_neg c_1, if_neg c_9, if_neg c_13, if_neg c_23]) dX1_hasPlace_31
theorem has_in {S : KS} {x : Int32} (hI : KInv S) (h : ¬ f_X1_has S x = 0) : vp_in x 60 := by
  unfold f_X1_has at h
  obtain ⟨h1, h⟩ := ne_ite h
  obtain ⟨h2, h⟩ := ne_ite h
  have := hI.1
  have := nle h2
  exact in2 (lt0 h1) (by omega)
abbrev rmX1_formOf : Room := { frames := 1, cells := 0, slots := 0, locals := 21 }
theorem eeX1_formOf : yX1_formOf.cls = RX1 ∧ yX1_formOf.cls ≠ "java/lang/invoke/MethodHandle" ∧ yX1_formOf.cls ≠ "java/lang/invoke/VarHandle" ∧ (parseMethodDescriptor yX1_formOf.desc).map (fun d => d.parameters.length) = some 1 := by decide +kernel
theorem iwX1_formOf : ∀ w ∈ u_ws RX1 TX1 5, w ∈ wsX1_formOf := by decide +kernel
theorem flX1_formOf_9 : Cond.fieldLink RX1 9 "LoomPanel$Values" "forms" "[I" ∈ wsX1_formOf := by decide +kernel
def f_X1_formOf (S : KS) (x1 : Int32) : Int32 := if (f_X1_has S x1) = 0 then ((-1)) else (S.forms x1.toNatClampNeg)
set_option maxHeartbeats 4000000 in
set_option maxRecDepth 100000 in
theorem c_X1_formOf (l : Launch) (D : va_G) (cI cJ : ClassId) (a : Nat → Nat) (hd : ∀ i j, i < 11 → j < 11 → a i = a j → i = j) (S : KS) (x1 : Int32) : GRi l yX1_formOf wsX1_formOf rmX1_formOf [.ref (a 1), .int x1] D (cw_tys cI cJ) (cw cI cJ a) KInv (kA a) S (f_X1_formOf S x1) := by
  refine GB_of (cc := cX1_formOf) (maxL := 2) (ret := (some .int)) (by decide) rfl (Nat.le_of_ble_eq_true rfl) ?_
  intro p e s m below meth c C hP hI ls hl
  obtain ⟨hx, hb, hr, hlocks, hml, hown, hts, hK, hN⟩ := id C
  have hS : va_S (kA a) s.heap s.heap [] := va_S.rf
  have hl : lv_has ls 2 [(0, .ref (a 1)), (1, .int x1)] := hl
  refine lv_aload_n hx hb dX1_formOf_0 rfl (lv_at hl 0 rfl) ?_
  refine lv_iload_n hx hb dX1_formOf_1 rfl (lv_at hl 1 rfl) ?_
  refine g_Ri (As := [.int x1]) (rest := []) ⟨hx, hb, hml, hown, hts⟩ (c_X1_has l D cI cJ a hd S x1 ) (cwV 1 hts gX1_formOf_X1_has rfl rfl rfl eeX1_has ⟨Nat.le_of_ble_eq_true rfl, Nat.le_of_ble_eq_true rfl⟩) hK hN hP hI (va_recv hK hP (ci := 1) (q0 := 1) rfl rfl) hS rfl hl.1 rfl (Nat.le_of_ble_eq_true rfl) dX1_formOf_2 ⟨Nat.zero_le _, Nat.zero_le _⟩ (fun H locs hP hS => ?_)
  refine lv_if_eq (tgt := 17) hx hb dX1_formOf_5 (by decide) (fun c_5 => ?_) (fun c_5 => ?_)
  · skip
    refine lv_iconst (v := (-1)) hx hb dX1_formOf_17 (by decide) ?_
    exact r_Ri hx hb hr hlocks hP hI hS (by simp only [f_X1_formOf, if_pos c_5]) dX1_formOf_18
  · skip
    refine lv_aload_n hx hb dX1_formOf_8 rfl (lv_at hl 0 rfl) ?_
    refine va_get (D := D) (ci := 1) (v := .ref (a 3)) (C := RX1) (T := TX1) (N := 5) hx hb hts iwX1_formOf hown hK hP 1 rfl rfl 0 (by decide) (hts (.fieldLink RX1 9 "LoomPanel$Values" "forms" "[I") flX1_formOf_9) (fun _ h9 => h9) rfl dX1_formOf_9 ?_
    refine lv_iload_n hx hb dX1_formOf_12 rfl (lv_at hl 1 rfl) ?_
    refine va_iald hx hb hK hP 3 0 (f := S.forms) rfl rfl (has_in hI c_5) dX1_formOf_13 ?_
    refine lv_goto (tgt := 18) hx hb dX1_formOf_14 (by decide) ?_
    exact r_Ri hx hb hr hlocks hP hI hS (by simp only [f_X1_formOf, if_neg c_5]) dX1_formOf_18
abbrev rmX2_viewsOfForm : Room := { frames := 0, cells := 0, slots := 0, locals := 0 }
theorem esX2_viewsOfForm : yX2_viewsOfForm.cls ≠ "java/lang/invoke/MethodHandle" ∧ yX2_viewsOfForm.cls ≠ "java/lang/invoke/VarHandle" ∧ (parseMethodDescriptor yX2_viewsOfForm.desc).map (fun d => d.parameters.length) = some 1 := by decide +kernel
def f_X2_viewsOfForm (x0 : Int32) : Int32 := if x0 = 5 then (2096) else (if x0 = 7 then (448) else (if x0 = 10 then (1536) else (1 <<< (x0 &&& 31))))
set_option maxHeartbeats 4000000 in
set_option maxRecDepth 100000 in
theorem c_X2_viewsOfForm (l : Launch) (x0 : Int32) : GSi l yX2_viewsOfForm wsX2_viewsOfForm rmX2_viewsOfForm [.int x0] (f_X2_viewsOfForm x0) := by
  refine GS_of (cc := cX2_viewsOfForm) (maxL := 1) (ret := (some .int)) (by decide) rfl (Nat.le_of_ble_eq_true rfl) ?_
  intro p e s m below meth c C ls hl
  obtain ⟨hx, hb, hr, hlocks, hml, hown, hts⟩ := id C
  have hl : lv_has ls 1 [(0, .int x0)] := hl
  refine lv_iload_n hx hb dX2_viewsOfForm_0 rfl (lv_at hl 0 rfl) ?_
  by_cases c_1_5 : x0 = 5
  · refine lv_lookup (tgt := 36) hx hb dX2_viewsOfForm_1 (by decide) (by rw [c_1_5] <;> rfl) (by decide) ?_
    refine lv_sipush (v := 2096) hx hb dX2_viewsOfForm_36 (by decide) ?_
    exact r_Si hx hb hr hlocks (by simp only [f_X2_viewsOfForm, if_pos c_1_5]) dX2_viewsOfForm_39
  by_cases c_1_7 : x0 = 7
  · refine lv_lookup (tgt := 40) hx hb dX2_viewsOfForm_1 (by decide) (by rw [c_1_7] <;> rfl) (by decide) ?_
    refine lv_sipush (v := 448) hx hb dX2_viewsOfForm_40 (by decide) ?_
    exact r_Si hx hb hr hlocks (by simp only [f_X2_viewsOfForm, if_neg c_1_5, if_pos c_1_7]) dX2_viewsOfForm_43
  by_cases c_1_10 : x0 = 10
  · refine lv_lookup (tgt := 44) hx hb dX2_viewsOfForm_1 (by decide) (by rw [c_1_10] <;> rfl) (by decide) ?_
    refine lv_sipush (v := 1536) hx hb dX2_viewsOfForm_44 (by decide) ?_
    exact r_Si hx hb hr hlocks (by simp only [f_X2_viewsOfForm, if_neg c_1_5, if_neg c_1_7, if_pos c_1_10]) dX2_viewsOfForm_47
  refine lv_lookup (off := 47) (tgt := 48) hx hb dX2_viewsOfForm_1 (by decide) ((lv_osw c_1_5 (by decide)).trans ((lv_osw c_1_7 (by decide)).trans ((lv_osw c_1_10 (by decide)).trans (rfl)))) (by decide) ?_
  refine lv_iconst (v := 1) hx hb dX2_viewsOfForm_48 (by decide) ?_
  refine lv_iload_n hx hb dX2_viewsOfForm_49 rfl (lv_at hl 0 rfl) ?_
  refine lv_ishl hx hb dX2_viewsOfForm_50 ?_
  exact r_Si hx hb hr hlocks (by simp only [f_X2_viewsOfForm, if_neg c_1_5, if_neg c_1_7, if_neg c_1_10]) dX2_viewsOfForm_51
abbrev rmX1_isA : Room := { frames := 1, cells := 0, slots := 0, locals := 21 }
theorem eeX1_isA : yX1_isA.cls = RX1 ∧ yX1_isA.cls ≠ "java/lang/invoke/MethodHandle" ∧ yX1_isA.cls ≠ "java/lang/invoke/VarHandle" ∧ (parseMethodDescriptor yX1_isA.desc).map (fun d => d.parameters.length) = some 2 := by decide +kernel
theorem iwX1_isA : ∀ w ∈ u_ws RX1 TX1 5, w ∈ wsX1_isA := by decide +kernel
theorem flX1_isA_9 : Cond.fieldLink RX1 9 "LoomPanel$Values" "forms" "[I" ∈ wsX1_isA := by decide +kernel
theorem wiX1_isA_X2 : Cond.initialized RX2 ∈ wsX1_isA := by decide +kernel
theorem wstX1_isA_viewsOfForm : Cond.static yX2_viewsOfForm ∈ wsX1_isA := by decide +kernel
def f_X1_isA (S : KS) (x1 : Int32) (x2 : Int32) : Int32 := if (f_X1_has S x1) = 0 then (0) else (if (((f_X2_viewsOfForm (S.forms x1.toNatClampNeg)) >>> (x2 &&& 31)) &&& 1) = 1 then (1) else (0))
set_option maxHeartbeats 4000000 in
set_option maxRecDepth 100000 in
theorem c_X1_isA (l : Launch) (D : va_G) (cI cJ : ClassId) (a : Nat → Nat) (hd : ∀ i j, i < 11 → j < 11 → a i = a j → i = j) (S : KS) (x1 : Int32) (x2 : Int32) : GRi l yX1_isA wsX1_isA rmX1_isA [.ref (a 1), .int x1, .int x2] D (cw_tys cI cJ) (cw cI cJ a) KInv (kA a) S (f_X1_isA S x1 x2) := by
  refine GB_of (cc := cX1_isA) (maxL := 3) (ret := (some .boolean)) (by decide) rfl (Nat.le_of_ble_eq_true rfl) ?_
  intro p e s m below meth c C hP hI ls hl
  obtain ⟨hx, hb, hr, hlocks, hml, hown, hts, hK, hN⟩ := id C
  have hS : va_S (kA a) s.heap s.heap [] := va_S.rf
  have hl : lv_has ls 3 [(0, .ref (a 1)), (1, .int x1), (2, .int x2)] := hl
  refine lv_aload_n hx hb dX1_isA_0 rfl (lv_at hl 0 rfl) ?_
  refine lv_iload_n hx hb dX1_isA_1 rfl (lv_at hl 1 rfl) ?_
  refine g_Ri (As := [.int x1]) (rest := []) ⟨hx, hb, hml, hown, hts⟩ (c_X1_has l D cI cJ a hd S x1 ) (cwV 1 hts gX1_isA_X1_has rfl rfl rfl eeX1_has ⟨Nat.le_of_ble_eq_true rfl, Nat.le_of_ble_eq_true rfl⟩) hK hN hP hI (va_recv hK hP (ci := 1) (q0 := 1) rfl rfl) hS rfl hl.1 rfl (Nat.le_of_ble_eq_true rfl) dX1_isA_2 ⟨Nat.zero_le _, Nat.zero_le _⟩ (fun H locs hP hS => ?_)
  refine lv_if_eq (tgt := 29) hx hb dX1_isA_5 (by decide) (fun c_5 => ?_) (fun c_5 => ?_)
  · skip
    refine lv_iconst (v := 0) hx hb dX1_isA_29 (by decide) ?_
    exact r_Rz hx hb hr hlocks hP hI hS rfl (by simp only [f_X1_isA, if_pos c_5]) dX1_isA_30
  · skip
    refine lv_aload_n hx hb dX1_isA_8 rfl (lv_at hl 0 rfl) ?_
    refine va_get (D := D) (ci := 1) (v := .ref (a 3)) (C := RX1) (T := TX1) (N := 5) hx hb hts iwX1_isA hown hK hP 1 rfl rfl 0 (by decide) (hts (.fieldLink RX1 9 "LoomPanel$Values" "forms" "[I") flX1_isA_9) (fun _ h9 => h9) rfl dX1_isA_9 ?_
    refine lv_iload_n hx hb dX1_isA_12 rfl (lv_at hl 1 rfl) ?_
    refine va_iald hx hb hK hP 3 0 (f := S.forms) rfl rfl (has_in hI c_5) dX1_isA_13 ?_
    refine g_SiN (As := [.int (S.forms x1.toNatClampNeg)]) (rest := []) ⟨hx, hb, hml, hown, hts⟩ (c_X2_viewsOfForm l (S.forms x1.toNatClampNeg)) ⟨va_cnB 1 hts gX1_isA_X2_viewsOfForm_n33 rfl rfl rfl hN.1 (hts (.initialized RX2) wiX1_isA_X2) esX2_viewsOfForm ⟨Nat.le_of_ble_eq_true rfl, Nat.le_of_ble_eq_true rfl⟩, hts (.static yX2_viewsOfForm) wstX1_isA_viewsOfForm, trivial⟩ hP hS rfl hl.1 rfl (Nat.le_of_ble_eq_true rfl) dX1_isA_14 ⟨Nat.zero_le _, Nat.zero_le _⟩ (fun H locs hP hS => ?_)
    refine lv_iload_n hx hb dX1_isA_17 rfl (lv_at hl 2 rfl) ?_
    refine lv_ishr hx hb dX1_isA_18 ?_
    refine lv_iconst (v := 1) hx hb dX1_isA_19 (by decide) ?_
    refine lv_iand hx hb dX1_isA_20 ?_
    refine lv_iconst (v := 1) hx hb dX1_isA_21 (by decide) ?_
    refine lv_icmp_ne (tgt := 29) hx hb dX1_isA_22 (by decide) (fun c_22 => ?_) (fun c_22 => ?_)
    · skip
      refine lv_iconst (v := 0) hx hb dX1_isA_29 (by decide) ?_
      exact r_Rz hx hb hr hlocks hP hI hS rfl (by simp only [f_X1_isA, if_neg c_5, if_neg c_22]) dX1_isA_30
    · skip
      refine lv_iconst (v := 1) hx hb dX1_isA_25 (by decide) ?_
      refine lv_goto (tgt := 30) hx hb dX1_isA_26 (by decide) ?_
      exact r_Rz hx hb hr hlocks hP hI hS rfl (by simp only [f_X1_isA, if_neg c_5, if_pos c_22]) dX1_isA_30
abbrev rmX1_isNumbers : Room := { frames := 1, cells := 0, slots := 0, locals := 21 }
theorem eeX1_isNumbers : yX1_isNumbers.cls = RX1 ∧ yX1_isNumbers.cls ≠ "java/lang/invoke/MethodHandle" ∧ yX1_isNumbers.cls ≠ "java/lang/invoke/VarHandle" ∧ (parseMethodDescriptor yX1_isNumbers.desc).map (fun d => d.parameters.length) = some 1 := by decide +kernel
theorem iwX1_isNumbers : ∀ w ∈ u_ws RX1 TX1 5, w ∈ wsX1_isNumbers := by decide +kernel
theorem flX1_isNumbers_9 : Cond.fieldLink RX1 9 "LoomPanel$Values" "forms" "[I" ∈ wsX1_isNumbers := by decide +kernel
def f_X1_isNumbers (S : KS) (x1 : Int32) : Int32 := if (f_X1_has S x1) = 0 then (0) else (if 2 < (S.forms x1.toNatClampNeg) then (0) else (1))
set_option maxHeartbeats 4000000 in
set_option maxRecDepth 100000 in
theorem c_X1_isNumbers (l : Launch) (D : va_G) (cI cJ : ClassId) (a : Nat → Nat) (hd : ∀ i j, i < 11 → j < 11 → a i = a j → i = j) (S : KS) (x1 : Int32) : GRi l yX1_isNumbers wsX1_isNumbers rmX1_isNumbers [.ref (a 1), .int x1] D (cw_tys cI cJ) (cw cI cJ a) KInv (kA a) S (f_X1_isNumbers S x1) := by
  refine GB_of (cc := cX1_isNumbers) (maxL := 2) (ret := (some .boolean)) (by decide) rfl (Nat.le_of_ble_eq_true rfl) ?_
  intro p e s m below meth c C hP hI ls hl
  obtain ⟨hx, hb, hr, hlocks, hml, hown, hts, hK, hN⟩ := id C
  have hS : va_S (kA a) s.heap s.heap [] := va_S.rf
  have hl : lv_has ls 2 [(0, .ref (a 1)), (1, .int x1)] := hl
  refine lv_aload_n hx hb dX1_isNumbers_0 rfl (lv_at hl 0 rfl) ?_
  refine lv_iload_n hx hb dX1_isNumbers_1 rfl (lv_at hl 1 rfl) ?_
  refine g_Ri (As := [.int x1]) (rest := []) ⟨hx, hb, hml, hown, hts⟩ (c_X1_has l D cI cJ a hd S x1 ) (cwV 1 hts gX1_isNumbers_X1_has rfl rfl rfl eeX1_has ⟨Nat.le_of_ble_eq_true rfl, Nat.le_of_ble_eq_true rfl⟩) hK hN hP hI (va_recv hK hP (ci := 1) (q0 := 1) rfl rfl) hS rfl hl.1 rfl (Nat.le_of_ble_eq_true rfl) dX1_isNumbers_2 ⟨Nat.zero_le _, Nat.zero_le _⟩ (fun H locs hP hS => ?_)
  refine lv_if_eq (tgt := 22) hx hb dX1_isNumbers_5 (by decide) (fun c_5 => ?_) (fun c_5 => ?_)
  · skip
    refine lv_iconst (v := 0) hx hb dX1_isNumbers_22 (by decide) ?_
    exact r_Rz hx hb hr hlocks hP hI hS rfl (by simp only [f_X1_isNumbers, if_pos c_5]) dX1_isNumbers_23
  · skip
    refine lv_aload_n hx hb dX1_isNumbers_8 rfl (lv_at hl 0 rfl) ?_
    refine va_get (D := D) (ci := 1) (v := .ref (a 3)) (C := RX1) (T := TX1) (N := 5) hx hb hts iwX1_isNumbers hown hK hP 1 rfl rfl 0 (by decide) (hts (.fieldLink RX1 9 "LoomPanel$Values" "forms" "[I") flX1_isNumbers_9) (fun _ h9 => h9) rfl dX1_isNumbers_9 ?_
    refine lv_iload_n hx hb dX1_isNumbers_12 rfl (lv_at hl 1 rfl) ?_
    refine va_iald hx hb hK hP 3 0 (f := S.forms) rfl rfl (has_in hI c_5) dX1_isNumbers_13 ?_
    refine lv_iconst (v := 2) hx hb dX1_isNumbers_14 (by decide) ?_
    refine lv_icmp_gt (tgt := 22) hx hb dX1_isNumbers_15 (by decide) (fun c_15 => ?_) (fun c_15 => ?_)
    · skip
      refine lv_iconst (v := 0) hx hb dX1_isNumbers_22 (by decide) ?_
      exact r_Rz hx hb hr hlocks hP hI hS rfl (by simp only [f_X1_isNumbers, if_neg c_5, if_pos c_15]) dX1_isNumbers_23
    · skip
      refine lv_iconst (v := 1) hx hb dX1_isNumbers_18 (by decide) ?_
      refine lv_goto (tgt := 23) hx hb dX1_isNumbers_19 (by decide) ?_
      exact r_Rz hx hb hr hlocks hP hI hS rfl (by simp only [f_X1_isNumbers, if_neg c_5, if_neg c_15]) dX1_isNumbers_23
abbrev rmX1_lengthOf : Room := { frames := 1, cells := 0, slots := 0, locals := 21 }
theorem eeX1_lengthOf : yX1_lengthOf.cls = RX1 ∧ yX1_lengthOf.cls ≠ "java/lang/invoke/MethodHandle" ∧ yX1_lengthOf.cls ≠ "java/lang/invoke/VarHandle" ∧ (parseMethodDescriptor yX1_lengthOf.desc).map (fun d => d.parameters.length) = some 1 := by decide +kernel
theorem iwX1_lengthOf : ∀ w ∈ u_ws RX1 TX1 5, w ∈ wsX1_lengthOf := by decide +kernel
theorem flX1_lengthOf_15 : Cond.fieldLink RX1 15 "LoomPanel$Values" "lengths" "[I" ∈ wsX1_lengthOf := by decide +kernel
def f_X1_lengthOf (S : KS) (x1 : Int32) : Int32 := if (f_X1_has S x1) = 0 then (0) else (S.lens x1.toNatClampNeg)
set_option maxHeartbeats 4000000 in
set_option maxRecDepth 100000 in
theorem c_X1_lengthOf (l : Launch) (D : va_G) (cI cJ : ClassId) (a : Nat → Nat) (hd : ∀ i j, i < 11 → j < 11 → a i = a j → i = j) (S : KS) (x1 : Int32) : GRi l yX1_lengthOf wsX1_lengthOf rmX1_lengthOf [.ref (a 1), .int x1] D (cw_tys cI cJ) (cw cI cJ a) KInv (kA a) S (f_X1_lengthOf S x1) := by
  refine GB_of (cc := cX1_lengthOf) (maxL := 2) (ret := (some .int)) (by decide) rfl (Nat.le_of_ble_eq_true rfl) ?_
  intro p e s m below meth c C hP hI ls hl
  obtain ⟨hx, hb, hr, hlocks, hml, hown, hts, hK, hN⟩ := id C
  have hS : va_S (kA a) s.heap s.heap [] := va_S.rf
  have hl : lv_has ls 2 [(0, .ref (a 1)), (1, .int x1)] := hl
  refine lv_aload_n hx hb dX1_lengthOf_0 rfl (lv_at hl 0 rfl) ?_
  refine lv_iload_n hx hb dX1_lengthOf_1 rfl (lv_at hl 1 rfl) ?_
  refine g_Ri (As := [.int x1]) (rest := []) ⟨hx, hb, hml, hown, hts⟩ (c_X1_has l D cI cJ a hd S x1 ) (cwV 1 hts gX1_lengthOf_X1_has rfl rfl rfl eeX1_has ⟨Nat.le_of_ble_eq_true rfl, Nat.le_of_ble_eq_true rfl⟩) hK hN hP hI (va_recv hK hP (ci := 1) (q0 := 1) rfl rfl) hS rfl hl.1 rfl (Nat.le_of_ble_eq_true rfl) dX1_lengthOf_2 ⟨Nat.zero_le _, Nat.zero_le _⟩ (fun H locs hP hS => ?_)
  refine lv_if_eq (tgt := 17) hx hb dX1_lengthOf_5 (by decide) (fun c_5 => ?_) (fun c_5 => ?_)
  · skip
    refine lv_iconst (v := 0) hx hb dX1_lengthOf_17 (by decide) ?_
    exact r_Ri hx hb hr hlocks hP hI hS (by simp only [f_X1_lengthOf, if_pos c_5]) dX1_lengthOf_18
  · skip
    refine lv_aload_n hx hb dX1_lengthOf_8 rfl (lv_at hl 0 rfl) ?_
    refine va_get (D := D) (ci := 1) (v := .ref (a 4)) (C := RX1) (T := TX1) (N := 5) hx hb hts iwX1_lengthOf hown hK hP 1 rfl rfl 1 (by decide) (hts (.fieldLink RX1 15 "LoomPanel$Values" "lengths" "[I") flX1_lengthOf_15) (fun _ h9 => h9) rfl dX1_lengthOf_9 ?_
    refine lv_iload_n hx hb dX1_lengthOf_12 rfl (lv_at hl 1 rfl) ?_
    refine va_iald hx hb hK hP 4 0 (f := S.lens) rfl rfl (has_in hI c_5) dX1_lengthOf_13 ?_
    refine lv_goto (tgt := 18) hx hb dX1_lengthOf_14 (by decide) ?_
    exact r_Ri hx hb hr hlocks hP hI hS (by simp only [f_X1_lengthOf, if_neg c_5]) dX1_lengthOf_18
abbrev rmX1_levelOf : Room := { frames := 1, cells := 0, slots := 0, locals := 21 }
theorem eeX1_levelOf : yX1_levelOf.cls = RX1 ∧ yX1_levelOf.cls ≠ "java/lang/invoke/MethodHandle" ∧ yX1_levelOf.cls ≠ "java/lang/invoke/VarHandle" ∧ (parseMethodDescriptor yX1_levelOf.desc).map (fun d => d.parameters.length) = some 1 := by decide +kernel
theorem iwX1_levelOf : ∀ w ∈ u_ws RX1 TX1 5, w ∈ wsX1_levelOf := by decide +kernel
theorem flX1_levelOf_18 : Cond.fieldLink RX1 18 "LoomPanel$Values" "levels" "[I" ∈ wsX1_levelOf := by decide +kernel
def f_X1_levelOf (S : KS) (x1 : Int32) : Int32 := if (f_X1_has S x1) = 0 then (0) else (S.levels x1.toNatClampNeg)
set_option maxHeartbeats 4000000 in
set_option maxRecDepth 100000 in
theorem c_X1_levelOf (l : Launch) (D : va_G) (cI cJ : ClassId) (a : Nat → Nat) (hd : ∀ i j, i < 11 → j < 11 → a i = a j → i = j) (S : KS) (x1 : Int32) : GRi l yX1_levelOf wsX1_levelOf rmX1_levelOf [.ref (a 1), .int x1] D (cw_tys cI cJ) (cw cI cJ a) KInv (kA a) S (f_X1_levelOf S x1) := by
  refine GB_of (cc := cX1_levelOf) (maxL := 2) (ret := (some .int)) (by decide) rfl (Nat.le_of_ble_eq_true rfl) ?_
  intro p e s m below meth c C hP hI ls hl
  obtain ⟨hx, hb, hr, hlocks, hml, hown, hts, hK, hN⟩ := id C
  have hS : va_S (kA a) s.heap s.heap [] := va_S.rf
  have hl : lv_has ls 2 [(0, .ref (a 1)), (1, .int x1)] := hl
  refine lv_aload_n hx hb dX1_levelOf_0 rfl (lv_at hl 0 rfl) ?_
  refine lv_iload_n hx hb dX1_levelOf_1 rfl (lv_at hl 1 rfl) ?_
  refine g_Ri (As := [.int x1]) (rest := []) ⟨hx, hb, hml, hown, hts⟩ (c_X1_has l D cI cJ a hd S x1 ) (cwV 1 hts gX1_levelOf_X1_has rfl rfl rfl eeX1_has ⟨Nat.le_of_ble_eq_true rfl, Nat.le_of_ble_eq_true rfl⟩) hK hN hP hI (va_recv hK hP (ci := 1) (q0 := 1) rfl rfl) hS rfl hl.1 rfl (Nat.le_of_ble_eq_true rfl) dX1_levelOf_2 ⟨Nat.zero_le _, Nat.zero_le _⟩ (fun H locs hP hS => ?_)
  refine lv_if_eq (tgt := 17) hx hb dX1_levelOf_5 (by decide) (fun c_5 => ?_) (fun c_5 => ?_)
  · skip
    refine lv_iconst (v := 0) hx hb dX1_levelOf_17 (by decide) ?_
    exact r_Ri hx hb hr hlocks hP hI hS (by simp only [f_X1_levelOf, if_pos c_5]) dX1_levelOf_18
  · skip
    refine lv_aload_n hx hb dX1_levelOf_8 rfl (lv_at hl 0 rfl) ?_
    refine va_get (D := D) (ci := 1) (v := .ref (a 5)) (C := RX1) (T := TX1) (N := 5) hx hb hts iwX1_levelOf hown hK hP 1 rfl rfl 2 (by decide) (hts (.fieldLink RX1 18 "LoomPanel$Values" "levels" "[I") flX1_levelOf_18) (fun _ h9 => h9) rfl dX1_levelOf_9 ?_
    refine lv_iload_n hx hb dX1_levelOf_12 rfl (lv_at hl 1 rfl) ?_
    refine va_iald hx hb hK hP 5 0 (f := S.levels) rfl rfl (has_in hI c_5) dX1_levelOf_13 ?_
    refine lv_goto (tgt := 18) hx hb dX1_levelOf_14 (by decide) ?_
    exact r_Ri hx hb hr hlocks hP hI hS (by simp only [f_X1_levelOf, if_neg c_5]) dX1_levelOf_18
theorem hasPlace_in {S : KS} {x k : Int32} (hI : KInv S) (h : ¬ f_X1_hasPlace S x k = 0) : vp_in x 60 ∧ vp_in k 8 := by
  unfold f_X1_hasPlace at h
  obtain ⟨h1, h⟩ := ne_ite h
  obtain ⟨h2, h⟩ := ne_ite h
  obtain ⟨h3, h⟩ := ne_ite h
  obtain ⟨h4, h⟩ := ne_ite h
  have := hI.1
  have := nle h2
  have := hI.2.1 x.toNatClampNeg
  have := nle h4
  exact ⟨in2 (lt0 h1) (by omega), in2 (lt0 h3) (by omega)⟩
abbrev rmX1_cellOf : Room := { frames := 1, cells := 0, slots := 0, locals := 22 }
theorem eeX1_cellOf : yX1_cellOf.cls = RX1 ∧ yX1_cellOf.cls ≠ "java/lang/invoke/MethodHandle" ∧ yX1_cellOf.cls ≠ "java/lang/invoke/VarHandle" ∧ (parseMethodDescriptor yX1_cellOf.desc).map (fun d => d.parameters.length) = some 2 := by decide +kernel
theorem iwX1_cellOf : ∀ w ∈ u_ws RX1 TX1 5, w ∈ wsX1_cellOf := by decide +kernel
theorem flX1_cellOf_21 : Cond.fieldLink RX1 21 "LoomPanel$Values" "cells" "[J" ∈ wsX1_cellOf := by decide +kernel
def f_X1_cellOf (S : KS) (x1 : Int32) (x2 : Int32) : Int64 := if (f_X1_hasPlace S x1 x2) = 0 then (0) else (S.cells ((x1 * 8) + x2).toNatClampNeg)
set_option maxHeartbeats 4000000 in
set_option maxRecDepth 100000 in
theorem c_X1_cellOf (l : Launch) (D : va_G) (cI cJ : ClassId) (a : Nat → Nat) (hd : ∀ i j, i < 11 → j < 11 → a i = a j → i = j) (S : KS) (x1 : Int32) (x2 : Int32) : GRl l yX1_cellOf wsX1_cellOf rmX1_cellOf [.ref (a 1), .int x1, .int x2] D (cw_tys cI cJ) (cw cI cJ a) KInv (kA a) S (f_X1_cellOf S x1 x2) := by
  refine GB_of (cc := cX1_cellOf) (maxL := 3) (ret := (some .long)) (by decide) rfl (Nat.le_of_ble_eq_true rfl) ?_
  intro p e s m below meth c C hP hI ls hl
  obtain ⟨hx, hb, hr, hlocks, hml, hown, hts, hK, hN⟩ := id C
  have hS : va_S (kA a) s.heap s.heap [] := va_S.rf
  have hl : lv_has ls 3 [(0, .ref (a 1)), (1, .int x1), (2, .int x2)] := hl
  refine lv_aload_n hx hb dX1_cellOf_0 rfl (lv_at hl 0 rfl) ?_
  refine lv_iload_n hx hb dX1_cellOf_1 rfl (lv_at hl 1 rfl) ?_
  refine lv_iload_n hx hb dX1_cellOf_2 rfl (lv_at hl 2 rfl) ?_
  refine g_Ri (As := [.int x1, .int x2]) (rest := []) ⟨hx, hb, hml, hown, hts⟩ (c_X1_hasPlace l D cI cJ a hd S x1 x2 ) (cwV 2 hts gX1_cellOf_X1_hasPlace rfl rfl rfl eeX1_hasPlace ⟨Nat.le_of_ble_eq_true rfl, Nat.le_of_ble_eq_true rfl⟩) hK hN hP hI (va_recv hK hP (ci := 1) (q0 := 1) rfl rfl) hS rfl hl.1 rfl (Nat.le_of_ble_eq_true rfl) dX1_cellOf_3 ⟨Nat.zero_le _, Nat.zero_le _⟩ (fun H locs hP hS => ?_)
  refine lv_if_eq (tgt := 23) hx hb dX1_cellOf_6 (by decide) (fun c_6 => ?_) (fun c_6 => ?_)
  · skip
    refine lv_lconst (v := 0) hx hb dX1_cellOf_23 (by decide) ?_
    exact r_Rl hx hb hr hlocks hP hI hS (by simp only [f_X1_cellOf, if_pos c_6]) dX1_cellOf_24
  · skip
    refine lv_aload_n hx hb dX1_cellOf_9 rfl (lv_at hl 0 rfl) ?_
    refine va_get (D := D) (ci := 1) (v := .ref (a 6)) (C := RX1) (T := TX1) (N := 5) hx hb hts iwX1_cellOf hown hK hP 1 rfl rfl 3 (by decide) (hts (.fieldLink RX1 21 "LoomPanel$Values" "cells" "[J") flX1_cellOf_21) (fun _ h9 => h9) rfl dX1_cellOf_10 ?_
    refine lv_iload_n hx hb dX1_cellOf_13 rfl (lv_at hl 1 rfl) ?_
    refine lv_bipush (v := 8) hx hb dX1_cellOf_14 (by decide) ?_
    refine lv_imul hx hb dX1_cellOf_16 ?_
    refine lv_iload_n hx hb dX1_cellOf_17 rfl (lv_at hl 2 rfl) ?_
    refine lv_iadd hx hb dX1_cellOf_18 ?_
    refine va_lald hx hb hK hP 6 1 (f := S.cells) rfl rfl (ix8 (hasPlace_in hI c_6).1 (hasPlace_in hI c_6).2) dX1_cellOf_19 ?_
    refine lv_goto (tgt := 24) hx hb dX1_cellOf_20 (by decide) ?_
    exact r_Rl hx hb hr hlocks hP hI hS (by simp only [f_X1_cellOf, if_neg c_6]) dX1_cellOf_24
abbrev rmX1_placed : Room := { frames := 1, cells := 0, slots := 0, locals := 22 }
theorem eeX1_placed : yX1_placed.cls = RX1 ∧ yX1_placed.cls ≠ "java/lang/invoke/MethodHandle" ∧ yX1_placed.cls ≠ "java/lang/invoke/VarHandle" ∧ (parseMethodDescriptor yX1_placed.desc).map (fun d => d.parameters.length) = some 2 := by decide +kernel
theorem iwX1_placed : ∀ w ∈ u_ws RX1 TX1 5, w ∈ wsX1_placed := by decide +kernel
theorem flX1_placed_21 : Cond.fieldLink RX1 21 "LoomPanel$Values" "cells" "[J" ∈ wsX1_placed := by decide +kernel
def f_X1_placed (S : KS) (x1 : Int32) (x2 : Int32) : Int32 := if (f_X1_hasPlace S x1 x2) = 0 then ((-1)) else ((S.cells ((x1 * 8) + x2).toNatClampNeg).toInt32)
set_option maxHeartbeats 4000000 in
set_option maxRecDepth 100000 in
theorem c_X1_placed (l : Launch) (D : va_G) (cI cJ : ClassId) (a : Nat → Nat) (hd : ∀ i j, i < 11 → j < 11 → a i = a j → i = j) (S : KS) (x1 : Int32) (x2 : Int32) : GRi l yX1_placed wsX1_placed rmX1_placed [.ref (a 1), .int x1, .int x2] D (cw_tys cI cJ) (cw cI cJ a) KInv (kA a) S (f_X1_placed S x1 x2) := by
  refine GB_of (cc := cX1_placed) (maxL := 3) (ret := (some .int)) (by decide) rfl (Nat.le_of_ble_eq_true rfl) ?_
  intro p e s m below meth c C hP hI ls hl
  obtain ⟨hx, hb, hr, hlocks, hml, hown, hts, hK, hN⟩ := id C
  have hS : va_S (kA a) s.heap s.heap [] := va_S.rf
  have hl : lv_has ls 3 [(0, .ref (a 1)), (1, .int x1), (2, .int x2)] := hl
  refine lv_aload_n hx hb dX1_placed_0 rfl (lv_at hl 0 rfl) ?_
  refine lv_iload_n hx hb dX1_placed_1 rfl (lv_at hl 1 rfl) ?_
  refine lv_iload_n hx hb dX1_placed_2 rfl (lv_at hl 2 rfl) ?_
  refine g_Ri (As := [.int x1, .int x2]) (rest := []) ⟨hx, hb, hml, hown, hts⟩ (c_X1_hasPlace l D cI cJ a hd S x1 x2 ) (cwV 2 hts gX1_placed_X1_hasPlace rfl rfl rfl eeX1_hasPlace ⟨Nat.le_of_ble_eq_true rfl, Nat.le_of_ble_eq_true rfl⟩) hK hN hP hI (va_recv hK hP (ci := 1) (q0 := 1) rfl rfl) hS rfl hl.1 rfl (Nat.le_of_ble_eq_true rfl) dX1_placed_3 ⟨Nat.zero_le _, Nat.zero_le _⟩ (fun H locs hP hS => ?_)
  refine lv_if_eq (tgt := 24) hx hb dX1_placed_6 (by decide) (fun c_6 => ?_) (fun c_6 => ?_)
  · skip
    refine lv_iconst (v := (-1)) hx hb dX1_placed_24 (by decide) ?_
    exact r_Ri hx hb hr hlocks hP hI hS (by simp only [f_X1_placed, if_pos c_6]) dX1_placed_25
  · skip
    refine lv_aload_n hx hb dX1_placed_9 rfl (lv_at hl 0 rfl) ?_
    refine va_get (D := D) (ci := 1) (v := .ref (a 6)) (C := RX1) (T := TX1) (N := 5) hx hb hts iwX1_placed hown hK hP 1 rfl rfl 3 (by decide) (hts (.fieldLink RX1 21 "LoomPanel$Values" "cells" "[J") flX1_placed_21) (fun _ h9 => h9) rfl dX1_placed_10 ?_
    refine lv_iload_n hx hb dX1_placed_13 rfl (lv_at hl 1 rfl) ?_
    refine lv_bipush (v := 8) hx hb dX1_placed_14 (by decide) ?_
    refine lv_imul hx hb dX1_placed_16 ?_
    refine lv_iload_n hx hb dX1_placed_17 rfl (lv_at hl 2 rfl) ?_
    refine lv_iadd hx hb dX1_placed_18 ?_
    refine va_lald hx hb hK hP 6 1 (f := S.cells) rfl rfl (ix8 (hasPlace_in hI c_6).1 (hasPlace_in hI c_6).2) dX1_placed_19 ?_
    refine lv_l2i (v := (S.cells ((x1 * 8) + x2).toNatClampNeg).toInt32) hx hb dX1_placed_20 rfl ?_
    refine lv_goto (tgt := 25) hx hb dX1_placed_21 (by decide) ?_
    exact r_Ri hx hb hr hlocks hP hI hS (by simp only [f_X1_placed, if_neg c_6]) dX1_placed_25
abbrev rmX1_lowestBits : Room := { frames := 0, cells := 0, slots := 0, locals := 0 }
theorem esX1_lowestBits : yX1_lowestBits.cls ≠ "java/lang/invoke/MethodHandle" ∧ yX1_lowestBits.cls ≠ "java/lang/invoke/VarHandle" ∧ (parseMethodDescriptor yX1_lowestBits.desc).map (fun d => d.parameters.length) = some 2 := by decide +kernel
def f_X1_lowestBits (x0 : Int32) (x1 : Int64) : Int64 := if x0 = 0 then (x1.toInt32.toInt8.toInt32.toInt64) else (if x0 = 1 then (x1.toInt32.toInt64) else (x1))
set_option maxHeartbeats 4000000 in
set_option maxRecDepth 100000 in
theorem c_X1_lowestBits (l : Launch) (x0 : Int32) (x1 : Int64) : GSl l yX1_lowestBits wsX1_lowestBits rmX1_lowestBits [.int x0, .long x1] (f_X1_lowestBits x0 x1) := by
  refine GS_of (cc := cX1_lowestBits) (maxL := 3) (ret := (some .long)) (by decide) rfl (Nat.le_of_ble_eq_true rfl) ?_
  intro p e s m below meth c C ls hl
  obtain ⟨hx, hb, hr, hlocks, hml, hown, hts⟩ := id C
  have hl : lv_has ls 3 [(0, .int x0), (1, .long x1)] := hl
  refine lv_iload_n hx hb dX1_lowestBits_0 rfl (lv_at hl 0 rfl) ?_
  by_cases c_1_0 : x0 = 0
  · refine lv_lookup (tgt := 28) hx hb dX1_lowestBits_1 (by decide) (by rw [c_1_0] <;> rfl) (by decide) ?_
    refine lv_lload_n hx hb dX1_lowestBits_28 rfl (lv_at hl 1 rfl) ?_
    refine lv_l2i (v := x1.toInt32) hx hb dX1_lowestBits_29 rfl ?_
    refine lv_i2b (v := x1.toInt32.toInt8.toInt32) hx hb dX1_lowestBits_30 rfl ?_
    refine lv_i2l (v := x1.toInt32.toInt8.toInt32.toInt64) hx hb dX1_lowestBits_31 rfl ?_
    exact r_Sl hx hb hr hlocks (by simp only [f_X1_lowestBits, if_pos c_1_0]) dX1_lowestBits_32
  by_cases c_1_1 : x0 = 1
  · refine lv_lookup (tgt := 33) hx hb dX1_lowestBits_1 (by decide) (by rw [c_1_1] <;> rfl) (by decide) ?_
    refine lv_lload_n hx hb dX1_lowestBits_33 rfl (lv_at hl 1 rfl) ?_
    refine lv_l2i (v := x1.toInt32) hx hb dX1_lowestBits_34 rfl ?_
    refine lv_i2l (v := x1.toInt32.toInt64) hx hb dX1_lowestBits_35 rfl ?_
    exact r_Sl hx hb hr hlocks (by simp only [f_X1_lowestBits, if_neg c_1_0, if_pos c_1_1]) dX1_lowestBits_36
  refine lv_lookup (off := 36) (tgt := 37) hx hb dX1_lowestBits_1 (by decide) ((lv_osw c_1_0 (by decide)).trans ((lv_osw c_1_1 (by decide)).trans (rfl))) (by decide) ?_
  refine lv_lload_n hx hb dX1_lowestBits_37 rfl (lv_at hl 1 rfl) ?_
  exact r_Sl hx hb hr hlocks (by simp only [f_X1_lowestBits, if_neg c_1_0, if_neg c_1_1]) dX1_lowestBits_38
abbrev rmX1_put : Room := { frames := 1, cells := 0, slots := 0, locals := 22 }
theorem eeX1_put : yX1_put.cls = RX1 ∧ yX1_put.cls ≠ "java/lang/invoke/MethodHandle" ∧ yX1_put.cls ≠ "java/lang/invoke/VarHandle" ∧ (parseMethodDescriptor yX1_put.desc).map (fun d => d.parameters.length) = some 3 := by decide +kernel
theorem iwX1_put : ∀ w ∈ u_ws RX1 TX1 5, w ∈ wsX1_put := by decide +kernel
theorem flX1_put_21 : Cond.fieldLink RX1 21 "LoomPanel$Values" "cells" "[J" ∈ wsX1_put := by decide +kernel
theorem flX1_put_9 : Cond.fieldLink RX1 9 "LoomPanel$Values" "forms" "[I" ∈ wsX1_put := by decide +kernel
def f_X1_put (S : KS) (x1 : Int32) (x2 : Int32) (x3 : Int64) : KS := if (f_X1_hasPlace S x1 x2) = 0 then (S) else (S.set_cells (vp_updL S.cells ((x1 * 8) + x2).toNatClampNeg (f_X1_lowestBits (S.forms x1.toNatClampNeg) x3)))
set_option maxHeartbeats 4000000 in
set_option maxRecDepth 100000 in
theorem c_X1_put (l : Launch) (D : va_G) (cI cJ : ClassId) (a : Nat → Nat) (hd : ∀ i j, i < 11 → j < 11 → a i = a j → i = j) (S : KS) (x1 : Int32) (x2 : Int32) (x3 : Int64) : GWv l yX1_put wsX1_put rmX1_put [.ref (a 1), .int x1, .int x2, .long x3] D (cw_tys cI cJ) (cw cI cJ a) KInv (kA a) S (f_X1_put S x1 x2 x3) := by
  refine GB_of (cc := cX1_put) (maxL := 5) (ret := none) (by decide) rfl (Nat.le_of_ble_eq_true rfl) ?_
  intro p e s m below meth c C hP hI ls hl
  obtain ⟨hx, hb, hr, hlocks, hml, hown, hts, hK, hN⟩ := id C
  have hS : va_S (kA a) s.heap s.heap [] := va_S.rf
  have hl : lv_has ls 5 [(0, .ref (a 1)), (1, .int x1), (2, .int x2), (3, .long x3)] := hl
  refine lv_aload_n hx hb dX1_put_0 rfl (lv_at hl 0 rfl) ?_
  refine lv_iload_n hx hb dX1_put_1 rfl (lv_at hl 1 rfl) ?_
  refine lv_iload_n hx hb dX1_put_2 rfl (lv_at hl 2 rfl) ?_
  refine g_Ri (As := [.int x1, .int x2]) (rest := []) ⟨hx, hb, hml, hown, hts⟩ (c_X1_hasPlace l D cI cJ a hd S x1 x2 ) (cwV 2 hts gX1_put_X1_hasPlace rfl rfl rfl eeX1_hasPlace ⟨Nat.le_of_ble_eq_true rfl, Nat.le_of_ble_eq_true rfl⟩) hK hN hP hI (va_recv hK hP (ci := 1) (q0 := 1) rfl rfl) hS rfl hl.1 rfl (Nat.le_of_ble_eq_true rfl) dX1_put_3 ⟨Nat.zero_le _, Nat.zero_le _⟩ (fun H locs hP hS => ?_)
  refine lv_if_eq (tgt := 30) hx hb dX1_put_6 (by decide) (fun c_6 => ?_) (fun c_6 => ?_)
  · skip
    exact r_Wv hx hb hr hlocks hP hI hS (by simp only [f_X1_put, if_pos c_6]) dX1_put_30
  · skip
    refine lv_aload_n hx hb dX1_put_9 rfl (lv_at hl 0 rfl) ?_
    refine va_get (D := D) (ci := 1) (v := .ref (a 6)) (C := RX1) (T := TX1) (N := 5) hx hb hts iwX1_put hown hK hP 1 rfl rfl 3 (by decide) (hts (.fieldLink RX1 21 "LoomPanel$Values" "cells" "[J") flX1_put_21) (fun _ h9 => h9) rfl dX1_put_10 ?_
    refine lv_iload_n hx hb dX1_put_13 rfl (lv_at hl 1 rfl) ?_
    refine lv_bipush (v := 8) hx hb dX1_put_14 (by decide) ?_
    refine lv_imul hx hb dX1_put_16 ?_
    refine lv_iload_n hx hb dX1_put_17 rfl (lv_at hl 2 rfl) ?_
    refine lv_iadd hx hb dX1_put_18 ?_
    refine lv_aload_n hx hb dX1_put_19 rfl (lv_at hl 0 rfl) ?_
    refine va_get (D := D) (ci := 1) (v := .ref (a 3)) (C := RX1) (T := TX1) (N := 5) hx hb hts iwX1_put hown hK hP 1 rfl rfl 0 (by decide) (hts (.fieldLink RX1 9 "LoomPanel$Values" "forms" "[I") flX1_put_9) (fun _ h9 => h9) rfl dX1_put_20 ?_
    refine lv_iload_n hx hb dX1_put_23 rfl (lv_at hl 1 rfl) ?_
    refine va_iald hx hb hK hP 3 0 (f := S.forms) rfl rfl ((hasPlace_in hI c_6).1) dX1_put_24 ?_
    refine lv_lload_n hx hb dX1_put_25 rfl (lv_at hl 3 rfl) ?_
    refine g_Sl (As := [.int (S.forms x1.toNatClampNeg), .long x3]) (rest := [.int ((x1 * 8) + x2), .ref (a 6)]) ⟨hx, hb, hml, hown, hts⟩ (c_X1_lowestBits l (S.forms x1.toNatClampNeg) x3) (va_cwS 2 hts gX1_put_X1_lowestBits rfl rfl rfl esX1_lowestBits ⟨Nat.le_of_ble_eq_true rfl, Nat.le_of_ble_eq_true rfl⟩) hP hS rfl hl.1 rfl (Nat.le_of_ble_eq_true rfl) dX1_put_26 ⟨Nat.zero_le _, Nat.zero_le _⟩ (fun H locs hP hS => ?_)
    refine va_last hx hb hK hP (cw_D hd) hS 6 1 (f := S.cells) rfl rfl (ix8 (hasPlace_in hI c_6).1 (hasPlace_in hI c_6).2) dX1_put_29 (fun H locs hP _ hS => ?_)
    have hP : va_P D vwCl (cw cI cJ a (S.set_cells (vp_updL S.cells ((x1 * 8) + x2).toNatClampNeg (f_X1_lowestBits (S.forms x1.toNatClampNeg) x3)))) H := by rw [← cw_set_cells]; exact hP
    have hI : KInv (S.set_cells (vp_updL S.cells ((x1 * 8) + x2).toNatClampNeg (f_X1_lowestBits (S.forms x1.toNatClampNeg) x3))) := KInv_set_cells hI
    exact r_Wv hx hb hr hlocks hP hI hS (by simp only [f_X1_put, if_neg c_6]) dX1_put_30
abbrev rmX2_isBoardForm : Room := { frames := 0, cells := 0, slots := 0, locals := 0 }
theorem esX2_isBoardForm : yX2_isBoardForm.cls ≠ "java/lang/invoke/MethodHandle" ∧ yX2_isBoardForm.cls ≠ "java/lang/invoke/VarHandle" ∧ (parseMethodDescriptor yX2_isBoardForm.desc).map (fun d => d.parameters.length) = some 1 := by decide +kernel
def f_X2_isBoardForm (x0 : Int32) : Int32 := if x0 = 3 then (1) else (if x0 < 6 then (0) else (if 10 < x0 then (0) else (1)))
set_option maxHeartbeats 4000000 in
set_option maxRecDepth 100000 in
theorem c_X2_isBoardForm (l : Launch) (x0 : Int32) : GSi l yX2_isBoardForm wsX2_isBoardForm rmX2_isBoardForm [.int x0] (f_X2_isBoardForm x0) := by
  refine GS_of (cc := cX2_isBoardForm) (maxL := 1) (ret := (some .boolean)) (by decide) rfl (Nat.le_of_ble_eq_true rfl) ?_
  intro p e s m below meth c C ls hl
  obtain ⟨hx, hb, hr, hlocks, hml, hown, hts⟩ := id C
  have hl : lv_has ls 1 [(0, .int x0)] := hl
  refine lv_iload_n hx hb dX2_isBoardForm_0 rfl (lv_at hl 0 rfl) ?_
  refine lv_iconst (v := 3) hx hb dX2_isBoardForm_1 (by decide) ?_
  refine lv_icmp_eq (tgt := 17) hx hb dX2_isBoardForm_2 (by decide) (fun c_2 => ?_) (fun c_2 => ?_)
  · skip
    refine lv_iconst (v := 1) hx hb dX2_isBoardForm_17 (by decide) ?_
    refine lv_goto (tgt := 22) hx hb dX2_isBoardForm_18 (by decide) ?_
    exact r_Sz hx hb hr hlocks rfl (by simp only [f_X2_isBoardForm, if_pos c_2]) dX2_isBoardForm_22
  · skip
    refine lv_iload_n hx hb dX2_isBoardForm_5 rfl (lv_at hl 0 rfl) ?_
    refine lv_bipush (v := 6) hx hb dX2_isBoardForm_6 (by decide) ?_
    refine lv_icmp_lt (tgt := 21) hx hb dX2_isBoardForm_8 (by decide) (fun c_8 => ?_) (fun c_8 => ?_)
    · skip
      refine lv_iconst (v := 0) hx hb dX2_isBoardForm_21 (by decide) ?_
      exact r_Sz hx hb hr hlocks rfl (by simp only [f_X2_isBoardForm, if_neg c_2, if_pos c_8]) dX2_isBoardForm_22
    · skip
      refine lv_iload_n hx hb dX2_isBoardForm_11 rfl (lv_at hl 0 rfl) ?_
      refine lv_bipush (v := 10) hx hb dX2_isBoardForm_12 (by decide) ?_
      refine lv_icmp_gt (tgt := 21) hx hb dX2_isBoardForm_14 (by decide) (fun c_14 => ?_) (fun c_14 => ?_)
      · skip
        refine lv_iconst (v := 0) hx hb dX2_isBoardForm_21 (by decide) ?_
        exact r_Sz hx hb hr hlocks rfl (by simp only [f_X2_isBoardForm, if_neg c_2, if_neg c_8, if_pos c_14]) dX2_isBoardForm_22
      · skip
        refine lv_iconst (v := 1) hx hb dX2_isBoardForm_17 (by decide) ?_
        refine lv_goto (tgt := 22) hx hb dX2_isBoardForm_18 (by decide) ?_
        exact r_Sz hx hb hr hlocks rfl (by simp only [f_X2_isBoardForm, if_neg c_2, if_neg c_8, if_neg c_14]) dX2_isBoardForm_22
abbrev rmX2_isLength : Room := { frames := 0, cells := 0, slots := 0, locals := 0 }
theorem esX2_isLength : yX2_isLength.cls ≠ "java/lang/invoke/MethodHandle" ∧ yX2_isLength.cls ≠ "java/lang/invoke/VarHandle" ∧ (parseMethodDescriptor yX2_isLength.desc).map (fun d => d.parameters.length) = some 1 := by decide +kernel
def f_X2_isLength (x0 : Int32) : Int32 := if x0 < 0 then (0) else (if 8 < x0 then (0) else (1))
set_option maxHeartbeats 4000000 in
set_option maxRecDepth 100000 in
theorem c_X2_isLength (l : Launch) (x0 : Int32) : GSi l yX2_isLength wsX2_isLength rmX2_isLength [.int x0] (f_X2_isLength x0) := by
  refine GS_of (cc := cX2_isLength) (maxL := 1) (ret := (some .boolean)) (by decide) rfl (Nat.le_of_ble_eq_true rfl) ?_
  intro p e s m below meth c C ls hl
  obtain ⟨hx, hb, hr, hlocks, hml, hown, hts⟩ := id C
  have hl : lv_has ls 1 [(0, .int x0)] := hl
  refine lv_iload_n hx hb dX2_isLength_0 rfl (lv_at hl 0 rfl) ?_
  refine lv_if_lt (tgt := 14) hx hb dX2_isLength_1 (by decide) (fun c_1 => ?_) (fun c_1 => ?_)
  · skip
    refine lv_iconst (v := 0) hx hb dX2_isLength_14 (by decide) ?_
    exact r_Sz hx hb hr hlocks rfl (by simp only [f_X2_isLength, if_pos c_1]) dX2_isLength_15
  · skip
    refine lv_iload_n hx hb dX2_isLength_4 rfl (lv_at hl 0 rfl) ?_
    refine lv_bipush (v := 8) hx hb dX2_isLength_5 (by decide) ?_
    refine lv_icmp_gt (tgt := 14) hx hb dX2_isLength_7 (by decide) (fun c_7 => ?_) (fun c_7 => ?_)
    · skip
      refine lv_iconst (v := 0) hx hb dX2_isLength_14 (by decide) ?_
      exact r_Sz hx hb hr hlocks rfl (by simp only [f_X2_isLength, if_neg c_1, if_pos c_7]) dX2_isLength_15
    · skip
      refine lv_iconst (v := 1) hx hb dX2_isLength_10 (by decide) ?_
      refine lv_goto (tgt := 15) hx hb dX2_isLength_11 (by decide) ?_
      exact r_Sz hx hb hr hlocks rfl (by simp only [f_X2_isLength, if_neg c_1, if_neg c_7]) dX2_isLength_15
theorem isLength_in {x : Int32} (h : ¬ f_X2_isLength x = 0) : 0 ≤ x.toInt ∧ x.toInt ≤ 8 := by
  unfold f_X2_isLength at h
  obtain ⟨h1, h⟩ := ne_ite h
  obtain ⟨h2, h⟩ := ne_ite h
  exact ⟨lt0 h1, nlt h2⟩
theorem made_set {S : KS} {v : Int32} (hI : KInv S) (h0 : 0 ≤ v.toInt) (h1 : v.toInt ≤ 60) : KInv (S.set_made v) := ⟨⟨h0, h1⟩, hI.2⟩
theorem made_up {S : KS} (hI : KInv S) (h : ¬ (60 : Int32) ≤ S.made) : KInv (S.set_made (S.made + 1)) := by
  have h1 := nle h
  have h2 := add1 (k := 60) hI.1.1 h1 (by decide)
  have := hI.1
  have : (60 : Int32).toInt = 60 := by decide
  exact made_set hI (by omega) (by omega)
theorem lens_set {S : KS} {k : Nat} {v : Int32} (hI : KInv S) (h : 0 ≤ v.toInt ∧ v.toInt ≤ 8) : KInv (S.set_lens (upd S.lens k v)) := by
  refine ⟨hI.1, fun i => ?_, hI.2.2⟩
  show 0 ≤ (upd S.lens k v i).toInt ∧ (upd S.lens k v i).toInt ≤ 8
  by_cases hh : i = k
  · subst hh; rw [pk_us]; exact h
  · rw [pk_un hh]; exact hI.2.1 i
theorem made_in {S : KS} (hI : KInv S) (h : ¬ (60 : Int32) ≤ S.made) : vp_in S.made 60 := in2 hI.1.1 (nle h)
abbrev rmX1_add : Room := { frames := 1, cells := 0, slots := 0, locals := 20 }
theorem eeX1_add : yX1_add.cls = RX1 ∧ yX1_add.cls ≠ "java/lang/invoke/MethodHandle" ∧ yX1_add.cls ≠ "java/lang/invoke/VarHandle" ∧ (parseMethodDescriptor yX1_add.desc).map (fun d => d.parameters.length) = some 2 := by decide +kernel
theorem iwX1_add : ∀ w ∈ u_ws RX1 TX1 5, w ∈ wsX1_add := by decide +kernel
theorem flX1_add_15 : Cond.fieldLink RX1 15 "LoomPanel$Values" "lengths" "[I" ∈ wsX1_add := by decide +kernel
theorem flX1_add_18 : Cond.fieldLink RX1 18 "LoomPanel$Values" "levels" "[I" ∈ wsX1_add := by decide +kernel
theorem flX1_add_21 : Cond.fieldLink RX1 21 "LoomPanel$Values" "cells" "[J" ∈ wsX1_add := by decide +kernel
theorem flX1_add_25 : Cond.fieldLink RX1 25 "LoomPanel$Values" "made" "I" ∈ wsX1_add := by decide +kernel
theorem flX1_add_9 : Cond.fieldLink RX1 9 "LoomPanel$Values" "forms" "[I" ∈ wsX1_add := by decide +kernel
theorem wiX1_add_X2 : Cond.initialized RX2 ∈ wsX1_add := by decide +kernel
theorem wstX1_add_isBoardForm : Cond.static yX2_isBoardForm ∈ wsX1_add := by decide +kernel
theorem wstX1_add_isLength : Cond.static yX2_isLength ∈ wsX1_add := by decide +kernel
def f_X1_add_c72 : Nat → KS → Int32 → Int32 → Int32 → Nat → Int32 × KS
  | 0, S, _, _, _, _ => (0, S)
  | n + 1, S, x2, x3, x4, j => if x2 ≤ (nI j) then ((x3, S)) else (f_X1_add_c72 n (S.set_cells (vp_updL S.cells ((x3 * 8) + (nI j)).toNatClampNeg x4.toInt64)) x2 x3 x4 (j + 1))
set_option maxHeartbeats 4000000 in
set_option maxRecDepth 100000 in
theorem w_X1_add_c72 {l : Launch} {D : va_G} {cI cJ : ClassId} {a : Nat → Nat} (hd : ∀ i j, i < 11 → j < 11 → a i = a j → i = j) {p : Program} {e : Env} {s : State} {m : MethodId} {args : Array Value} {below : List Frame} {meth : Method} {c : Code} (C : GC p s m meth c cX1_add (some .int) 6 RX1 wsX1_add args D (cw_tys cI cJ)) {v : Int32 × KS} : ∀ (n : Nat) (S : KS) (x2 : Int32) (x3 : Int32) (x4 : Int32) (j : Nat) (hx3 : vp_in x3 60) (hx2 : x2.toInt ≤ 8) (hj : j ≤ 8) (hn : j + n = 9) (H : Heap) (locs : List Loc) (ls : Array Slot), va_P D vwCl (cw cI cJ a S) H → KInv S → va_S (kA a) s.heap H locs → lv_has ls 6 [(0, .ref (a 1)), (2, .int x2), (3, .int x3), (4, .int x4), (5, .int (nI j))] → v = f_X1_add_c72 n S x2 x3 x4 j → W p l e rmX1_add s m args below meth c H locs 0 0 (MQ below (va_Qi (fun r u => v = (r, u)) (GE D (cw cI cJ a) KInv) (kA a)) args s 0 0 (kA a)) (F0 m 72 ls []) := by
  obtain ⟨hx, hb, hr, hlocks, hml, hown, hts, hK, hN⟩ := id C
  intro n
  induction n with
  | zero =>
    intro S x2 x3 x4 j hx3 hx2 hj hn H locs ls hP hI hS hl hq
    exact absurd hn (by omega)
  | succ n ih =>
    intro S x2 x3 x4 j hx3 hx2 hj hn H locs ls hP hI hS hl hq
    refine lv_iload hx hb dX1_add_72 (lv_at hl 4 rfl) ?_
    refine lv_iload_n hx hb dX1_add_74 rfl (lv_at hl 1 rfl) ?_
    refine lv_icmp_ge (tgt := 99) hx hb dX1_add_75 (by decide) (fun c_75 => ?_) (fun c_75 => ?_)
    · skip
      refine lv_iload_n hx hb dX1_add_99 rfl (lv_at hl 2 rfl) ?_
      exact r_Wi hx hb hr hlocks hP hI hS (hq.trans (by simp only [f_X1_add_c72, if_pos c_75])) dX1_add_100
    · skip
      refine lv_aload_n hx hb dX1_add_78 rfl (lv_at hl 0 rfl) ?_
      refine va_get (D := D) (ci := 1) (v := .ref (a 6)) (C := RX1) (T := TX1) (N := 5) hx hb hts iwX1_add hown hK hP 1 rfl rfl 3 (by decide) (hts (.fieldLink RX1 21 "LoomPanel$Values" "cells" "[J") flX1_add_21) (fun _ h9 => h9) rfl dX1_add_79 ?_
      refine lv_iload_n hx hb dX1_add_82 rfl (lv_at hl 2 rfl) ?_
      refine lv_bipush (v := 8) hx hb dX1_add_83 (by decide) ?_
      refine lv_imul hx hb dX1_add_85 ?_
      refine lv_iload hx hb dX1_add_86 (lv_at hl 4 rfl) ?_
      refine lv_iadd hx hb dX1_add_88 ?_
      refine lv_iload hx hb dX1_add_89 (lv_at hl 3 rfl) ?_
      refine lv_i2l (v := x4.toInt64) hx hb dX1_add_91 rfl ?_
      refine va_last hx hb hK hP (cw_D hd) hS 6 1 (f := S.cells) rfl rfl (ix8 hx3 (jin (jl8 c_75 hx2 hj) (by decide))) dX1_add_92 (fun H locs hP _ hS => ?_)
      have hP : va_P D vwCl (cw cI cJ a (S.set_cells (vp_updL S.cells ((x3 * 8) + (nI j)).toNatClampNeg x4.toInt64))) H := by rw [← cw_set_cells]; exact hP
      have hI : KInv (S.set_cells (vp_updL S.cells ((x3 * 8) + (nI j)).toNatClampNeg x4.toInt64)) := KInv_set_cells hI
      refine lv_iinc (v := nI (j + 1)) (lv' := [(5, .int (nI (j + 1))), (0, .ref (a 1)), (2, .int x2), (3, .int x3), (4, .int x4)]) hx hb dX1_add_93 hl (k := 4) rfl (nI_1 _) (by decide) rfl (fun ls hl => ?_)
      refine lv_goto (tgt := 72) hx hb dX1_add_96 (by decide) ?_
      exact ih (S.set_cells (vp_updL S.cells ((x3 * 8) + (nI j)).toNatClampNeg x4.toInt64)) x2 x3 x4 (j + 1) hx3 hx2 (jl8 c_75 hx2 hj) (by omega) _ _ _ hP hI hS (lv_sub hl [1, 2, 3, 4, 0] rfl) (hq.trans (by simp only [f_X1_add_c72, if_neg c_75]))
def f_X1_add (S : KS) (x1 : Int32) (x2 : Int32) : Int32 × KS := if 60 ≤ S.made then (((-4), S)) else (if (f_X2_isLength x2) = 0 then (((-4), S)) else (if (f_X2_isBoardForm x1) = 0 then (f_X1_add_c72 9 ((((S.set_made (S.made + 1)).set_forms (upd ((S.set_made (S.made + 1)).forms) S.made.toNatClampNeg x1)).set_lens (upd (((S.set_made (S.made + 1)).set_forms (upd ((S.set_made (S.made + 1)).forms) S.made.toNatClampNeg x1)).lens) S.made.toNatClampNeg x2)).set_levels (upd ((((S.set_made (S.made + 1)).set_forms (upd ((S.set_made (S.made + 1)).forms) S.made.toNatClampNeg x1)).set_lens (upd (((S.set_made (S.made + 1)).set_forms (upd ((S.set_made (S.made + 1)).forms) S.made.toNatClampNeg x1)).lens) S.made.toNatClampNeg x2)).levels) S.made.toNatClampNeg 0)) x2 S.made 0 0) else (f_X1_add_c72 9 ((((S.set_made (S.made + 1)).set_forms (upd ((S.set_made (S.made + 1)).forms) S.made.toNatClampNeg x1)).set_lens (upd (((S.set_made (S.made + 1)).set_forms (upd ((S.set_made (S.made + 1)).forms) S.made.toNatClampNeg x1)).lens) S.made.toNatClampNeg x2)).set_levels (upd ((((S.set_made (S.made + 1)).set_forms (upd ((S.set_made (S.made + 1)).forms) S.made.toNatClampNeg x1)).set_lens (upd (((S.set_made (S.made + 1)).set_forms (upd ((S.set_made (S.made + 1)).forms) S.made.toNatClampNeg x1)).lens) S.made.toNatClampNeg x2)).levels) S.made.toNatClampNeg 0)) x2 S.made (-1) 0)))
set_option maxHeartbeats 4000000 in
set_option maxRecDepth 100000 in
theorem c_X1_add (l : Launch) (D : va_G) (cI cJ : ClassId) (a : Nat → Nat) (hd : ∀ i j, i < 11 → j < 11 → a i = a j → i = j) (S : KS) (x1 : Int32) (x2 : Int32) : GWi l yX1_add wsX1_add rmX1_add [.ref (a 1), .int x1, .int x2] D (cw_tys cI cJ) (cw cI cJ a) KInv (kA a) S (f_X1_add S x1 x2) := by
  refine GB_of (cc := cX1_add) (maxL := 6) (ret := (some .int)) (by decide) rfl (Nat.le_of_ble_eq_true rfl) ?_
  intro p e s m below meth c C hP hI ls hl
  obtain ⟨hx, hb, hr, hlocks, hml, hown, hts, hK, hN⟩ := id C
  have hS : va_S (kA a) s.heap s.heap [] := va_S.rf
  have hl : lv_has ls 6 [(0, .ref (a 1)), (1, .int x1), (2, .int x2)] := hl
  refine lv_aload_n hx hb dX1_add_0 rfl (lv_at hl 0 rfl) ?_
  refine va_get (D := D) (ci := 1) (v := .int S.made) (C := RX1) (T := TX1) (N := 5) hx hb hts iwX1_add hown hK hP 1 rfl rfl 4 (by decide) (hts (.fieldLink RX1 25 "LoomPanel$Values" "made" "I") flX1_add_25) (fun _ h9 => h9) rfl dX1_add_1 ?_
  refine lv_bipush (v := 60) hx hb dX1_add_4 (by decide) ?_
  refine lv_icmp_ge (tgt := 16) hx hb dX1_add_6 (by decide) (fun c_6 => ?_) (fun c_6 => ?_)
  · skip
    refine lv_bipush (v := (-4)) hx hb dX1_add_16 (by decide) ?_
    exact r_Wi hx hb hr hlocks hP hI hS (by simp only [f_X1_add, if_pos c_6]) dX1_add_18
  · skip
    refine lv_iload_n hx hb dX1_add_9 rfl (lv_at hl 2 rfl) ?_
    refine g_SiN (As := [.int x2]) (rest := []) ⟨hx, hb, hml, hown, hts⟩ (c_X2_isLength l x2) ⟨va_cnB 1 hts gX1_add_X2_isLength_n45 rfl rfl rfl hN.2.1 (hts (.initialized RX2) wiX1_add_X2) esX2_isLength ⟨Nat.le_of_ble_eq_true rfl, Nat.le_of_ble_eq_true rfl⟩, hts (.static yX2_isLength) wstX1_add_isLength, trivial⟩ hP hS rfl hl.1 rfl (Nat.le_of_ble_eq_true rfl) dX1_add_10 ⟨Nat.zero_le _, Nat.zero_le _⟩ (fun H locs hP hS => ?_)
    refine lv_if_ne (tgt := 19) hx hb dX1_add_13 (by decide) (fun c_13 => ?_) (fun c_13 => ?_)
    · skip
      have hm := made_in hI c_6
      refine lv_aload_n hx hb dX1_add_19 rfl (lv_at hl 0 rfl) ?_
      refine va_get (D := D) (ci := 1) (v := .int S.made) (C := RX1) (T := TX1) (N := 5) hx hb hts iwX1_add hown hK hP 1 rfl rfl 4 (by decide) (hts (.fieldLink RX1 25 "LoomPanel$Values" "made" "I") flX1_add_25) (fun _ h9 => h9) rfl dX1_add_20 ?_
      refine lv_istore_n (lv' := [(3, .int S.made), (0, .ref (a 1)), (1, .int x1), (2, .int x2)]) hx hb dX1_add_23 rfl hl (by decide) rfl (fun ls hl => ?_)
      refine lv_aload_n hx hb dX1_add_24 rfl (lv_at hl 1 rfl) ?_
      refine lv_dup hx hb dX1_add_25 rfl ?_
      refine va_get (D := D) (ci := 1) (v := .int S.made) (C := RX1) (T := TX1) (N := 5) hx hb hts iwX1_add hown hK hP 1 rfl rfl 4 (by decide) (hts (.fieldLink RX1 25 "LoomPanel$Values" "made" "I") flX1_add_25) (fun _ h9 => h9) rfl dX1_add_26 ?_
      refine lv_iconst (v := 1) hx hb dX1_add_29 (by decide) ?_
      refine lv_iadd hx hb dX1_add_30 ?_
      refine va_put (D := D) (ci := 1) (v := .int (S.made + 1)) (ty := .int) (C := RX1) (T := TX1) (N := 5) hx hb hts iwX1_add tyX1 tyX1_ok nmX1 hown hK hP (cw_D hd) hS 1 rfl rfl 4 (by decide) (hts (.fieldLink RX1 25 "LoomPanel$Values" "made" "I") flX1_add_25) (fun _ h9 => h9) rfl (by decide +kernel) rfl rfl (Nat.le_of_ble_eq_true rfl) dX1_add_31 (fun H locs hP _ hS => ?_)
      have hP : va_P D vwCl (cw cI cJ a (S.set_made (S.made + 1))) H := by rw [← cw_set_made]; exact hP
      have hI : KInv (S.set_made (S.made + 1)) := made_up hI c_6
      refine lv_aload_n hx hb dX1_add_34 rfl (lv_at hl 1 rfl) ?_
      refine va_get (D := D) (ci := 1) (v := .ref (a 3)) (C := RX1) (T := TX1) (N := 5) hx hb hts iwX1_add hown hK hP 1 rfl rfl 0 (by decide) (hts (.fieldLink RX1 9 "LoomPanel$Values" "forms" "[I") flX1_add_9) (fun _ h9 => h9) rfl dX1_add_35 ?_
      refine lv_iload_n hx hb dX1_add_38 rfl (lv_at hl 0 rfl) ?_
      refine lv_iload_n hx hb dX1_add_39 rfl (lv_at hl 2 rfl) ?_
      refine va_iast hx hb hK hP (cw_D hd) hS 3 0 (f := (S.set_made (S.made + 1)).forms) rfl rfl hm dX1_add_40 (fun H locs hP _ hS => ?_)
      have hP : va_P D vwCl (cw cI cJ a ((S.set_made (S.made + 1)).set_forms (upd ((S.set_made (S.made + 1)).forms) S.made.toNatClampNeg x1))) H := by rw [← cw_set_forms]; exact hP
      have hI : KInv ((S.set_made (S.made + 1)).set_forms (upd ((S.set_made (S.made + 1)).forms) S.made.toNatClampNeg x1)) := KInv_set_forms hI
      refine lv_aload_n hx hb dX1_add_41 rfl (lv_at hl 1 rfl) ?_
      refine va_get (D := D) (ci := 1) (v := .ref (a 4)) (C := RX1) (T := TX1) (N := 5) hx hb hts iwX1_add hown hK hP 1 rfl rfl 1 (by decide) (hts (.fieldLink RX1 15 "LoomPanel$Values" "lengths" "[I") flX1_add_15) (fun _ h9 => h9) rfl dX1_add_42 ?_
      refine lv_iload_n hx hb dX1_add_45 rfl (lv_at hl 0 rfl) ?_
      refine lv_iload_n hx hb dX1_add_46 rfl (lv_at hl 3 rfl) ?_
      refine va_iast hx hb hK hP (cw_D hd) hS 4 0 (f := ((S.set_made (S.made + 1)).set_forms (upd ((S.set_made (S.made + 1)).forms) S.made.toNatClampNeg x1)).lens) rfl rfl hm dX1_add_47 (fun H locs hP _ hS => ?_)
      have hP : va_P D vwCl (cw cI cJ a (((S.set_made (S.made + 1)).set_forms (upd ((S.set_made (S.made + 1)).forms) S.made.toNatClampNeg x1)).set_lens (upd (((S.set_made (S.made + 1)).set_forms (upd ((S.set_made (S.made + 1)).forms) S.made.toNatClampNeg x1)).lens) S.made.toNatClampNeg x2))) H := by rw [← cw_set_lens]; exact hP
      have hI : KInv (((S.set_made (S.made + 1)).set_forms (upd ((S.set_made (S.made + 1)).forms) S.made.toNatClampNeg x1)).set_lens (upd (((S.set_made (S.made + 1)).set_forms (upd ((S.set_made (S.made + 1)).forms) S.made.toNatClampNeg x1)).lens) S.made.toNatClampNeg x2)) := lens_set hI (isLength_in c_13)
      refine lv_aload_n hx hb dX1_add_48 rfl (lv_at hl 1 rfl) ?_
      refine va_get (D := D) (ci := 1) (v := .ref (a 5)) (C := RX1) (T := TX1) (N := 5) hx hb hts iwX1_add hown hK hP 1 rfl rfl 2 (by decide) (hts (.fieldLink RX1 18 "LoomPanel$Values" "levels" "[I") flX1_add_18) (fun _ h9 => h9) rfl dX1_add_49 ?_
      refine lv_iload_n hx hb dX1_add_52 rfl (lv_at hl 0 rfl) ?_
      refine lv_iconst (v := 0) hx hb dX1_add_53 (by decide) ?_
      refine va_iast hx hb hK hP (cw_D hd) hS 5 0 (f := (((S.set_made (S.made + 1)).set_forms (upd ((S.set_made (S.made + 1)).forms) S.made.toNatClampNeg x1)).set_lens (upd (((S.set_made (S.made + 1)).set_forms (upd ((S.set_made (S.made + 1)).forms) S.made.toNatClampNeg x1)).lens) S.made.toNatClampNeg x2)).levels) rfl rfl hm dX1_add_54 (fun H locs hP _ hS => ?_)
      have hP : va_P D vwCl (cw cI cJ a ((((S.set_made (S.made + 1)).set_forms (upd ((S.set_made (S.made + 1)).forms) S.made.toNatClampNeg x1)).set_lens (upd (((S.set_made (S.made + 1)).set_forms (upd ((S.set_made (S.made + 1)).forms) S.made.toNatClampNeg x1)).lens) S.made.toNatClampNeg x2)).set_levels (upd ((((S.set_made (S.made + 1)).set_forms (upd ((S.set_made (S.made + 1)).forms) S.made.toNatClampNeg x1)).set_lens (upd (((S.set_made (S.made + 1)).set_forms (upd ((S.set_made (S.made + 1)).forms) S.made.toNatClampNeg x1)).lens) S.made.toNatClampNeg x2)).levels) S.made.toNatClampNeg 0))) H := by rw [← cw_set_levels]; exact hP
      have hI : KInv ((((S.set_made (S.made + 1)).set_forms (upd ((S.set_made (S.made + 1)).forms) S.made.toNatClampNeg x1)).set_lens (upd (((S.set_made (S.made + 1)).set_forms (upd ((S.set_made (S.made + 1)).forms) S.made.toNatClampNeg x1)).lens) S.made.toNatClampNeg x2)).set_levels (upd ((((S.set_made (S.made + 1)).set_forms (upd ((S.set_made (S.made + 1)).forms) S.made.toNatClampNeg x1)).set_lens (upd (((S.set_made (S.made + 1)).set_forms (upd ((S.set_made (S.made + 1)).forms) S.made.toNatClampNeg x1)).lens) S.made.toNatClampNeg x2)).levels) S.made.toNatClampNeg 0)) := KInv_set_levels hI
      refine lv_iload_n hx hb dX1_add_55 rfl (lv_at hl 2 rfl) ?_
      refine g_SiN (As := [.int x1]) (rest := []) ⟨hx, hb, hml, hown, hts⟩ (c_X2_isBoardForm l x1) ⟨va_cnB 1 hts gX1_add_X2_isBoardForm_n48 rfl rfl rfl hN.2.2.1 (hts (.initialized RX2) wiX1_add_X2) esX2_isBoardForm ⟨Nat.le_of_ble_eq_true rfl, Nat.le_of_ble_eq_true rfl⟩, hts (.static yX2_isBoardForm) wstX1_add_isBoardForm, trivial⟩ hP hS rfl hl.1 rfl (Nat.le_of_ble_eq_true rfl) dX1_add_56 ⟨Nat.zero_le _, Nat.zero_le _⟩ (fun H locs hP hS => ?_)
      refine lv_if_eq (tgt := 66) hx hb dX1_add_59 (by decide) (fun c_59 => ?_) (fun c_59 => ?_)
      · skip
        refine lv_iconst (v := 0) hx hb dX1_add_66 (by decide) ?_
        refine lv_istore (lv' := [(4, .int 0), (3, .int S.made), (0, .ref (a 1)), (1, .int x1), (2, .int x2)]) hx hb dX1_add_67 hl (by decide) rfl (fun ls hl => ?_)
        refine lv_iconst (v := 0) hx hb dX1_add_69 (by decide) ?_
        refine lv_istore (lv' := [(5, .int 0), (4, .int 0), (3, .int S.made), (0, .ref (a 1)), (1, .int x1), (2, .int x2)]) hx hb dX1_add_70 hl (by decide) rfl (fun ls hl => ?_)
        exact w_X1_add_c72 hd C 9 ((((S.set_made (S.made + 1)).set_forms (upd ((S.set_made (S.made + 1)).forms) S.made.toNatClampNeg x1)).set_lens (upd (((S.set_made (S.made + 1)).set_forms (upd ((S.set_made (S.made + 1)).forms) S.made.toNatClampNeg x1)).lens) S.made.toNatClampNeg x2)).set_levels (upd ((((S.set_made (S.made + 1)).set_forms (upd ((S.set_made (S.made + 1)).forms) S.made.toNatClampNeg x1)).set_lens (upd (((S.set_made (S.made + 1)).set_forms (upd ((S.set_made (S.made + 1)).forms) S.made.toNatClampNeg x1)).lens) S.made.toNatClampNeg x2)).levels) S.made.toNatClampNeg 0)) x2 S.made 0 0 hm ((isLength_in c_13).2) (Nat.zero_le _) rfl _ _ _ hP hI hS (lv_sub hl [3, 5, 2, 1, 0] rfl) (by simp only [f_X1_add, if_neg c_6, if_neg c_13, if_pos c_59])
      · skip
        refine lv_iconst (v := (-1)) hx hb dX1_add_62 (by decide) ?_
        refine lv_goto (tgt := 67) hx hb dX1_add_63 (by decide) ?_
        refine lv_istore (lv' := [(4, .int (-1)), (3, .int S.made), (0, .ref (a 1)), (1, .int x1), (2, .int x2)]) hx hb dX1_add_67 hl (by decide) rfl (fun ls hl => ?_)
        refine lv_iconst (v := 0) hx hb dX1_add_69 (by decide) ?_
        refine lv_istore (lv' := [(5, .int 0), (4, .int (-1)), (3, .int S.made), (0, .ref (a 1)), (1, .int x1), (2, .int x2)]) hx hb dX1_add_70 hl (by decide) rfl (fun ls hl => ?_)
        exact w_X1_add_c72 hd C 9 ((((S.set_made (S.made + 1)).set_forms (upd ((S.set_made (S.made + 1)).forms) S.made.toNatClampNeg x1)).set_lens (upd (((S.set_made (S.made + 1)).set_forms (upd ((S.set_made (S.made + 1)).forms) S.made.toNatClampNeg x1)).lens) S.made.toNatClampNeg x2)).set_levels (upd ((((S.set_made (S.made + 1)).set_forms (upd ((S.set_made (S.made + 1)).forms) S.made.toNatClampNeg x1)).set_lens (upd (((S.set_made (S.made + 1)).set_forms (upd ((S.set_made (S.made + 1)).forms) S.made.toNatClampNeg x1)).lens) S.made.toNatClampNeg x2)).levels) S.made.toNatClampNeg 0)) x2 S.made (-1) 0 hm ((isLength_in c_13).2) (Nat.zero_le _) rfl _ _ _ hP hI hS (lv_sub hl [3, 5, 2, 1, 0] rfl) (by simp only [f_X1_add, if_neg c_6, if_neg c_13, if_neg c_59])
    · skip
      refine lv_bipush (v := (-4)) hx hb dX1_add_16 (by decide) ?_
      exact r_Wi hx hb hr hlocks hP hI hS (by simp only [f_X1_add, if_neg c_6, if_pos c_13]) dX1_add_18
abbrev rmX1_addWire : Room := { frames := 2, cells := 0, slots := 0, locals := 45 }
theorem eeX1_addWire : yX1_addWire.cls = RX1 ∧ yX1_addWire.cls ≠ "java/lang/invoke/MethodHandle" ∧ yX1_addWire.cls ≠ "java/lang/invoke/VarHandle" ∧ (parseMethodDescriptor yX1_addWire.desc).map (fun d => d.parameters.length) = some 2 := by decide +kernel
theorem iwX1_addWire : ∀ w ∈ u_ws RX1 TX1 5, w ∈ wsX1_addWire := by decide +kernel
theorem flX1_addWire_18 : Cond.fieldLink RX1 18 "LoomPanel$Values" "levels" "[I" ∈ wsX1_addWire := by decide +kernel
def f_X1_addWire (S : KS) (x1 : Int32) (x2 : Int32) : Int32 × KS := if (f_X1_has ((f_X1_add S x1 0).2) ((f_X1_add S x1 0).1)) = 0 then (((f_X1_add S x1 0).1, (f_X1_add S x1 0).2)) else (((f_X1_add S x1 0).1, ((f_X1_add S x1 0).2).set_levels (upd (((f_X1_add S x1 0).2).levels) ((f_X1_add S x1 0).1).toNatClampNeg x2)))
set_option maxHeartbeats 4000000 in
set_option maxRecDepth 100000 in
theorem c_X1_addWire (l : Launch) (D : va_G) (cI cJ : ClassId) (a : Nat → Nat) (hd : ∀ i j, i < 11 → j < 11 → a i = a j → i = j) (S : KS) (x1 : Int32) (x2 : Int32) : GWi l yX1_addWire wsX1_addWire rmX1_addWire [.ref (a 1), .int x1, .int x2] D (cw_tys cI cJ) (cw cI cJ a) KInv (kA a) S (f_X1_addWire S x1 x2) := by
  refine GB_of (cc := cX1_addWire) (maxL := 4) (ret := (some .int)) (by decide) rfl (Nat.le_of_ble_eq_true rfl) ?_
  intro p e s m below meth c C hP hI ls hl
  obtain ⟨hx, hb, hr, hlocks, hml, hown, hts, hK, hN⟩ := id C
  have hS : va_S (kA a) s.heap s.heap [] := va_S.rf
  have hl : lv_has ls 4 [(0, .ref (a 1)), (1, .int x1), (2, .int x2)] := hl
  refine lv_aload_n hx hb dX1_addWire_0 rfl (lv_at hl 0 rfl) ?_
  refine lv_iload_n hx hb dX1_addWire_1 rfl (lv_at hl 1 rfl) ?_
  refine lv_iconst (v := 0) hx hb dX1_addWire_2 (by decide) ?_
  refine g_Wi (As := [.int x1, .int 0]) (rest := []) ⟨hx, hb, hml, hown, hts⟩ (c_X1_add l D cI cJ a hd S x1 0 ) (cwV 2 hts gX1_addWire_X1_add rfl rfl rfl eeX1_add ⟨Nat.le_of_ble_eq_true rfl, Nat.le_of_ble_eq_true rfl⟩) hK hN hP hI (va_recv hK hP (ci := 1) (q0 := 1) rfl rfl) hS rfl hl.1 rfl (Nat.le_of_ble_eq_true rfl) dX1_addWire_3 ⟨Nat.zero_le _, Nat.zero_le _⟩ (fun H locs hI hP hS => ?_)
  refine lv_istore_n (lv' := [(3, .int ((f_X1_add S x1 0).1)), (0, .ref (a 1)), (1, .int x1), (2, .int x2)]) hx hb dX1_addWire_6 rfl hl (by decide) rfl (fun ls hl => ?_)
  refine lv_aload_n hx hb dX1_addWire_7 rfl (lv_at hl 1 rfl) ?_
  refine lv_iload_n hx hb dX1_addWire_8 rfl (lv_at hl 0 rfl) ?_
  refine g_Ri (As := [.int ((f_X1_add S x1 0).1)]) (rest := []) ⟨hx, hb, hml, hown, hts⟩ (c_X1_has l D cI cJ a hd ((f_X1_add S x1 0).2) ((f_X1_add S x1 0).1) ) (cwV 1 hts gX1_addWire_X1_has rfl rfl rfl eeX1_has ⟨Nat.le_of_ble_eq_true rfl, Nat.le_of_ble_eq_true rfl⟩) hK hN hP hI (va_recv hK hP (ci := 1) (q0 := 1) rfl rfl) hS rfl hl.1 rfl (Nat.le_of_ble_eq_true rfl) dX1_addWire_9 ⟨Nat.zero_le _, Nat.zero_le _⟩ (fun H locs hP hS => ?_)
  refine lv_if_eq (tgt := 22) hx hb dX1_addWire_12 (by decide) (fun c_12 => ?_) (fun c_12 => ?_)
  · skip
    refine lv_iload_n hx hb dX1_addWire_22 rfl (lv_at hl 0 rfl) ?_
    exact r_Wi hx hb hr hlocks hP hI hS (by simp only [f_X1_addWire, if_pos c_12]) dX1_addWire_23
  · skip
    refine lv_aload_n hx hb dX1_addWire_15 rfl (lv_at hl 1 rfl) ?_
    refine va_get (D := D) (ci := 1) (v := .ref (a 5)) (C := RX1) (T := TX1) (N := 5) hx hb hts iwX1_addWire hown hK hP 1 rfl rfl 2 (by decide) (hts (.fieldLink RX1 18 "LoomPanel$Values" "levels" "[I") flX1_addWire_18) (fun _ h9 => h9) rfl dX1_addWire_16 ?_
    refine lv_iload_n hx hb dX1_addWire_19 rfl (lv_at hl 0 rfl) ?_
    refine lv_iload_n hx hb dX1_addWire_20 rfl (lv_at hl 3 rfl) ?_
    refine va_iast hx hb hK hP (cw_D hd) hS 5 0 (f := ((f_X1_add S x1 0).2).levels) rfl rfl (has_in hI c_12) dX1_addWire_21 (fun H locs hP _ hS => ?_)
    have hP : va_P D vwCl (cw cI cJ a (((f_X1_add S x1 0).2).set_levels (upd (((f_X1_add S x1 0).2).levels) ((f_X1_add S x1 0).1).toNatClampNeg x2))) H := by rw [← cw_set_levels]; exact hP
    have hI : KInv (((f_X1_add S x1 0).2).set_levels (upd (((f_X1_add S x1 0).2).levels) ((f_X1_add S x1 0).1).toNatClampNeg x2)) := KInv_set_levels hI
    refine lv_iload_n hx hb dX1_addWire_22 rfl (lv_at hl 0 rfl) ?_
    exact r_Wi hx hb hr hlocks hP hI hS (by simp only [f_X1_addWire, if_neg c_12]) dX1_addWire_23
abbrev rmX1_addSingle : Room := { frames := 2, cells := 0, slots := 0, locals := 46 }
theorem eeX1_addSingle : yX1_addSingle.cls = RX1 ∧ yX1_addSingle.cls ≠ "java/lang/invoke/MethodHandle" ∧ yX1_addSingle.cls ≠ "java/lang/invoke/VarHandle" ∧ (parseMethodDescriptor yX1_addSingle.desc).map (fun d => d.parameters.length) = some 2 := by decide +kernel
def f_X1_addSingle (S : KS) (x1 : Int32) (x2 : Int64) : Int32 × KS := ((f_X1_add S x1 1).1, f_X1_put ((f_X1_add S x1 1).2) ((f_X1_add S x1 1).1) 0 x2)
set_option maxHeartbeats 4000000 in
set_option maxRecDepth 100000 in
theorem c_X1_addSingle (l : Launch) (D : va_G) (cI cJ : ClassId) (a : Nat → Nat) (hd : ∀ i j, i < 11 → j < 11 → a i = a j → i = j) (S : KS) (x1 : Int32) (x2 : Int64) : GWi l yX1_addSingle wsX1_addSingle rmX1_addSingle [.ref (a 1), .int x1, .long x2] D (cw_tys cI cJ) (cw cI cJ a) KInv (kA a) S (f_X1_addSingle S x1 x2) := by
  refine GB_of (cc := cX1_addSingle) (maxL := 5) (ret := (some .int)) (by decide) rfl (Nat.le_of_ble_eq_true rfl) ?_
  intro p e s m below meth c C hP hI ls hl
  obtain ⟨hx, hb, hr, hlocks, hml, hown, hts, hK, hN⟩ := id C
  have hS : va_S (kA a) s.heap s.heap [] := va_S.rf
  have hl : lv_has ls 5 [(0, .ref (a 1)), (1, .int x1), (2, .long x2)] := hl
  refine lv_aload_n hx hb dX1_addSingle_0 rfl (lv_at hl 0 rfl) ?_
  refine lv_iload_n hx hb dX1_addSingle_1 rfl (lv_at hl 1 rfl) ?_
  refine lv_iconst (v := 1) hx hb dX1_addSingle_2 (by decide) ?_
  refine g_Wi (As := [.int x1, .int 1]) (rest := []) ⟨hx, hb, hml, hown, hts⟩ (c_X1_add l D cI cJ a hd S x1 1 ) (cwV 2 hts gX1_addSingle_X1_add rfl rfl rfl eeX1_add ⟨Nat.le_of_ble_eq_true rfl, Nat.le_of_ble_eq_true rfl⟩) hK hN hP hI (va_recv hK hP (ci := 1) (q0 := 1) rfl rfl) hS rfl hl.1 rfl (Nat.le_of_ble_eq_true rfl) dX1_addSingle_3 ⟨Nat.zero_le _, Nat.zero_le _⟩ (fun H locs hI hP hS => ?_)
  refine lv_istore (lv' := [(4, .int ((f_X1_add S x1 1).1)), (0, .ref (a 1)), (1, .int x1), (2, .long x2)]) hx hb dX1_addSingle_6 hl (by decide) rfl (fun ls hl => ?_)
  refine lv_aload_n hx hb dX1_addSingle_8 rfl (lv_at hl 1 rfl) ?_
  refine lv_iload hx hb dX1_addSingle_9 (lv_at hl 0 rfl) ?_
  refine lv_iconst (v := 0) hx hb dX1_addSingle_11 (by decide) ?_
  refine lv_lload_n hx hb dX1_addSingle_12 rfl (lv_at hl 3 rfl) ?_
  refine g_Wv (As := [.int ((f_X1_add S x1 1).1), .int 0, .long x2]) (rest := []) ⟨hx, hb, hml, hown, hts⟩ (c_X1_put l D cI cJ a hd ((f_X1_add S x1 1).2) ((f_X1_add S x1 1).1) 0 x2 ) (cwV 3 hts gX1_addSingle_X1_put rfl rfl rfl eeX1_put ⟨Nat.le_of_ble_eq_true rfl, Nat.le_of_ble_eq_true rfl⟩) hK hN hP hI (va_recv hK hP (ci := 1) (q0 := 1) rfl rfl) hS rfl hl.1 rfl (Nat.le_of_ble_eq_true rfl) dX1_addSingle_13 ⟨Nat.zero_le _, Nat.zero_le _⟩ (fun H locs hI hP hS => ?_)
  refine lv_iload hx hb dX1_addSingle_16 (lv_at hl 0 rfl) ?_
  exact r_Wi hx hb hr hlocks hP hI hS (by simp only [f_X1_addSingle]) dX1_addSingle_18
theorem lengthOf_le {S : KS} {x : Int32} (hI : KInv S) : 0 ≤ (f_X1_lengthOf S x).toInt ∧ (f_X1_lengthOf S x).toInt ≤ 8 := by
  unfold f_X1_lengthOf
  by_cases h : f_X1_has S x = 0
  · rw [if_pos h]; decide
  · rw [if_neg h]; exact hI.2.1 _
abbrev rmX1_copyCells : Room := { frames := 2, cells := 0, slots := 0, locals := 46 }
theorem eeX1_copyCells : yX1_copyCells.cls = RX1 ∧ yX1_copyCells.cls ≠ "java/lang/invoke/MethodHandle" ∧ yX1_copyCells.cls ≠ "java/lang/invoke/VarHandle" ∧ (parseMethodDescriptor yX1_copyCells.desc).map (fun d => d.parameters.length) = some 3 := by decide +kernel
def f_X1_copyCells_c10 : Nat → KS → Int32 → Int32 → Int32 → Int32 → Nat → KS
  | 0, S, _, _, _, _, _ => S
  | n + 1, S, x1, x2, x3, x4, j => if x4 ≤ (nI j) then (S) else (f_X1_copyCells_c10 n (f_X1_put S x2 (x3 + (nI j)) (f_X1_cellOf S x1 (nI j))) x1 x2 x3 x4 (j + 1))
set_option maxHeartbeats 4000000 in
set_option maxRecDepth 100000 in
theorem w_X1_copyCells_c10 {l : Launch} {D : va_G} {cI cJ : ClassId} {a : Nat → Nat} (hd : ∀ i j, i < 11 → j < 11 → a i = a j → i = j) {p : Program} {e : Env} {s : State} {m : MethodId} {args : Array Value} {below : List Frame} {meth : Method} {c : Code} (C : GC p s m meth c cX1_copyCells none 6 RX1 wsX1_copyCells args D (cw_tys cI cJ)) {v : KS} : ∀ (n : Nat) (S : KS) (x1 : Int32) (x2 : Int32) (x3 : Int32) (x4 : Int32) (j : Nat) (hx4 : x4.toInt ≤ 8) (hj : j ≤ 8) (hn : j + n = 9) (H : Heap) (locs : List Loc) (ls : Array Slot), va_P D vwCl (cw cI cJ a S) H → KInv S → va_S (kA a) s.heap H locs → lv_has ls 6 [(0, .ref (a 1)), (1, .int x1), (2, .int x2), (3, .int x3), (4, .int x4), (5, .int (nI j))] → v = f_X1_copyCells_c10 n S x1 x2 x3 x4 j → W p l e rmX1_copyCells s m args below meth c H locs 0 0 (MQ below (va_Qv (fun u => v = u) (GE D (cw cI cJ a) KInv) (kA a)) args s 0 0 (kA a)) (F0 m 10 ls []) := by
  obtain ⟨hx, hb, hr, hlocks, hml, hown, hts, hK, hN⟩ := id C
  intro n
  induction n with
  | zero =>
    intro S x1 x2 x3 x4 j hx4 hj hn H locs ls hP hI hS hl hq
    exact absurd hn (by omega)
  | succ n ih =>
    intro S x1 x2 x3 x4 j hx4 hj hn H locs ls hP hI hS hl hq
    refine lv_iload hx hb dX1_copyCells_10 (lv_at hl 5 rfl) ?_
    refine lv_iload hx hb dX1_copyCells_12 (lv_at hl 4 rfl) ?_
    refine lv_icmp_ge (tgt := 39) hx hb dX1_copyCells_14 (by decide) (fun c_14 => ?_) (fun c_14 => ?_)
    · skip
      exact r_Wv hx hb hr hlocks hP hI hS (hq.trans (by simp only [f_X1_copyCells_c10, if_pos c_14])) dX1_copyCells_39
    · skip
      refine lv_aload_n hx hb dX1_copyCells_17 rfl (lv_at hl 0 rfl) ?_
      refine lv_iload_n hx hb dX1_copyCells_18 rfl (lv_at hl 2 rfl) ?_
      refine lv_iload_n hx hb dX1_copyCells_19 rfl (lv_at hl 3 rfl) ?_
      refine lv_iload hx hb dX1_copyCells_20 (lv_at hl 5 rfl) ?_
      refine lv_iadd hx hb dX1_copyCells_22 ?_
      refine lv_aload_n hx hb dX1_copyCells_23 rfl (lv_at hl 0 rfl) ?_
      refine lv_iload_n hx hb dX1_copyCells_24 rfl (lv_at hl 1 rfl) ?_
      refine lv_iload hx hb dX1_copyCells_25 (lv_at hl 5 rfl) ?_
      refine g_Rl (As := [.int x1, .int (nI j)]) (rest := [.int (x3 + (nI j)), .int x2, .ref (a 1)]) ⟨hx, hb, hml, hown, hts⟩ (c_X1_cellOf l D cI cJ a hd S x1 (nI j) ) (cwV 2 hts gX1_copyCells_X1_cellOf rfl rfl rfl eeX1_cellOf ⟨Nat.le_of_ble_eq_true rfl, Nat.le_of_ble_eq_true rfl⟩) hK hN hP hI (va_recv hK hP (ci := 1) (q0 := 1) rfl rfl) hS rfl hl.1 rfl (Nat.le_of_ble_eq_true rfl) dX1_copyCells_27 ⟨Nat.zero_le _, Nat.zero_le _⟩ (fun H locs hP hS => ?_)
      refine g_Wv (As := [.int x2, .int (x3 + (nI j)), .long (f_X1_cellOf S x1 (nI j))]) (rest := []) ⟨hx, hb, hml, hown, hts⟩ (c_X1_put l D cI cJ a hd S x2 (x3 + (nI j)) (f_X1_cellOf S x1 (nI j)) ) (cwV 3 hts gX1_copyCells_X1_put rfl rfl rfl eeX1_put ⟨Nat.le_of_ble_eq_true rfl, Nat.le_of_ble_eq_true rfl⟩) hK hN hP hI (va_recv hK hP (ci := 1) (q0 := 1) rfl rfl) hS rfl hl.1 rfl (Nat.le_of_ble_eq_true rfl) dX1_copyCells_30 ⟨Nat.zero_le _, Nat.zero_le _⟩ (fun H locs hI hP hS => ?_)
      refine lv_iinc (v := nI (j + 1)) (lv' := [(5, .int (nI (j + 1))), (0, .ref (a 1)), (1, .int x1), (2, .int x2), (3, .int x3), (4, .int x4)]) hx hb dX1_copyCells_33 hl (k := 5) rfl (nI_1 _) (by decide) rfl (fun ls hl => ?_)
      refine lv_goto (tgt := 10) hx hb dX1_copyCells_36 (by decide) ?_
      exact ih (f_X1_put S x2 (x3 + (nI j)) (f_X1_cellOf S x1 (nI j))) x1 x2 x3 x4 (j + 1) hx4 (jl8 c_14 hx4 hj) (by omega) _ _ _ hP hI hS (lv_sub hl [1, 2, 3, 4, 5, 0] rfl) (hq.trans (by simp only [f_X1_copyCells_c10, if_neg c_14]))
def f_X1_copyCells (S : KS) (x1 : Int32) (x2 : Int32) (x3 : Int32) : KS := f_X1_copyCells_c10 9 S x1 x2 x3 (f_X1_lengthOf S x1) 0
set_option maxHeartbeats 4000000 in
set_option maxRecDepth 100000 in
theorem c_X1_copyCells (l : Launch) (D : va_G) (cI cJ : ClassId) (a : Nat → Nat) (hd : ∀ i j, i < 11 → j < 11 → a i = a j → i = j) (S : KS) (x1 : Int32) (x2 : Int32) (x3 : Int32) : GWv l yX1_copyCells wsX1_copyCells rmX1_copyCells [.ref (a 1), .int x1, .int x2, .int x3] D (cw_tys cI cJ) (cw cI cJ a) KInv (kA a) S (f_X1_copyCells S x1 x2 x3) := by
  refine GB_of (cc := cX1_copyCells) (maxL := 6) (ret := none) (by decide) rfl (Nat.le_of_ble_eq_true rfl) ?_
  intro p e s m below meth c C hP hI ls hl
  obtain ⟨hx, hb, hr, hlocks, hml, hown, hts, hK, hN⟩ := id C
  have hS : va_S (kA a) s.heap s.heap [] := va_S.rf
  have hl : lv_has ls 6 [(0, .ref (a 1)), (1, .int x1), (2, .int x2), (3, .int x3)] := hl
  refine lv_aload_n hx hb dX1_copyCells_0 rfl (lv_at hl 0 rfl) ?_
  refine lv_iload_n hx hb dX1_copyCells_1 rfl (lv_at hl 1 rfl) ?_
  refine g_Ri (As := [.int x1]) (rest := []) ⟨hx, hb, hml, hown, hts⟩ (c_X1_lengthOf l D cI cJ a hd S x1 ) (cwV 1 hts gX1_copyCells_X1_lengthOf rfl rfl rfl eeX1_lengthOf ⟨Nat.le_of_ble_eq_true rfl, Nat.le_of_ble_eq_true rfl⟩) hK hN hP hI (va_recv hK hP (ci := 1) (q0 := 1) rfl rfl) hS rfl hl.1 rfl (Nat.le_of_ble_eq_true rfl) dX1_copyCells_2 ⟨Nat.zero_le _, Nat.zero_le _⟩ (fun H locs hP hS => ?_)
  refine lv_istore (lv' := [(4, .int (f_X1_lengthOf S x1)), (0, .ref (a 1)), (1, .int x1), (2, .int x2), (3, .int x3)]) hx hb dX1_copyCells_5 hl (by decide) rfl (fun ls hl => ?_)
  refine lv_iconst (v := 0) hx hb dX1_copyCells_7 (by decide) ?_
  refine lv_istore (lv' := [(5, .int 0), (4, .int (f_X1_lengthOf S x1)), (0, .ref (a 1)), (1, .int x1), (2, .int x2), (3, .int x3)]) hx hb dX1_copyCells_8 hl (by decide) rfl (fun ls hl => ?_)
  exact w_X1_copyCells_c10 hd C 9 S x1 x2 x3 (f_X1_lengthOf S x1) 0 ((lengthOf_le hI).2) (Nat.zero_le _) rfl _ _ _ hP hI hS (lv_sub hl [2, 3, 4, 5, 1, 0] rfl) (by simp only [f_X1_copyCells])
abbrev rmX1_addCopy : Room := { frames := 3, cells := 0, slots := 0, locals := 71 }
theorem eeX1_addCopy : yX1_addCopy.cls = RX1 ∧ yX1_addCopy.cls ≠ "java/lang/invoke/MethodHandle" ∧ yX1_addCopy.cls ≠ "java/lang/invoke/VarHandle" ∧ (parseMethodDescriptor yX1_addCopy.desc).map (fun d => d.parameters.length) = some 2 := by decide +kernel
def f_X1_addCopy (S : KS) (x1 : Int32) (x2 : Int32) : Int32 × KS := ((f_X1_add S x2 (f_X1_lengthOf S x1)).1, f_X1_copyCells ((f_X1_add S x2 (f_X1_lengthOf S x1)).2) x1 ((f_X1_add S x2 (f_X1_lengthOf S x1)).1) 0)
set_option maxHeartbeats 4000000 in
set_option maxRecDepth 100000 in
theorem c_X1_addCopy (l : Launch) (D : va_G) (cI cJ : ClassId) (a : Nat → Nat) (hd : ∀ i j, i < 11 → j < 11 → a i = a j → i = j) (S : KS) (x1 : Int32) (x2 : Int32) : GWi l yX1_addCopy wsX1_addCopy rmX1_addCopy [.ref (a 1), .int x1, .int x2] D (cw_tys cI cJ) (cw cI cJ a) KInv (kA a) S (f_X1_addCopy S x1 x2) := by
  refine GB_of (cc := cX1_addCopy) (maxL := 4) (ret := (some .int)) (by decide) rfl (Nat.le_of_ble_eq_true rfl) ?_
  intro p e s m below meth c C hP hI ls hl
  obtain ⟨hx, hb, hr, hlocks, hml, hown, hts, hK, hN⟩ := id C
  have hS : va_S (kA a) s.heap s.heap [] := va_S.rf
  have hl : lv_has ls 4 [(0, .ref (a 1)), (1, .int x1), (2, .int x2)] := hl
  refine lv_aload_n hx hb dX1_addCopy_0 rfl (lv_at hl 0 rfl) ?_
  refine lv_iload_n hx hb dX1_addCopy_1 rfl (lv_at hl 2 rfl) ?_
  refine lv_aload_n hx hb dX1_addCopy_2 rfl (lv_at hl 0 rfl) ?_
  refine lv_iload_n hx hb dX1_addCopy_3 rfl (lv_at hl 1 rfl) ?_
  refine g_Ri (As := [.int x1]) (rest := [.int x2, .ref (a 1)]) ⟨hx, hb, hml, hown, hts⟩ (c_X1_lengthOf l D cI cJ a hd S x1 ) (cwV 1 hts gX1_addCopy_X1_lengthOf rfl rfl rfl eeX1_lengthOf ⟨Nat.le_of_ble_eq_true rfl, Nat.le_of_ble_eq_true rfl⟩) hK hN hP hI (va_recv hK hP (ci := 1) (q0 := 1) rfl rfl) hS rfl hl.1 rfl (Nat.le_of_ble_eq_true rfl) dX1_addCopy_4 ⟨Nat.zero_le _, Nat.zero_le _⟩ (fun H locs hP hS => ?_)
  refine g_Wi (As := [.int x2, .int (f_X1_lengthOf S x1)]) (rest := []) ⟨hx, hb, hml, hown, hts⟩ (c_X1_add l D cI cJ a hd S x2 (f_X1_lengthOf S x1) ) (cwV 2 hts gX1_addCopy_X1_add rfl rfl rfl eeX1_add ⟨Nat.le_of_ble_eq_true rfl, Nat.le_of_ble_eq_true rfl⟩) hK hN hP hI (va_recv hK hP (ci := 1) (q0 := 1) rfl rfl) hS rfl hl.1 rfl (Nat.le_of_ble_eq_true rfl) dX1_addCopy_7 ⟨Nat.zero_le _, Nat.zero_le _⟩ (fun H locs hI hP hS => ?_)
  refine lv_istore_n (lv' := [(3, .int ((f_X1_add S x2 (f_X1_lengthOf S x1)).1)), (0, .ref (a 1)), (1, .int x1), (2, .int x2)]) hx hb dX1_addCopy_10 rfl hl (by decide) rfl (fun ls hl => ?_)
  refine lv_aload_n hx hb dX1_addCopy_11 rfl (lv_at hl 1 rfl) ?_
  refine lv_iload_n hx hb dX1_addCopy_12 rfl (lv_at hl 2 rfl) ?_
  refine lv_iload_n hx hb dX1_addCopy_13 rfl (lv_at hl 0 rfl) ?_
  refine lv_iconst (v := 0) hx hb dX1_addCopy_14 (by decide) ?_
  refine g_Wv (As := [.int x1, .int ((f_X1_add S x2 (f_X1_lengthOf S x1)).1), .int 0]) (rest := []) ⟨hx, hb, hml, hown, hts⟩ (c_X1_copyCells l D cI cJ a hd ((f_X1_add S x2 (f_X1_lengthOf S x1)).2) x1 ((f_X1_add S x2 (f_X1_lengthOf S x1)).1) 0 ) (cwV 3 hts gX1_addCopy_X1_copyCells rfl rfl rfl eeX1_copyCells ⟨Nat.le_of_ble_eq_true rfl, Nat.le_of_ble_eq_true rfl⟩) hK hN hP hI (va_recv hK hP (ci := 1) (q0 := 1) rfl rfl) hS rfl hl.1 rfl (Nat.le_of_ble_eq_true rfl) dX1_addCopy_15 ⟨Nat.zero_le _, Nat.zero_le _⟩ (fun H locs hI hP hS => ?_)
  refine lv_iload_n hx hb dX1_addCopy_18 rfl (lv_at hl 0 rfl) ?_
  exact r_Wi hx hb hr hlocks hP hI hS (by simp only [f_X1_addCopy]) dX1_addCopy_19
abbrev rmX1_forgetAll : Room := { frames := 0, cells := 0, slots := 0, locals := 0 }
theorem eeX1_forgetAll : yX1_forgetAll.cls = RX1 ∧ yX1_forgetAll.cls ≠ "java/lang/invoke/MethodHandle" ∧ yX1_forgetAll.cls ≠ "java/lang/invoke/VarHandle" ∧ (parseMethodDescriptor yX1_forgetAll.desc).map (fun d => d.parameters.length) = some 0 := by decide +kernel
theorem iwX1_forgetAll : ∀ w ∈ u_ws RX1 TX1 5, w ∈ wsX1_forgetAll := by decide +kernel
theorem flX1_forgetAll_25 : Cond.fieldLink RX1 25 "LoomPanel$Values" "made" "I" ∈ wsX1_forgetAll := by decide +kernel
def f_X1_forgetAll (S : KS)  : Int32 × KS := (S.made, S.set_made 0)
set_option maxHeartbeats 4000000 in
set_option maxRecDepth 100000 in
theorem c_X1_forgetAll (l : Launch) (D : va_G) (cI cJ : ClassId) (a : Nat → Nat) (hd : ∀ i j, i < 11 → j < 11 → a i = a j → i = j) (S : KS)  : GWi l yX1_forgetAll wsX1_forgetAll rmX1_forgetAll [.ref (a 1)] D (cw_tys cI cJ) (cw cI cJ a) KInv (kA a) S (f_X1_forgetAll S ) := by
  refine GB_of (cc := cX1_forgetAll) (maxL := 2) (ret := (some .int)) (by decide) rfl (Nat.le_of_ble_eq_true rfl) ?_
  intro p e s m below meth c C hP hI ls hl
  obtain ⟨hx, hb, hr, hlocks, hml, hown, hts, hK, hN⟩ := id C
  have hS : va_S (kA a) s.heap s.heap [] := va_S.rf
  have hl : lv_has ls 2 [(0, .ref (a 1))] := hl
  refine lv_aload_n hx hb dX1_forgetAll_0 rfl (lv_at hl 0 rfl) ?_
  refine va_get (D := D) (ci := 1) (v := .int S.made) (C := RX1) (T := TX1) (N := 5) hx hb hts iwX1_forgetAll hown hK hP 1 rfl rfl 4 (by decide) (hts (.fieldLink RX1 25 "LoomPanel$Values" "made" "I") flX1_forgetAll_25) (fun _ h9 => h9) rfl dX1_forgetAll_1 ?_
  refine lv_istore_n (lv' := [(1, .int S.made), (0, .ref (a 1))]) hx hb dX1_forgetAll_4 rfl hl (by decide) rfl (fun ls hl => ?_)
  refine lv_aload_n hx hb dX1_forgetAll_5 rfl (lv_at hl 1 rfl) ?_
  refine lv_iconst (v := 0) hx hb dX1_forgetAll_6 (by decide) ?_
  refine va_put (D := D) (ci := 1) (v := .int 0) (ty := .int) (C := RX1) (T := TX1) (N := 5) hx hb hts iwX1_forgetAll tyX1 tyX1_ok nmX1 hown hK hP (cw_D hd) hS 1 rfl rfl 4 (by decide) (hts (.fieldLink RX1 25 "LoomPanel$Values" "made" "I") flX1_forgetAll_25) (fun _ h9 => h9) rfl (by decide +kernel) rfl rfl (Nat.le_of_ble_eq_true rfl) dX1_forgetAll_7 (fun H locs hP _ hS => ?_)
  have hP : va_P D vwCl (cw cI cJ a (S.set_made 0)) H := by rw [← cw_set_made]; exact hP
  have hI : KInv (S.set_made 0) := made_set hI (by decide) (by decide)
  refine lv_iload_n hx hb dX1_forgetAll_10 rfl (lv_at hl 0 rfl) ?_
  exact r_Wi hx hb hr hlocks hP hI hS (by simp only [f_X1_forgetAll]) dX1_forgetAll_11
end
