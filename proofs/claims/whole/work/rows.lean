section
-- ===== PART A: goes FIRST, ahead of the names: the tables' words, and 'selects' of the private methods out of them =====
/-- a private method of a class that the tables say can be made, by its rows of tables_1 -/
def lw_okq (q : MethodName × Nat) : Prop := (q.1.cls ≠ "java/lang/invoke/MethodHandle" ∧ q.1.cls ≠ "java/lang/invoke/VarHandle") ∧ Cond.instantiable q.1.cls q.2 ∈ tables_1 ∧ Cond.privateMethod q.1 ∈ tables_1 ∧ Cond.instanceMethod q.1 ∈ tables_1
theorem lw_p0 : lw_okq (⟨"CaravanZones", "settle", "(I)I"⟩, 6) := ⟨⟨by decide +kernel, by decide +kernel⟩, List.mem_of_getElem? (i := 13) (by decide +kernel), List.mem_of_getElem? (i := 311) (by decide +kernel), List.mem_of_getElem? (i := 312) (by decide +kernel)⟩
theorem lw_p1 : lw_okq (⟨"CaravanZones$History", "stateAt", "(I)LCaravanZones$World;"⟩, 3) := ⟨⟨by decide +kernel, by decide +kernel⟩, List.mem_of_getElem? (i := 206) (by decide +kernel), List.mem_of_getElem? (i := 322) (by decide +kernel), List.mem_of_getElem? (i := 323) (by decide +kernel)⟩
theorem lw_p2 : lw_okq (⟨"CaravanZones$Road", "setIn", "(LCaravanZones$Row;)I"⟩, 11) := ⟨⟨by decide +kernel, by decide +kernel⟩, List.mem_of_getElem? (i := 27) (by decide +kernel), List.mem_of_getElem? (i := 361) (by decide +kernel), List.mem_of_getElem? (i := 362) (by decide +kernel)⟩
theorem lw_p3 : lw_okq (⟨"CaravanZones$World", "changeBag", "(I)I"⟩, 3) := ⟨⟨by decide +kernel, by decide +kernel⟩, List.mem_of_getElem? (i := 21) (by decide +kernel), List.mem_of_getElem? (i := 374) (by decide +kernel), List.mem_of_getElem? (i := 375) (by decide +kernel)⟩
theorem lw_p4 : lw_okq (⟨"CaravanZones$World", "changeSkin", "(I)I"⟩, 3) := ⟨⟨by decide +kernel, by decide +kernel⟩, List.mem_of_getElem? (i := 21) (by decide +kernel), List.mem_of_getElem? (i := 378) (by decide +kernel), List.mem_of_getElem? (i := 379) (by decide +kernel)⟩
theorem lw_p5 : lw_okq (⟨"CaravanZones$World", "changeBound", "(I)I"⟩, 3) := ⟨⟨by decide +kernel, by decide +kernel⟩, List.mem_of_getElem? (i := 21) (by decide +kernel), List.mem_of_getElem? (i := 387) (by decide +kernel), List.mem_of_getElem? (i := 388) (by decide +kernel)⟩
theorem lw_p6 : lw_okq (⟨"CaravanZones$World", "stepAhead", "()Z"⟩, 3) := ⟨⟨by decide +kernel, by decide +kernel⟩, List.mem_of_getElem? (i := 21) (by decide +kernel), List.mem_of_getElem? (i := 399) (by decide +kernel), List.mem_of_getElem? (i := 400) (by decide +kernel)⟩
theorem lw_p7 : lw_okq (⟨"CaravanZones$World", "writeHere", "(I)I"⟩, 3) := ⟨⟨by decide +kernel, by decide +kernel⟩, List.mem_of_getElem? (i := 21) (by decide +kernel), List.mem_of_getElem? (i := 443) (by decide +kernel), List.mem_of_getElem? (i := 444) (by decide +kernel)⟩
theorem lw_p8 : lw_okq (⟨"CaravanZones$World", "liesInZone", "(II)Z"⟩, 3) := ⟨⟨by decide +kernel, by decide +kernel⟩, List.mem_of_getElem? (i := 21) (by decide +kernel), List.mem_of_getElem? (i := 474) (by decide +kernel), List.mem_of_getElem? (i := 475) (by decide +kernel)⟩
theorem lw_p9 : lw_okq (⟨"CaravanZones$World", "packUp", "(I)V"⟩, 3) := ⟨⟨by decide +kernel, by decide +kernel⟩, List.mem_of_getElem? (i := 21) (by decide +kernel), List.mem_of_getElem? (i := 482) (by decide +kernel), List.mem_of_getElem? (i := 483) (by decide +kernel)⟩
theorem lw_p10 : lw_okq (⟨"CaravanZones$World", "packAllOf", "(I)V"⟩, 3) := ⟨⟨by decide +kernel, by decide +kernel⟩, List.mem_of_getElem? (i := 21) (by decide +kernel), List.mem_of_getElem? (i := 558) (by decide +kernel), List.mem_of_getElem? (i := 559) (by decide +kernel)⟩
theorem lw_p11 : lw_okq (⟨"CaravanZones$World", "unpackFrom", "(I)Z"⟩, 3) := ⟨⟨by decide +kernel, by decide +kernel⟩, List.mem_of_getElem? (i := 21) (by decide +kernel), List.mem_of_getElem? (i := 562) (by decide +kernel), List.mem_of_getElem? (i := 563) (by decide +kernel)⟩
theorem lw_p12 : lw_okq (⟨"CaravanZones$Orders", "readSign", "(II)I"⟩, 5) := ⟨⟨by decide +kernel, by decide +kernel⟩, List.mem_of_getElem? (i := 225) (by decide +kernel), List.mem_of_getElem? (i := 609) (by decide +kernel), List.mem_of_getElem? (i := 610) (by decide +kernel)⟩
theorem lw_p13 : lw_okq (⟨"CaravanZones$Orders", "readLetter", "(I)I"⟩, 5) := ⟨⟨by decide +kernel, by decide +kernel⟩, List.mem_of_getElem? (i := 225) (by decide +kernel), List.mem_of_getElem? (i := 613) (by decide +kernel), List.mem_of_getElem? (i := 614) (by decide +kernel)⟩
theorem lw_p14 : lw_okq (⟨"CaravanZones$Orders", "readDigit", "(I)I"⟩, 5) := ⟨⟨by decide +kernel, by decide +kernel⟩, List.mem_of_getElem? (i := 225) (by decide +kernel), List.mem_of_getElem? (i := 620) (by decide +kernel), List.mem_of_getElem? (i := 621) (by decide +kernel)⟩
theorem lw_p15 : lw_okq (⟨"CaravanZones", "doOrder", "(II)I"⟩, 6) := ⟨⟨by decide +kernel, by decide +kernel⟩, List.mem_of_getElem? (i := 13) (by decide +kernel), List.mem_of_getElem? (i := 636) (by decide +kernel), List.mem_of_getElem? (i := 637) (by decide +kernel)⟩
def lw_privs_1 : List (MethodName × Nat) := [(⟨"CaravanZones", "settle", "(I)I"⟩, 6), (⟨"CaravanZones$History", "stateAt", "(I)LCaravanZones$World;"⟩, 3), (⟨"CaravanZones$Road", "setIn", "(LCaravanZones$Row;)I"⟩, 11), (⟨"CaravanZones$World", "changeBag", "(I)I"⟩, 3), (⟨"CaravanZones$World", "changeSkin", "(I)I"⟩, 3), (⟨"CaravanZones$World", "changeBound", "(I)I"⟩, 3), (⟨"CaravanZones$World", "stepAhead", "()Z"⟩, 3), (⟨"CaravanZones$World", "writeHere", "(I)I"⟩, 3), (⟨"CaravanZones$World", "liesInZone", "(II)Z"⟩, 3), (⟨"CaravanZones$World", "packUp", "(I)V"⟩, 3), (⟨"CaravanZones$World", "packAllOf", "(I)V"⟩, 3), (⟨"CaravanZones$World", "unpackFrom", "(I)Z"⟩, 3), (⟨"CaravanZones$Orders", "readSign", "(II)I"⟩, 5), (⟨"CaravanZones$Orders", "readLetter", "(I)I"⟩, 5), (⟨"CaravanZones$Orders", "readDigit", "(I)I"⟩, 5), (⟨"CaravanZones", "doOrder", "(II)I"⟩, 6)]
theorem lw_r1 : ∀ q ∈ lw_privs_1, lw_okq q := List.forall_mem_cons.mpr ⟨lw_p0, List.forall_mem_cons.mpr ⟨lw_p1, List.forall_mem_cons.mpr ⟨lw_p2, List.forall_mem_cons.mpr ⟨lw_p3, List.forall_mem_cons.mpr ⟨lw_p4, List.forall_mem_cons.mpr ⟨lw_p5, List.forall_mem_cons.mpr ⟨lw_p6, List.forall_mem_cons.mpr ⟨lw_p7, List.forall_mem_cons.mpr ⟨lw_p8, List.forall_mem_cons.mpr ⟨lw_p9, List.forall_mem_cons.mpr ⟨lw_p10, List.forall_mem_cons.mpr ⟨lw_p11, List.forall_mem_cons.mpr ⟨lw_p12, List.forall_mem_cons.mpr ⟨lw_p13, List.forall_mem_cons.mpr ⟨lw_p14, List.forall_mem_cons.mpr ⟨lw_p15, fun _ h => absurd h List.not_mem_nil⟩⟩⟩⟩⟩⟩⟩⟩⟩⟩⟩⟩⟩⟩⟩⟩
theorem lw_p16 : lw_okq (⟨"CaravanZonesModel", "layAnew", "(II)V"⟩, 13) := ⟨⟨by decide +kernel, by decide +kernel⟩, List.mem_of_getElem? (i := 776) (by decide +kernel), List.mem_of_getElem? (i := 782) (by decide +kernel), List.mem_of_getElem? (i := 783) (by decide +kernel)⟩
theorem lw_p17 : lw_okq (⟨"CaravanZonesModel", "aside", "()V"⟩, 13) := ⟨⟨by decide +kernel, by decide +kernel⟩, List.mem_of_getElem? (i := 776) (by decide +kernel), List.mem_of_getElem? (i := 831) (by decide +kernel), List.mem_of_getElem? (i := 832) (by decide +kernel)⟩
theorem lw_p18 : lw_okq (⟨"CaravanZonesModel", "ofLoad", "(II)I"⟩, 13) := ⟨⟨by decide +kernel, by decide +kernel⟩, List.mem_of_getElem? (i := 776) (by decide +kernel), List.mem_of_getElem? (i := 838) (by decide +kernel), List.mem_of_getElem? (i := 839) (by decide +kernel)⟩
theorem lw_p19 : lw_okq (⟨"CaravanZonesModel", "acted", "(I)I"⟩, 13) := ⟨⟨by decide +kernel, by decide +kernel⟩, List.mem_of_getElem? (i := 776) (by decide +kernel), List.mem_of_getElem? (i := 842) (by decide +kernel), List.mem_of_getElem? (i := 843) (by decide +kernel)⟩
theorem lw_p20 : lw_okq (⟨"CaravanZonesModel", "isZone", "(I)Z"⟩, 13) := ⟨⟨by decide +kernel, by decide +kernel⟩, List.mem_of_getElem? (i := 776) (by decide +kernel), List.mem_of_getElem? (i := 850) (by decide +kernel), List.mem_of_getElem? (i := 851) (by decide +kernel)⟩
theorem lw_p21 : lw_okq (⟨"CaravanZonesModel", "ofZone", "(II)I"⟩, 13) := ⟨⟨by decide +kernel, by decide +kernel⟩, List.mem_of_getElem? (i := 776) (by decide +kernel), List.mem_of_getElem? (i := 854) (by decide +kernel), List.mem_of_getElem? (i := 855) (by decide +kernel)⟩
theorem lw_p22 : lw_okq (⟨"CaravanZonesModel", "zoneIs", "(III)V"⟩, 13) := ⟨⟨by decide +kernel, by decide +kernel⟩, List.mem_of_getElem? (i := 776) (by decide +kernel), List.mem_of_getElem? (i := 858) (by decide +kernel), List.mem_of_getElem? (i := 859) (by decide +kernel)⟩
theorem lw_p23 : lw_okq (⟨"CaravanZonesModel", "drinkHere", "()V"⟩, 13) := ⟨⟨by decide +kernel, by decide +kernel⟩, List.mem_of_getElem? (i := 776) (by decide +kernel), List.mem_of_getElem? (i := 866) (by decide +kernel), List.mem_of_getElem? (i := 867) (by decide +kernel)⟩
theorem lw_p24 : lw_okq (⟨"CaravanZonesModel", "wells", "()I"⟩, 13) := ⟨⟨by decide +kernel, by decide +kernel⟩, List.mem_of_getElem? (i := 776) (by decide +kernel), List.mem_of_getElem? (i := 870) (by decide +kernel), List.mem_of_getElem? (i := 871) (by decide +kernel)⟩
theorem lw_p25 : lw_okq (⟨"CaravanZonesModel", "goes", "(I)I"⟩, 13) := ⟨⟨by decide +kernel, by decide +kernel⟩, List.mem_of_getElem? (i := 776) (by decide +kernel), List.mem_of_getElem? (i := 882) (by decide +kernel), List.mem_of_getElem? (i := 883) (by decide +kernel)⟩
theorem lw_p26 : lw_okq (⟨"CaravanZonesModel", "goesOn", "()Z"⟩, 13) := ⟨⟨by decide +kernel, by decide +kernel⟩, List.mem_of_getElem? (i := 776) (by decide +kernel), List.mem_of_getElem? (i := 886) (by decide +kernel), List.mem_of_getElem? (i := 887) (by decide +kernel)⟩
theorem lw_p27 : lw_okq (⟨"CaravanZonesModel", "uses", "(I)Z"⟩, 13) := ⟨⟨by decide +kernel, by decide +kernel⟩, List.mem_of_getElem? (i := 776) (by decide +kernel), List.mem_of_getElem? (i := 890) (by decide +kernel), List.mem_of_getElem? (i := 891) (by decide +kernel)⟩
theorem lw_p28 : lw_okq (⟨"CaravanZonesModel", "writes", "(I)I"⟩, 13) := ⟨⟨by decide +kernel, by decide +kernel⟩, List.mem_of_getElem? (i := 776) (by decide +kernel), List.mem_of_getElem? (i := 898) (by decide +kernel), List.mem_of_getElem? (i := 899) (by decide +kernel)⟩
theorem lw_p29 : lw_okq (⟨"CaravanZonesModel", "mayBe", "(II)Z"⟩, 13) := ⟨⟨by decide +kernel, by decide +kernel⟩, List.mem_of_getElem? (i := 776) (by decide +kernel), List.mem_of_getElem? (i := 905) (by decide +kernel), List.mem_of_getElem? (i := 906) (by decide +kernel)⟩
theorem lw_p30 : lw_okq (⟨"CaravanZonesModel", "loadIs", "(III)V"⟩, 13) := ⟨⟨by decide +kernel, by decide +kernel⟩, List.mem_of_getElem? (i := 776) (by decide +kernel), List.mem_of_getElem? (i := 909) (by decide +kernel), List.mem_of_getElem? (i := 910) (by decide +kernel)⟩
theorem lw_p31 : lw_okq (⟨"CaravanZonesModel", "comes", "(I)I"⟩, 13) := ⟨⟨by decide +kernel, by decide +kernel⟩, List.mem_of_getElem? (i := 776) (by decide +kernel), List.mem_of_getElem? (i := 913) (by decide +kernel), List.mem_of_getElem? (i := 914) (by decide +kernel)⟩
def lw_privs_2 : List (MethodName × Nat) := [(⟨"CaravanZonesModel", "layAnew", "(II)V"⟩, 13), (⟨"CaravanZonesModel", "aside", "()V"⟩, 13), (⟨"CaravanZonesModel", "ofLoad", "(II)I"⟩, 13), (⟨"CaravanZonesModel", "acted", "(I)I"⟩, 13), (⟨"CaravanZonesModel", "isZone", "(I)Z"⟩, 13), (⟨"CaravanZonesModel", "ofZone", "(II)I"⟩, 13), (⟨"CaravanZonesModel", "zoneIs", "(III)V"⟩, 13), (⟨"CaravanZonesModel", "drinkHere", "()V"⟩, 13), (⟨"CaravanZonesModel", "wells", "()I"⟩, 13), (⟨"CaravanZonesModel", "goes", "(I)I"⟩, 13), (⟨"CaravanZonesModel", "goesOn", "()Z"⟩, 13), (⟨"CaravanZonesModel", "uses", "(I)Z"⟩, 13), (⟨"CaravanZonesModel", "writes", "(I)I"⟩, 13), (⟨"CaravanZonesModel", "mayBe", "(II)Z"⟩, 13), (⟨"CaravanZonesModel", "loadIs", "(III)V"⟩, 13), (⟨"CaravanZonesModel", "comes", "(I)I"⟩, 13)]
theorem lw_r2 : ∀ q ∈ lw_privs_2, lw_okq q := List.forall_mem_cons.mpr ⟨lw_p16, List.forall_mem_cons.mpr ⟨lw_p17, List.forall_mem_cons.mpr ⟨lw_p18, List.forall_mem_cons.mpr ⟨lw_p19, List.forall_mem_cons.mpr ⟨lw_p20, List.forall_mem_cons.mpr ⟨lw_p21, List.forall_mem_cons.mpr ⟨lw_p22, List.forall_mem_cons.mpr ⟨lw_p23, List.forall_mem_cons.mpr ⟨lw_p24, List.forall_mem_cons.mpr ⟨lw_p25, List.forall_mem_cons.mpr ⟨lw_p26, List.forall_mem_cons.mpr ⟨lw_p27, List.forall_mem_cons.mpr ⟨lw_p28, List.forall_mem_cons.mpr ⟨lw_p29, List.forall_mem_cons.mpr ⟨lw_p30, List.forall_mem_cons.mpr ⟨lw_p31, fun _ h => absurd h List.not_mem_nil⟩⟩⟩⟩⟩⟩⟩⟩⟩⟩⟩⟩⟩⟩⟩⟩
theorem lw_p32 : lw_okq (⟨"CaravanZonesModel", "takes", "(I)I"⟩, 13) := ⟨⟨by decide +kernel, by decide +kernel⟩, List.mem_of_getElem? (i := 776) (by decide +kernel), List.mem_of_getElem? (i := 924) (by decide +kernel), List.mem_of_getElem? (i := 925) (by decide +kernel)⟩
theorem lw_p33 : lw_okq (⟨"CaravanZonesModel", "bag", "(I)V"⟩, 13) := ⟨⟨by decide +kernel, by decide +kernel⟩, List.mem_of_getElem? (i := 776) (by decide +kernel), List.mem_of_getElem? (i := 928) (by decide +kernel), List.mem_of_getElem? (i := 929) (by decide +kernel)⟩
theorem lw_p34 : lw_okq (⟨"CaravanZonesModel", "puts", "(I)I"⟩, 13) := ⟨⟨by decide +kernel, by decide +kernel⟩, List.mem_of_getElem? (i := 776) (by decide +kernel), List.mem_of_getElem? (i := 936) (by decide +kernel), List.mem_of_getElem? (i := 937) (by decide +kernel)⟩
theorem lw_p35 : lw_okq (⟨"CaravanZonesModel", "placeInBag", "(I)I"⟩, 13) := ⟨⟨by decide +kernel, by decide +kernel⟩, List.mem_of_getElem? (i := 776) (by decide +kernel), List.mem_of_getElem? (i := 940) (by decide +kernel), List.mem_of_getElem? (i := 941) (by decide +kernel)⟩
theorem lw_p36 : lw_okq (⟨"CaravanZonesModel", "unbag", "(I)V"⟩, 13) := ⟨⟨by decide +kernel, by decide +kernel⟩, List.mem_of_getElem? (i := 776) (by decide +kernel), List.mem_of_getElem? (i := 944) (by decide +kernel), List.mem_of_getElem? (i := 945) (by decide +kernel)⟩
theorem lw_p37 : lw_okq (⟨"CaravanZonesModel", "drops", "(I)I"⟩, 13) := ⟨⟨by decide +kernel, by decide +kernel⟩, List.mem_of_getElem? (i := 776) (by decide +kernel), List.mem_of_getElem? (i := 952) (by decide +kernel), List.mem_of_getElem? (i := 953) (by decide +kernel)⟩
theorem lw_p38 : lw_okq (⟨"CaravanZonesModel", "resets", "()I"⟩, 13) := ⟨⟨by decide +kernel, by decide +kernel⟩, List.mem_of_getElem? (i := 776) (by decide +kernel), List.mem_of_getElem? (i := 960) (by decide +kernel), List.mem_of_getElem? (i := 961) (by decide +kernel)⟩
theorem lw_p39 : lw_okq (⟨"CaravanZonesModel", "live", "(I)I"⟩, 13) := ⟨⟨by decide +kernel, by decide +kernel⟩, List.mem_of_getElem? (i := 776) (by decide +kernel), List.mem_of_getElem? (i := 964) (by decide +kernel), List.mem_of_getElem? (i := 965) (by decide +kernel)⟩
theorem lw_p40 : lw_okq (⟨"CaravanZonesModel", "isLive", "(II)Z"⟩, 13) := ⟨⟨by decide +kernel, by decide +kernel⟩, List.mem_of_getElem? (i := 776) (by decide +kernel), List.mem_of_getElem? (i := 968) (by decide +kernel), List.mem_of_getElem? (i := 969) (by decide +kernel)⟩
theorem lw_p41 : lw_okq (⟨"CaravanZonesModel", "beReset", "(I)V"⟩, 13) := ⟨⟨by decide +kernel, by decide +kernel⟩, List.mem_of_getElem? (i := 776) (by decide +kernel), List.mem_of_getElem? (i := 972) (by decide +kernel), List.mem_of_getElem? (i := 973) (by decide +kernel)⟩
theorem lw_p42 : lw_okq (⟨"CaravanZonesModel", "seals", "()I"⟩, 13) := ⟨⟨by decide +kernel, by decide +kernel⟩, List.mem_of_getElem? (i := 776) (by decide +kernel), List.mem_of_getElem? (i := 980) (by decide +kernel), List.mem_of_getElem? (i := 981) (by decide +kernel)⟩
theorem lw_p43 : lw_okq (⟨"CaravanZonesModel", "cleans", "()I"⟩, 13) := ⟨⟨by decide +kernel, by decide +kernel⟩, List.mem_of_getElem? (i := 776) (by decide +kernel), List.mem_of_getElem? (i := 988) (by decide +kernel), List.mem_of_getElem? (i := 989) (by decide +kernel)⟩
theorem lw_p44 : lw_okq (⟨"CaravanZonesModel", "putsDown", "()Z"⟩, 13) := ⟨⟨by decide +kernel, by decide +kernel⟩, List.mem_of_getElem? (i := 776) (by decide +kernel), List.mem_of_getElem? (i := 992) (by decide +kernel), List.mem_of_getElem? (i := 993) (by decide +kernel)⟩
theorem lw_p45 : lw_okq (⟨"CaravanZonesModel", "order", "(I)V"⟩, 13) := ⟨⟨by decide +kernel, by decide +kernel⟩, List.mem_of_getElem? (i := 776) (by decide +kernel), List.mem_of_getElem? (i := 1012) (by decide +kernel), List.mem_of_getElem? (i := 1013) (by decide +kernel)⟩
theorem lw_p46 : lw_okq (⟨"CaravanZonesModel", "look", "()I"⟩, 13) := ⟨⟨by decide +kernel, by decide +kernel⟩, List.mem_of_getElem? (i := 776) (by decide +kernel), List.mem_of_getElem? (i := 1016) (by decide +kernel), List.mem_of_getElem? (i := 1017) (by decide +kernel)⟩
theorem lw_p47 : lw_okq (⟨"CaravanZonesModel", "must", "(Z)V"⟩, 13) := ⟨⟨by decide +kernel, by decide +kernel⟩, List.mem_of_getElem? (i := 776) (by decide +kernel), List.mem_of_getElem? (i := 1020) (by decide +kernel), List.mem_of_getElem? (i := 1021) (by decide +kernel)⟩
def lw_privs_3 : List (MethodName × Nat) := [(⟨"CaravanZonesModel", "takes", "(I)I"⟩, 13), (⟨"CaravanZonesModel", "bag", "(I)V"⟩, 13), (⟨"CaravanZonesModel", "puts", "(I)I"⟩, 13), (⟨"CaravanZonesModel", "placeInBag", "(I)I"⟩, 13), (⟨"CaravanZonesModel", "unbag", "(I)V"⟩, 13), (⟨"CaravanZonesModel", "drops", "(I)I"⟩, 13), (⟨"CaravanZonesModel", "resets", "()I"⟩, 13), (⟨"CaravanZonesModel", "live", "(I)I"⟩, 13), (⟨"CaravanZonesModel", "isLive", "(II)Z"⟩, 13), (⟨"CaravanZonesModel", "beReset", "(I)V"⟩, 13), (⟨"CaravanZonesModel", "seals", "()I"⟩, 13), (⟨"CaravanZonesModel", "cleans", "()I"⟩, 13), (⟨"CaravanZonesModel", "putsDown", "()Z"⟩, 13), (⟨"CaravanZonesModel", "order", "(I)V"⟩, 13), (⟨"CaravanZonesModel", "look", "()I"⟩, 13), (⟨"CaravanZonesModel", "must", "(Z)V"⟩, 13)]
theorem lw_r3 : ∀ q ∈ lw_privs_3, lw_okq q := List.forall_mem_cons.mpr ⟨lw_p32, List.forall_mem_cons.mpr ⟨lw_p33, List.forall_mem_cons.mpr ⟨lw_p34, List.forall_mem_cons.mpr ⟨lw_p35, List.forall_mem_cons.mpr ⟨lw_p36, List.forall_mem_cons.mpr ⟨lw_p37, List.forall_mem_cons.mpr ⟨lw_p38, List.forall_mem_cons.mpr ⟨lw_p39, List.forall_mem_cons.mpr ⟨lw_p40, List.forall_mem_cons.mpr ⟨lw_p41, List.forall_mem_cons.mpr ⟨lw_p42, List.forall_mem_cons.mpr ⟨lw_p43, List.forall_mem_cons.mpr ⟨lw_p44, List.forall_mem_cons.mpr ⟨lw_p45, List.forall_mem_cons.mpr ⟨lw_p46, List.forall_mem_cons.mpr ⟨lw_p47, fun _ h => absurd h List.not_mem_nil⟩⟩⟩⟩⟩⟩⟩⟩⟩⟩⟩⟩⟩⟩⟩⟩
theorem lw_p48 : lw_okq (⟨"CaravanZonesModel", "number", "()I"⟩, 13) := ⟨⟨by decide +kernel, by decide +kernel⟩, List.mem_of_getElem? (i := 776) (by decide +kernel), List.mem_of_getElem? (i := 1024) (by decide +kernel), List.mem_of_getElem? (i := 1025) (by decide +kernel)⟩
theorem lw_p49 : lw_okq (⟨"CaravanZonesModel", "done", "(I)I"⟩, 13) := ⟨⟨by decide +kernel, by decide +kernel⟩, List.mem_of_getElem? (i := 776) (by decide +kernel), List.mem_of_getElem? (i := 1028) (by decide +kernel), List.mem_of_getElem? (i := 1029) (by decide +kernel)⟩
theorem lw_p50 : lw_okq (⟨"CaravanZonesModel", "steps", "(I)I"⟩, 13) := ⟨⟨by decide +kernel, by decide +kernel⟩, List.mem_of_getElem? (i := 776) (by decide +kernel), List.mem_of_getElem? (i := 1048) (by decide +kernel), List.mem_of_getElem? (i := 1049) (by decide +kernel)⟩
theorem lw_p51 : lw_okq (⟨"CaravanZonesModel", "sum", "(I)I"⟩, 13) := ⟨⟨by decide +kernel, by decide +kernel⟩, List.mem_of_getElem? (i := 776) (by decide +kernel), List.mem_of_getElem? (i := 1088) (by decide +kernel), List.mem_of_getElem? (i := 1089) (by decide +kernel)⟩
theorem lw_p52 : lw_okq (⟨"CaravanZonesModel", "hot", "()I"⟩, 13) := ⟨⟨by decide +kernel, by decide +kernel⟩, List.mem_of_getElem? (i := 776) (by decide +kernel), List.mem_of_getElem? (i := 1092) (by decide +kernel), List.mem_of_getElem? (i := 1093) (by decide +kernel)⟩
def lw_privs_4 : List (MethodName × Nat) := [(⟨"CaravanZonesModel", "number", "()I"⟩, 13), (⟨"CaravanZonesModel", "done", "(I)I"⟩, 13), (⟨"CaravanZonesModel", "steps", "(I)I"⟩, 13), (⟨"CaravanZonesModel", "sum", "(I)I"⟩, 13), (⟨"CaravanZonesModel", "hot", "()I"⟩, 13)]
theorem lw_r4 : ∀ q ∈ lw_privs_4, lw_okq q := List.forall_mem_cons.mpr ⟨lw_p48, List.forall_mem_cons.mpr ⟨lw_p49, List.forall_mem_cons.mpr ⟨lw_p50, List.forall_mem_cons.mpr ⟨lw_p51, List.forall_mem_cons.mpr ⟨lw_p52, fun _ h => absurd h List.not_mem_nil⟩⟩⟩⟩⟩
def lw_privs : List (MethodName × Nat) := lw_privs_1 ++ (lw_privs_2 ++ (lw_privs_3 ++ (lw_privs_4)))
def lw_tbl : List Cond := k2_sels lw_privs ++ tables_1
theorem lw_privs_ok : ∀ q ∈ lw_privs, lw_okq q := by
  show ∀ q ∈ lw_privs_1 ++ (lw_privs_2 ++ (lw_privs_3 ++ (lw_privs_4))), lw_okq q
  exact List.forall_mem_append.mpr ⟨lw_r1, List.forall_mem_append.mpr ⟨lw_r2, List.forall_mem_append.mpr ⟨lw_r3, lw_r4⟩⟩⟩
end
section
/-! ===== BEGIN words of one list among another's, by their places ===== -/
/-! ===== END ===== -/

/-! ===== BEGIN printed: names, fields, word lists, decode rows ===== -/
def RX0 : String := "CaravanZones$Caravan"
def TX0 : u_T := fun k => match k with
  | 0 => ("CaravanZones$Caravan", "at", "I", false)
  | 1 => ("CaravanZones$Caravan", "water", "I", false)
  | 2 => ("CaravanZones$Caravan", "skin", "I", false)
  | 3 => ("CaravanZones$Caravan", "bagRoom", "I", false)
  | 4 => ("CaravanZones$Caravan", "bagSize", "I", false)
  | 5 => ("CaravanZones$Caravan", "steps", "I", false)
  | 6 => ("CaravanZones$Caravan", "used", "I", false)
  | 7 => ("CaravanZones$Caravan", "moved", "I", false)
  | _ => ("CaravanZones$Caravan", "bag", "LCaravanZones$Row;", true)
def tyX0 : Nat → FieldType := fun k => match k with
  | 0 => .int
  | 1 => .int
  | 2 => .int
  | 3 => .int
  | 4 => .int
  | 5 => .int
  | 6 => .int
  | 7 => .int
  | _ => .object "CaravanZones$Row"
abbrev wsX00 : List Cond := u_ws RX0 TX0 9
theorem nmX0 : ∀ a, a < 9 → ∀ b, b < 9 → a ≠ b → (TX0 a).2.1 ≠ (TX0 b).2.1 := by decide +kernel
theorem tyX0_ok : ∀ k, k < 9 → parseFieldDescriptor (TX0 k).2.2.1 = some (tyX0 k) := by decide +kernel
abbrev cX0_init : ByteArray := prog_2_method_1_code
def yX0_init : MethodName := ⟨RX0, "<init>", "()V"⟩
abbrev cX0_copyFrom : ByteArray := prog_2_method_2_code
def yX0_copyFrom : MethodName := ⟨RX0, "copyFrom", "(LCaravanZones$Caravan;)V"⟩
abbrev cX0_pay : ByteArray := prog_2_method_3_code
def yX0_pay : MethodName := ⟨RX0, "pay", "(I)Z"⟩
abbrev cX0_fillSkin : ByteArray := prog_2_method_4_code
def yX0_fillSkin : MethodName := ⟨RX0, "fillSkin", "()V"⟩
abbrev cX0_resizeSkin : ByteArray := prog_2_method_5_code
def yX0_resizeSkin : MethodName := ⟨RX0, "resizeSkin", "(I)V"⟩
abbrev cX0_bagSpace : ByteArray := prog_2_method_6_code
def yX0_bagSpace : MethodName := ⟨RX0, "bagSpace", "()I"⟩
abbrev cX0_pack : ByteArray := prog_2_method_7_code
def yX0_pack : MethodName := ⟨RX0, "pack", "(I)V"⟩
abbrev cX0_unpack : ByteArray := prog_2_method_8_code
def yX0_unpack : MethodName := ⟨RX0, "unpack", "(I)V"⟩
abbrev cX0_placeOf : ByteArray := prog_2_method_9_code
def yX0_placeOf : MethodName := ⟨RX0, "placeOf", "(I)I"⟩
def RX1 : String := "CaravanZones$History"
def TX1 : u_T := fun k => match k with
  | 0 => ("CaravanZones$History", "states", "[LCaravanZones$World;", true)
  | 1 => ("CaravanZones$History", "latest", "I", false)
  | _ => ("CaravanZones$History", "size", "I", false)
def tyX1 : Nat → FieldType := fun k => match k with
  | 0 => .array (.object "CaravanZones$World")
  | 1 => .int
  | _ => .int
abbrev wsX10 : List Cond := u_ws RX1 TX1 3
theorem nmX1 : ∀ a, a < 3 → ∀ b, b < 3 → a ≠ b → (TX1 a).2.1 ≠ (TX1 b).2.1 := by decide +kernel
theorem tyX1_ok : ∀ k, k < 3 → parseFieldDescriptor (TX1 k).2.2.1 = some (tyX1 k) := by decide +kernel
abbrev cX1_init : ByteArray := prog_3_method_1_code
def yX1_init : MethodName := ⟨RX1, "<init>", "()V"⟩
abbrev cX1_size : ByteArray := prog_3_method_2_code
def yX1_size : MethodName := ⟨RX1, "size", "()I"⟩
abbrev cX1_stateAt : ByteArray := prog_3_method_3_code
def yX1_stateAt : MethodName := ⟨RX1, "stateAt", "(I)LCaravanZones$World;"⟩
abbrev cX1_remember : ByteArray := prog_3_method_4_code
def yX1_remember : MethodName := ⟨RX1, "remember", "(LCaravanZones$World;)V"⟩
abbrev cX1_takeLatest : ByteArray := prog_3_method_5_code
def yX1_takeLatest : MethodName := ⟨RX1, "takeLatest", "(LCaravanZones$World;)Z"⟩
def RX2 : String := "CaravanZones$Loads"
def TX2 : u_T := fun k => match k with
  | 0 => ("CaravanZones$Loads", "bound", "I", false)
  | 1 => ("CaravanZones$Loads", "places", "LCaravanZones$Row;", true)
  | 2 => ("CaravanZones$Loads", "cells", "LCaravanZones$Row;", true)
  | _ => ("CaravanZones$Loads", "heats", "LCaravanZones$Row;", true)
def tyX2 : Nat → FieldType := fun k => match k with
  | 0 => .int
  | 1 => .object "CaravanZones$Row"
  | 2 => .object "CaravanZones$Row"
  | _ => .object "CaravanZones$Row"
abbrev wsX20 : List Cond := u_ws RX2 TX2 4
theorem nmX2 : ∀ a, a < 4 → ∀ b, b < 4 → a ≠ b → (TX2 a).2.1 ≠ (TX2 b).2.1 := by decide +kernel
theorem tyX2_ok : ∀ k, k < 4 → parseFieldDescriptor (TX2 k).2.2.1 = some (tyX2 k) := by decide +kernel
abbrev cX2_init : ByteArray := prog_4_method_1_code
def yX2_init : MethodName := ⟨RX2, "<init>", "()V"⟩
abbrev cX2_copyFrom : ByteArray := prog_4_method_2_code
def yX2_copyFrom : MethodName := ⟨RX2, "copyFrom", "(LCaravanZones$Loads;)V"⟩
abbrev cX2_isKnown : ByteArray := prog_4_method_3_code
def yX2_isKnown : MethodName := ⟨RX2, "isKnown", "(I)Z"⟩
abbrev cX2_isIn : ByteArray := prog_4_method_4_code
def yX2_isIn : MethodName := ⟨RX2, "isIn", "(II)Z"⟩
abbrev cX2_liesAt : ByteArray := prog_4_method_5_code
def yX2_liesAt : MethodName := ⟨RX2, "liesAt", "(II)Z"⟩
abbrev cX2_anyInSlot : ByteArray := prog_4_method_6_code
def yX2_anyInSlot : MethodName := ⟨RX2, "anyInSlot", "()Z"⟩
abbrev cX2_isHot : ByteArray := prog_4_method_7_code
def yX2_isHot : MethodName := ⟨RX2, "isHot", "(I)Z"⟩
abbrev cX2_hotCount : ByteArray := prog_4_method_8_code
def yX2_hotCount : MethodName := ⟨RX2, "hotCount", "()I"⟩
abbrev cX2_warm : ByteArray := prog_4_method_9_code
def yX2_warm : MethodName := ⟨RX2, "warm", "(I)V"⟩
abbrev cX2_cool : ByteArray := prog_4_method_10_code
def yX2_cool : MethodName := ⟨RX2, "cool", "()V"⟩
abbrev cX2_moveToSlot : ByteArray := prog_4_method_11_code
def yX2_moveToSlot : MethodName := ⟨RX2, "moveToSlot", "(II)V"⟩
abbrev cX2_moveToBag : ByteArray := prog_4_method_12_code
def yX2_moveToBag : MethodName := ⟨RX2, "moveToBag", "(I)V"⟩
abbrev cX2_forget : ByteArray := prog_4_method_13_code
def yX2_forget : MethodName := ⟨RX2, "forget", "(I)V"⟩
def RX3 : String := "CaravanZones$Orders"
def TX3 : u_T := fun k => match k with
  | 0 => ("CaravanZones$Orders", "signs", "LCaravanZones$Row;", true)
  | 1 => ("CaravanZones$Orders", "length", "I", false)
  | 2 => ("CaravanZones$Orders", "letters", "LCaravanZones$Row;", true)
  | 3 => ("CaravanZones$Orders", "numbers", "LCaravanZones$Row;", true)
  | _ => ("CaravanZones$Orders", "size", "I", false)
def tyX3 : Nat → FieldType := fun k => match k with
  | 0 => .object "CaravanZones$Row"
  | 1 => .int
  | 2 => .object "CaravanZones$Row"
  | 3 => .object "CaravanZones$Row"
  | _ => .int
abbrev wsX30 : List Cond := u_ws RX3 TX3 5
theorem nmX3 : ∀ a, a < 5 → ∀ b, b < 5 → a ≠ b → (TX3 a).2.1 ≠ (TX3 b).2.1 := by decide +kernel
theorem tyX3_ok : ∀ k, k < 5 → parseFieldDescriptor (TX3 k).2.2.1 = some (tyX3 k) := by decide +kernel
abbrev cX3_init : ByteArray := prog_5_method_1_code
def yX3_init : MethodName := ⟨RX3, "<init>", "()V"⟩
abbrev cX3_length : ByteArray := prog_5_method_2_code
def yX3_length : MethodName := ⟨RX3, "length", "()I"⟩
abbrev cX3_size : ByteArray := prog_5_method_3_code
def yX3_size : MethodName := ⟨RX3, "size", "()I"⟩
abbrev cX3_letterOf : ByteArray := prog_5_method_4_code
def yX3_letterOf : MethodName := ⟨RX3, "letterOf", "(I)I"⟩
abbrev cX3_numberOf : ByteArray := prog_5_method_5_code
def yX3_numberOf : MethodName := ⟨RX3, "numberOf", "(I)I"⟩
abbrev cX3_append : ByteArray := prog_5_method_6_code
def yX3_append : MethodName := ⟨RX3, "append", "(I)I"⟩
abbrev cX3_empty : ByteArray := prog_5_method_7_code
def yX3_empty : MethodName := ⟨RX3, "empty", "()I"⟩
abbrev cX3_read : ByteArray := prog_5_method_8_code
def yX3_read : MethodName := ⟨RX3, "read", "()I"⟩
abbrev cX3_readSign : ByteArray := prog_5_method_9_code
def yX3_readSign : MethodName := ⟨RX3, "readSign", "(II)I"⟩
abbrev cX3_readLetter : ByteArray := prog_5_method_10_code
def yX3_readLetter : MethodName := ⟨RX3, "readLetter", "(I)I"⟩
abbrev cX3_isDigit : ByteArray := prog_5_method_11_code
def yX3_isDigit : MethodName := ⟨RX3, "isDigit", "(I)Z"⟩
abbrev cX3_readDigit : ByteArray := prog_5_method_12_code
def yX3_readDigit : MethodName := ⟨RX3, "readDigit", "(I)I"⟩
def RX4 : String := "CaravanZones$Road"
def TX4 : u_T := fun k => match k with
  | 0 => ("CaravanZones$Road", "zones", "I", false)
  | 1 => ("CaravanZones$Road", "slots", "I", false)
  | 2 => ("CaravanZones$Road", "nextMark", "I", false)
  | 3 => ("CaravanZones$Road", "resetsSoFar", "I", false)
  | 4 => ("CaravanZones$Road", "pointers", "LCaravanZones$Row;", true)
  | 5 => ("CaravanZones$Road", "kinds", "LCaravanZones$Row;", true)
  | 6 => ("CaravanZones$Road", "seals", "LCaravanZones$Row;", true)
  | 7 => ("CaravanZones$Road", "wells", "LCaravanZones$Row;", true)
  | 8 => ("CaravanZones$Road", "resets", "LCaravanZones$Row;", true)
  | 9 => ("CaravanZones$Road", "loads", "LCaravanZones$Row;", true)
  | _ => ("CaravanZones$Road", "marks", "LCaravanZones$Row;", true)
def tyX4 : Nat → FieldType := fun k => match k with
  | 0 => .int
  | 1 => .int
  | 2 => .int
  | 3 => .int
  | 4 => .object "CaravanZones$Row"
  | 5 => .object "CaravanZones$Row"
  | 6 => .object "CaravanZones$Row"
  | 7 => .object "CaravanZones$Row"
  | 8 => .object "CaravanZones$Row"
  | 9 => .object "CaravanZones$Row"
  | _ => .object "CaravanZones$Row"
abbrev wsX40 : List Cond := u_ws RX4 TX4 11
theorem nmX4 : ∀ a, a < 11 → ∀ b, b < 11 → a ≠ b → (TX4 a).2.1 ≠ (TX4 b).2.1 := by decide +kernel
theorem tyX4_ok : ∀ k, k < 11 → parseFieldDescriptor (TX4 k).2.2.1 = some (tyX4 k) := by decide +kernel
abbrev cX4_init : ByteArray := prog_6_method_1_code
def yX4_init : MethodName := ⟨RX4, "<init>", "()V"⟩
abbrev cX4_build : ByteArray := prog_6_method_2_code
def yX4_build : MethodName := ⟨RX4, "build", "(II)V"⟩
abbrev cX4_copyFrom : ByteArray := prog_6_method_3_code
def yX4_copyFrom : MethodName := ⟨RX4, "copyFrom", "(LCaravanZones$Road;)V"⟩
abbrev cX4_hasZone : ByteArray := prog_6_method_4_code
def yX4_hasZone : MethodName := ⟨RX4, "hasZone", "(I)Z"⟩
abbrev cX4_hasSlot : ByteArray := prog_6_method_5_code
def yX4_hasSlot : MethodName := ⟨RX4, "hasSlot", "(I)Z"⟩
abbrev cX4_cellAt : ByteArray := prog_6_method_6_code
def yX4_cellAt : MethodName := ⟨RX4, "cellAt", "(II)I"⟩
abbrev cX4_zoneBehind : ByteArray := prog_6_method_7_code
def yX4_zoneBehind : MethodName := ⟨RX4, "zoneBehind", "(I)I"⟩
abbrev cX4_stepsBetween : ByteArray := prog_6_method_8_code
def yX4_stepsBetween : MethodName := ⟨RX4, "stepsBetween", "(II)I"⟩
abbrev cX4_freeIn : ByteArray := prog_6_method_9_code
def yX4_freeIn : MethodName := ⟨RX4, "freeIn", "(I)I"⟩
abbrev cX4_wellCount : ByteArray := prog_6_method_10_code
def yX4_wellCount : MethodName := ⟨RX4, "wellCount", "()I"⟩
abbrev cX4_sealCount : ByteArray := prog_6_method_11_code
def yX4_sealCount : MethodName := ⟨RX4, "sealCount", "()I"⟩
abbrev cX4_setIn : ByteArray := prog_6_method_12_code
def yX4_setIn : MethodName := ⟨RX4, "setIn", "(LCaravanZones$Row;)I"⟩
abbrev cX4_admits : ByteArray := prog_6_method_13_code
def yX4_admits : MethodName := ⟨RX4, "admits", "(IZ)Z"⟩
abbrev cX4_append : ByteArray := prog_6_method_14_code
def yX4_append : MethodName := ⟨RX4, "append", "(II)I"⟩
abbrev cX4_clear : ByteArray := prog_6_method_15_code
def yX4_clear : MethodName := ⟨RX4, "clear", "(I)V"⟩
def RX5 : String := "CaravanZones$Row"
def TX5 : u_T := fun k => match k with
  | _ => ("CaravanZones$Row", "numbers", "[I", true)
def tyX5 : Nat → FieldType := fun k => match k with
  | _ => .array .int
abbrev wsX50 : List Cond := u_ws RX5 TX5 1
theorem nmX5 : ∀ a, a < 1 → ∀ b, b < 1 → a ≠ b → (TX5 a).2.1 ≠ (TX5 b).2.1 := by decide +kernel
theorem tyX5_ok : ∀ k, k < 1 → parseFieldDescriptor (TX5 k).2.2.1 = some (tyX5 k) := by decide +kernel
abbrev cX5_init : ByteArray := prog_7_method_1_code
def yX5_init : MethodName := ⟨RX5, "<init>", "(I)V"⟩
abbrev cX5_at : ByteArray := prog_7_method_2_code
def yX5_at : MethodName := ⟨RX5, "at", "(I)I"⟩
abbrev cX5_isSet : ByteArray := prog_7_method_3_code
def yX5_isSet : MethodName := ⟨RX5, "isSet", "(I)Z"⟩
abbrev cX5_change : ByteArray := prog_7_method_4_code
def yX5_change : MethodName := ⟨RX5, "change", "(II)V"⟩
abbrev cX5_fill : ByteArray := prog_7_method_5_code
def yX5_fill : MethodName := ⟨RX5, "fill", "(I)V"⟩
abbrev cX5_copyFrom : ByteArray := prog_7_method_6_code
def yX5_copyFrom : MethodName := ⟨RX5, "copyFrom", "(LCaravanZones$Row;)V"⟩
def RX6 : String := "CaravanZones$Survey"
def TX6 : u_T := fun k => match k with
  | _ => ("", "", "", false)
def tyX6 : Nat → FieldType := fun k => match k with
  | _ => .int
abbrev wsX60 : List Cond := u_ws RX6 TX6 0
theorem nmX6 : ∀ a, a < 0 → ∀ b, b < 0 → a ≠ b → (TX6 a).2.1 ≠ (TX6 b).2.1 := by decide +kernel
theorem tyX6_ok : ∀ k, k < 0 → parseFieldDescriptor (TX6 k).2.2.1 = some (tyX6 k) := by decide +kernel
abbrev cX6_ofZone : ByteArray := prog_8_method_2_code
def yX6_ofZone : MethodName := ⟨RX6, "ofZone", "(LCaravanZones$World;II)I"⟩
abbrev cX6_ofSlot : ByteArray := prog_8_method_3_code
def yX6_ofSlot : MethodName := ⟨RX6, "ofSlot", "(LCaravanZones$World;III)I"⟩
abbrev cX6_ofLoad : ByteArray := prog_8_method_4_code
def yX6_ofLoad : MethodName := ⟨RX6, "ofLoad", "(LCaravanZones$World;II)I"⟩
abbrev cX6_ofSlotOf : ByteArray := prog_8_method_5_code
def yX6_ofSlotOf : MethodName := ⟨RX6, "ofSlotOf", "(LCaravanZones$World;II)I"⟩
abbrev cX6_latestSlotOf : ByteArray := prog_8_method_6_code
def yX6_latestSlotOf : MethodName := ⟨RX6, "latestSlotOf", "(LCaravanZones$World;I)I"⟩
abbrev cX6_ofCaravan : ByteArray := prog_8_method_7_code
def yX6_ofCaravan : MethodName := ⟨RX6, "ofCaravan", "(LCaravanZones$World;I)I"⟩
abbrev cX6_ofBag : ByteArray := prog_8_method_8_code
def yX6_ofBag : MethodName := ⟨RX6, "ofBag", "(LCaravanZones$World;I)I"⟩
abbrev cX6_waterNeededTo : ByteArray := prog_8_method_9_code
def yX6_waterNeededTo : MethodName := ⟨RX6, "waterNeededTo", "(LCaravanZones$World;I)I"⟩
abbrev cX6_zoneToClean : ByteArray := prog_8_method_10_code
def yX6_zoneToClean : MethodName := ⟨RX6, "zoneToClean", "(LCaravanZones$World;)I"⟩
abbrev cX6_nearestZoneFor : ByteArray := prog_8_method_11_code
def yX6_nearestZoneFor : MethodName := ⟨RX6, "nearestZoneFor", "(LCaravanZones$World;I)I"⟩
abbrev cX6_ofAll : ByteArray := prog_8_method_12_code
def yX6_ofAll : MethodName := ⟨RX6, "ofAll", "(LCaravanZones$World;I)I"⟩
abbrev cX6_liveSlots : ByteArray := prog_8_method_13_code
def yX6_liveSlots : MethodName := ⟨RX6, "liveSlots", "(LCaravanZones$World;)I"⟩
abbrev cX6_writtenSlots : ByteArray := prog_8_method_14_code
def yX6_writtenSlots : MethodName := ⟨RX6, "writtenSlots", "(LCaravanZones$World;)I"⟩
def RX7 : String := "CaravanZones$World"
def TX7 : u_T := fun k => match k with
  | 0 => ("CaravanZones$World", "road", "LCaravanZones$Road;", true)
  | 1 => ("CaravanZones$World", "loads", "LCaravanZones$Loads;", true)
  | _ => ("CaravanZones$World", "caravan", "LCaravanZones$Caravan;", true)
def tyX7 : Nat → FieldType := fun k => match k with
  | 0 => .object "CaravanZones$Road"
  | 1 => .object "CaravanZones$Loads"
  | _ => .object "CaravanZones$Caravan"
abbrev wsX70 : List Cond := u_ws RX7 TX7 3
theorem nmX7 : ∀ a, a < 3 → ∀ b, b < 3 → a ≠ b → (TX7 a).2.1 ≠ (TX7 b).2.1 := by decide +kernel
theorem tyX7_ok : ∀ k, k < 3 → parseFieldDescriptor (TX7 k).2.2.1 = some (tyX7 k) := by decide +kernel
abbrev cX7_init : ByteArray := prog_9_method_1_code
def yX7_init : MethodName := ⟨RX7, "<init>", "()V"⟩
abbrev cX7_copyFrom : ByteArray := prog_9_method_2_code
def yX7_copyFrom : MethodName := ⟨RX7, "copyFrom", "(LCaravanZones$World;)V"⟩
abbrev cX7_layZones : ByteArray := prog_9_method_3_code
def yX7_layZones : MethodName := ⟨RX7, "layZones", "(II)I"⟩
abbrev cX7_changeKind : ByteArray := prog_9_method_4_code
def yX7_changeKind : MethodName := ⟨RX7, "changeKind", "(II)I"⟩
abbrev cX7_changeWell : ByteArray := prog_9_method_5_code
def yX7_changeWell : MethodName := ⟨RX7, "changeWell", "(IZ)I"⟩
abbrev cX7_changeSetting : ByteArray := prog_9_method_6_code
def yX7_changeSetting : MethodName := ⟨RX7, "changeSetting", "(II)I"⟩
abbrev cX7_changeBag : ByteArray := prog_9_method_7_code
def yX7_changeBag : MethodName := ⟨RX7, "changeBag", "(I)I"⟩
abbrev cX7_changeSkin : ByteArray := prog_9_method_8_code
def yX7_changeSkin : MethodName := ⟨RX7, "changeSkin", "(I)I"⟩
abbrev cX7_changeBound : ByteArray := prog_9_method_9_code
def yX7_changeBound : MethodName := ⟨RX7, "changeBound", "(I)I"⟩
abbrev cX7_travel : ByteArray := prog_9_method_10_code
def yX7_travel : MethodName := ⟨RX7, "travel", "(I)I"⟩
abbrev cX7_stepAhead : ByteArray := prog_9_method_11_code
def yX7_stepAhead : MethodName := ⟨RX7, "stepAhead", "()Z"⟩
abbrev cX7_writeAnew : ByteArray := prog_9_method_12_code
def yX7_writeAnew : MethodName := ⟨RX7, "writeAnew", "(I)I"⟩
abbrev cX7_mayBeWritten : ByteArray := prog_9_method_13_code
def yX7_mayBeWritten : MethodName := ⟨RX7, "mayBeWritten", "(II)Z"⟩
abbrev cX7_writeHere : ByteArray := prog_9_method_14_code
def yX7_writeHere : MethodName := ⟨RX7, "writeHere", "(I)I"⟩
abbrev cX7_takeUp : ByteArray := prog_9_method_15_code
def yX7_takeUp : MethodName := ⟨RX7, "takeUp", "(I)I"⟩
abbrev cX7_liesInZone : ByteArray := prog_9_method_16_code
def yX7_liesInZone : MethodName := ⟨RX7, "liesInZone", "(II)Z"⟩
abbrev cX7_packUp : ByteArray := prog_9_method_17_code
def yX7_packUp : MethodName := ⟨RX7, "packUp", "(I)V"⟩
abbrev cX7_putDown : ByteArray := prog_9_method_18_code
def yX7_putDown : MethodName := ⟨RX7, "putDown", "(I)I"⟩
abbrev cX7_giveUp : ByteArray := prog_9_method_19_code
def yX7_giveUp : MethodName := ⟨RX7, "giveUp", "(I)I"⟩
abbrev cX7_resetHere : ByteArray := prog_9_method_20_code
def yX7_resetHere : MethodName := ⟨RX7, "resetHere", "()I"⟩
abbrev cX7_sealHere : ByteArray := prog_9_method_21_code
def yX7_sealHere : MethodName := ⟨RX7, "sealHere", "()I"⟩
abbrev cX7_endDay : ByteArray := prog_9_method_22_code
def yX7_endDay : MethodName := ⟨RX7, "endDay", "()I"⟩
abbrev cX7_cleanHere : ByteArray := prog_9_method_23_code
def yX7_cleanHere : MethodName := ⟨RX7, "cleanHere", "()I"⟩
abbrev cX7_packAllOf : ByteArray := prog_9_method_24_code
def yX7_packAllOf : MethodName := ⟨RX7, "packAllOf", "(I)V"⟩
abbrev cX7_unpackFrom : ByteArray := prog_9_method_25_code
def yX7_unpackFrom : MethodName := ⟨RX7, "unpackFrom", "(I)Z"⟩
abbrev cX7_isLive : ByteArray := prog_9_method_26_code
def yX7_isLive : MethodName := ⟨RX7, "isLive", "(II)Z"⟩
abbrev cX7_liveIn : ByteArray := prog_9_method_27_code
def yX7_liveIn : MethodName := ⟨RX7, "liveIn", "(I)I"⟩
abbrev cX7_deadIn : ByteArray := prog_9_method_28_code
def yX7_deadIn : MethodName := ⟨RX7, "deadIn", "(I)I"⟩
def RX8 : String := "CaravanZones"
def TX8 : u_T := fun k => match k with
  | 0 => ("CaravanZones", "world", "LCaravanZones$World;", true)
  | 1 => ("CaravanZones", "before", "LCaravanZones$World;", true)
  | 2 => ("CaravanZones", "snapshot", "LCaravanZones$World;", true)
  | 3 => ("CaravanZones", "hasSnapshot", "Z", false)
  | 4 => ("CaravanZones", "history", "LCaravanZones$History;", true)
  | _ => ("CaravanZones", "orders", "LCaravanZones$Orders;", true)
def tyX8 : Nat → FieldType := fun k => match k with
  | 0 => .object "CaravanZones$World"
  | 1 => .object "CaravanZones$World"
  | 2 => .object "CaravanZones$World"
  | 3 => .boolean
  | 4 => .object "CaravanZones$History"
  | _ => .object "CaravanZones$Orders"
abbrev wsX80 : List Cond := u_ws RX8 TX8 6
theorem nmX8 : ∀ a, a < 6 → ∀ b, b < 6 → a ≠ b → (TX8 a).2.1 ≠ (TX8 b).2.1 := by decide +kernel
theorem tyX8_ok : ∀ k, k < 6 → parseFieldDescriptor (TX8 k).2.2.1 = some (tyX8 k) := by decide +kernel
abbrev cX8_init : ByteArray := prog_1_method_1_code
def yX8_init : MethodName := ⟨RX8, "<init>", "()V"⟩
abbrev cX8_lay : ByteArray := prog_1_method_2_code
def yX8_lay : MethodName := ⟨RX8, "lay", "(II)I"⟩
abbrev cX8_setKind : ByteArray := prog_1_method_3_code
def yX8_setKind : MethodName := ⟨RX8, "setKind", "(II)I"⟩
abbrev cX8_setWell : ByteArray := prog_1_method_4_code
def yX8_setWell : MethodName := ⟨RX8, "setWell", "(IZ)I"⟩
abbrev cX8_set : ByteArray := prog_1_method_5_code
def yX8_set : MethodName := ⟨RX8, "set", "(II)I"⟩
abbrev cX8_go : ByteArray := prog_1_method_6_code
def yX8_go : MethodName := ⟨RX8, "go", "(I)I"⟩
abbrev cX8_write : ByteArray := prog_1_method_7_code
def yX8_write : MethodName := ⟨RX8, "write", "(I)I"⟩
abbrev cX8_take : ByteArray := prog_1_method_8_code
def yX8_take : MethodName := ⟨RX8, "take", "(I)I"⟩
abbrev cX8_put : ByteArray := prog_1_method_9_code
def yX8_put : MethodName := ⟨RX8, "put", "(I)I"⟩
abbrev cX8_drop : ByteArray := prog_1_method_10_code
def yX8_drop : MethodName := ⟨RX8, "drop", "(I)I"⟩
abbrev cX8_reset : ByteArray := prog_1_method_11_code
def yX8_reset : MethodName := ⟨RX8, "reset", "()I"⟩
abbrev cX8_seal : ByteArray := prog_1_method_12_code
def yX8_seal : MethodName := ⟨RX8, "seal", "()I"⟩
abbrev cX8_clean : ByteArray := prog_1_method_13_code
def yX8_clean : MethodName := ⟨RX8, "clean", "()I"⟩
abbrev cX8_dusk : ByteArray := prog_1_method_14_code
def yX8_dusk : MethodName := ⟨RX8, "dusk", "()I"⟩
abbrev cX8_type : ByteArray := prog_1_method_15_code
def yX8_type : MethodName := ⟨RX8, "type", "(C)I"⟩
abbrev cX8_clearText : ByteArray := prog_1_method_16_code
def yX8_clearText : MethodName := ⟨RX8, "clearText", "()I"⟩
abbrev cX8_perform : ByteArray := prog_1_method_17_code
def yX8_perform : MethodName := ⟨RX8, "perform", "()I"⟩
abbrev cX8_undo : ByteArray := prog_1_method_18_code
def yX8_undo : MethodName := ⟨RX8, "undo", "()I"⟩
abbrev cX8_keep : ByteArray := prog_1_method_19_code
def yX8_keep : MethodName := ⟨RX8, "keep", "()I"⟩
abbrev cX8_restore : ByteArray := prog_1_method_20_code
def yX8_restore : MethodName := ⟨RX8, "restore", "()I"⟩
abbrev cX8_zone : ByteArray := prog_1_method_21_code
def yX8_zone : MethodName := ⟨RX8, "zone", "(II)I"⟩
abbrev cX8_slot : ByteArray := prog_1_method_22_code
def yX8_slot : MethodName := ⟨RX8, "slot", "(III)I"⟩
abbrev cX8_load : ByteArray := prog_1_method_23_code
def yX8_load : MethodName := ⟨RX8, "load", "(II)I"⟩
abbrev cX8_scan : ByteArray := prog_1_method_24_code
def yX8_scan : MethodName := ⟨RX8, "scan", "(I)I"⟩
abbrev cX8_caravan : ByteArray := prog_1_method_25_code
def yX8_caravan : MethodName := ⟨RX8, "caravan", "(I)I"⟩
abbrev cX8_bagAt : ByteArray := prog_1_method_26_code
def yX8_bagAt : MethodName := ⟨RX8, "bagAt", "(I)I"⟩
abbrev cX8_waterTo : ByteArray := prog_1_method_27_code
def yX8_waterTo : MethodName := ⟨RX8, "waterTo", "(I)I"⟩
abbrev cX8_worst : ByteArray := prog_1_method_28_code
def yX8_worst : MethodName := ⟨RX8, "worst", "()I"⟩
abbrev cX8_nearestFor : ByteArray := prog_1_method_29_code
def yX8_nearestFor : MethodName := ⟨RX8, "nearestFor", "(I)I"⟩
abbrev cX8_count : ByteArray := prog_1_method_30_code
def yX8_count : MethodName := ⟨RX8, "count", "(I)I"⟩
abbrev cX8_settle : ByteArray := prog_1_method_31_code
def yX8_settle : MethodName := ⟨RX8, "settle", "(I)I"⟩
abbrev cX8_doOrder : ByteArray := prog_1_method_32_code
def yX8_doOrder : MethodName := ⟨RX8, "doOrder", "(II)I"⟩
def RX9 : String := "CaravanZonesModel"
def TX9 : u_T := fun k => match k with
  | 0 => ("CaravanZonesModel", "thrown", "I", false)
  | 1 => ("CaravanZonesModel", "now", "[I", true)
  | 2 => ("CaravanZonesModel", "put", "[I", true)
  | 3 => ("CaravanZonesModel", "kept", "[I", true)
  | 4 => ("CaravanZonesModel", "isKept", "Z", false)
  | 5 => ("CaravanZonesModel", "was", "[I", true)
  | 6 => ("CaravanZonesModel", "acts", "I", false)
  | 7 => ("CaravanZonesModel", "text", "[I", true)
  | 8 => ("CaravanZonesModel", "typed", "I", false)
  | 9 => ("CaravanZonesModel", "isTaken", "[Z", true)
  | 10 => ("CaravanZonesModel", "at", "I", false)
  | 11 => ("CaravanZonesModel", "isWrong", "Z", false)
  | _ => ("CaravanZonesModel", "orders", "[I", true)
def tyX9 : Nat → FieldType := fun k => match k with
  | 0 => .int
  | 1 => .array .int
  | 2 => .array .int
  | 3 => .array .int
  | 4 => .boolean
  | 5 => .array .int
  | 6 => .int
  | 7 => .array .int
  | 8 => .int
  | 9 => .array .boolean
  | 10 => .int
  | 11 => .boolean
  | _ => .array .int
abbrev wsX90 : List Cond := u_ws RX9 TX9 13
theorem nmX9 : ∀ a, a < 13 → ∀ b, b < 13 → a ≠ b → (TX9 a).2.1 ≠ (TX9 b).2.1 := by decide +kernel
theorem tyX9_ok : ∀ k, k < 13 → parseFieldDescriptor (TX9 k).2.2.1 = some (tyX9 k) := by decide +kernel
abbrev cX9_in : ByteArray := prog_11_method_2_code
def yX9_in : MethodName := ⟨RX9, "in", "(III)Z"⟩
abbrev cX9_init : ByteArray := prog_11_method_3_code
def yX9_init : MethodName := ⟨RX9, "<init>", "()V"⟩
abbrev cX9_layAnew : ByteArray := prog_11_method_4_code
def yX9_layAnew : MethodName := ⟨RX9, "layAnew", "(II)V"⟩
abbrev cX9_ofZone : ByteArray := prog_11_method_5_code
def yX9_ofZone : MethodName := ⟨RX9, "ofZone", "(II)I"⟩
abbrev cX9_zoneIs : ByteArray := prog_11_method_6_code
def yX9_zoneIs : MethodName := ⟨RX9, "zoneIs", "(III)V"⟩
abbrev cX9_ofLoad : ByteArray := prog_11_method_7_code
def yX9_ofLoad : MethodName := ⟨RX9, "ofLoad", "(II)I"⟩
abbrev cX9_loadIs : ByteArray := prog_11_method_8_code
def yX9_loadIs : MethodName := ⟨RX9, "loadIs", "(III)V"⟩
abbrev cX9_slotAt : ByteArray := prog_11_method_9_code
def yX9_slotAt : MethodName := ⟨RX9, "slotAt", "(II)I"⟩
abbrev cX9_isZone : ByteArray := prog_11_method_10_code
def yX9_isZone : MethodName := ⟨RX9, "isZone", "(I)Z"⟩
abbrev cX9_isLoad : ByteArray := prog_11_method_11_code
def yX9_isLoad : MethodName := ⟨RX9, "isLoad", "(I)Z"⟩
abbrev cX9_isLive : ByteArray := prog_11_method_12_code
def yX9_isLive : MethodName := ⟨RX9, "isLive", "(II)Z"⟩
abbrev cX9_live : ByteArray := prog_11_method_13_code
def yX9_live : MethodName := ⟨RX9, "live", "(I)I"⟩
abbrev cX9_steps : ByteArray := prog_11_method_14_code
def yX9_steps : MethodName := ⟨RX9, "steps", "(I)I"⟩
abbrev cX9_aside : ByteArray := prog_11_method_15_code
def yX9_aside : MethodName := ⟨RX9, "aside", "()V"⟩
abbrev cX9_acted : ByteArray := prog_11_method_16_code
def yX9_acted : MethodName := ⟨RX9, "acted", "(I)I"⟩
abbrev cX9_lay : ByteArray := prog_11_method_17_code
def yX9_lay : MethodName := ⟨RX9, "lay", "(II)I"⟩
abbrev cX9_setKind : ByteArray := prog_11_method_18_code
def yX9_setKind : MethodName := ⟨RX9, "setKind", "(II)I"⟩
abbrev cX9_wells : ByteArray := prog_11_method_19_code
def yX9_wells : MethodName := ⟨RX9, "wells", "()I"⟩
abbrev cX9_drinkHere : ByteArray := prog_11_method_20_code
def yX9_drinkHere : MethodName := ⟨RX9, "drinkHere", "()V"⟩
abbrev cX9_setWell : ByteArray := prog_11_method_21_code
def yX9_setWell : MethodName := ⟨RX9, "setWell", "(IZ)I"⟩
abbrev cX9_set : ByteArray := prog_11_method_22_code
def yX9_set : MethodName := ⟨RX9, "set", "(II)I"⟩
abbrev cX9_uses : ByteArray := prog_11_method_23_code
def yX9_uses : MethodName := ⟨RX9, "uses", "(I)Z"⟩
abbrev cX9_goesOn : ByteArray := prog_11_method_24_code
def yX9_goesOn : MethodName := ⟨RX9, "goesOn", "()Z"⟩
abbrev cX9_goes : ByteArray := prog_11_method_25_code
def yX9_goes : MethodName := ⟨RX9, "goes", "(I)I"⟩
abbrev cX9_go : ByteArray := prog_11_method_26_code
def yX9_go : MethodName := ⟨RX9, "go", "(I)I"⟩
abbrev cX9_mayBe : ByteArray := prog_11_method_27_code
def yX9_mayBe : MethodName := ⟨RX9, "mayBe", "(II)Z"⟩
abbrev cX9_comes : ByteArray := prog_11_method_28_code
def yX9_comes : MethodName := ⟨RX9, "comes", "(I)I"⟩
abbrev cX9_writes : ByteArray := prog_11_method_29_code
def yX9_writes : MethodName := ⟨RX9, "writes", "(I)I"⟩
abbrev cX9_write : ByteArray := prog_11_method_30_code
def yX9_write : MethodName := ⟨RX9, "write", "(I)I"⟩
abbrev cX9_bag : ByteArray := prog_11_method_31_code
def yX9_bag : MethodName := ⟨RX9, "bag", "(I)V"⟩
abbrev cX9_takes : ByteArray := prog_11_method_32_code
def yX9_takes : MethodName := ⟨RX9, "takes", "(I)I"⟩
abbrev cX9_take : ByteArray := prog_11_method_33_code
def yX9_take : MethodName := ⟨RX9, "take", "(I)I"⟩
abbrev cX9_placeInBag : ByteArray := prog_11_method_34_code
def yX9_placeInBag : MethodName := ⟨RX9, "placeInBag", "(I)I"⟩
abbrev cX9_unbag : ByteArray := prog_11_method_35_code
def yX9_unbag : MethodName := ⟨RX9, "unbag", "(I)V"⟩
abbrev cX9_puts : ByteArray := prog_11_method_36_code
def yX9_puts : MethodName := ⟨RX9, "puts", "(I)I"⟩
abbrev cX9_put : ByteArray := prog_11_method_37_code
def yX9_put : MethodName := ⟨RX9, "put", "(I)I"⟩
abbrev cX9_drops : ByteArray := prog_11_method_38_code
def yX9_drops : MethodName := ⟨RX9, "drops", "(I)I"⟩
abbrev cX9_drop : ByteArray := prog_11_method_39_code
def yX9_drop : MethodName := ⟨RX9, "drop", "(I)I"⟩
abbrev cX9_beReset : ByteArray := prog_11_method_40_code
def yX9_beReset : MethodName := ⟨RX9, "beReset", "(I)V"⟩
abbrev cX9_resets : ByteArray := prog_11_method_41_code
def yX9_resets : MethodName := ⟨RX9, "resets", "()I"⟩
abbrev cX9_reset : ByteArray := prog_11_method_42_code
def yX9_reset : MethodName := ⟨RX9, "reset", "()I"⟩
abbrev cX9_seals : ByteArray := prog_11_method_43_code
def yX9_seals : MethodName := ⟨RX9, "seals", "()I"⟩
abbrev cX9_seal : ByteArray := prog_11_method_44_code
def yX9_seal : MethodName := ⟨RX9, "seal", "()I"⟩
abbrev cX9_putsDown : ByteArray := prog_11_method_45_code
def yX9_putsDown : MethodName := ⟨RX9, "putsDown", "()Z"⟩
abbrev cX9_cleans : ByteArray := prog_11_method_46_code
def yX9_cleans : MethodName := ⟨RX9, "cleans", "()I"⟩
abbrev cX9_clean : ByteArray := prog_11_method_47_code
def yX9_clean : MethodName := ⟨RX9, "clean", "()I"⟩
abbrev cX9_dusk : ByteArray := prog_11_method_48_code
def yX9_dusk : MethodName := ⟨RX9, "dusk", "()I"⟩
abbrev cX9_type : ByteArray := prog_11_method_49_code
def yX9_type : MethodName := ⟨RX9, "type", "(C)I"⟩
abbrev cX9_clearText : ByteArray := prog_11_method_50_code
def yX9_clearText : MethodName := ⟨RX9, "clearText", "()I"⟩
abbrev cX9_look : ByteArray := prog_11_method_51_code
def yX9_look : MethodName := ⟨RX9, "look", "()I"⟩
abbrev cX9_must : ByteArray := prog_11_method_52_code
def yX9_must : MethodName := ⟨RX9, "must", "(Z)V"⟩
abbrev cX9_number : ByteArray := prog_11_method_53_code
def yX9_number : MethodName := ⟨RX9, "number", "()I"⟩
abbrev cX9_order : ByteArray := prog_11_method_54_code
def yX9_order : MethodName := ⟨RX9, "order", "(I)V"⟩
abbrev cX9_done : ByteArray := prog_11_method_55_code
def yX9_done : MethodName := ⟨RX9, "done", "(I)I"⟩
abbrev cX9_perform : ByteArray := prog_11_method_56_code
def yX9_perform : MethodName := ⟨RX9, "perform", "()I"⟩
abbrev cX9_undo : ByteArray := prog_11_method_57_code
def yX9_undo : MethodName := ⟨RX9, "undo", "()I"⟩
abbrev cX9_keep : ByteArray := prog_11_method_58_code
def yX9_keep : MethodName := ⟨RX9, "keep", "()I"⟩
abbrev cX9_restore : ByteArray := prog_11_method_59_code
def yX9_restore : MethodName := ⟨RX9, "restore", "()I"⟩
abbrev cX9_zone : ByteArray := prog_11_method_60_code
def yX9_zone : MethodName := ⟨RX9, "zone", "(II)I"⟩
abbrev cX9_slot : ByteArray := prog_11_method_61_code
def yX9_slot : MethodName := ⟨RX9, "slot", "(III)I"⟩
abbrev cX9_load : ByteArray := prog_11_method_62_code
def yX9_load : MethodName := ⟨RX9, "load", "(II)I"⟩
abbrev cX9_scan : ByteArray := prog_11_method_63_code
def yX9_scan : MethodName := ⟨RX9, "scan", "(I)I"⟩
abbrev cX9_caravan : ByteArray := prog_11_method_64_code
def yX9_caravan : MethodName := ⟨RX9, "caravan", "(I)I"⟩
abbrev cX9_bagAt : ByteArray := prog_11_method_65_code
def yX9_bagAt : MethodName := ⟨RX9, "bagAt", "(I)I"⟩
abbrev cX9_waterTo : ByteArray := prog_11_method_66_code
def yX9_waterTo : MethodName := ⟨RX9, "waterTo", "(I)I"⟩
abbrev cX9_worst : ByteArray := prog_11_method_67_code
def yX9_worst : MethodName := ⟨RX9, "worst", "()I"⟩
abbrev cX9_nearestFor : ByteArray := prog_11_method_68_code
def yX9_nearestFor : MethodName := ⟨RX9, "nearestFor", "(I)I"⟩
abbrev cX9_sum : ByteArray := prog_11_method_69_code
def yX9_sum : MethodName := ⟨RX9, "sum", "(I)I"⟩
abbrev cX9_hot : ByteArray := prog_11_method_70_code
def yX9_hot : MethodName := ⟨RX9, "hot", "()I"⟩
abbrev cX9_count : ByteArray := prog_11_method_71_code
def yX9_count : MethodName := ⟨RX9, "count", "(I)I"⟩
def RJ9 : String := "java/lang/Math"
def TJ9 : u_T := fun k => match k with
  | _ => ("", "", "", false)
def tyJ9 : Nat → FieldType := fun k => match k with
  | _ => .int
abbrev wsJ90 : List Cond := u_ws RJ9 TJ9 0
theorem nmJ9 : ∀ a, a < 0 → ∀ b, b < 0 → a ≠ b → (TJ9 a).2.1 ≠ (TJ9 b).2.1 := by decide +kernel
theorem tyJ9_ok : ∀ k, k < 0 → parseFieldDescriptor (TJ9 k).2.2.1 = some (tyJ9 k) := by decide +kernel
abbrev cJ9_max_7cf53 : ByteArray := prog_12_method_65_code
def yJ9_max_7cf53 : MethodName := ⟨RJ9, "max", "(II)I"⟩
abbrev cJ9_min_7cf53 : ByteArray := prog_12_method_69_code
def yJ9_min_7cf53 : MethodName := ⟨RJ9, "min", "(II)I"⟩
def RL : String := "CaravanZonesLaw"
abbrev cL_law : ByteArray := code
def yL_law : MethodName := ⟨RL, "law", "([I)Z"⟩
theorem inJ9 : ∀ w ∈ wsJ90, w ∈ lw_tbl := by decide +kernel
abbrev vwCl : List vw_C := [(RX0, TX0, 9), (RX1, TX1, 3), (RX2, TX2, 4), (RX3, TX3, 5), (RX4, TX4, 11), (RX5, TX5, 1), (RX7, TX7, 3), (RX8, TX8, 6), (RX9, TX9, 13)]
end
section
/-! THE ENGINE: an abstract machine for the bytecode that this claim holds, over a heap of numbered cells. A cell: a shape (kind, length, its references) and its ints. Kinds 0 to 8: objects of vwCl; 9 int rows, 10 boolean rows, 11 rows of World; 99 none. -/
abbrev az_V : Type := Option Value
abbrev az_Sh : Type := Nat × Nat × List (Option (Option Nat))
abbrev az_H : Type := Nat × (Nat → az_Sh) × (Nat → Nat → Int32) × Nat
abbrev az_I : Type := Nat × Nat × Nat × Nat × Int32 × Nat × List (Int32 × Nat)
abbrev az_R : Type := Option Value × az_H
abbrev az_S : Type := Nat × List az_V × List Value × az_H
def az_up (f : Nat → Nat → Int32) (a k : Nat) (x : Int32) : Nat → Nat → Int32 := fun b j => if b = a ∧ j = k then x else f b j
def az_put {α : Type} (f : Nat → α) (a : Nat) (x : α) : Nat → α := fun b => if b = a then x else f b
def az_get : List az_V → Nat → az_V
  | [], _ => none
  | x :: _, 0 => x
  | _ :: r, n + 1 => az_get r n
def az_set {β : Type} : List az_V → Nat → Value → (List az_V → Option β) → Option β
  | [], _, _, _ => none
  | _ :: r, 0, v, k => k (some v :: r)
  | x :: r, n + 1, v, k => az_set r n v (fun ys => k (x :: ys))
def az_nth {α : Type} : List α → Nat → Option α
  | [], _ => none
  | x :: _, 0 => some x
  | _ :: r, n + 1 => az_nth r n
def az_sub {α : Type} : List α → Nat → α → List α
  | [], _, _ => []
  | _ :: r, 0, v => v :: r
  | x :: r, n + 1, v => x :: az_sub r n v
def az_pop {β : Type} : Nat → List Value → List Value → (List Value → List Value → Option β) → Option β
  | 0, st, acc, k => k acc st
  | n + 1, v :: r, acc, k => az_pop n r (v :: acc) k
  | _ + 1, [], _, _ => none
def az_app : Option Value → List Value → List Value
  | none, r => r
  | some v, r => v :: r
def az_in (i : Int32) (n : Nat) : Bool := decide (0 ≤ i.toInt) && decide (i.toInt < n)
def az_bit (x : Int32) : Bool := decide (x = 0) || decide (x = 1)
def az_rv : Option (Option (Option Nat)) → Value
  | some (some (some q)) => .ref q
  | _ => .null
def az_dflt : Nat → List (Option (Option Nat))
  | 0 => [none, none, none, none, none, none, none, none, some none]
  | 1 => [some none, none, none]
  | 2 => [none, some none, some none, some none]
  | 3 => [some none, none, some none, some none, none]
  | 4 => [none, none, none, none, some none, some none, some none, some none, some none, some none, some none]
  | 5 => [some none]
  | 6 => [some none, some none, some none]
  | 7 => [some none, some none, some none, none, some none, some none]
  | _ => [none, some none, some none, some none, none, some none, none, some none, none, some none, none, none, some none]
/-- the straight instructions: 0..2 a constant, 3 4 iload, 5 6 aload, 7 8 istore, 9 10 astore, 11 iinc, 12 iadd, 13 isub, 14 imul, 15 iand, 16 dup, 17 pop, 18 i2c, 19 goto, 20 aconst_null, 21 22 getfield, 23 24 putfield of an int, 25 of a final reference, 26 arraylength, 27 new, 28 Object.<init>, 29 ifnull, 30 ifnonnull -/
def az_st1 : az_I → List az_V → List Value → az_H → Option az_S
  | (t, a, b, c, im, nx, _), ls, stk, h =>
    bif Nat.ble t 10 then
      bif Nat.ble t 2 then some (nx, ls, .int im :: stk, h)
      else bif Nat.ble t 4 then (match az_get ls a with
        | some (.int x) => some (nx, ls, .int x :: stk, h)
        | _ => none)
      else bif Nat.ble t 6 then (match az_get ls a with
        | some (.ref q) => some (nx, ls, .ref q :: stk, h)
        | some .null => some (nx, ls, .null :: stk, h)
        | _ => none)
      else bif Nat.ble t 8 then (match stk with
        | .int x :: r => az_set ls a (.int x) (fun ls' => some (nx, ls', r, h))
        | _ => none)
      else (match stk with
        | .ref q :: r => az_set ls a (.ref q) (fun ls' => some (nx, ls', r, h))
        | .null :: r => az_set ls a .null (fun ls' => some (nx, ls', r, h))
        | _ => none)
    else bif Nat.ble t 15 then
      bif Nat.beq t 11 then (match az_get ls a with
        | some (.int x) => az_set ls a (.int (x + im)) (fun ls' => some (nx, ls', stk, h))
        | _ => none)
      else (match stk with
        | .int y :: .int x :: r =>
          bif Nat.beq t 12 then some (nx, ls, .int (x + y) :: r, h)
          else bif Nat.beq t 13 then some (nx, ls, .int (x - y) :: r, h)
          else bif Nat.beq t 14 then some (nx, ls, .int (x * y) :: r, h)
          else some (nx, ls, .int (x &&& y) :: r, h)
        | _ => none)
    else bif Nat.ble t 20 then
      bif Nat.beq t 16 then (match stk with
        | .ref q :: r => some (nx, ls, .ref q :: .ref q :: r, h)
        | _ => none)
      else bif Nat.beq t 17 then (match stk with
        | .int _ :: r => some (nx, ls, r, h)
        | _ => none)
      else bif Nat.beq t 18 then (match stk with
        | .int x :: r => some (nx, ls, .int ((x.toUInt32 % 65536).toInt32) :: r, h)
        | _ => none)
      else bif Nat.beq t 19 then some (a, ls, stk, h)
      else some (nx, ls, .null :: stk, h)
    else bif Nat.ble t 25 then
      bif Nat.ble t 22 then (match stk with
        | .ref q :: r => (match h.2.1 q with
          | (kd, _, rs) => bif Nat.beq kd b then (match az_nth rs c with
            | some none => some (nx, ls, .int (h.2.2.1 q c) :: r, h)
            | some (some none) => some (nx, ls, .null :: r, h)
            | some (some (some q2)) => some (nx, ls, .ref q2 :: r, h)
            | none => none) else none)
        | _ => none)
      else bif Nat.ble t 24 then (match stk with
        | .int x :: .ref q :: r => (match h.2.1 q with
          | (kd, _, rs) => bif Nat.beq kd b then (match az_nth rs c with
            | some none => some (nx, ls, r, (h.1, h.2.1, az_up h.2.2.1 q c x, h.2.2.2))
            | _ => none) else none)
        | _ => none)
      else (match stk with
        | .ref v :: .ref q :: r => (match h.2.1 q with
          | (kd, ln, rs) => bif Nat.beq kd b then (match az_nth rs c with
            | some (some _) => some (nx, ls, r, (h.1, az_put h.2.1 q (kd, ln, az_sub rs c (some (some v))), h.2.2.1, h.2.2.2))
            | _ => none) else none)
        | _ => none)
    else bif Nat.ble t 30 then
      bif Nat.beq t 26 then (match stk with
        | .ref q :: r => (match h.2.1 q with
          | (kd, ln, _) => bif Nat.ble 9 kd && Nat.ble kd 11 then some (nx, ls, .int (Int32.ofNat ln) :: r, h) else none)
        | _ => none)
      else bif Nat.beq t 27 then some (nx, ls, .ref h.1 :: stk, (h.1 + 1, az_put h.2.1 h.1 (b, 0, az_dflt b), az_put h.2.2.1 h.1 (fun _ => 0), h.2.2.2 + c))
      else bif Nat.beq t 28 then (match stk with
        | .ref _ :: r => some (nx, ls, r, h)
        | _ => none)
      else bif Nat.beq t 29 then (match stk with
        | .ref _ :: r => some (nx, ls, r, h)
        | .null :: r => some (a, ls, r, h)
        | _ => none)
      else (match stk with
        | .ref _ :: r => some (a, ls, r, h)
        | .null :: r => some (nx, ls, r, h)
        | _ => none)
    else none
/-- those with a guard: 31 idiv, 32 irem, 33 iaload, 34 iastore, 35 baload, 36 bastore, 37 aaload, 38 aastore, 39 putfield of a boolean, 40 new int[], 41 new boolean[], 42 new World[] -/
def az_gd : az_I → List Value → az_H → Option (Bool × Nat × List Value × az_H)
  | (t, _, b, c, _, nx, _), stk, h =>
    bif Nat.ble t 30 then none
    else bif Nat.ble t 32 then (match stk with
      | .int y :: .int x :: r => some (!decide (y = 0), nx, .int (bif Nat.beq t 31 then x / y else x - x / y * y) :: r, h)
      | _ => none)
    else bif Nat.beq t 33 then (match stk with
      | .int i :: .ref q :: r => (match h.2.1 q with
        | (kd, ln, _) => bif Nat.beq kd 9 then some (az_in i ln, nx, .int (h.2.2.1 q i.toNatClampNeg) :: r, h) else none)
      | _ => none)
    else bif Nat.beq t 34 then (match stk with
      | .int x :: .int i :: .ref q :: r => (match h.2.1 q with
        | (kd, ln, _) => bif Nat.beq kd 9 then some (az_in i ln, nx, r, (h.1, h.2.1, az_up h.2.2.1 q i.toNatClampNeg x, h.2.2.2)) else none)
      | _ => none)
    else bif Nat.beq t 35 then (match stk with
      | .int i :: .ref q :: r => (match h.2.1 q with
        | (kd, ln, _) => bif Nat.beq kd 10 then some (az_in i ln, nx, .int (h.2.2.1 q i.toNatClampNeg) :: r, h) else none)
      | _ => none)
    else bif Nat.beq t 36 then (match stk with
      | .int x :: .int i :: .ref q :: r => (match h.2.1 q with
        | (kd, ln, _) => bif Nat.beq kd 10 then some (az_in i ln && az_bit x, nx, r, (h.1, h.2.1, az_up h.2.2.1 q i.toNatClampNeg x, h.2.2.2)) else none)
      | _ => none)
    else bif Nat.beq t 37 then (match stk with
      | .int i :: .ref q :: r => (match h.2.1 q with
        | (kd, ln, rs) => bif Nat.beq kd 11 then some (az_in i ln, nx, az_rv (az_nth rs i.toNatClampNeg) :: r, h) else none)
      | _ => none)
    else bif Nat.beq t 38 then (match stk with
      | .ref v :: .int i :: .ref q :: r => (match h.2.1 q with
        | (kd, ln, rs) => bif Nat.beq kd 11 then some (az_in i ln && Nat.beq (h.2.1 v).1 6, nx, r, (h.1, az_put h.2.1 q (kd, ln, az_sub rs i.toNatClampNeg (some (some v))), h.2.2.1, h.2.2.2)) else none)
      | _ => none)
    else bif Nat.beq t 39 then (match stk with
      | .int x :: .ref q :: r => (match h.2.1 q with
        | (kd, _, rs) => bif Nat.beq kd b then (match az_nth rs c with
          | some none => some (az_bit x, nx, r, (h.1, h.2.1, az_up h.2.2.1 q c x, h.2.2.2))
          | _ => none) else none)
      | _ => none)
    else bif Nat.ble t 41 then (match stk with
      | .int n :: r => some (az_in n 65536, nx, .ref h.1 :: r, (h.1 + 1, az_put h.2.1 h.1 (bif Nat.beq t 40 then 9 else 10, n.toNatClampNeg, []), az_put h.2.2.1 h.1 (fun _ => 0), h.2.2.2 + n.toNatClampNeg))
      | _ => none)
    else bif Nat.beq t 42 then (match stk with
      | .int n :: r => some (az_in n 65536, nx, .ref h.1 :: r, (h.1 + 1, az_put h.2.1 h.1 (11, n.toNatClampNeg, List.replicate n.toNatClampNeg (some none)), az_put h.2.2.1 h.1 (fun _ => 0), h.2.2.2 + n.toNatClampNeg))
      | _ => none)
    else none
/-- the branches: 43 ifeq, 44 ifne, 45 iflt, 46 ifge, 47 ifgt, 48 ifle, 49 if_icmpeq, 50 ne, 51 lt, 52 ge, 53 gt, 54 le -/
def az_br : az_I → List Value → Option (Bool × Nat × Nat × List Value)
  | (t, a, _, _, _, nx, _), stk =>
    bif Nat.ble t 42 then none
    else bif Nat.ble t 48 then (match stk with
      | .int x :: r =>
        bif Nat.beq t 43 then some (decide (x = 0), a, nx, r)
        else bif Nat.beq t 44 then some (decide (x = 0), nx, a, r)
        else bif Nat.beq t 45 then some (decide (x < 0), a, nx, r)
        else bif Nat.beq t 46 then some (decide (0 ≤ x), a, nx, r)
        else bif Nat.beq t 47 then some (decide (0 < x), a, nx, r)
        else some (decide (x ≤ 0), a, nx, r)
      | _ => none)
    else bif Nat.ble t 54 then (match stk with
      | .int y :: .int x :: r =>
        bif Nat.beq t 49 then some (decide (x = y), a, nx, r)
        else bif Nat.beq t 50 then some (decide (x = y), nx, a, r)
        else bif Nat.beq t 51 then some (decide (x < y), a, nx, r)
        else bif Nat.beq t 52 then some (decide (y ≤ x), a, nx, r)
        else bif Nat.beq t 53 then some (decide (y < x), a, nx, r)
        else some (decide (x ≤ y), a, nx, r)
      | _ => none)
    else none
/-- 55 tableswitch, 56 lookupswitch -/
def az_sw : az_I → List Value → Option (Int32 × List (Int32 × Nat) × Nat × List Value)
  | (t, a, _, _, _, _, cs), stk =>
    bif Nat.ble 55 t && Nat.ble t 56 then (match stk with
      | .int x :: r => some (x, cs, a, r)
      | _ => none)
    else none
def az_swt : List (Int32 × Nat) → Nat → Int32 → Nat
  | [], d, _ => d
  | (k, t) :: r, d, x => bif decide (x = k) then t else az_swt r d x
/-- 57 invokevirtual (the receiver's kind: the first number of the list), 59 invokestatic, 60 a constructor, 61 a nest mate's -/
def az_cl : az_I → List Value → az_H → Option (Nat × List Value × List Value × Nat)
  | (t, _, b, c, _, nx, cs), stk, h =>
    bif Nat.beq t 57 then az_pop c stk [] (fun as r => match as, cs with
      | .ref q :: as', (_, kd) :: _ => bif Nat.beq (h.2.1 q).1 kd then some (b, .ref q :: as', r, nx) else none
      | _, _ => none)
    else bif Nat.beq t 59 then az_pop c stk [] (fun as r => some (b, as, r, nx))
    else bif Nat.beq t 60 || Nat.beq t 61 then az_pop c stk [] (fun as r => match as with
      | .ref q :: as' => some (b, .ref q :: as', r, nx)
      | _ => none)
    else none
/-- 62 ireturn, 63 return, 64 areturn, 65 ireturn of a boolean -/
def az_rt : az_I → List Value → Option (Bool × Option Value)
  | (t, _, _, _, _, _, _), stk =>
    bif Nat.beq t 62 then (match stk with
      | [.int x] => some (true, some (.int x))
      | _ => none)
    else bif Nat.beq t 63 then (match stk with
      | [] => some (true, none)
      | _ => none)
    else bif Nat.beq t 64 then (match stk with
      | [.ref q] => some (true, some (.ref q))
      | [.null] => some (true, some .null)
      | _ => none)
    else bif Nat.beq t 65 then (match stk with
      | [.int x] => some (az_bit x, some (.int x))
      | _ => none)
    else none
def az_step (call : Nat → List Value → az_H → Option az_R) (i : az_I) (ls : List az_V) (stk : List Value) (h : az_H) (k : Nat → List az_V → List Value → az_H → Option az_R) : Option az_R :=
  match az_st1 i ls stk h with
  | some (p', ls', stk', h') => k p' ls' stk' h'
  | none => match az_gd i stk h with
    | some (g, p', stk', h') => bif g then k p' ls stk' h' else none
    | none => match az_br i stk with
      | some (g, t, f, stk') => bif g then k t ls stk' h else k f ls stk' h
      | none => match az_sw i stk with
        | some (x, cs, d, stk') => k (az_swt cs d x) ls stk' h
        | none => match az_cl i stk h with
          | some (mid, as, rest, nx) => bif Nat.ble rest.length 8 then (match call mid as h with
            | some (r, h') => k nx ls (az_app r rest) h'
            | none => none) else none
          | none => match az_rt i stk with
            | some (g, r) => bif g then some (r, h) else none
            | none => none
def az_run (call : Nat → List Value → az_H → Option az_R) (code : Nat → Option az_I) : Nat → Nat → List az_V → List Value → az_H → Option az_R
  | 0, _, _, _, _ => none
  | n + 1, p, ls, stk, h => match code p with
    | none => none
    | some i => az_step call i ls stk h (az_run call code n)
def az_lin : List Value → Nat → List az_V
  | _, 0 => []
  | [], n + 1 => none :: az_lin [] n
  | v :: r, n + 1 => some v :: az_lin r n
end
