section
-- ===== PART A: goes FIRST, ahead of the names: the tables' words, and 'selects' of the private methods out of them =====
/-- a private method of a class that the tables say can be made, by its rows of tables_1 -/
def lw_okq (q : MethodName × Nat) : Prop := (q.1.cls ≠ "java/lang/invoke/MethodHandle" ∧ q.1.cls ≠ "java/lang/invoke/VarHandle") ∧ Cond.instantiable q.1.cls q.2 ∈ tables_1 ∧ Cond.privateMethod q.1 ∈ tables_1 ∧ Cond.instanceMethod q.1 ∈ tables_1
theorem lw_p0 : lw_okq (⟨"CanyonRafts", "finding", "(I)I"⟩, 7) := ⟨⟨by decide +kernel, by decide +kernel⟩, List.mem_of_getElem? (i := 14) (by decide +kernel), List.mem_of_getElem? (i := 218) (by decide +kernel), List.mem_of_getElem? (i := 219) (by decide +kernel)⟩
theorem lw_p1 : lw_okq (⟨"CanyonRafts", "change", "([III)I"⟩, 7) := ⟨⟨by decide +kernel, by decide +kernel⟩, List.mem_of_getElem? (i := 14) (by decide +kernel), List.mem_of_getElem? (i := 222) (by decide +kernel), List.mem_of_getElem? (i := 223) (by decide +kernel)⟩
theorem lw_p2 : lw_okq (⟨"CanyonRafts", "isTrip", "(I)Z"⟩, 7) := ⟨⟨by decide +kernel, by decide +kernel⟩, List.mem_of_getElem? (i := 14) (by decide +kernel), List.mem_of_getElem? (i := 320) (by decide +kernel), List.mem_of_getElem? (i := 321) (by decide +kernel)⟩
theorem lw_p3 : lw_okq (⟨"CanyonRafts", "keepTrips", "(II)V"⟩, 7) := ⟨⟨by decide +kernel, by decide +kernel⟩, List.mem_of_getElem? (i := 14) (by decide +kernel), List.mem_of_getElem? (i := 344) (by decide +kernel), List.mem_of_getElem? (i := 345) (by decide +kernel)⟩
theorem lw_p4 : lw_okq (⟨"CanyonRafts", "isCamp", "(I)Z"⟩, 7) := ⟨⟨by decide +kernel, by decide +kernel⟩, List.mem_of_getElem? (i := 14) (by decide +kernel), List.mem_of_getElem? (i := 353) (by decide +kernel), List.mem_of_getElem? (i := 354) (by decide +kernel)⟩
theorem lw_p5 : lw_okq (⟨"CanyonRafts$Planner", "startAhead", "()V"⟩, 5) := ⟨⟨by decide +kernel, by decide +kernel⟩, List.mem_of_getElem? (i := 88) (by decide +kernel), List.mem_of_getElem? (i := 386) (by decide +kernel), List.mem_of_getElem? (i := 387) (by decide +kernel)⟩
theorem lw_p6 : lw_okq (⟨"CanyonRafts$Planner", "placesAhead", "(I)I"⟩, 5) := ⟨⟨by decide +kernel, by decide +kernel⟩, List.mem_of_getElem? (i := 88) (by decide +kernel), List.mem_of_getElem? (i := 391) (by decide +kernel), List.mem_of_getElem? (i := 392) (by decide +kernel)⟩
theorem lw_p7 : lw_okq (⟨"CanyonRafts$Planner", "findEnders", "(LCanyonRafts$River;III)V"⟩, 5) := ⟨⟨by decide +kernel, by decide +kernel⟩, List.mem_of_getElem? (i := 88) (by decide +kernel), List.mem_of_getElem? (i := 400) (by decide +kernel), List.mem_of_getElem? (i := 401) (by decide +kernel)⟩
theorem lw_p8 : lw_okq (⟨"CanyonRafts$Planner", "findLeads", "(LCanyonRafts$River;IIII)V"⟩, 5) := ⟨⟨by decide +kernel, by decide +kernel⟩, List.mem_of_getElem? (i := 88) (by decide +kernel), List.mem_of_getElem? (i := 425) (by decide +kernel), List.mem_of_getElem? (i := 426) (by decide +kernel)⟩
theorem lw_p9 : lw_okq (⟨"CanyonRafts$Planner", "spread", "(III)V"⟩, 5) := ⟨⟨by decide +kernel, by decide +kernel⟩, List.mem_of_getElem? (i := 88) (by decide +kernel), List.mem_of_getElem? (i := 433) (by decide +kernel), List.mem_of_getElem? (i := 434) (by decide +kernel)⟩
theorem lw_p10 : lw_okq (⟨"CanyonRafts$Planner", "dropDeadEnds", "()V"⟩, 5) := ⟨⟨by decide +kernel, by decide +kernel⟩, List.mem_of_getElem? (i := 88) (by decide +kernel), List.mem_of_getElem? (i := 437) (by decide +kernel), List.mem_of_getElem? (i := 438) (by decide +kernel)⟩
theorem lw_p11 : lw_okq (⟨"CanyonRafts$Planner", "goesOn", "(III)Z"⟩, 5) := ⟨⟨by decide +kernel, by decide +kernel⟩, List.mem_of_getElem? (i := 88) (by decide +kernel), List.mem_of_getElem? (i := 441) (by decide +kernel), List.mem_of_getElem? (i := 442) (by decide +kernel)⟩
theorem lw_p12 : lw_okq (⟨"CanyonRafts$Planner", "goers", "(III)I"⟩, 5) := ⟨⟨by decide +kernel, by decide +kernel⟩, List.mem_of_getElem? (i := 88) (by decide +kernel), List.mem_of_getElem? (i := 445) (by decide +kernel), List.mem_of_getElem? (i := 446) (by decide +kernel)⟩
theorem lw_p13 : lw_okq (⟨"CanyonRafts$Planner", "mayStay", "(III)Z"⟩, 5) := ⟨⟨by decide +kernel, by decide +kernel⟩, List.mem_of_getElem? (i := 88) (by decide +kernel), List.mem_of_getElem? (i := 449) (by decide +kernel), List.mem_of_getElem? (i := 450) (by decide +kernel)⟩
theorem lw_p14 : lw_okq (⟨"CanyonRafts$Planner", "chooseCamps", "()V"⟩, 5) := ⟨⟨by decide +kernel, by decide +kernel⟩, List.mem_of_getElem? (i := 88) (by decide +kernel), List.mem_of_getElem? (i := 453) (by decide +kernel), List.mem_of_getElem? (i := 454) (by decide +kernel)⟩
theorem lw_p15 : lw_okq (⟨"CanyonRafts", "isSet", "(I)Z"⟩, 7) := ⟨⟨by decide +kernel, by decide +kernel⟩, List.mem_of_getElem? (i := 14) (by decide +kernel), List.mem_of_getElem? (i := 478) (by decide +kernel), List.mem_of_getElem? (i := 479) (by decide +kernel)⟩
def lw_privs_1 : List (MethodName × Nat) := [(⟨"CanyonRafts", "finding", "(I)I"⟩, 7), (⟨"CanyonRafts", "change", "([III)I"⟩, 7), (⟨"CanyonRafts", "isTrip", "(I)Z"⟩, 7), (⟨"CanyonRafts", "keepTrips", "(II)V"⟩, 7), (⟨"CanyonRafts", "isCamp", "(I)Z"⟩, 7), (⟨"CanyonRafts$Planner", "startAhead", "()V"⟩, 5), (⟨"CanyonRafts$Planner", "placesAhead", "(I)I"⟩, 5), (⟨"CanyonRafts$Planner", "findEnders", "(LCanyonRafts$River;III)V"⟩, 5), (⟨"CanyonRafts$Planner", "findLeads", "(LCanyonRafts$River;IIII)V"⟩, 5), (⟨"CanyonRafts$Planner", "spread", "(III)V"⟩, 5), (⟨"CanyonRafts$Planner", "dropDeadEnds", "()V"⟩, 5), (⟨"CanyonRafts$Planner", "goesOn", "(III)Z"⟩, 5), (⟨"CanyonRafts$Planner", "goers", "(III)I"⟩, 5), (⟨"CanyonRafts$Planner", "mayStay", "(III)Z"⟩, 5), (⟨"CanyonRafts$Planner", "chooseCamps", "()V"⟩, 5), (⟨"CanyonRafts", "isSet", "(I)Z"⟩, 7)]
theorem lw_r1 : ∀ q ∈ lw_privs_1, lw_okq q := List.forall_mem_cons.mpr ⟨lw_p0, List.forall_mem_cons.mpr ⟨lw_p1, List.forall_mem_cons.mpr ⟨lw_p2, List.forall_mem_cons.mpr ⟨lw_p3, List.forall_mem_cons.mpr ⟨lw_p4, List.forall_mem_cons.mpr ⟨lw_p5, List.forall_mem_cons.mpr ⟨lw_p6, List.forall_mem_cons.mpr ⟨lw_p7, List.forall_mem_cons.mpr ⟨lw_p8, List.forall_mem_cons.mpr ⟨lw_p9, List.forall_mem_cons.mpr ⟨lw_p10, List.forall_mem_cons.mpr ⟨lw_p11, List.forall_mem_cons.mpr ⟨lw_p12, List.forall_mem_cons.mpr ⟨lw_p13, List.forall_mem_cons.mpr ⟨lw_p14, List.forall_mem_cons.mpr ⟨lw_p15, fun _ h => absurd h List.not_mem_nil⟩⟩⟩⟩⟩⟩⟩⟩⟩⟩⟩⟩⟩⟩⟩⟩
theorem lw_p16 : lw_okq (⟨"CanyonRafts", "isApplicant", "(I)Z"⟩, 7) := ⟨⟨by decide +kernel, by decide +kernel⟩, List.mem_of_getElem? (i := 14) (by decide +kernel), List.mem_of_getElem? (i := 529) (by decide +kernel), List.mem_of_getElem? (i := 530) (by decide +kernel)⟩
theorem lw_p17 : lw_okq (⟨"CanyonRafts$Lots", "owner", "(II)I"⟩, 3) := ⟨⟨by decide +kernel, by decide +kernel⟩, List.mem_of_getElem? (i := 112) (by decide +kernel), List.mem_of_getElem? (i := 562) (by decide +kernel), List.mem_of_getElem? (i := 563) (by decide +kernel)⟩
theorem lw_p18 : lw_okq (⟨"CanyonRaftsModel", "finding", "(I)I"⟩, 13) := ⟨⟨by decide +kernel, by decide +kernel⟩, List.mem_of_getElem? (i := 629) (by decide +kernel), List.mem_of_getElem? (i := 680) (by decide +kernel), List.mem_of_getElem? (i := 681) (by decide +kernel)⟩
theorem lw_p19 : lw_okq (⟨"CanyonRaftsModel", "becomes", "(II)I"⟩, 13) := ⟨⟨by decide +kernel, by decide +kernel⟩, List.mem_of_getElem? (i := 629) (by decide +kernel), List.mem_of_getElem? (i := 691) (by decide +kernel), List.mem_of_getElem? (i := 692) (by decide +kernel)⟩
theorem lw_p20 : lw_okq (⟨"CanyonRaftsModel", "keep", "()V"⟩, 13) := ⟨⟨by decide +kernel, by decide +kernel⟩, List.mem_of_getElem? (i := 629) (by decide +kernel), List.mem_of_getElem? (i := 695) (by decide +kernel), List.mem_of_getElem? (i := 696) (by decide +kernel)⟩
theorem lw_p21 : lw_okq (⟨"CanyonRaftsModel", "waterOf", "(III)I"⟩, 13) := ⟨⟨by decide +kernel, by decide +kernel⟩, List.mem_of_getElem? (i := 629) (by decide +kernel), List.mem_of_getElem? (i := 732) (by decide +kernel), List.mem_of_getElem? (i := 733) (by decide +kernel)⟩
theorem lw_p22 : lw_okq (⟨"CanyonRaftsModel", "isRapid", "(I)Z"⟩, 13) := ⟨⟨by decide +kernel, by decide +kernel⟩, List.mem_of_getElem? (i := 629) (by decide +kernel), List.mem_of_getElem? (i := 740) (by decide +kernel), List.mem_of_getElem? (i := 741) (by decide +kernel)⟩
theorem lw_p23 : lw_okq (⟨"CanyonRaftsModel", "hourOf", "(III)I"⟩, 13) := ⟨⟨by decide +kernel, by decide +kernel⟩, List.mem_of_getElem? (i := 629) (by decide +kernel), List.mem_of_getElem? (i := 744) (by decide +kernel), List.mem_of_getElem? (i := 745) (by decide +kernel)⟩
theorem lw_p24 : lw_okq (⟨"CanyonRaftsModel", "noNights", "(I)V"⟩, 13) := ⟨⟨by decide +kernel, by decide +kernel⟩, List.mem_of_getElem? (i := 629) (by decide +kernel), List.mem_of_getElem? (i := 752) (by decide +kernel), List.mem_of_getElem? (i := 753) (by decide +kernel)⟩
theorem lw_p25 : lw_okq (⟨"CanyonRaftsModel", "isTrip", "(I)Z"⟩, 13) := ⟨⟨by decide +kernel, by decide +kernel⟩, List.mem_of_getElem? (i := 629) (by decide +kernel), List.mem_of_getElem? (i := 760) (by decide +kernel), List.mem_of_getElem? (i := 761) (by decide +kernel)⟩
theorem lw_p26 : lw_okq (⟨"CanyonRaftsModel", "told", "(II)I"⟩, 13) := ⟨⟨by decide +kernel, by decide +kernel⟩, List.mem_of_getElem? (i := 629) (by decide +kernel), List.mem_of_getElem? (i := 764) (by decide +kernel), List.mem_of_getElem? (i := 765) (by decide +kernel)⟩
theorem lw_p27 : lw_okq (⟨"CanyonRaftsModel", "isCamp", "(I)Z"⟩, 13) := ⟨⟨by decide +kernel, by decide +kernel⟩, List.mem_of_getElem? (i := 629) (by decide +kernel), List.mem_of_getElem? (i := 781) (by decide +kernel), List.mem_of_getElem? (i := 782) (by decide +kernel)⟩
theorem lw_p28 : lw_okq (⟨"CanyonRaftsModel", "other", "(III)I"⟩, 13) := ⟨⟨by decide +kernel, by decide +kernel⟩, List.mem_of_getElem? (i := 629) (by decide +kernel), List.mem_of_getElem? (i := 785) (by decide +kernel), List.mem_of_getElem? (i := 786) (by decide +kernel)⟩
theorem lw_p29 : lw_okq (⟨"CanyonRaftsModel", "mayCamp", "(II)Z"⟩, 13) := ⟨⟨by decide +kernel, by decide +kernel⟩, List.mem_of_getElem? (i := 629) (by decide +kernel), List.mem_of_getElem? (i := 790) (by decide +kernel), List.mem_of_getElem? (i := 791) (by decide +kernel)⟩
theorem lw_p30 : lw_okq (⟨"CanyonRaftsModel", "tell", "(I)I"⟩, 13) := ⟨⟨by decide +kernel, by decide +kernel⟩, List.mem_of_getElem? (i := 629) (by decide +kernel), List.mem_of_getElem? (i := 806) (by decide +kernel), List.mem_of_getElem? (i := 807) (by decide +kernel)⟩
theorem lw_p31 : lw_okq (⟨"CanyonRaftsModel", "leftFrom", "(IIII)I"⟩, 13) := ⟨⟨by decide +kernel, by decide +kernel⟩, List.mem_of_getElem? (i := 629) (by decide +kernel), List.mem_of_getElem? (i := 810) (by decide +kernel), List.mem_of_getElem? (i := 811) (by decide +kernel)⟩
def lw_privs_2 : List (MethodName × Nat) := [(⟨"CanyonRafts", "isApplicant", "(I)Z"⟩, 7), (⟨"CanyonRafts$Lots", "owner", "(II)I"⟩, 3), (⟨"CanyonRaftsModel", "finding", "(I)I"⟩, 13), (⟨"CanyonRaftsModel", "becomes", "(II)I"⟩, 13), (⟨"CanyonRaftsModel", "keep", "()V"⟩, 13), (⟨"CanyonRaftsModel", "waterOf", "(III)I"⟩, 13), (⟨"CanyonRaftsModel", "isRapid", "(I)Z"⟩, 13), (⟨"CanyonRaftsModel", "hourOf", "(III)I"⟩, 13), (⟨"CanyonRaftsModel", "noNights", "(I)V"⟩, 13), (⟨"CanyonRaftsModel", "isTrip", "(I)Z"⟩, 13), (⟨"CanyonRaftsModel", "told", "(II)I"⟩, 13), (⟨"CanyonRaftsModel", "isCamp", "(I)Z"⟩, 13), (⟨"CanyonRaftsModel", "other", "(III)I"⟩, 13), (⟨"CanyonRaftsModel", "mayCamp", "(II)Z"⟩, 13), (⟨"CanyonRaftsModel", "tell", "(I)I"⟩, 13), (⟨"CanyonRaftsModel", "leftFrom", "(IIII)I"⟩, 13)]
theorem lw_r2 : ∀ q ∈ lw_privs_2, lw_okq q := List.forall_mem_cons.mpr ⟨lw_p16, List.forall_mem_cons.mpr ⟨lw_p17, List.forall_mem_cons.mpr ⟨lw_p18, List.forall_mem_cons.mpr ⟨lw_p19, List.forall_mem_cons.mpr ⟨lw_p20, List.forall_mem_cons.mpr ⟨lw_p21, List.forall_mem_cons.mpr ⟨lw_p22, List.forall_mem_cons.mpr ⟨lw_p23, List.forall_mem_cons.mpr ⟨lw_p24, List.forall_mem_cons.mpr ⟨lw_p25, List.forall_mem_cons.mpr ⟨lw_p26, List.forall_mem_cons.mpr ⟨lw_p27, List.forall_mem_cons.mpr ⟨lw_p28, List.forall_mem_cons.mpr ⟨lw_p29, List.forall_mem_cons.mpr ⟨lw_p30, List.forall_mem_cons.mpr ⟨lw_p31, fun _ h => absurd h List.not_mem_nil⟩⟩⟩⟩⟩⟩⟩⟩⟩⟩⟩⟩⟩⟩⟩⟩
theorem lw_p32 : lw_okq (⟨"CanyonRaftsModel", "canEnd", "(III)Z"⟩, 13) := ⟨⟨by decide +kernel, by decide +kernel⟩, List.mem_of_getElem? (i := 629) (by decide +kernel), List.mem_of_getElem? (i := 814) (by decide +kernel), List.mem_of_getElem? (i := 815) (by decide +kernel)⟩
theorem lw_p33 : lw_okq (⟨"CanyonRaftsModel", "mileOf", "(I)I"⟩, 13) := ⟨⟨by decide +kernel, by decide +kernel⟩, List.mem_of_getElem? (i := 629) (by decide +kernel), List.mem_of_getElem? (i := 818) (by decide +kernel), List.mem_of_getElem? (i := 819) (by decide +kernel)⟩
theorem lw_p34 : lw_okq (⟨"CanyonRaftsModel", "isOpen", "(IIII)Z"⟩, 13) := ⟨⟨by decide +kernel, by decide +kernel⟩, List.mem_of_getElem? (i := 629) (by decide +kernel), List.mem_of_getElem? (i := 822) (by decide +kernel), List.mem_of_getElem? (i := 823) (by decide +kernel)⟩
theorem lw_p35 : lw_okq (⟨"CanyonRaftsModel", "leftAt", "(III)I"⟩, 13) := ⟨⟨by decide +kernel, by decide +kernel⟩, List.mem_of_getElem? (i := 629) (by decide +kernel), List.mem_of_getElem? (i := 826) (by decide +kernel), List.mem_of_getElem? (i := 827) (by decide +kernel)⟩
theorem lw_p36 : lw_okq (⟨"CanyonRaftsModel", "canGo", "(IIII)Z"⟩, 13) := ⟨⟨by decide +kernel, by decide +kernel⟩, List.mem_of_getElem? (i := 629) (by decide +kernel), List.mem_of_getElem? (i := 830) (by decide +kernel), List.mem_of_getElem? (i := 831) (by decide +kernel)⟩
theorem lw_p37 : lw_okq (⟨"CanyonRaftsModel", "planOf", "(I)I"⟩, 13) := ⟨⟨by decide +kernel, by decide +kernel⟩, List.mem_of_getElem? (i := 629) (by decide +kernel), List.mem_of_getElem? (i := 838) (by decide +kernel), List.mem_of_getElem? (i := 839) (by decide +kernel)⟩
theorem lw_p38 : lw_okq (⟨"CanyonRaftsModel", "lay", "(II)V"⟩, 13) := ⟨⟨by decide +kernel, by decide +kernel⟩, List.mem_of_getElem? (i := 629) (by decide +kernel), List.mem_of_getElem? (i := 846) (by decide +kernel), List.mem_of_getElem? (i := 847) (by decide +kernel)⟩
theorem lw_p39 : lw_okq (⟨"CanyonRaftsModel", "isSet", "(I)Z"⟩, 13) := ⟨⟨by decide +kernel, by decide +kernel⟩, List.mem_of_getElem? (i := 629) (by decide +kernel), List.mem_of_getElem? (i := 854) (by decide +kernel), List.mem_of_getElem? (i := 855) (by decide +kernel)⟩
theorem lw_p40 : lw_okq (⟨"CanyonRaftsModel", "calendarOf", "(I)I"⟩, 13) := ⟨⟨by decide +kernel, by decide +kernel⟩, List.mem_of_getElem? (i := 629) (by decide +kernel), List.mem_of_getElem? (i := 858) (by decide +kernel), List.mem_of_getElem? (i := 859) (by decide +kernel)⟩
theorem lw_p41 : lw_okq (⟨"CanyonRaftsModel", "isApplicant", "(I)Z"⟩, 13) := ⟨⟨by decide +kernel, by decide +kernel⟩, List.mem_of_getElem? (i := 629) (by decide +kernel), List.mem_of_getElem? (i := 882) (by decide +kernel), List.mem_of_getElem? (i := 883) (by decide +kernel)⟩
theorem lw_p42 : lw_okq (⟨"CanyonRaftsModel", "weights", "()I"⟩, 13) := ⟨⟨by decide +kernel, by decide +kernel⟩, List.mem_of_getElem? (i := 629) (by decide +kernel), List.mem_of_getElem? (i := 890) (by decide +kernel), List.mem_of_getElem? (i := 891) (by decide +kernel)⟩
theorem lw_p43 : lw_okq (⟨"CanyonRaftsModel", "draw", "(I)V"⟩, 13) := ⟨⟨by decide +kernel, by decide +kernel⟩, List.mem_of_getElem? (i := 629) (by decide +kernel), List.mem_of_getElem? (i := 898) (by decide +kernel), List.mem_of_getElem? (i := 899) (by decide +kernel)⟩
theorem lw_p44 : lw_okq (⟨"CanyonRaftsModel", "hasPart", "(III)Z"⟩, 13) := ⟨⟨by decide +kernel, by decide +kernel⟩, List.mem_of_getElem? (i := 629) (by decide +kernel), List.mem_of_getElem? (i := 923) (by decide +kernel), List.mem_of_getElem? (i := 924) (by decide +kernel)⟩
def lw_privs_3 : List (MethodName × Nat) := [(⟨"CanyonRaftsModel", "canEnd", "(III)Z"⟩, 13), (⟨"CanyonRaftsModel", "mileOf", "(I)I"⟩, 13), (⟨"CanyonRaftsModel", "isOpen", "(IIII)Z"⟩, 13), (⟨"CanyonRaftsModel", "leftAt", "(III)I"⟩, 13), (⟨"CanyonRaftsModel", "canGo", "(IIII)Z"⟩, 13), (⟨"CanyonRaftsModel", "planOf", "(I)I"⟩, 13), (⟨"CanyonRaftsModel", "lay", "(II)V"⟩, 13), (⟨"CanyonRaftsModel", "isSet", "(I)Z"⟩, 13), (⟨"CanyonRaftsModel", "calendarOf", "(I)I"⟩, 13), (⟨"CanyonRaftsModel", "isApplicant", "(I)Z"⟩, 13), (⟨"CanyonRaftsModel", "weights", "()I"⟩, 13), (⟨"CanyonRaftsModel", "draw", "(I)V"⟩, 13), (⟨"CanyonRaftsModel", "hasPart", "(III)Z"⟩, 13)]
theorem lw_r3 : ∀ q ∈ lw_privs_3, lw_okq q := List.forall_mem_cons.mpr ⟨lw_p32, List.forall_mem_cons.mpr ⟨lw_p33, List.forall_mem_cons.mpr ⟨lw_p34, List.forall_mem_cons.mpr ⟨lw_p35, List.forall_mem_cons.mpr ⟨lw_p36, List.forall_mem_cons.mpr ⟨lw_p37, List.forall_mem_cons.mpr ⟨lw_p38, List.forall_mem_cons.mpr ⟨lw_p39, List.forall_mem_cons.mpr ⟨lw_p40, List.forall_mem_cons.mpr ⟨lw_p41, List.forall_mem_cons.mpr ⟨lw_p42, List.forall_mem_cons.mpr ⟨lw_p43, List.forall_mem_cons.mpr ⟨lw_p44, fun _ h => absurd h List.not_mem_nil⟩⟩⟩⟩⟩⟩⟩⟩⟩⟩⟩⟩⟩
def lw_privs : List (MethodName × Nat) := lw_privs_1 ++ (lw_privs_2 ++ (lw_privs_3))
def lw_tbl : List Cond := k2_sels lw_privs ++ tables_1
theorem lw_privs_ok : ∀ q ∈ lw_privs, lw_okq q := by
  show ∀ q ∈ lw_privs_1 ++ (lw_privs_2 ++ (lw_privs_3)), lw_okq q
  exact List.forall_mem_append.mpr ⟨lw_r1, List.forall_mem_append.mpr ⟨lw_r2, lw_r3⟩⟩
end
section
def RX0 : String := "CanyonRafts$Lots"
def TX0 : u_T := fun k => match k with
  | 0 => ("CanyonRafts$Lots", "count", "[I", true)
  | 1 => ("CanyonRafts$Lots", "weights", "[I", true)
  | _ => ("CanyonRafts$Lots", "order", "[I", true)
def tyX0 : Nat → FieldType := fun k => match k with
  | 0 => .array .int
  | 1 => .array .int
  | _ => .array .int
theorem nmX0 : ∀ a, a < 3 → ∀ b, b < 3 → a ≠ b → (TX0 a).2.1 ≠ (TX0 b).2.1 := by decide +kernel
theorem tyX0_ok : ∀ k, k < 3 → parseFieldDescriptor (TX0 k).2.2.1 = some (tyX0 k) := by decide +kernel
abbrev cX0_init : ByteArray := prog_2_method_1_code
def yX0_init : MethodName := ⟨RX0, "<init>", "()V"⟩
abbrev cX0_size : ByteArray := prog_2_method_2_code
def yX0_size : MethodName := ⟨RX0, "size", "()I"⟩
abbrev cX0_everybody : ByteArray := prog_2_method_3_code
def yX0_everybody : MethodName := ⟨RX0, "everybody", "()I"⟩
abbrev cX0_together : ByteArray := prog_2_method_4_code
def yX0_together : MethodName := ⟨RX0, "together", "(I)I"⟩
abbrev cX0_draw : ByteArray := prog_2_method_5_code
def yX0_draw : MethodName := ⟨RX0, "draw", "(I)V"⟩
abbrev cX0_owner : ByteArray := prog_2_method_6_code
def yX0_owner : MethodName := ⟨RX0, "owner", "(II)I"⟩
abbrev cX0_placeOf : ByteArray := prog_2_method_7_code
def yX0_placeOf : MethodName := ⟨RX0, "placeOf", "(I)I"⟩
def RX1 : String := "CanyonRafts$Past"
def TX1 : u_T := fun k => match k with
  | 0 => ("CanyonRafts$Past", "pieces", "[LCanyonRafts$Piece;", true)
  | 1 => ("CanyonRafts$Past", "next", "I", false)
  | _ => ("CanyonRafts$Past", "size", "I", false)
def tyX1 : Nat → FieldType := fun k => match k with
  | 0 => .array (.object "CanyonRafts$Piece")
  | 1 => .int
  | _ => .int
theorem nmX1 : ∀ a, a < 3 → ∀ b, b < 3 → a ≠ b → (TX1 a).2.1 ≠ (TX1 b).2.1 := by decide +kernel
theorem tyX1_ok : ∀ k, k < 3 → parseFieldDescriptor (TX1 k).2.2.1 = some (tyX1 k) := by decide +kernel
abbrev cX1_init : ByteArray := prog_3_method_1_code
def yX1_init : MethodName := ⟨RX1, "<init>", "()V"⟩
abbrev cX1_keep : ByteArray := prog_3_method_2_code
def yX1_keep : MethodName := ⟨RX1, "keep", "([III)V"⟩
abbrev cX1_bringBack : ByteArray := prog_3_method_3_code
def yX1_bringBack : MethodName := ⟨RX1, "bringBack", "()Z"⟩
def RX2 : String := "CanyonRafts$Piece"
def TX2 : u_T := fun k => match k with
  | 0 => ("CanyonRafts$Piece", "row", "[I", false)
  | 1 => ("CanyonRafts$Piece", "from", "I", false)
  | 2 => ("CanyonRafts$Piece", "n", "I", false)
  | _ => ("CanyonRafts$Piece", "before", "[I", false)
def tyX2 : Nat → FieldType := fun k => match k with
  | 0 => .array .int
  | 1 => .int
  | 2 => .int
  | _ => .array .int
theorem nmX2 : ∀ a, a < 4 → ∀ b, b < 4 → a ≠ b → (TX2 a).2.1 ≠ (TX2 b).2.1 := by decide +kernel
theorem tyX2_ok : ∀ k, k < 4 → parseFieldDescriptor (TX2 k).2.2.1 = some (tyX2 k) := by decide +kernel
abbrev cX2_init : ByteArray := prog_4_method_1_code
def yX2_init : MethodName := ⟨RX2, "<init>", "()V"⟩
abbrev cX2_keep : ByteArray := prog_4_method_2_code
def yX2_keep : MethodName := ⟨RX2, "keep", "([III)V"⟩
abbrev cX2_bringBack : ByteArray := prog_4_method_3_code
def yX2_bringBack : MethodName := ⟨RX2, "bringBack", "()V"⟩
def RX3 : String := "CanyonRafts$Planner"
def TX3 : u_T := fun k => match k with
  | 0 => ("CanyonRafts$Planner", "days", "I", false)
  | 1 => ("CanyonRafts$Planner", "camps", "[I", true)
  | 2 => ("CanyonRafts$Planner", "ahead", "[I", true)
  | 3 => ("CanyonRafts$Planner", "leads", "[I", true)
  | _ => ("CanyonRafts$Planner", "enders", "I", false)
def tyX3 : Nat → FieldType := fun k => match k with
  | 0 => .int
  | 1 => .array .int
  | 2 => .array .int
  | 3 => .array .int
  | _ => .int
theorem nmX3 : ∀ a, a < 5 → ∀ b, b < 5 → a ≠ b → (TX3 a).2.1 ≠ (TX3 b).2.1 := by decide +kernel
theorem tyX3_ok : ∀ k, k < 5 → parseFieldDescriptor (TX3 k).2.2.1 = some (tyX3 k) := by decide +kernel
abbrev cX3_init : ByteArray := prog_5_method_1_code
def yX3_init : MethodName := ⟨RX3, "<init>", "()V"⟩
abbrev cX3_search : ByteArray := prog_5_method_2_code
def yX3_search : MethodName := ⟨RX3, "search", "(LCanyonRafts$River;LCanyonRafts$Trips;I)Z"⟩
abbrev cX3_writeNights : ByteArray := prog_5_method_3_code
def yX3_writeNights : MethodName := ⟨RX3, "writeNights", "(LCanyonRafts$Trips;I)V"⟩
abbrev cX3_schedule : ByteArray := prog_5_method_4_code
def yX3_schedule : MethodName := ⟨RX3, "schedule", "(LCanyonRafts$River;LCanyonRafts$Trips;I)I"⟩
abbrev cX3_startAhead : ByteArray := prog_5_method_5_code
def yX3_startAhead : MethodName := ⟨RX3, "startAhead", "()V"⟩
abbrev cX3_placesAhead : ByteArray := prog_5_method_6_code
def yX3_placesAhead : MethodName := ⟨RX3, "placesAhead", "(I)I"⟩
abbrev cX3_findEnders : ByteArray := prog_5_method_7_code
def yX3_findEnders : MethodName := ⟨RX3, "findEnders", "(LCanyonRafts$River;III)V"⟩
abbrev cX3_findLeads : ByteArray := prog_5_method_8_code
def yX3_findLeads : MethodName := ⟨RX3, "findLeads", "(LCanyonRafts$River;IIII)V"⟩
abbrev cX3_spread : ByteArray := prog_5_method_9_code
def yX3_spread : MethodName := ⟨RX3, "spread", "(III)V"⟩
abbrev cX3_dropDeadEnds : ByteArray := prog_5_method_10_code
def yX3_dropDeadEnds : MethodName := ⟨RX3, "dropDeadEnds", "()V"⟩
abbrev cX3_goesOn : ByteArray := prog_5_method_11_code
def yX3_goesOn : MethodName := ⟨RX3, "goesOn", "(III)Z"⟩
abbrev cX3_goers : ByteArray := prog_5_method_12_code
def yX3_goers : MethodName := ⟨RX3, "goers", "(III)I"⟩
abbrev cX3_mayStay : ByteArray := prog_5_method_13_code
def yX3_mayStay : MethodName := ⟨RX3, "mayStay", "(III)Z"⟩
abbrev cX3_chooseCamps : ByteArray := prog_5_method_14_code
def yX3_chooseCamps : MethodName := ⟨RX3, "chooseCamps", "()V"⟩
abbrev cX3_lowest : ByteArray := prog_5_method_15_code
def yX3_lowest : MethodName := ⟨RX3, "lowest", "(I)I"⟩
def RX4 : String := "CanyonRafts$River"
def TX4 : u_T := fun k => match k with
  | 0 => ("CanyonRafts$River", "bounds", "[I", true)
  | 1 => ("CanyonRafts$River", "counts", "[I", true)
  | 2 => ("CanyonRafts$River", "released", "[I", true)
  | 3 => ("CanyonRafts$River", "campMile", "[I", true)
  | 4 => ("CanyonRafts$River", "campSmall", "[Z", true)
  | 5 => ("CanyonRafts$River", "rapidMile", "[I", true)
  | 6 => ("CanyonRafts$River", "rapidLeast", "[I", true)
  | 7 => ("CanyonRafts$River", "rapidMost", "[I", true)
  | _ => ("CanyonRafts$River", "landingMile", "[I", true)
def tyX4 : Nat → FieldType := fun k => match k with
  | 0 => .array .int
  | 1 => .array .int
  | 2 => .array .int
  | 3 => .array .int
  | 4 => .array .boolean
  | 5 => .array .int
  | 6 => .array .int
  | 7 => .array .int
  | _ => .array .int
theorem nmX4 : ∀ a, a < 9 → ∀ b, b < 9 → a ≠ b → (TX4 a).2.1 ≠ (TX4 b).2.1 := by decide +kernel
theorem tyX4_ok : ∀ k, k < 9 → parseFieldDescriptor (TX4 k).2.2.1 = some (tyX4 k) := by decide +kernel
abbrev cX4_init : ByteArray := prog_6_method_1_code
def yX4_init : MethodName := ⟨RX4, "<init>", "()V"⟩
abbrev cX4_arriving : ByteArray := prog_6_method_2_code
def yX4_arriving : MethodName := ⟨RX4, "arriving", "(III)I"⟩
abbrev cX4_firstHour : ByteArray := prog_6_method_3_code
def yX4_firstHour : MethodName := ⟨RX4, "firstHour", "(III)I"⟩
abbrev cX4_closedRapids : ByteArray := prog_6_method_4_code
def yX4_closedRapids : MethodName := ⟨RX4, "closedRapids", "(II)I"⟩
abbrev cX4_nextClosed : ByteArray := prog_6_method_5_code
def yX4_nextClosed : MethodName := ⟨RX4, "nextClosed", "(II)I"⟩
abbrev cX4_mileOf : ByteArray := prog_6_method_6_code
def yX4_mileOf : MethodName := ⟨RX4, "mileOf", "(I)I"⟩
abbrev cX4_campsFor : ByteArray := prog_6_method_7_code
def yX4_campsFor : MethodName := ⟨RX4, "campsFor", "(I)I"⟩
abbrev cX4_campsAhead : ByteArray := prog_6_method_8_code
def yX4_campsAhead : MethodName := ⟨RX4, "campsAhead", "(III)I"⟩
abbrev cX4_leadsToEnd : ByteArray := prog_6_method_9_code
def yX4_leadsToEnd : MethodName := ⟨RX4, "leadsToEnd", "(III)Z"⟩
abbrev cX4_minutesOut : ByteArray := prog_6_method_10_code
def yX4_minutesOut : MethodName := ⟨RX4, "minutesOut", "(IZ)I"⟩
def RX5 : String := "CanyonRafts$Sheet"
def TX5 : u_T := fun k => match k with
  | 0 => ("CanyonRafts$Sheet", "bits", "I", false)
  | 1 => ("CanyonRafts$Sheet", "size", "I", false)
  | _ => ("CanyonRafts$Sheet", "numbers", "[I", true)
def tyX5 : Nat → FieldType := fun k => match k with
  | 0 => .int
  | 1 => .int
  | _ => .array .int
theorem nmX5 : ∀ a, a < 3 → ∀ b, b < 3 → a ≠ b → (TX5 a).2.1 ≠ (TX5 b).2.1 := by decide +kernel
theorem tyX5_ok : ∀ k, k < 3 → parseFieldDescriptor (TX5 k).2.2.1 = some (tyX5 k) := by decide +kernel
abbrev cX5_init : ByteArray := prog_7_method_1_code
def yX5_init : MethodName := ⟨RX5, "<init>", "()V"⟩
abbrev cX5_isMissing : ByteArray := prog_7_method_2_code
def yX5_isMissing : MethodName := ⟨RX5, "isMissing", "()Z"⟩
abbrev cX5_renew : ByteArray := prog_7_method_3_code
def yX5_renew : MethodName := ⟨RX5, "renew", "(II)I"⟩
abbrev cX5_lowest : ByteArray := prog_7_method_4_code
def yX5_lowest : MethodName := ⟨RX5, "lowest", "(I)I"⟩
abbrev cX5_has : ByteArray := prog_7_method_5_code
def yX5_has : MethodName := ⟨RX5, "has", "(II)Z"⟩
def RX6 : String := "CanyonRafts$Trips"
def TX6 : u_T := fun k => match k with
  | 0 => ("CanyonRafts$Trips", "count", "[I", true)
  | 1 => ("CanyonRafts$Trips", "rows", "[I", true)
  | _ => ("CanyonRafts$Trips", "saved", "[I", true)
def tyX6 : Nat → FieldType := fun k => match k with
  | 0 => .array .int
  | 1 => .array .int
  | _ => .array .int
theorem nmX6 : ∀ a, a < 3 → ∀ b, b < 3 → a ≠ b → (TX6 a).2.1 ≠ (TX6 b).2.1 := by decide +kernel
theorem tyX6_ok : ∀ k, k < 3 → parseFieldDescriptor (TX6 k).2.2.1 = some (tyX6 k) := by decide +kernel
abbrev cX6_init : ByteArray := prog_8_method_1_code
def yX6_init : MethodName := ⟨RX6, "<init>", "()V"⟩
abbrev cX6_size : ByteArray := prog_8_method_2_code
def yX6_size : MethodName := ⟨RX6, "size", "()I"⟩
abbrev cX6_index : ByteArray := prog_8_method_3_code
def yX6_index : MethodName := ⟨RX6, "index", "(II)I"⟩
abbrev cX6_read : ByteArray := prog_8_method_4_code
def yX6_read : MethodName := ⟨RX6, "read", "(II)I"⟩
abbrev cX6_write : ByteArray := prog_8_method_5_code
def yX6_write : MethodName := ⟨RX6, "write", "(III)V"⟩
abbrev cX6_clearNights : ByteArray := prog_8_method_6_code
def yX6_clearNights : MethodName := ⟨RX6, "clearNights", "(I)V"⟩
abbrev cX6_nightsOf : ByteArray := prog_8_method_7_code
def yX6_nightsOf : MethodName := ⟨RX6, "nightsOf", "(I)I"⟩
abbrev cX6_guest : ByteArray := prog_8_method_8_code
def yX6_guest : MethodName := ⟨RX6, "guest", "(II)I"⟩
abbrev cX6_takenFrom : ByteArray := prog_8_method_9_code
def yX6_takenFrom : MethodName := ⟨RX6, "takenFrom", "(II)I"⟩
abbrev cX6_saveRows : ByteArray := prog_8_method_10_code
def yX6_saveRows : MethodName := ⟨RX6, "saveRows", "()V"⟩
abbrev cX6_bringRowsBack : ByteArray := prog_8_method_11_code
def yX6_bringRowsBack : MethodName := ⟨RX6, "bringRowsBack", "()V"⟩
def RX7 : String := "CanyonRafts"
def TX7 : u_T := fun k => match k with
  | 0 => ("CanyonRafts", "river", "LCanyonRafts$River;", true)
  | 1 => ("CanyonRafts", "trips", "LCanyonRafts$Trips;", true)
  | 2 => ("CanyonRafts", "planner", "LCanyonRafts$Planner;", true)
  | 3 => ("CanyonRafts", "lots", "LCanyonRafts$Lots;", true)
  | 4 => ("CanyonRafts", "past", "LCanyonRafts$Past;", true)
  | 5 => ("CanyonRafts", "sheets", "[LCanyonRafts$Sheet;", true)
  | _ => ("CanyonRafts", "findings", "I", false)
def tyX7 : Nat → FieldType := fun k => match k with
  | 0 => .object "CanyonRafts$River"
  | 1 => .object "CanyonRafts$Trips"
  | 2 => .object "CanyonRafts$Planner"
  | 3 => .object "CanyonRafts$Lots"
  | 4 => .object "CanyonRafts$Past"
  | 5 => .array (.object "CanyonRafts$Sheet")
  | _ => .int
theorem nmX7 : ∀ a, a < 7 → ∀ b, b < 7 → a ≠ b → (TX7 a).2.1 ≠ (TX7 b).2.1 := by decide +kernel
theorem tyX7_ok : ∀ k, k < 7 → parseFieldDescriptor (TX7 k).2.2.1 = some (tyX7 k) := by decide +kernel
abbrev cX7_init : ByteArray := prog_1_method_1_code
def yX7_init : MethodName := ⟨RX7, "<init>", "()V"⟩
abbrev cX7_end : ByteArray := prog_1_method_2_code
def yX7_end : MethodName := ⟨RX7, "end", "(I)I"⟩
abbrev cX7_camp : ByteArray := prog_1_method_3_code
def yX7_camp : MethodName := ⟨RX7, "camp", "(IZ)I"⟩
abbrev cX7_rapid : ByteArray := prog_1_method_4_code
def yX7_rapid : MethodName := ⟨RX7, "rapid", "(III)I"⟩
abbrev cX7_landing : ByteArray := prog_1_method_5_code
def yX7_landing : MethodName := ⟨RX7, "landing", "(I)I"⟩
abbrev cX7_speed : ByteArray := prog_1_method_6_code
def yX7_speed : MethodName := ⟨RX7, "speed", "(I)I"⟩
abbrev cX7_water : ByteArray := prog_1_method_7_code
def yX7_water : MethodName := ⟨RX7, "water", "(III)I"⟩
abbrev cX7_waterAt : ByteArray := prog_1_method_8_code
def yX7_waterAt : MethodName := ⟨RX7, "waterAt", "(III)I"⟩
abbrev cX7_runs : ByteArray := prog_1_method_9_code
def yX7_runs : MethodName := ⟨RX7, "runs", "(III)I"⟩
abbrev cX7_trip : ByteArray := prog_1_method_10_code
def yX7_trip : MethodName := ⟨RX7, "trip", "(IIIII)I"⟩
abbrev cX7_as : ByteArray := prog_1_method_11_code
def yX7_as : MethodName := ⟨RX7, "as", "(II)I"⟩
abbrev cX7_of : ByteArray := prog_1_method_12_code
def yX7_of : MethodName := ⟨RX7, "of", "(II)I"⟩
abbrev cX7_launch : ByteArray := prog_1_method_13_code
def yX7_launch : MethodName := ⟨RX7, "launch", "(II)I"⟩
abbrev cX7_night : ByteArray := prog_1_method_14_code
def yX7_night : MethodName := ⟨RX7, "night", "(III)I"⟩
abbrev cX7_at : ByteArray := prog_1_method_15_code
def yX7_at : MethodName := ⟨RX7, "at", "(II)I"⟩
abbrev cX7_who : ByteArray := prog_1_method_16_code
def yX7_who : MethodName := ⟨RX7, "who", "(II)I"⟩
abbrev cX7_plan : ByteArray := prog_1_method_17_code
def yX7_plan : MethodName := ⟨RX7, "plan", "(I)I"⟩
abbrev cX7_planned : ByteArray := prog_1_method_18_code
def yX7_planned : MethodName := ⟨RX7, "planned", "(II)I"⟩
abbrev cX7_take : ByteArray := prog_1_method_19_code
def yX7_take : MethodName := ⟨RX7, "take", "(I)I"⟩
abbrev cX7_calendar : ByteArray := prog_1_method_20_code
def yX7_calendar : MethodName := ⟨RX7, "calendar", "(I)I"⟩
abbrev cX7_fill : ByteArray := prog_1_method_21_code
def yX7_fill : MethodName := ⟨RX7, "fill", "(I)I"⟩
abbrev cX7_near : ByteArray := prog_1_method_22_code
def yX7_near : MethodName := ⟨RX7, "near", "(III)I"⟩
abbrev cX7_hurt : ByteArray := prog_1_method_23_code
def yX7_hurt : MethodName := ⟨RX7, "hurt", "(II)I"⟩
abbrev cX7_applicant : ByteArray := prog_1_method_24_code
def yX7_applicant : MethodName := ⟨RX7, "applicant", "(I)I"⟩
abbrev cX7_weigh : ByteArray := prog_1_method_25_code
def yX7_weigh : MethodName := ⟨RX7, "weigh", "(II)I"⟩
abbrev cX7_chance : ByteArray := prog_1_method_26_code
def yX7_chance : MethodName := ⟨RX7, "chance", "(IZ)I"⟩
abbrev cX7_drawn : ByteArray := prog_1_method_27_code
def yX7_drawn : MethodName := ⟨RX7, "drawn", "(II)I"⟩
abbrev cX7_turn : ByteArray := prog_1_method_28_code
def yX7_turn : MethodName := ⟨RX7, "turn", "(II)I"⟩
abbrev cX7_sheet : ByteArray := prog_1_method_29_code
def yX7_sheet : MethodName := ⟨RX7, "sheet", "(III)I"⟩
abbrev cX7_put : ByteArray := prog_1_method_30_code
def yX7_put : MethodName := ⟨RX7, "put", "(III)I"⟩
abbrev cX7_copy : ByteArray := prog_1_method_31_code
def yX7_copy : MethodName := ⟨RX7, "copy", "(IIIII)I"⟩
abbrev cX7_let : ByteArray := prog_1_method_32_code
def yX7_let : MethodName := ⟨RX7, "let", "(II)I"⟩
abbrev cX7_undo : ByteArray := prog_1_method_33_code
def yX7_undo : MethodName := ⟨RX7, "undo", "()I"⟩
abbrev cX7_all : ByteArray := prog_1_method_34_code
def yX7_all : MethodName := ⟨RX7, "all", "(I)I"⟩
abbrev cX7_finding : ByteArray := prog_1_method_35_code
def yX7_finding : MethodName := ⟨RX7, "finding", "(I)I"⟩
abbrev cX7_change : ByteArray := prog_1_method_36_code
def yX7_change : MethodName := ⟨RX7, "change", "([III)I"⟩
abbrev cX7_keepTrips : ByteArray := prog_1_method_37_code
def yX7_keepTrips : MethodName := ⟨RX7, "keepTrips", "(II)V"⟩
abbrev cX7_isCamp : ByteArray := prog_1_method_38_code
def yX7_isCamp : MethodName := ⟨RX7, "isCamp", "(I)Z"⟩
abbrev cX7_isTrip : ByteArray := prog_1_method_39_code
def yX7_isTrip : MethodName := ⟨RX7, "isTrip", "(I)Z"⟩
abbrev cX7_isSet : ByteArray := prog_1_method_40_code
def yX7_isSet : MethodName := ⟨RX7, "isSet", "(I)Z"⟩
abbrev cX7_isApplicant : ByteArray := prog_1_method_41_code
def yX7_isApplicant : MethodName := ⟨RX7, "isApplicant", "(I)Z"⟩
abbrev cX7_isSheet : ByteArray := prog_1_method_42_code
def yX7_isSheet : MethodName := ⟨RX7, "isSheet", "(I)Z"⟩
abbrev cX7_isDay : ByteArray := prog_1_method_43_code
def yX7_isDay : MethodName := ⟨RX7, "isDay", "(I)Z"⟩
abbrev cX7_isKind : ByteArray := prog_1_method_44_code
def yX7_isKind : MethodName := ⟨RX7, "isKind", "(I)Z"⟩
abbrev cX7_isMile : ByteArray := prog_1_method_45_code
def yX7_isMile : MethodName := ⟨RX7, "isMile", "(I)Z"⟩
abbrev cX7_isWater : ByteArray := prog_1_method_46_code
def yX7_isWater : MethodName := ⟨RX7, "isWater", "(I)Z"⟩
abbrev cX7_within : ByteArray := prog_1_method_47_code
def yX7_within : MethodName := ⟨RX7, "within", "(III)Z"⟩
abbrev cX7_holds : ByteArray := prog_1_method_48_code
def yX7_holds : MethodName := ⟨RX7, "holds", "(II)Z"⟩
abbrev cX7_greatestDivisor : ByteArray := prog_1_method_49_code
def yX7_greatestDivisor : MethodName := ⟨RX7, "greatestDivisor", "(II)I"⟩
def RX8 : String := "CanyonRaftsModel"
def TX8 : u_T := fun k => match k with
  | 0 => ("CanyonRaftsModel", "now", "[I", true)
  | 1 => ("CanyonRaftsModel", "kept", "[I", true)
  | 2 => ("CanyonRaftsModel", "keptMany", "I", false)
  | 3 => ("CanyonRaftsModel", "sheetBits", "[I", true)
  | 4 => ("CanyonRaftsModel", "sheetSize", "[I", true)
  | 5 => ("CanyonRaftsModel", "sheet", "[I", true)
  | 6 => ("CanyonRaftsModel", "found", "I", false)
  | 7 => ("CanyonRaftsModel", "left", "[I", true)
  | 8 => ("CanyonRaftsModel", "nights", "[I", true)
  | 9 => ("CanyonRaftsModel", "asWas", "[I", true)
  | 10 => ("CanyonRaftsModel", "order", "[I", true)
  | 11 => ("CanyonRaftsModel", "isGone", "[Z", true)
  | _ => ("CanyonRaftsModel", "carried", "[I", true)
def tyX8 : Nat → FieldType := fun k => match k with
  | 0 => .array .int
  | 1 => .array .int
  | 2 => .int
  | 3 => .array .int
  | 4 => .array .int
  | 5 => .array .int
  | 6 => .int
  | 7 => .array .int
  | 8 => .array .int
  | 9 => .array .int
  | 10 => .array .int
  | 11 => .array .boolean
  | _ => .array .int
theorem nmX8 : ∀ a, a < 13 → ∀ b, b < 13 → a ≠ b → (TX8 a).2.1 ≠ (TX8 b).2.1 := by decide +kernel
theorem tyX8_ok : ∀ k, k < 13 → parseFieldDescriptor (TX8 k).2.2.1 = some (tyX8 k) := by decide +kernel
abbrev cX8_init : ByteArray := prog_10_method_1_code
def yX8_init : MethodName := ⟨RX8, "<init>", "()V"⟩
abbrev cX8_finding : ByteArray := prog_10_method_2_code
def yX8_finding : MethodName := ⟨RX8, "finding", "(I)I"⟩
abbrev cX8_isIn : ByteArray := prog_10_method_3_code
def yX8_isIn : MethodName := ⟨RX8, "isIn", "(III)Z"⟩
abbrev cX8_isCamp : ByteArray := prog_10_method_4_code
def yX8_isCamp : MethodName := ⟨RX8, "isCamp", "(I)Z"⟩
abbrev cX8_isRapid : ByteArray := prog_10_method_5_code
def yX8_isRapid : MethodName := ⟨RX8, "isRapid", "(I)Z"⟩
abbrev cX8_isTrip : ByteArray := prog_10_method_6_code
def yX8_isTrip : MethodName := ⟨RX8, "isTrip", "(I)Z"⟩
abbrev cX8_isApplicant : ByteArray := prog_10_method_7_code
def yX8_isApplicant : MethodName := ⟨RX8, "isApplicant", "(I)Z"⟩
abbrev cX8_isDay : ByteArray := prog_10_method_8_code
def yX8_isDay : MethodName := ⟨RX8, "isDay", "(I)Z"⟩
abbrev cX8_isWater : ByteArray := prog_10_method_9_code
def yX8_isWater : MethodName := ⟨RX8, "isWater", "(I)Z"⟩
abbrev cX8_keep : ByteArray := prog_10_method_10_code
def yX8_keep : MethodName := ⟨RX8, "keep", "()V"⟩
abbrev cX8_undo : ByteArray := prog_10_method_11_code
def yX8_undo : MethodName := ⟨RX8, "undo", "()I"⟩
abbrev cX8_becomes : ByteArray := prog_10_method_12_code
def yX8_becomes : MethodName := ⟨RX8, "becomes", "(II)I"⟩
abbrev cX8_end : ByteArray := prog_10_method_13_code
def yX8_end : MethodName := ⟨RX8, "end", "(I)I"⟩
abbrev cX8_camp : ByteArray := prog_10_method_14_code
def yX8_camp : MethodName := ⟨RX8, "camp", "(IZ)I"⟩
abbrev cX8_rapid : ByteArray := prog_10_method_15_code
def yX8_rapid : MethodName := ⟨RX8, "rapid", "(III)I"⟩
abbrev cX8_landing : ByteArray := prog_10_method_16_code
def yX8_landing : MethodName := ⟨RX8, "landing", "(I)I"⟩
abbrev cX8_speed : ByteArray := prog_10_method_17_code
def yX8_speed : MethodName := ⟨RX8, "speed", "(I)I"⟩
abbrev cX8_water : ByteArray := prog_10_method_18_code
def yX8_water : MethodName := ⟨RX8, "water", "(III)I"⟩
abbrev cX8_waterOf : ByteArray := prog_10_method_19_code
def yX8_waterOf : MethodName := ⟨RX8, "waterOf", "(III)I"⟩
abbrev cX8_waterAt : ByteArray := prog_10_method_20_code
def yX8_waterAt : MethodName := ⟨RX8, "waterAt", "(III)I"⟩
abbrev cX8_hourOf : ByteArray := prog_10_method_21_code
def yX8_hourOf : MethodName := ⟨RX8, "hourOf", "(III)I"⟩
abbrev cX8_runs : ByteArray := prog_10_method_22_code
def yX8_runs : MethodName := ⟨RX8, "runs", "(III)I"⟩
abbrev cX8_trip : ByteArray := prog_10_method_23_code
def yX8_trip : MethodName := ⟨RX8, "trip", "(IIIII)I"⟩
abbrev cX8_noNights : ByteArray := prog_10_method_24_code
def yX8_noNights : MethodName := ⟨RX8, "noNights", "(I)V"⟩
abbrev cX8_told : ByteArray := prog_10_method_25_code
def yX8_told : MethodName := ⟨RX8, "told", "(II)I"⟩
abbrev cX8_as : ByteArray := prog_10_method_26_code
def yX8_as : MethodName := ⟨RX8, "as", "(II)I"⟩
abbrev cX8_of : ByteArray := prog_10_method_27_code
def yX8_of : MethodName := ⟨RX8, "of", "(II)I"⟩
abbrev cX8_launch : ByteArray := prog_10_method_28_code
def yX8_launch : MethodName := ⟨RX8, "launch", "(II)I"⟩
abbrev cX8_other : ByteArray := prog_10_method_29_code
def yX8_other : MethodName := ⟨RX8, "other", "(III)I"⟩
abbrev cX8_mayCamp : ByteArray := prog_10_method_30_code
def yX8_mayCamp : MethodName := ⟨RX8, "mayCamp", "(II)Z"⟩
abbrev cX8_night : ByteArray := prog_10_method_31_code
def yX8_night : MethodName := ⟨RX8, "night", "(III)I"⟩
abbrev cX8_at : ByteArray := prog_10_method_32_code
def yX8_at : MethodName := ⟨RX8, "at", "(II)I"⟩
abbrev cX8_who : ByteArray := prog_10_method_33_code
def yX8_who : MethodName := ⟨RX8, "who", "(II)I"⟩
abbrev cX8_mileOf : ByteArray := prog_10_method_34_code
def yX8_mileOf : MethodName := ⟨RX8, "mileOf", "(I)I"⟩
abbrev cX8_isOpen : ByteArray := prog_10_method_35_code
def yX8_isOpen : MethodName := ⟨RX8, "isOpen", "(IIII)Z"⟩
abbrev cX8_canGo : ByteArray := prog_10_method_36_code
def yX8_canGo : MethodName := ⟨RX8, "canGo", "(IIII)Z"⟩
abbrev cX8_canEnd : ByteArray := prog_10_method_37_code
def yX8_canEnd : MethodName := ⟨RX8, "canEnd", "(III)Z"⟩
abbrev cX8_leftAt : ByteArray := prog_10_method_38_code
def yX8_leftAt : MethodName := ⟨RX8, "leftAt", "(III)I"⟩
abbrev cX8_tell : ByteArray := prog_10_method_39_code
def yX8_tell : MethodName := ⟨RX8, "tell", "(I)I"⟩
abbrev cX8_leftFrom : ByteArray := prog_10_method_40_code
def yX8_leftFrom : MethodName := ⟨RX8, "leftFrom", "(IIII)I"⟩
abbrev cX8_planOf : ByteArray := prog_10_method_41_code
def yX8_planOf : MethodName := ⟨RX8, "planOf", "(I)I"⟩
abbrev cX8_plan : ByteArray := prog_10_method_42_code
def yX8_plan : MethodName := ⟨RX8, "plan", "(I)I"⟩
abbrev cX8_planned : ByteArray := prog_10_method_43_code
def yX8_planned : MethodName := ⟨RX8, "planned", "(II)I"⟩
abbrev cX8_lay : ByteArray := prog_10_method_44_code
def yX8_lay : MethodName := ⟨RX8, "lay", "(II)V"⟩
abbrev cX8_take : ByteArray := prog_10_method_45_code
def yX8_take : MethodName := ⟨RX8, "take", "(I)I"⟩
abbrev cX8_calendarOf : ByteArray := prog_10_method_46_code
def yX8_calendarOf : MethodName := ⟨RX8, "calendarOf", "(I)I"⟩
abbrev cX8_isSet : ByteArray := prog_10_method_47_code
def yX8_isSet : MethodName := ⟨RX8, "isSet", "(I)Z"⟩
abbrev cX8_calendar : ByteArray := prog_10_method_48_code
def yX8_calendar : MethodName := ⟨RX8, "calendar", "(I)I"⟩
abbrev cX8_fill : ByteArray := prog_10_method_49_code
def yX8_fill : MethodName := ⟨RX8, "fill", "(I)I"⟩
abbrev cX8_near : ByteArray := prog_10_method_50_code
def yX8_near : MethodName := ⟨RX8, "near", "(III)I"⟩
abbrev cX8_hurt : ByteArray := prog_10_method_51_code
def yX8_hurt : MethodName := ⟨RX8, "hurt", "(II)I"⟩
abbrev cX8_applicant : ByteArray := prog_10_method_52_code
def yX8_applicant : MethodName := ⟨RX8, "applicant", "(I)I"⟩
abbrev cX8_weigh : ByteArray := prog_10_method_53_code
def yX8_weigh : MethodName := ⟨RX8, "weigh", "(II)I"⟩
abbrev cX8_weights : ByteArray := prog_10_method_54_code
def yX8_weights : MethodName := ⟨RX8, "weights", "()I"⟩
abbrev cX8_chance : ByteArray := prog_10_method_55_code
def yX8_chance : MethodName := ⟨RX8, "chance", "(IZ)I"⟩
abbrev cX8_draw : ByteArray := prog_10_method_56_code
def yX8_draw : MethodName := ⟨RX8, "draw", "(I)V"⟩
abbrev cX8_drawn : ByteArray := prog_10_method_57_code
def yX8_drawn : MethodName := ⟨RX8, "drawn", "(II)I"⟩
abbrev cX8_turn : ByteArray := prog_10_method_58_code
def yX8_turn : MethodName := ⟨RX8, "turn", "(II)I"⟩
abbrev cX8_isSheet : ByteArray := prog_10_method_59_code
def yX8_isSheet : MethodName := ⟨RX8, "isSheet", "(I)Z"⟩
abbrev cX8_sheet : ByteArray := prog_10_method_60_code
def yX8_sheet : MethodName := ⟨RX8, "sheet", "(III)I"⟩
abbrev cX8_put : ByteArray := prog_10_method_61_code
def yX8_put : MethodName := ⟨RX8, "put", "(III)I"⟩
abbrev cX8_hasPart : ByteArray := prog_10_method_62_code
def yX8_hasPart : MethodName := ⟨RX8, "hasPart", "(III)Z"⟩
abbrev cX8_copy : ByteArray := prog_10_method_63_code
def yX8_copy : MethodName := ⟨RX8, "copy", "(IIIII)I"⟩
abbrev cX8_let : ByteArray := prog_10_method_64_code
def yX8_let : MethodName := ⟨RX8, "let", "(II)I"⟩
abbrev cX8_all : ByteArray := prog_10_method_65_code
def yX8_all : MethodName := ⟨RX8, "all", "(I)I"⟩
def RL : String := "CanyonRaftsLaw"
abbrev cL_law : ByteArray := code
def yL_law : MethodName := ⟨RL, "law", "([I)Z"⟩
end
section
theorem dL_law_0 : decode cL_law 0 = .ok (.new 7, 3) := by decide +kernel
theorem dL_law_3 : decode cL_law 3 = .ok (.dup, 1) := by decide +kernel
theorem dL_law_4 : decode cL_law 4 = .ok (.invokespecial 9, 3) := by decide +kernel
theorem dL_law_7 : decode cL_law 7 = .ok (.astore_n 1, 1) := by decide +kernel
theorem dL_law_8 : decode cL_law 8 = .ok (.new 10, 3) := by decide +kernel
theorem dL_law_11 : decode cL_law 11 = .ok (.dup, 1) := by decide +kernel
theorem dL_law_12 : decode cL_law 12 = .ok (.invokespecial 12, 3) := by decide +kernel
theorem dL_law_15 : decode cL_law 15 = .ok (.astore_n 2, 1) := by decide +kernel
theorem dL_law_16 : decode cL_law 16 = .ok (.iconst 0, 1) := by decide +kernel
theorem dL_law_17 : decode cL_law 17 = .ok (.istore_n 3, 1) := by decide +kernel
theorem dL_law_18 : decode cL_law 18 = .ok (.iload_n 3, 1) := by decide +kernel
theorem dL_law_19 : decode cL_law 19 = .ok (.aload_n 0, 1) := by decide +kernel
theorem dL_law_20 : decode cL_law 20 = .ok (.arraylength, 1) := by decide +kernel
theorem dL_law_21 : decode cL_law 21 = .ok (.bipush 6, 2) := by decide +kernel
theorem dL_law_23 : decode cL_law 23 = .ok (.isub, 1) := by decide +kernel
theorem dL_law_24 : decode cL_law 24 = .ok (.if_icmp .gt 1313, 3) := by decide +kernel
theorem dL_law_27 : decode cL_law 27 = .ok (.aload_n 0, 1) := by decide +kernel
theorem dL_law_28 : decode cL_law 28 = .ok (.iload_n 3, 1) := by decide +kernel
theorem dL_law_29 : decode cL_law 29 = .ok (.iaload, 1) := by decide +kernel
theorem dL_law_30 : decode cL_law 30 = .ok (.bipush 63, 2) := by decide +kernel
theorem dL_law_32 : decode cL_law 32 = .ok (.iand, 1) := by decide +kernel
theorem dL_law_33 : decode cL_law 33 = .ok (.tableswitch 1298 0 32 #[147, 170, 219, 262, 285, 308, 351, 394, 437, 500, 533, 566, 599, 642, 675, 708, 731, 764, 787, 810, 833, 876, 909, 932, 965, 1014, 1047, 1080, 1123, 1166, 1229, 1262, 1275], 147) := by decide +kernel
theorem dL_law_180 : decode cL_law 180 = .ok (.aload_n 1, 1) := by decide +kernel
theorem dL_law_181 : decode cL_law 181 = .ok (.aload_n 0, 1) := by decide +kernel
theorem dL_law_182 : decode cL_law 182 = .ok (.iload_n 3, 1) := by decide +kernel
theorem dL_law_183 : decode cL_law 183 = .ok (.iconst 1, 1) := by decide +kernel
theorem dL_law_184 : decode cL_law 184 = .ok (.iadd, 1) := by decide +kernel
theorem dL_law_185 : decode cL_law 185 = .ok (.iaload, 1) := by decide +kernel
theorem dL_law_186 : decode cL_law 186 = .ok (.invokevirtual 13, 3) := by decide +kernel
theorem dL_law_189 : decode cL_law 189 = .ok (.aload_n 2, 1) := by decide +kernel
theorem dL_law_190 : decode cL_law 190 = .ok (.aload_n 0, 1) := by decide +kernel
theorem dL_law_191 : decode cL_law 191 = .ok (.iload_n 3, 1) := by decide +kernel
theorem dL_law_192 : decode cL_law 192 = .ok (.iconst 1, 1) := by decide +kernel
theorem dL_law_193 : decode cL_law 193 = .ok (.iadd, 1) := by decide +kernel
theorem dL_law_194 : decode cL_law 194 = .ok (.iaload, 1) := by decide +kernel
theorem dL_law_195 : decode cL_law 195 = .ok (.invokevirtual 17, 3) := by decide +kernel
theorem dL_law_198 : decode cL_law 198 = .ok (.if_icmp .eq 1133, 3) := by decide +kernel
theorem dL_law_201 : decode cL_law 201 = .ok (.iconst 0, 1) := by decide +kernel
theorem dL_law_202 : decode cL_law 202 = .ok (.ireturn, 1) := by decide +kernel
theorem dL_law_203 : decode cL_law 203 = .ok (.aload_n 1, 1) := by decide +kernel
theorem dL_law_204 : decode cL_law 204 = .ok (.aload_n 0, 1) := by decide +kernel
theorem dL_law_205 : decode cL_law 205 = .ok (.iload_n 3, 1) := by decide +kernel
theorem dL_law_206 : decode cL_law 206 = .ok (.iconst 1, 1) := by decide +kernel
theorem dL_law_207 : decode cL_law 207 = .ok (.iadd, 1) := by decide +kernel
theorem dL_law_208 : decode cL_law 208 = .ok (.iaload, 1) := by decide +kernel
theorem dL_law_209 : decode cL_law 209 = .ok (.aload_n 0, 1) := by decide +kernel
theorem dL_law_210 : decode cL_law 210 = .ok (.iload_n 3, 1) := by decide +kernel
theorem dL_law_211 : decode cL_law 211 = .ok (.iconst 2, 1) := by decide +kernel
theorem dL_law_212 : decode cL_law 212 = .ok (.iadd, 1) := by decide +kernel
theorem dL_law_213 : decode cL_law 213 = .ok (.iaload, 1) := by decide +kernel
theorem dL_law_214 : decode cL_law 214 = .ok (.ifCond .eq 7, 3) := by decide +kernel
theorem dL_law_217 : decode cL_law 217 = .ok (.iconst 1, 1) := by decide +kernel
theorem dL_law_218 : decode cL_law 218 = .ok (.goto 4, 3) := by decide +kernel
theorem dL_law_221 : decode cL_law 221 = .ok (.iconst 0, 1) := by decide +kernel
theorem dL_law_222 : decode cL_law 222 = .ok (.invokevirtual 18, 3) := by decide +kernel
theorem dL_law_225 : decode cL_law 225 = .ok (.aload_n 2, 1) := by decide +kernel
theorem dL_law_226 : decode cL_law 226 = .ok (.aload_n 0, 1) := by decide +kernel
theorem dL_law_227 : decode cL_law 227 = .ok (.iload_n 3, 1) := by decide +kernel
theorem dL_law_228 : decode cL_law 228 = .ok (.iconst 1, 1) := by decide +kernel
theorem dL_law_229 : decode cL_law 229 = .ok (.iadd, 1) := by decide +kernel
theorem dL_law_230 : decode cL_law 230 = .ok (.iaload, 1) := by decide +kernel
theorem dL_law_231 : decode cL_law 231 = .ok (.aload_n 0, 1) := by decide +kernel
theorem dL_law_232 : decode cL_law 232 = .ok (.iload_n 3, 1) := by decide +kernel
theorem dL_law_233 : decode cL_law 233 = .ok (.iconst 2, 1) := by decide +kernel
theorem dL_law_234 : decode cL_law 234 = .ok (.iadd, 1) := by decide +kernel
theorem dL_law_235 : decode cL_law 235 = .ok (.iaload, 1) := by decide +kernel
theorem dL_law_236 : decode cL_law 236 = .ok (.ifCond .eq 7, 3) := by decide +kernel
theorem dL_law_239 : decode cL_law 239 = .ok (.iconst 1, 1) := by decide +kernel
theorem dL_law_240 : decode cL_law 240 = .ok (.goto 4, 3) := by decide +kernel
theorem dL_law_243 : decode cL_law 243 = .ok (.iconst 0, 1) := by decide +kernel
theorem dL_law_244 : decode cL_law 244 = .ok (.invokevirtual 22, 3) := by decide +kernel
theorem dL_law_247 : decode cL_law 247 = .ok (.if_icmp .eq 1084, 3) := by decide +kernel
theorem dL_law_250 : decode cL_law 250 = .ok (.iconst 0, 1) := by decide +kernel
theorem dL_law_251 : decode cL_law 251 = .ok (.ireturn, 1) := by decide +kernel
theorem dL_law_252 : decode cL_law 252 = .ok (.aload_n 1, 1) := by decide +kernel
theorem dL_law_253 : decode cL_law 253 = .ok (.aload_n 0, 1) := by decide +kernel
theorem dL_law_254 : decode cL_law 254 = .ok (.iload_n 3, 1) := by decide +kernel
theorem dL_law_255 : decode cL_law 255 = .ok (.iconst 1, 1) := by decide +kernel
theorem dL_law_256 : decode cL_law 256 = .ok (.iadd, 1) := by decide +kernel
theorem dL_law_257 : decode cL_law 257 = .ok (.iaload, 1) := by decide +kernel
theorem dL_law_258 : decode cL_law 258 = .ok (.aload_n 0, 1) := by decide +kernel
theorem dL_law_259 : decode cL_law 259 = .ok (.iload_n 3, 1) := by decide +kernel
theorem dL_law_260 : decode cL_law 260 = .ok (.iconst 2, 1) := by decide +kernel
theorem dL_law_261 : decode cL_law 261 = .ok (.iadd, 1) := by decide +kernel
theorem dL_law_262 : decode cL_law 262 = .ok (.iaload, 1) := by decide +kernel
theorem dL_law_263 : decode cL_law 263 = .ok (.aload_n 0, 1) := by decide +kernel
theorem dL_law_264 : decode cL_law 264 = .ok (.iload_n 3, 1) := by decide +kernel
theorem dL_law_265 : decode cL_law 265 = .ok (.iconst 3, 1) := by decide +kernel
theorem dL_law_266 : decode cL_law 266 = .ok (.iadd, 1) := by decide +kernel
theorem dL_law_267 : decode cL_law 267 = .ok (.iaload, 1) := by decide +kernel
theorem dL_law_268 : decode cL_law 268 = .ok (.invokevirtual 23, 3) := by decide +kernel
theorem dL_law_271 : decode cL_law 271 = .ok (.aload_n 2, 1) := by decide +kernel
theorem dL_law_272 : decode cL_law 272 = .ok (.aload_n 0, 1) := by decide +kernel
theorem dL_law_273 : decode cL_law 273 = .ok (.iload_n 3, 1) := by decide +kernel
theorem dL_law_274 : decode cL_law 274 = .ok (.iconst 1, 1) := by decide +kernel
theorem dL_law_275 : decode cL_law 275 = .ok (.iadd, 1) := by decide +kernel
theorem dL_law_276 : decode cL_law 276 = .ok (.iaload, 1) := by decide +kernel
theorem dL_law_277 : decode cL_law 277 = .ok (.aload_n 0, 1) := by decide +kernel
theorem dL_law_278 : decode cL_law 278 = .ok (.iload_n 3, 1) := by decide +kernel
theorem dL_law_279 : decode cL_law 279 = .ok (.iconst 2, 1) := by decide +kernel
theorem dL_law_280 : decode cL_law 280 = .ok (.iadd, 1) := by decide +kernel
theorem dL_law_281 : decode cL_law 281 = .ok (.iaload, 1) := by decide +kernel
theorem dL_law_282 : decode cL_law 282 = .ok (.aload_n 0, 1) := by decide +kernel
theorem dL_law_283 : decode cL_law 283 = .ok (.iload_n 3, 1) := by decide +kernel
theorem dL_law_284 : decode cL_law 284 = .ok (.iconst 3, 1) := by decide +kernel
theorem dL_law_285 : decode cL_law 285 = .ok (.iadd, 1) := by decide +kernel
theorem dL_law_286 : decode cL_law 286 = .ok (.iaload, 1) := by decide +kernel
theorem dL_law_287 : decode cL_law 287 = .ok (.invokevirtual 27, 3) := by decide +kernel
theorem dL_law_290 : decode cL_law 290 = .ok (.if_icmp .eq 1041, 3) := by decide +kernel
theorem dL_law_293 : decode cL_law 293 = .ok (.iconst 0, 1) := by decide +kernel
theorem dL_law_294 : decode cL_law 294 = .ok (.ireturn, 1) := by decide +kernel
theorem dL_law_295 : decode cL_law 295 = .ok (.aload_n 1, 1) := by decide +kernel
theorem dL_law_296 : decode cL_law 296 = .ok (.aload_n 0, 1) := by decide +kernel
theorem dL_law_297 : decode cL_law 297 = .ok (.iload_n 3, 1) := by decide +kernel
theorem dL_law_298 : decode cL_law 298 = .ok (.iconst 1, 1) := by decide +kernel
theorem dL_law_299 : decode cL_law 299 = .ok (.iadd, 1) := by decide +kernel
theorem dL_law_300 : decode cL_law 300 = .ok (.iaload, 1) := by decide +kernel
theorem dL_law_301 : decode cL_law 301 = .ok (.invokevirtual 28, 3) := by decide +kernel
theorem dL_law_304 : decode cL_law 304 = .ok (.aload_n 2, 1) := by decide +kernel
theorem dL_law_305 : decode cL_law 305 = .ok (.aload_n 0, 1) := by decide +kernel
theorem dL_law_306 : decode cL_law 306 = .ok (.iload_n 3, 1) := by decide +kernel
theorem dL_law_307 : decode cL_law 307 = .ok (.iconst 1, 1) := by decide +kernel
theorem dL_law_308 : decode cL_law 308 = .ok (.iadd, 1) := by decide +kernel
theorem dL_law_309 : decode cL_law 309 = .ok (.iaload, 1) := by decide +kernel
theorem dL_law_310 : decode cL_law 310 = .ok (.invokevirtual 31, 3) := by decide +kernel
theorem dL_law_313 : decode cL_law 313 = .ok (.if_icmp .eq 1018, 3) := by decide +kernel
theorem dL_law_316 : decode cL_law 316 = .ok (.iconst 0, 1) := by decide +kernel
theorem dL_law_317 : decode cL_law 317 = .ok (.ireturn, 1) := by decide +kernel
theorem dL_law_318 : decode cL_law 318 = .ok (.aload_n 1, 1) := by decide +kernel
theorem dL_law_319 : decode cL_law 319 = .ok (.aload_n 0, 1) := by decide +kernel
theorem dL_law_320 : decode cL_law 320 = .ok (.iload_n 3, 1) := by decide +kernel
theorem dL_law_321 : decode cL_law 321 = .ok (.iconst 1, 1) := by decide +kernel
theorem dL_law_322 : decode cL_law 322 = .ok (.iadd, 1) := by decide +kernel
theorem dL_law_323 : decode cL_law 323 = .ok (.iaload, 1) := by decide +kernel
theorem dL_law_324 : decode cL_law 324 = .ok (.invokevirtual 32, 3) := by decide +kernel
theorem dL_law_327 : decode cL_law 327 = .ok (.aload_n 2, 1) := by decide +kernel
theorem dL_law_328 : decode cL_law 328 = .ok (.aload_n 0, 1) := by decide +kernel
theorem dL_law_329 : decode cL_law 329 = .ok (.iload_n 3, 1) := by decide +kernel
theorem dL_law_330 : decode cL_law 330 = .ok (.iconst 1, 1) := by decide +kernel
theorem dL_law_331 : decode cL_law 331 = .ok (.iadd, 1) := by decide +kernel
theorem dL_law_332 : decode cL_law 332 = .ok (.iaload, 1) := by decide +kernel
theorem dL_law_333 : decode cL_law 333 = .ok (.invokevirtual 35, 3) := by decide +kernel
theorem dL_law_336 : decode cL_law 336 = .ok (.if_icmp .eq 995, 3) := by decide +kernel
theorem dL_law_339 : decode cL_law 339 = .ok (.iconst 0, 1) := by decide +kernel
theorem dL_law_340 : decode cL_law 340 = .ok (.ireturn, 1) := by decide +kernel
theorem dL_law_341 : decode cL_law 341 = .ok (.aload_n 1, 1) := by decide +kernel
theorem dL_law_342 : decode cL_law 342 = .ok (.aload_n 0, 1) := by decide +kernel
theorem dL_law_343 : decode cL_law 343 = .ok (.iload_n 3, 1) := by decide +kernel
theorem dL_law_344 : decode cL_law 344 = .ok (.iconst 1, 1) := by decide +kernel
theorem dL_law_345 : decode cL_law 345 = .ok (.iadd, 1) := by decide +kernel
theorem dL_law_346 : decode cL_law 346 = .ok (.iaload, 1) := by decide +kernel
theorem dL_law_347 : decode cL_law 347 = .ok (.aload_n 0, 1) := by decide +kernel
theorem dL_law_348 : decode cL_law 348 = .ok (.iload_n 3, 1) := by decide +kernel
theorem dL_law_349 : decode cL_law 349 = .ok (.iconst 2, 1) := by decide +kernel
theorem dL_law_350 : decode cL_law 350 = .ok (.iadd, 1) := by decide +kernel
theorem dL_law_351 : decode cL_law 351 = .ok (.iaload, 1) := by decide +kernel
theorem dL_law_352 : decode cL_law 352 = .ok (.aload_n 0, 1) := by decide +kernel
theorem dL_law_353 : decode cL_law 353 = .ok (.iload_n 3, 1) := by decide +kernel
theorem dL_law_354 : decode cL_law 354 = .ok (.iconst 3, 1) := by decide +kernel
theorem dL_law_355 : decode cL_law 355 = .ok (.iadd, 1) := by decide +kernel
theorem dL_law_356 : decode cL_law 356 = .ok (.iaload, 1) := by decide +kernel
theorem dL_law_357 : decode cL_law 357 = .ok (.invokevirtual 36, 3) := by decide +kernel
theorem dL_law_360 : decode cL_law 360 = .ok (.aload_n 2, 1) := by decide +kernel
theorem dL_law_361 : decode cL_law 361 = .ok (.aload_n 0, 1) := by decide +kernel
theorem dL_law_362 : decode cL_law 362 = .ok (.iload_n 3, 1) := by decide +kernel
theorem dL_law_363 : decode cL_law 363 = .ok (.iconst 1, 1) := by decide +kernel
theorem dL_law_364 : decode cL_law 364 = .ok (.iadd, 1) := by decide +kernel
theorem dL_law_365 : decode cL_law 365 = .ok (.iaload, 1) := by decide +kernel
theorem dL_law_366 : decode cL_law 366 = .ok (.aload_n 0, 1) := by decide +kernel
theorem dL_law_367 : decode cL_law 367 = .ok (.iload_n 3, 1) := by decide +kernel
theorem dL_law_368 : decode cL_law 368 = .ok (.iconst 2, 1) := by decide +kernel
theorem dL_law_369 : decode cL_law 369 = .ok (.iadd, 1) := by decide +kernel
theorem dL_law_370 : decode cL_law 370 = .ok (.iaload, 1) := by decide +kernel
theorem dL_law_371 : decode cL_law 371 = .ok (.aload_n 0, 1) := by decide +kernel
theorem dL_law_372 : decode cL_law 372 = .ok (.iload_n 3, 1) := by decide +kernel
theorem dL_law_373 : decode cL_law 373 = .ok (.iconst 3, 1) := by decide +kernel
theorem dL_law_374 : decode cL_law 374 = .ok (.iadd, 1) := by decide +kernel
theorem dL_law_375 : decode cL_law 375 = .ok (.iaload, 1) := by decide +kernel
theorem dL_law_376 : decode cL_law 376 = .ok (.invokevirtual 39, 3) := by decide +kernel
theorem dL_law_379 : decode cL_law 379 = .ok (.if_icmp .eq 952, 3) := by decide +kernel
theorem dL_law_382 : decode cL_law 382 = .ok (.iconst 0, 1) := by decide +kernel
theorem dL_law_383 : decode cL_law 383 = .ok (.ireturn, 1) := by decide +kernel
theorem dL_law_384 : decode cL_law 384 = .ok (.aload_n 1, 1) := by decide +kernel
theorem dL_law_385 : decode cL_law 385 = .ok (.aload_n 0, 1) := by decide +kernel
theorem dL_law_386 : decode cL_law 386 = .ok (.iload_n 3, 1) := by decide +kernel
theorem dL_law_387 : decode cL_law 387 = .ok (.iconst 1, 1) := by decide +kernel
theorem dL_law_388 : decode cL_law 388 = .ok (.iadd, 1) := by decide +kernel
theorem dL_law_389 : decode cL_law 389 = .ok (.iaload, 1) := by decide +kernel
theorem dL_law_390 : decode cL_law 390 = .ok (.aload_n 0, 1) := by decide +kernel
theorem dL_law_391 : decode cL_law 391 = .ok (.iload_n 3, 1) := by decide +kernel
theorem dL_law_392 : decode cL_law 392 = .ok (.iconst 2, 1) := by decide +kernel
theorem dL_law_393 : decode cL_law 393 = .ok (.iadd, 1) := by decide +kernel
theorem dL_law_394 : decode cL_law 394 = .ok (.iaload, 1) := by decide +kernel
theorem dL_law_395 : decode cL_law 395 = .ok (.aload_n 0, 1) := by decide +kernel
theorem dL_law_396 : decode cL_law 396 = .ok (.iload_n 3, 1) := by decide +kernel
theorem dL_law_397 : decode cL_law 397 = .ok (.iconst 3, 1) := by decide +kernel
theorem dL_law_398 : decode cL_law 398 = .ok (.iadd, 1) := by decide +kernel
theorem dL_law_399 : decode cL_law 399 = .ok (.iaload, 1) := by decide +kernel
theorem dL_law_400 : decode cL_law 400 = .ok (.invokevirtual 40, 3) := by decide +kernel
theorem dL_law_403 : decode cL_law 403 = .ok (.aload_n 2, 1) := by decide +kernel
theorem dL_law_404 : decode cL_law 404 = .ok (.aload_n 0, 1) := by decide +kernel
theorem dL_law_405 : decode cL_law 405 = .ok (.iload_n 3, 1) := by decide +kernel
theorem dL_law_406 : decode cL_law 406 = .ok (.iconst 1, 1) := by decide +kernel
theorem dL_law_407 : decode cL_law 407 = .ok (.iadd, 1) := by decide +kernel
theorem dL_law_408 : decode cL_law 408 = .ok (.iaload, 1) := by decide +kernel
theorem dL_law_409 : decode cL_law 409 = .ok (.aload_n 0, 1) := by decide +kernel
theorem dL_law_410 : decode cL_law 410 = .ok (.iload_n 3, 1) := by decide +kernel
theorem dL_law_411 : decode cL_law 411 = .ok (.iconst 2, 1) := by decide +kernel
theorem dL_law_412 : decode cL_law 412 = .ok (.iadd, 1) := by decide +kernel
theorem dL_law_413 : decode cL_law 413 = .ok (.iaload, 1) := by decide +kernel
theorem dL_law_414 : decode cL_law 414 = .ok (.aload_n 0, 1) := by decide +kernel
theorem dL_law_415 : decode cL_law 415 = .ok (.iload_n 3, 1) := by decide +kernel
theorem dL_law_416 : decode cL_law 416 = .ok (.iconst 3, 1) := by decide +kernel
theorem dL_law_417 : decode cL_law 417 = .ok (.iadd, 1) := by decide +kernel
theorem dL_law_418 : decode cL_law 418 = .ok (.iaload, 1) := by decide +kernel
theorem dL_law_419 : decode cL_law 419 = .ok (.invokevirtual 43, 3) := by decide +kernel
theorem dL_law_422 : decode cL_law 422 = .ok (.if_icmp .eq 909, 3) := by decide +kernel
theorem dL_law_425 : decode cL_law 425 = .ok (.iconst 0, 1) := by decide +kernel
theorem dL_law_426 : decode cL_law 426 = .ok (.ireturn, 1) := by decide +kernel
theorem dL_law_427 : decode cL_law 427 = .ok (.aload_n 1, 1) := by decide +kernel
theorem dL_law_428 : decode cL_law 428 = .ok (.aload_n 0, 1) := by decide +kernel
theorem dL_law_429 : decode cL_law 429 = .ok (.iload_n 3, 1) := by decide +kernel
theorem dL_law_430 : decode cL_law 430 = .ok (.iconst 1, 1) := by decide +kernel
theorem dL_law_431 : decode cL_law 431 = .ok (.iadd, 1) := by decide +kernel
theorem dL_law_432 : decode cL_law 432 = .ok (.iaload, 1) := by decide +kernel
theorem dL_law_433 : decode cL_law 433 = .ok (.aload_n 0, 1) := by decide +kernel
theorem dL_law_434 : decode cL_law 434 = .ok (.iload_n 3, 1) := by decide +kernel
theorem dL_law_435 : decode cL_law 435 = .ok (.iconst 2, 1) := by decide +kernel
theorem dL_law_436 : decode cL_law 436 = .ok (.iadd, 1) := by decide +kernel
theorem dL_law_437 : decode cL_law 437 = .ok (.iaload, 1) := by decide +kernel
theorem dL_law_438 : decode cL_law 438 = .ok (.aload_n 0, 1) := by decide +kernel
theorem dL_law_439 : decode cL_law 439 = .ok (.iload_n 3, 1) := by decide +kernel
theorem dL_law_440 : decode cL_law 440 = .ok (.iconst 3, 1) := by decide +kernel
theorem dL_law_441 : decode cL_law 441 = .ok (.iadd, 1) := by decide +kernel
theorem dL_law_442 : decode cL_law 442 = .ok (.iaload, 1) := by decide +kernel
theorem dL_law_443 : decode cL_law 443 = .ok (.invokevirtual 44, 3) := by decide +kernel
theorem dL_law_446 : decode cL_law 446 = .ok (.aload_n 2, 1) := by decide +kernel
theorem dL_law_447 : decode cL_law 447 = .ok (.aload_n 0, 1) := by decide +kernel
theorem dL_law_448 : decode cL_law 448 = .ok (.iload_n 3, 1) := by decide +kernel
theorem dL_law_449 : decode cL_law 449 = .ok (.iconst 1, 1) := by decide +kernel
theorem dL_law_450 : decode cL_law 450 = .ok (.iadd, 1) := by decide +kernel
theorem dL_law_451 : decode cL_law 451 = .ok (.iaload, 1) := by decide +kernel
theorem dL_law_452 : decode cL_law 452 = .ok (.aload_n 0, 1) := by decide +kernel
theorem dL_law_453 : decode cL_law 453 = .ok (.iload_n 3, 1) := by decide +kernel
theorem dL_law_454 : decode cL_law 454 = .ok (.iconst 2, 1) := by decide +kernel
theorem dL_law_455 : decode cL_law 455 = .ok (.iadd, 1) := by decide +kernel
theorem dL_law_456 : decode cL_law 456 = .ok (.iaload, 1) := by decide +kernel
theorem dL_law_457 : decode cL_law 457 = .ok (.aload_n 0, 1) := by decide +kernel
theorem dL_law_458 : decode cL_law 458 = .ok (.iload_n 3, 1) := by decide +kernel
theorem dL_law_459 : decode cL_law 459 = .ok (.iconst 3, 1) := by decide +kernel
theorem dL_law_460 : decode cL_law 460 = .ok (.iadd, 1) := by decide +kernel
theorem dL_law_461 : decode cL_law 461 = .ok (.iaload, 1) := by decide +kernel
theorem dL_law_462 : decode cL_law 462 = .ok (.invokevirtual 47, 3) := by decide +kernel
theorem dL_law_465 : decode cL_law 465 = .ok (.if_icmp .eq 866, 3) := by decide +kernel
theorem dL_law_468 : decode cL_law 468 = .ok (.iconst 0, 1) := by decide +kernel
theorem dL_law_469 : decode cL_law 469 = .ok (.ireturn, 1) := by decide +kernel
theorem dL_law_470 : decode cL_law 470 = .ok (.aload_n 1, 1) := by decide +kernel
theorem dL_law_471 : decode cL_law 471 = .ok (.aload_n 0, 1) := by decide +kernel
theorem dL_law_472 : decode cL_law 472 = .ok (.iload_n 3, 1) := by decide +kernel
theorem dL_law_473 : decode cL_law 473 = .ok (.iconst 1, 1) := by decide +kernel
theorem dL_law_474 : decode cL_law 474 = .ok (.iadd, 1) := by decide +kernel
theorem dL_law_475 : decode cL_law 475 = .ok (.iaload, 1) := by decide +kernel
theorem dL_law_476 : decode cL_law 476 = .ok (.aload_n 0, 1) := by decide +kernel
theorem dL_law_477 : decode cL_law 477 = .ok (.iload_n 3, 1) := by decide +kernel
theorem dL_law_478 : decode cL_law 478 = .ok (.iconst 2, 1) := by decide +kernel
theorem dL_law_479 : decode cL_law 479 = .ok (.iadd, 1) := by decide +kernel
theorem dL_law_480 : decode cL_law 480 = .ok (.iaload, 1) := by decide +kernel
theorem dL_law_481 : decode cL_law 481 = .ok (.aload_n 0, 1) := by decide +kernel
theorem dL_law_482 : decode cL_law 482 = .ok (.iload_n 3, 1) := by decide +kernel
theorem dL_law_483 : decode cL_law 483 = .ok (.iconst 3, 1) := by decide +kernel
theorem dL_law_484 : decode cL_law 484 = .ok (.iadd, 1) := by decide +kernel
theorem dL_law_485 : decode cL_law 485 = .ok (.iaload, 1) := by decide +kernel
theorem dL_law_486 : decode cL_law 486 = .ok (.aload_n 0, 1) := by decide +kernel
theorem dL_law_487 : decode cL_law 487 = .ok (.iload_n 3, 1) := by decide +kernel
theorem dL_law_488 : decode cL_law 488 = .ok (.iconst 4, 1) := by decide +kernel
theorem dL_law_489 : decode cL_law 489 = .ok (.iadd, 1) := by decide +kernel
theorem dL_law_490 : decode cL_law 490 = .ok (.iaload, 1) := by decide +kernel
theorem dL_law_491 : decode cL_law 491 = .ok (.aload_n 0, 1) := by decide +kernel
theorem dL_law_492 : decode cL_law 492 = .ok (.iload_n 3, 1) := by decide +kernel
theorem dL_law_493 : decode cL_law 493 = .ok (.iconst 5, 1) := by decide +kernel
theorem dL_law_494 : decode cL_law 494 = .ok (.iadd, 1) := by decide +kernel
theorem dL_law_495 : decode cL_law 495 = .ok (.iaload, 1) := by decide +kernel
theorem dL_law_496 : decode cL_law 496 = .ok (.invokevirtual 48, 3) := by decide +kernel
theorem dL_law_499 : decode cL_law 499 = .ok (.aload_n 2, 1) := by decide +kernel
theorem dL_law_500 : decode cL_law 500 = .ok (.aload_n 0, 1) := by decide +kernel
theorem dL_law_501 : decode cL_law 501 = .ok (.iload_n 3, 1) := by decide +kernel
theorem dL_law_502 : decode cL_law 502 = .ok (.iconst 1, 1) := by decide +kernel
theorem dL_law_503 : decode cL_law 503 = .ok (.iadd, 1) := by decide +kernel
theorem dL_law_504 : decode cL_law 504 = .ok (.iaload, 1) := by decide +kernel
theorem dL_law_505 : decode cL_law 505 = .ok (.aload_n 0, 1) := by decide +kernel
theorem dL_law_506 : decode cL_law 506 = .ok (.iload_n 3, 1) := by decide +kernel
theorem dL_law_507 : decode cL_law 507 = .ok (.iconst 2, 1) := by decide +kernel
theorem dL_law_508 : decode cL_law 508 = .ok (.iadd, 1) := by decide +kernel
theorem dL_law_509 : decode cL_law 509 = .ok (.iaload, 1) := by decide +kernel
theorem dL_law_510 : decode cL_law 510 = .ok (.aload_n 0, 1) := by decide +kernel
theorem dL_law_511 : decode cL_law 511 = .ok (.iload_n 3, 1) := by decide +kernel
theorem dL_law_512 : decode cL_law 512 = .ok (.iconst 3, 1) := by decide +kernel
theorem dL_law_513 : decode cL_law 513 = .ok (.iadd, 1) := by decide +kernel
theorem dL_law_514 : decode cL_law 514 = .ok (.iaload, 1) := by decide +kernel
theorem dL_law_515 : decode cL_law 515 = .ok (.aload_n 0, 1) := by decide +kernel
theorem dL_law_516 : decode cL_law 516 = .ok (.iload_n 3, 1) := by decide +kernel
theorem dL_law_517 : decode cL_law 517 = .ok (.iconst 4, 1) := by decide +kernel
theorem dL_law_518 : decode cL_law 518 = .ok (.iadd, 1) := by decide +kernel
theorem dL_law_519 : decode cL_law 519 = .ok (.iaload, 1) := by decide +kernel
theorem dL_law_520 : decode cL_law 520 = .ok (.aload_n 0, 1) := by decide +kernel
theorem dL_law_521 : decode cL_law 521 = .ok (.iload_n 3, 1) := by decide +kernel
theorem dL_law_522 : decode cL_law 522 = .ok (.iconst 5, 1) := by decide +kernel
theorem dL_law_523 : decode cL_law 523 = .ok (.iadd, 1) := by decide +kernel
theorem dL_law_524 : decode cL_law 524 = .ok (.iaload, 1) := by decide +kernel
theorem dL_law_525 : decode cL_law 525 = .ok (.invokevirtual 52, 3) := by decide +kernel
theorem dL_law_528 : decode cL_law 528 = .ok (.if_icmp .eq 803, 3) := by decide +kernel
theorem dL_law_531 : decode cL_law 531 = .ok (.iconst 0, 1) := by decide +kernel
theorem dL_law_532 : decode cL_law 532 = .ok (.ireturn, 1) := by decide +kernel
theorem dL_law_533 : decode cL_law 533 = .ok (.aload_n 1, 1) := by decide +kernel
theorem dL_law_534 : decode cL_law 534 = .ok (.aload_n 0, 1) := by decide +kernel
theorem dL_law_535 : decode cL_law 535 = .ok (.iload_n 3, 1) := by decide +kernel
theorem dL_law_536 : decode cL_law 536 = .ok (.iconst 1, 1) := by decide +kernel
theorem dL_law_537 : decode cL_law 537 = .ok (.iadd, 1) := by decide +kernel
theorem dL_law_538 : decode cL_law 538 = .ok (.iaload, 1) := by decide +kernel
theorem dL_law_539 : decode cL_law 539 = .ok (.aload_n 0, 1) := by decide +kernel
theorem dL_law_540 : decode cL_law 540 = .ok (.iload_n 3, 1) := by decide +kernel
theorem dL_law_541 : decode cL_law 541 = .ok (.iconst 2, 1) := by decide +kernel
theorem dL_law_542 : decode cL_law 542 = .ok (.iadd, 1) := by decide +kernel
theorem dL_law_543 : decode cL_law 543 = .ok (.iaload, 1) := by decide +kernel
theorem dL_law_544 : decode cL_law 544 = .ok (.invokevirtual 53, 3) := by decide +kernel
theorem dL_law_547 : decode cL_law 547 = .ok (.aload_n 2, 1) := by decide +kernel
theorem dL_law_548 : decode cL_law 548 = .ok (.aload_n 0, 1) := by decide +kernel
theorem dL_law_549 : decode cL_law 549 = .ok (.iload_n 3, 1) := by decide +kernel
theorem dL_law_550 : decode cL_law 550 = .ok (.iconst 1, 1) := by decide +kernel
theorem dL_law_551 : decode cL_law 551 = .ok (.iadd, 1) := by decide +kernel
theorem dL_law_552 : decode cL_law 552 = .ok (.iaload, 1) := by decide +kernel
theorem dL_law_553 : decode cL_law 553 = .ok (.aload_n 0, 1) := by decide +kernel
theorem dL_law_554 : decode cL_law 554 = .ok (.iload_n 3, 1) := by decide +kernel
theorem dL_law_555 : decode cL_law 555 = .ok (.iconst 2, 1) := by decide +kernel
theorem dL_law_556 : decode cL_law 556 = .ok (.iadd, 1) := by decide +kernel
theorem dL_law_557 : decode cL_law 557 = .ok (.iaload, 1) := by decide +kernel
theorem dL_law_558 : decode cL_law 558 = .ok (.invokevirtual 57, 3) := by decide +kernel
theorem dL_law_561 : decode cL_law 561 = .ok (.if_icmp .eq 770, 3) := by decide +kernel
theorem dL_law_564 : decode cL_law 564 = .ok (.iconst 0, 1) := by decide +kernel
theorem dL_law_565 : decode cL_law 565 = .ok (.ireturn, 1) := by decide +kernel
theorem dL_law_566 : decode cL_law 566 = .ok (.aload_n 1, 1) := by decide +kernel
theorem dL_law_567 : decode cL_law 567 = .ok (.aload_n 0, 1) := by decide +kernel
theorem dL_law_568 : decode cL_law 568 = .ok (.iload_n 3, 1) := by decide +kernel
theorem dL_law_569 : decode cL_law 569 = .ok (.iconst 1, 1) := by decide +kernel
theorem dL_law_570 : decode cL_law 570 = .ok (.iadd, 1) := by decide +kernel
theorem dL_law_571 : decode cL_law 571 = .ok (.iaload, 1) := by decide +kernel
theorem dL_law_572 : decode cL_law 572 = .ok (.aload_n 0, 1) := by decide +kernel
theorem dL_law_573 : decode cL_law 573 = .ok (.iload_n 3, 1) := by decide +kernel
theorem dL_law_574 : decode cL_law 574 = .ok (.iconst 2, 1) := by decide +kernel
theorem dL_law_575 : decode cL_law 575 = .ok (.iadd, 1) := by decide +kernel
theorem dL_law_576 : decode cL_law 576 = .ok (.iaload, 1) := by decide +kernel
theorem dL_law_577 : decode cL_law 577 = .ok (.invokevirtual 58, 3) := by decide +kernel
theorem dL_law_580 : decode cL_law 580 = .ok (.aload_n 2, 1) := by decide +kernel
theorem dL_law_581 : decode cL_law 581 = .ok (.aload_n 0, 1) := by decide +kernel
theorem dL_law_582 : decode cL_law 582 = .ok (.iload_n 3, 1) := by decide +kernel
theorem dL_law_583 : decode cL_law 583 = .ok (.iconst 1, 1) := by decide +kernel
theorem dL_law_584 : decode cL_law 584 = .ok (.iadd, 1) := by decide +kernel
theorem dL_law_585 : decode cL_law 585 = .ok (.iaload, 1) := by decide +kernel
theorem dL_law_586 : decode cL_law 586 = .ok (.aload_n 0, 1) := by decide +kernel
theorem dL_law_587 : decode cL_law 587 = .ok (.iload_n 3, 1) := by decide +kernel
theorem dL_law_588 : decode cL_law 588 = .ok (.iconst 2, 1) := by decide +kernel
theorem dL_law_589 : decode cL_law 589 = .ok (.iadd, 1) := by decide +kernel
theorem dL_law_590 : decode cL_law 590 = .ok (.iaload, 1) := by decide +kernel
theorem dL_law_591 : decode cL_law 591 = .ok (.invokevirtual 61, 3) := by decide +kernel
theorem dL_law_594 : decode cL_law 594 = .ok (.if_icmp .eq 737, 3) := by decide +kernel
theorem dL_law_597 : decode cL_law 597 = .ok (.iconst 0, 1) := by decide +kernel
theorem dL_law_598 : decode cL_law 598 = .ok (.ireturn, 1) := by decide +kernel
theorem dL_law_599 : decode cL_law 599 = .ok (.aload_n 1, 1) := by decide +kernel
theorem dL_law_600 : decode cL_law 600 = .ok (.aload_n 0, 1) := by decide +kernel
theorem dL_law_601 : decode cL_law 601 = .ok (.iload_n 3, 1) := by decide +kernel
theorem dL_law_602 : decode cL_law 602 = .ok (.iconst 1, 1) := by decide +kernel
theorem dL_law_603 : decode cL_law 603 = .ok (.iadd, 1) := by decide +kernel
theorem dL_law_604 : decode cL_law 604 = .ok (.iaload, 1) := by decide +kernel
theorem dL_law_605 : decode cL_law 605 = .ok (.aload_n 0, 1) := by decide +kernel
theorem dL_law_606 : decode cL_law 606 = .ok (.iload_n 3, 1) := by decide +kernel
theorem dL_law_607 : decode cL_law 607 = .ok (.iconst 2, 1) := by decide +kernel
theorem dL_law_608 : decode cL_law 608 = .ok (.iadd, 1) := by decide +kernel
theorem dL_law_609 : decode cL_law 609 = .ok (.iaload, 1) := by decide +kernel
theorem dL_law_610 : decode cL_law 610 = .ok (.invokevirtual 62, 3) := by decide +kernel
theorem dL_law_613 : decode cL_law 613 = .ok (.aload_n 2, 1) := by decide +kernel
theorem dL_law_614 : decode cL_law 614 = .ok (.aload_n 0, 1) := by decide +kernel
theorem dL_law_615 : decode cL_law 615 = .ok (.iload_n 3, 1) := by decide +kernel
theorem dL_law_616 : decode cL_law 616 = .ok (.iconst 1, 1) := by decide +kernel
theorem dL_law_617 : decode cL_law 617 = .ok (.iadd, 1) := by decide +kernel
theorem dL_law_618 : decode cL_law 618 = .ok (.iaload, 1) := by decide +kernel
theorem dL_law_619 : decode cL_law 619 = .ok (.aload_n 0, 1) := by decide +kernel
theorem dL_law_620 : decode cL_law 620 = .ok (.iload_n 3, 1) := by decide +kernel
theorem dL_law_621 : decode cL_law 621 = .ok (.iconst 2, 1) := by decide +kernel
theorem dL_law_622 : decode cL_law 622 = .ok (.iadd, 1) := by decide +kernel
theorem dL_law_623 : decode cL_law 623 = .ok (.iaload, 1) := by decide +kernel
theorem dL_law_624 : decode cL_law 624 = .ok (.invokevirtual 65, 3) := by decide +kernel
theorem dL_law_627 : decode cL_law 627 = .ok (.if_icmp .eq 704, 3) := by decide +kernel
theorem dL_law_630 : decode cL_law 630 = .ok (.iconst 0, 1) := by decide +kernel
theorem dL_law_631 : decode cL_law 631 = .ok (.ireturn, 1) := by decide +kernel
theorem dL_law_632 : decode cL_law 632 = .ok (.aload_n 1, 1) := by decide +kernel
theorem dL_law_633 : decode cL_law 633 = .ok (.aload_n 0, 1) := by decide +kernel
theorem dL_law_634 : decode cL_law 634 = .ok (.iload_n 3, 1) := by decide +kernel
theorem dL_law_635 : decode cL_law 635 = .ok (.iconst 1, 1) := by decide +kernel
theorem dL_law_636 : decode cL_law 636 = .ok (.iadd, 1) := by decide +kernel
theorem dL_law_637 : decode cL_law 637 = .ok (.iaload, 1) := by decide +kernel
theorem dL_law_638 : decode cL_law 638 = .ok (.aload_n 0, 1) := by decide +kernel
theorem dL_law_639 : decode cL_law 639 = .ok (.iload_n 3, 1) := by decide +kernel
theorem dL_law_640 : decode cL_law 640 = .ok (.iconst 2, 1) := by decide +kernel
theorem dL_law_641 : decode cL_law 641 = .ok (.iadd, 1) := by decide +kernel
theorem dL_law_642 : decode cL_law 642 = .ok (.iaload, 1) := by decide +kernel
theorem dL_law_643 : decode cL_law 643 = .ok (.aload_n 0, 1) := by decide +kernel
theorem dL_law_644 : decode cL_law 644 = .ok (.iload_n 3, 1) := by decide +kernel
theorem dL_law_645 : decode cL_law 645 = .ok (.iconst 3, 1) := by decide +kernel
theorem dL_law_646 : decode cL_law 646 = .ok (.iadd, 1) := by decide +kernel
theorem dL_law_647 : decode cL_law 647 = .ok (.iaload, 1) := by decide +kernel
theorem dL_law_648 : decode cL_law 648 = .ok (.invokevirtual 66, 3) := by decide +kernel
theorem dL_law_651 : decode cL_law 651 = .ok (.aload_n 2, 1) := by decide +kernel
theorem dL_law_652 : decode cL_law 652 = .ok (.aload_n 0, 1) := by decide +kernel
theorem dL_law_653 : decode cL_law 653 = .ok (.iload_n 3, 1) := by decide +kernel
theorem dL_law_654 : decode cL_law 654 = .ok (.iconst 1, 1) := by decide +kernel
theorem dL_law_655 : decode cL_law 655 = .ok (.iadd, 1) := by decide +kernel
theorem dL_law_656 : decode cL_law 656 = .ok (.iaload, 1) := by decide +kernel
theorem dL_law_657 : decode cL_law 657 = .ok (.aload_n 0, 1) := by decide +kernel
theorem dL_law_658 : decode cL_law 658 = .ok (.iload_n 3, 1) := by decide +kernel
theorem dL_law_659 : decode cL_law 659 = .ok (.iconst 2, 1) := by decide +kernel
theorem dL_law_660 : decode cL_law 660 = .ok (.iadd, 1) := by decide +kernel
theorem dL_law_661 : decode cL_law 661 = .ok (.iaload, 1) := by decide +kernel
theorem dL_law_662 : decode cL_law 662 = .ok (.aload_n 0, 1) := by decide +kernel
theorem dL_law_663 : decode cL_law 663 = .ok (.iload_n 3, 1) := by decide +kernel
theorem dL_law_664 : decode cL_law 664 = .ok (.iconst 3, 1) := by decide +kernel
theorem dL_law_665 : decode cL_law 665 = .ok (.iadd, 1) := by decide +kernel
theorem dL_law_666 : decode cL_law 666 = .ok (.iaload, 1) := by decide +kernel
theorem dL_law_667 : decode cL_law 667 = .ok (.invokevirtual 69, 3) := by decide +kernel
theorem dL_law_670 : decode cL_law 670 = .ok (.if_icmp .eq 661, 3) := by decide +kernel
theorem dL_law_673 : decode cL_law 673 = .ok (.iconst 0, 1) := by decide +kernel
theorem dL_law_674 : decode cL_law 674 = .ok (.ireturn, 1) := by decide +kernel
theorem dL_law_675 : decode cL_law 675 = .ok (.aload_n 1, 1) := by decide +kernel
theorem dL_law_676 : decode cL_law 676 = .ok (.aload_n 0, 1) := by decide +kernel
theorem dL_law_677 : decode cL_law 677 = .ok (.iload_n 3, 1) := by decide +kernel
theorem dL_law_678 : decode cL_law 678 = .ok (.iconst 1, 1) := by decide +kernel
theorem dL_law_679 : decode cL_law 679 = .ok (.iadd, 1) := by decide +kernel
theorem dL_law_680 : decode cL_law 680 = .ok (.iaload, 1) := by decide +kernel
theorem dL_law_681 : decode cL_law 681 = .ok (.aload_n 0, 1) := by decide +kernel
theorem dL_law_682 : decode cL_law 682 = .ok (.iload_n 3, 1) := by decide +kernel
theorem dL_law_683 : decode cL_law 683 = .ok (.iconst 2, 1) := by decide +kernel
theorem dL_law_684 : decode cL_law 684 = .ok (.iadd, 1) := by decide +kernel
theorem dL_law_685 : decode cL_law 685 = .ok (.iaload, 1) := by decide +kernel
theorem dL_law_686 : decode cL_law 686 = .ok (.invokevirtual 70, 3) := by decide +kernel
theorem dL_law_689 : decode cL_law 689 = .ok (.aload_n 2, 1) := by decide +kernel
theorem dL_law_690 : decode cL_law 690 = .ok (.aload_n 0, 1) := by decide +kernel
theorem dL_law_691 : decode cL_law 691 = .ok (.iload_n 3, 1) := by decide +kernel
theorem dL_law_692 : decode cL_law 692 = .ok (.iconst 1, 1) := by decide +kernel
theorem dL_law_693 : decode cL_law 693 = .ok (.iadd, 1) := by decide +kernel
theorem dL_law_694 : decode cL_law 694 = .ok (.iaload, 1) := by decide +kernel
theorem dL_law_695 : decode cL_law 695 = .ok (.aload_n 0, 1) := by decide +kernel
theorem dL_law_696 : decode cL_law 696 = .ok (.iload_n 3, 1) := by decide +kernel
theorem dL_law_697 : decode cL_law 697 = .ok (.iconst 2, 1) := by decide +kernel
theorem dL_law_698 : decode cL_law 698 = .ok (.iadd, 1) := by decide +kernel
theorem dL_law_699 : decode cL_law 699 = .ok (.iaload, 1) := by decide +kernel
theorem dL_law_700 : decode cL_law 700 = .ok (.invokevirtual 73, 3) := by decide +kernel
theorem dL_law_703 : decode cL_law 703 = .ok (.if_icmp .eq 628, 3) := by decide +kernel
theorem dL_law_706 : decode cL_law 706 = .ok (.iconst 0, 1) := by decide +kernel
theorem dL_law_707 : decode cL_law 707 = .ok (.ireturn, 1) := by decide +kernel
theorem dL_law_708 : decode cL_law 708 = .ok (.aload_n 1, 1) := by decide +kernel
theorem dL_law_709 : decode cL_law 709 = .ok (.aload_n 0, 1) := by decide +kernel
theorem dL_law_710 : decode cL_law 710 = .ok (.iload_n 3, 1) := by decide +kernel
theorem dL_law_711 : decode cL_law 711 = .ok (.iconst 1, 1) := by decide +kernel
theorem dL_law_712 : decode cL_law 712 = .ok (.iadd, 1) := by decide +kernel
theorem dL_law_713 : decode cL_law 713 = .ok (.iaload, 1) := by decide +kernel
theorem dL_law_714 : decode cL_law 714 = .ok (.aload_n 0, 1) := by decide +kernel
theorem dL_law_715 : decode cL_law 715 = .ok (.iload_n 3, 1) := by decide +kernel
theorem dL_law_716 : decode cL_law 716 = .ok (.iconst 2, 1) := by decide +kernel
theorem dL_law_717 : decode cL_law 717 = .ok (.iadd, 1) := by decide +kernel
theorem dL_law_718 : decode cL_law 718 = .ok (.iaload, 1) := by decide +kernel
theorem dL_law_719 : decode cL_law 719 = .ok (.invokevirtual 74, 3) := by decide +kernel
theorem dL_law_722 : decode cL_law 722 = .ok (.aload_n 2, 1) := by decide +kernel
theorem dL_law_723 : decode cL_law 723 = .ok (.aload_n 0, 1) := by decide +kernel
theorem dL_law_724 : decode cL_law 724 = .ok (.iload_n 3, 1) := by decide +kernel
theorem dL_law_725 : decode cL_law 725 = .ok (.iconst 1, 1) := by decide +kernel
theorem dL_law_726 : decode cL_law 726 = .ok (.iadd, 1) := by decide +kernel
theorem dL_law_727 : decode cL_law 727 = .ok (.iaload, 1) := by decide +kernel
theorem dL_law_728 : decode cL_law 728 = .ok (.aload_n 0, 1) := by decide +kernel
theorem dL_law_729 : decode cL_law 729 = .ok (.iload_n 3, 1) := by decide +kernel
theorem dL_law_730 : decode cL_law 730 = .ok (.iconst 2, 1) := by decide +kernel
theorem dL_law_731 : decode cL_law 731 = .ok (.iadd, 1) := by decide +kernel
theorem dL_law_732 : decode cL_law 732 = .ok (.iaload, 1) := by decide +kernel
theorem dL_law_733 : decode cL_law 733 = .ok (.invokevirtual 77, 3) := by decide +kernel
theorem dL_law_736 : decode cL_law 736 = .ok (.if_icmp .eq 595, 3) := by decide +kernel
theorem dL_law_739 : decode cL_law 739 = .ok (.iconst 0, 1) := by decide +kernel
theorem dL_law_740 : decode cL_law 740 = .ok (.ireturn, 1) := by decide +kernel
theorem dL_law_741 : decode cL_law 741 = .ok (.aload_n 1, 1) := by decide +kernel
theorem dL_law_742 : decode cL_law 742 = .ok (.aload_n 0, 1) := by decide +kernel
theorem dL_law_743 : decode cL_law 743 = .ok (.iload_n 3, 1) := by decide +kernel
theorem dL_law_744 : decode cL_law 744 = .ok (.iconst 1, 1) := by decide +kernel
theorem dL_law_745 : decode cL_law 745 = .ok (.iadd, 1) := by decide +kernel
theorem dL_law_746 : decode cL_law 746 = .ok (.iaload, 1) := by decide +kernel
theorem dL_law_747 : decode cL_law 747 = .ok (.invokevirtual 78, 3) := by decide +kernel
theorem dL_law_750 : decode cL_law 750 = .ok (.aload_n 2, 1) := by decide +kernel
theorem dL_law_751 : decode cL_law 751 = .ok (.aload_n 0, 1) := by decide +kernel
theorem dL_law_752 : decode cL_law 752 = .ok (.iload_n 3, 1) := by decide +kernel
theorem dL_law_753 : decode cL_law 753 = .ok (.iconst 1, 1) := by decide +kernel
theorem dL_law_754 : decode cL_law 754 = .ok (.iadd, 1) := by decide +kernel
theorem dL_law_755 : decode cL_law 755 = .ok (.iaload, 1) := by decide +kernel
theorem dL_law_756 : decode cL_law 756 = .ok (.invokevirtual 81, 3) := by decide +kernel
theorem dL_law_759 : decode cL_law 759 = .ok (.if_icmp .eq 572, 3) := by decide +kernel
theorem dL_law_762 : decode cL_law 762 = .ok (.iconst 0, 1) := by decide +kernel
theorem dL_law_763 : decode cL_law 763 = .ok (.ireturn, 1) := by decide +kernel
theorem dL_law_764 : decode cL_law 764 = .ok (.aload_n 1, 1) := by decide +kernel
theorem dL_law_765 : decode cL_law 765 = .ok (.aload_n 0, 1) := by decide +kernel
theorem dL_law_766 : decode cL_law 766 = .ok (.iload_n 3, 1) := by decide +kernel
theorem dL_law_767 : decode cL_law 767 = .ok (.iconst 1, 1) := by decide +kernel
theorem dL_law_768 : decode cL_law 768 = .ok (.iadd, 1) := by decide +kernel
theorem dL_law_769 : decode cL_law 769 = .ok (.iaload, 1) := by decide +kernel
theorem dL_law_770 : decode cL_law 770 = .ok (.aload_n 0, 1) := by decide +kernel
theorem dL_law_771 : decode cL_law 771 = .ok (.iload_n 3, 1) := by decide +kernel
theorem dL_law_772 : decode cL_law 772 = .ok (.iconst 2, 1) := by decide +kernel
theorem dL_law_773 : decode cL_law 773 = .ok (.iadd, 1) := by decide +kernel
theorem dL_law_774 : decode cL_law 774 = .ok (.iaload, 1) := by decide +kernel
theorem dL_law_775 : decode cL_law 775 = .ok (.invokevirtual 82, 3) := by decide +kernel
theorem dL_law_778 : decode cL_law 778 = .ok (.aload_n 2, 1) := by decide +kernel
theorem dL_law_779 : decode cL_law 779 = .ok (.aload_n 0, 1) := by decide +kernel
theorem dL_law_780 : decode cL_law 780 = .ok (.iload_n 3, 1) := by decide +kernel
theorem dL_law_781 : decode cL_law 781 = .ok (.iconst 1, 1) := by decide +kernel
theorem dL_law_782 : decode cL_law 782 = .ok (.iadd, 1) := by decide +kernel
theorem dL_law_783 : decode cL_law 783 = .ok (.iaload, 1) := by decide +kernel
theorem dL_law_784 : decode cL_law 784 = .ok (.aload_n 0, 1) := by decide +kernel
theorem dL_law_785 : decode cL_law 785 = .ok (.iload_n 3, 1) := by decide +kernel
theorem dL_law_786 : decode cL_law 786 = .ok (.iconst 2, 1) := by decide +kernel
theorem dL_law_787 : decode cL_law 787 = .ok (.iadd, 1) := by decide +kernel
theorem dL_law_788 : decode cL_law 788 = .ok (.iaload, 1) := by decide +kernel
theorem dL_law_789 : decode cL_law 789 = .ok (.invokevirtual 85, 3) := by decide +kernel
theorem dL_law_792 : decode cL_law 792 = .ok (.if_icmp .eq 539, 3) := by decide +kernel
theorem dL_law_795 : decode cL_law 795 = .ok (.iconst 0, 1) := by decide +kernel
theorem dL_law_796 : decode cL_law 796 = .ok (.ireturn, 1) := by decide +kernel
theorem dL_law_797 : decode cL_law 797 = .ok (.aload_n 1, 1) := by decide +kernel
theorem dL_law_798 : decode cL_law 798 = .ok (.aload_n 0, 1) := by decide +kernel
theorem dL_law_799 : decode cL_law 799 = .ok (.iload_n 3, 1) := by decide +kernel
theorem dL_law_800 : decode cL_law 800 = .ok (.iconst 1, 1) := by decide +kernel
theorem dL_law_801 : decode cL_law 801 = .ok (.iadd, 1) := by decide +kernel
theorem dL_law_802 : decode cL_law 802 = .ok (.iaload, 1) := by decide +kernel
theorem dL_law_803 : decode cL_law 803 = .ok (.invokevirtual 86, 3) := by decide +kernel
theorem dL_law_806 : decode cL_law 806 = .ok (.aload_n 2, 1) := by decide +kernel
theorem dL_law_807 : decode cL_law 807 = .ok (.aload_n 0, 1) := by decide +kernel
theorem dL_law_808 : decode cL_law 808 = .ok (.iload_n 3, 1) := by decide +kernel
theorem dL_law_809 : decode cL_law 809 = .ok (.iconst 1, 1) := by decide +kernel
theorem dL_law_810 : decode cL_law 810 = .ok (.iadd, 1) := by decide +kernel
theorem dL_law_811 : decode cL_law 811 = .ok (.iaload, 1) := by decide +kernel
theorem dL_law_812 : decode cL_law 812 = .ok (.invokevirtual 89, 3) := by decide +kernel
theorem dL_law_815 : decode cL_law 815 = .ok (.if_icmp .eq 516, 3) := by decide +kernel
theorem dL_law_818 : decode cL_law 818 = .ok (.iconst 0, 1) := by decide +kernel
theorem dL_law_819 : decode cL_law 819 = .ok (.ireturn, 1) := by decide +kernel
theorem dL_law_820 : decode cL_law 820 = .ok (.aload_n 1, 1) := by decide +kernel
theorem dL_law_821 : decode cL_law 821 = .ok (.aload_n 0, 1) := by decide +kernel
theorem dL_law_822 : decode cL_law 822 = .ok (.iload_n 3, 1) := by decide +kernel
theorem dL_law_823 : decode cL_law 823 = .ok (.iconst 1, 1) := by decide +kernel
theorem dL_law_824 : decode cL_law 824 = .ok (.iadd, 1) := by decide +kernel
theorem dL_law_825 : decode cL_law 825 = .ok (.iaload, 1) := by decide +kernel
theorem dL_law_826 : decode cL_law 826 = .ok (.invokevirtual 90, 3) := by decide +kernel
theorem dL_law_829 : decode cL_law 829 = .ok (.aload_n 2, 1) := by decide +kernel
theorem dL_law_830 : decode cL_law 830 = .ok (.aload_n 0, 1) := by decide +kernel
theorem dL_law_831 : decode cL_law 831 = .ok (.iload_n 3, 1) := by decide +kernel
theorem dL_law_832 : decode cL_law 832 = .ok (.iconst 1, 1) := by decide +kernel
theorem dL_law_833 : decode cL_law 833 = .ok (.iadd, 1) := by decide +kernel
theorem dL_law_834 : decode cL_law 834 = .ok (.iaload, 1) := by decide +kernel
theorem dL_law_835 : decode cL_law 835 = .ok (.invokevirtual 93, 3) := by decide +kernel
theorem dL_law_838 : decode cL_law 838 = .ok (.if_icmp .eq 493, 3) := by decide +kernel
theorem dL_law_841 : decode cL_law 841 = .ok (.iconst 0, 1) := by decide +kernel
theorem dL_law_842 : decode cL_law 842 = .ok (.ireturn, 1) := by decide +kernel
theorem dL_law_843 : decode cL_law 843 = .ok (.aload_n 1, 1) := by decide +kernel
theorem dL_law_844 : decode cL_law 844 = .ok (.aload_n 0, 1) := by decide +kernel
theorem dL_law_845 : decode cL_law 845 = .ok (.iload_n 3, 1) := by decide +kernel
theorem dL_law_846 : decode cL_law 846 = .ok (.iconst 1, 1) := by decide +kernel
theorem dL_law_847 : decode cL_law 847 = .ok (.iadd, 1) := by decide +kernel
theorem dL_law_848 : decode cL_law 848 = .ok (.iaload, 1) := by decide +kernel
theorem dL_law_849 : decode cL_law 849 = .ok (.invokevirtual 94, 3) := by decide +kernel
theorem dL_law_852 : decode cL_law 852 = .ok (.aload_n 2, 1) := by decide +kernel
theorem dL_law_853 : decode cL_law 853 = .ok (.aload_n 0, 1) := by decide +kernel
theorem dL_law_854 : decode cL_law 854 = .ok (.iload_n 3, 1) := by decide +kernel
theorem dL_law_855 : decode cL_law 855 = .ok (.iconst 1, 1) := by decide +kernel
theorem dL_law_856 : decode cL_law 856 = .ok (.iadd, 1) := by decide +kernel
theorem dL_law_857 : decode cL_law 857 = .ok (.iaload, 1) := by decide +kernel
theorem dL_law_858 : decode cL_law 858 = .ok (.invokevirtual 97, 3) := by decide +kernel
theorem dL_law_861 : decode cL_law 861 = .ok (.if_icmp .eq 470, 3) := by decide +kernel
theorem dL_law_864 : decode cL_law 864 = .ok (.iconst 0, 1) := by decide +kernel
theorem dL_law_865 : decode cL_law 865 = .ok (.ireturn, 1) := by decide +kernel
theorem dL_law_866 : decode cL_law 866 = .ok (.aload_n 1, 1) := by decide +kernel
theorem dL_law_867 : decode cL_law 867 = .ok (.aload_n 0, 1) := by decide +kernel
theorem dL_law_868 : decode cL_law 868 = .ok (.iload_n 3, 1) := by decide +kernel
theorem dL_law_869 : decode cL_law 869 = .ok (.iconst 1, 1) := by decide +kernel
theorem dL_law_870 : decode cL_law 870 = .ok (.iadd, 1) := by decide +kernel
theorem dL_law_871 : decode cL_law 871 = .ok (.iaload, 1) := by decide +kernel
theorem dL_law_872 : decode cL_law 872 = .ok (.aload_n 0, 1) := by decide +kernel
theorem dL_law_873 : decode cL_law 873 = .ok (.iload_n 3, 1) := by decide +kernel
theorem dL_law_874 : decode cL_law 874 = .ok (.iconst 2, 1) := by decide +kernel
theorem dL_law_875 : decode cL_law 875 = .ok (.iadd, 1) := by decide +kernel
theorem dL_law_876 : decode cL_law 876 = .ok (.iaload, 1) := by decide +kernel
theorem dL_law_877 : decode cL_law 877 = .ok (.aload_n 0, 1) := by decide +kernel
theorem dL_law_878 : decode cL_law 878 = .ok (.iload_n 3, 1) := by decide +kernel
theorem dL_law_879 : decode cL_law 879 = .ok (.iconst 3, 1) := by decide +kernel
theorem dL_law_880 : decode cL_law 880 = .ok (.iadd, 1) := by decide +kernel
theorem dL_law_881 : decode cL_law 881 = .ok (.iaload, 1) := by decide +kernel
theorem dL_law_882 : decode cL_law 882 = .ok (.invokevirtual 98, 3) := by decide +kernel
theorem dL_law_885 : decode cL_law 885 = .ok (.aload_n 2, 1) := by decide +kernel
theorem dL_law_886 : decode cL_law 886 = .ok (.aload_n 0, 1) := by decide +kernel
theorem dL_law_887 : decode cL_law 887 = .ok (.iload_n 3, 1) := by decide +kernel
theorem dL_law_888 : decode cL_law 888 = .ok (.iconst 1, 1) := by decide +kernel
theorem dL_law_889 : decode cL_law 889 = .ok (.iadd, 1) := by decide +kernel
theorem dL_law_890 : decode cL_law 890 = .ok (.iaload, 1) := by decide +kernel
theorem dL_law_891 : decode cL_law 891 = .ok (.aload_n 0, 1) := by decide +kernel
theorem dL_law_892 : decode cL_law 892 = .ok (.iload_n 3, 1) := by decide +kernel
theorem dL_law_893 : decode cL_law 893 = .ok (.iconst 2, 1) := by decide +kernel
theorem dL_law_894 : decode cL_law 894 = .ok (.iadd, 1) := by decide +kernel
theorem dL_law_895 : decode cL_law 895 = .ok (.iaload, 1) := by decide +kernel
theorem dL_law_896 : decode cL_law 896 = .ok (.aload_n 0, 1) := by decide +kernel
theorem dL_law_897 : decode cL_law 897 = .ok (.iload_n 3, 1) := by decide +kernel
theorem dL_law_898 : decode cL_law 898 = .ok (.iconst 3, 1) := by decide +kernel
theorem dL_law_899 : decode cL_law 899 = .ok (.iadd, 1) := by decide +kernel
theorem dL_law_900 : decode cL_law 900 = .ok (.iaload, 1) := by decide +kernel
theorem dL_law_901 : decode cL_law 901 = .ok (.invokevirtual 101, 3) := by decide +kernel
theorem dL_law_904 : decode cL_law 904 = .ok (.if_icmp .eq 427, 3) := by decide +kernel
theorem dL_law_907 : decode cL_law 907 = .ok (.iconst 0, 1) := by decide +kernel
theorem dL_law_908 : decode cL_law 908 = .ok (.ireturn, 1) := by decide +kernel
theorem dL_law_909 : decode cL_law 909 = .ok (.aload_n 1, 1) := by decide +kernel
theorem dL_law_910 : decode cL_law 910 = .ok (.aload_n 0, 1) := by decide +kernel
theorem dL_law_911 : decode cL_law 911 = .ok (.iload_n 3, 1) := by decide +kernel
theorem dL_law_912 : decode cL_law 912 = .ok (.iconst 1, 1) := by decide +kernel
theorem dL_law_913 : decode cL_law 913 = .ok (.iadd, 1) := by decide +kernel
theorem dL_law_914 : decode cL_law 914 = .ok (.iaload, 1) := by decide +kernel
theorem dL_law_915 : decode cL_law 915 = .ok (.aload_n 0, 1) := by decide +kernel
theorem dL_law_916 : decode cL_law 916 = .ok (.iload_n 3, 1) := by decide +kernel
theorem dL_law_917 : decode cL_law 917 = .ok (.iconst 2, 1) := by decide +kernel
theorem dL_law_918 : decode cL_law 918 = .ok (.iadd, 1) := by decide +kernel
theorem dL_law_919 : decode cL_law 919 = .ok (.iaload, 1) := by decide +kernel
theorem dL_law_920 : decode cL_law 920 = .ok (.invokevirtual 102, 3) := by decide +kernel
theorem dL_law_923 : decode cL_law 923 = .ok (.aload_n 2, 1) := by decide +kernel
theorem dL_law_924 : decode cL_law 924 = .ok (.aload_n 0, 1) := by decide +kernel
theorem dL_law_925 : decode cL_law 925 = .ok (.iload_n 3, 1) := by decide +kernel
theorem dL_law_926 : decode cL_law 926 = .ok (.iconst 1, 1) := by decide +kernel
theorem dL_law_927 : decode cL_law 927 = .ok (.iadd, 1) := by decide +kernel
theorem dL_law_928 : decode cL_law 928 = .ok (.iaload, 1) := by decide +kernel
theorem dL_law_929 : decode cL_law 929 = .ok (.aload_n 0, 1) := by decide +kernel
theorem dL_law_930 : decode cL_law 930 = .ok (.iload_n 3, 1) := by decide +kernel
theorem dL_law_931 : decode cL_law 931 = .ok (.iconst 2, 1) := by decide +kernel
theorem dL_law_932 : decode cL_law 932 = .ok (.iadd, 1) := by decide +kernel
theorem dL_law_933 : decode cL_law 933 = .ok (.iaload, 1) := by decide +kernel
theorem dL_law_934 : decode cL_law 934 = .ok (.invokevirtual 105, 3) := by decide +kernel
theorem dL_law_937 : decode cL_law 937 = .ok (.if_icmp .eq 394, 3) := by decide +kernel
theorem dL_law_940 : decode cL_law 940 = .ok (.iconst 0, 1) := by decide +kernel
theorem dL_law_941 : decode cL_law 941 = .ok (.ireturn, 1) := by decide +kernel
theorem dL_law_942 : decode cL_law 942 = .ok (.aload_n 1, 1) := by decide +kernel
theorem dL_law_943 : decode cL_law 943 = .ok (.aload_n 0, 1) := by decide +kernel
theorem dL_law_944 : decode cL_law 944 = .ok (.iload_n 3, 1) := by decide +kernel
theorem dL_law_945 : decode cL_law 945 = .ok (.iconst 1, 1) := by decide +kernel
theorem dL_law_946 : decode cL_law 946 = .ok (.iadd, 1) := by decide +kernel
theorem dL_law_947 : decode cL_law 947 = .ok (.iaload, 1) := by decide +kernel
theorem dL_law_948 : decode cL_law 948 = .ok (.invokevirtual 106, 3) := by decide +kernel
theorem dL_law_951 : decode cL_law 951 = .ok (.aload_n 2, 1) := by decide +kernel
theorem dL_law_952 : decode cL_law 952 = .ok (.aload_n 0, 1) := by decide +kernel
theorem dL_law_953 : decode cL_law 953 = .ok (.iload_n 3, 1) := by decide +kernel
theorem dL_law_954 : decode cL_law 954 = .ok (.iconst 1, 1) := by decide +kernel
theorem dL_law_955 : decode cL_law 955 = .ok (.iadd, 1) := by decide +kernel
theorem dL_law_956 : decode cL_law 956 = .ok (.iaload, 1) := by decide +kernel
theorem dL_law_957 : decode cL_law 957 = .ok (.invokevirtual 109, 3) := by decide +kernel
theorem dL_law_960 : decode cL_law 960 = .ok (.if_icmp .eq 371, 3) := by decide +kernel
theorem dL_law_963 : decode cL_law 963 = .ok (.iconst 0, 1) := by decide +kernel
theorem dL_law_964 : decode cL_law 964 = .ok (.ireturn, 1) := by decide +kernel
theorem dL_law_965 : decode cL_law 965 = .ok (.aload_n 1, 1) := by decide +kernel
theorem dL_law_966 : decode cL_law 966 = .ok (.aload_n 0, 1) := by decide +kernel
theorem dL_law_967 : decode cL_law 967 = .ok (.iload_n 3, 1) := by decide +kernel
theorem dL_law_968 : decode cL_law 968 = .ok (.iconst 1, 1) := by decide +kernel
theorem dL_law_969 : decode cL_law 969 = .ok (.iadd, 1) := by decide +kernel
theorem dL_law_970 : decode cL_law 970 = .ok (.iaload, 1) := by decide +kernel
theorem dL_law_971 : decode cL_law 971 = .ok (.aload_n 0, 1) := by decide +kernel
theorem dL_law_972 : decode cL_law 972 = .ok (.iload_n 3, 1) := by decide +kernel
theorem dL_law_973 : decode cL_law 973 = .ok (.iconst 2, 1) := by decide +kernel
theorem dL_law_974 : decode cL_law 974 = .ok (.iadd, 1) := by decide +kernel
theorem dL_law_975 : decode cL_law 975 = .ok (.iaload, 1) := by decide +kernel
theorem dL_law_976 : decode cL_law 976 = .ok (.invokevirtual 110, 3) := by decide +kernel
theorem dL_law_979 : decode cL_law 979 = .ok (.aload_n 2, 1) := by decide +kernel
theorem dL_law_980 : decode cL_law 980 = .ok (.aload_n 0, 1) := by decide +kernel
theorem dL_law_981 : decode cL_law 981 = .ok (.iload_n 3, 1) := by decide +kernel
theorem dL_law_982 : decode cL_law 982 = .ok (.iconst 1, 1) := by decide +kernel
theorem dL_law_983 : decode cL_law 983 = .ok (.iadd, 1) := by decide +kernel
theorem dL_law_984 : decode cL_law 984 = .ok (.iaload, 1) := by decide +kernel
theorem dL_law_985 : decode cL_law 985 = .ok (.aload_n 0, 1) := by decide +kernel
theorem dL_law_986 : decode cL_law 986 = .ok (.iload_n 3, 1) := by decide +kernel
theorem dL_law_987 : decode cL_law 987 = .ok (.iconst 2, 1) := by decide +kernel
theorem dL_law_988 : decode cL_law 988 = .ok (.iadd, 1) := by decide +kernel
theorem dL_law_989 : decode cL_law 989 = .ok (.iaload, 1) := by decide +kernel
theorem dL_law_990 : decode cL_law 990 = .ok (.invokevirtual 113, 3) := by decide +kernel
theorem dL_law_993 : decode cL_law 993 = .ok (.if_icmp .eq 338, 3) := by decide +kernel
theorem dL_law_996 : decode cL_law 996 = .ok (.iconst 0, 1) := by decide +kernel
theorem dL_law_997 : decode cL_law 997 = .ok (.ireturn, 1) := by decide +kernel
theorem dL_law_998 : decode cL_law 998 = .ok (.aload_n 1, 1) := by decide +kernel
theorem dL_law_999 : decode cL_law 999 = .ok (.aload_n 0, 1) := by decide +kernel
theorem dL_law_1000 : decode cL_law 1000 = .ok (.iload_n 3, 1) := by decide +kernel
theorem dL_law_1001 : decode cL_law 1001 = .ok (.iconst 1, 1) := by decide +kernel
theorem dL_law_1002 : decode cL_law 1002 = .ok (.iadd, 1) := by decide +kernel
theorem dL_law_1003 : decode cL_law 1003 = .ok (.iaload, 1) := by decide +kernel
theorem dL_law_1004 : decode cL_law 1004 = .ok (.aload_n 0, 1) := by decide +kernel
theorem dL_law_1005 : decode cL_law 1005 = .ok (.iload_n 3, 1) := by decide +kernel
theorem dL_law_1006 : decode cL_law 1006 = .ok (.iconst 2, 1) := by decide +kernel
theorem dL_law_1007 : decode cL_law 1007 = .ok (.iadd, 1) := by decide +kernel
theorem dL_law_1008 : decode cL_law 1008 = .ok (.iaload, 1) := by decide +kernel
theorem dL_law_1009 : decode cL_law 1009 = .ok (.ifCond .eq 7, 3) := by decide +kernel
theorem dL_law_1012 : decode cL_law 1012 = .ok (.iconst 1, 1) := by decide +kernel
theorem dL_law_1013 : decode cL_law 1013 = .ok (.goto 4, 3) := by decide +kernel
theorem dL_law_1016 : decode cL_law 1016 = .ok (.iconst 0, 1) := by decide +kernel
theorem dL_law_1017 : decode cL_law 1017 = .ok (.invokevirtual 114, 3) := by decide +kernel
theorem dL_law_1020 : decode cL_law 1020 = .ok (.aload_n 2, 1) := by decide +kernel
theorem dL_law_1021 : decode cL_law 1021 = .ok (.aload_n 0, 1) := by decide +kernel
theorem dL_law_1022 : decode cL_law 1022 = .ok (.iload_n 3, 1) := by decide +kernel
theorem dL_law_1023 : decode cL_law 1023 = .ok (.iconst 1, 1) := by decide +kernel
theorem dL_law_1024 : decode cL_law 1024 = .ok (.iadd, 1) := by decide +kernel
theorem dL_law_1025 : decode cL_law 1025 = .ok (.iaload, 1) := by decide +kernel
theorem dL_law_1026 : decode cL_law 1026 = .ok (.aload_n 0, 1) := by decide +kernel
theorem dL_law_1027 : decode cL_law 1027 = .ok (.iload_n 3, 1) := by decide +kernel
theorem dL_law_1028 : decode cL_law 1028 = .ok (.iconst 2, 1) := by decide +kernel
theorem dL_law_1029 : decode cL_law 1029 = .ok (.iadd, 1) := by decide +kernel
theorem dL_law_1030 : decode cL_law 1030 = .ok (.iaload, 1) := by decide +kernel
theorem dL_law_1031 : decode cL_law 1031 = .ok (.ifCond .eq 7, 3) := by decide +kernel
theorem dL_law_1034 : decode cL_law 1034 = .ok (.iconst 1, 1) := by decide +kernel
theorem dL_law_1035 : decode cL_law 1035 = .ok (.goto 4, 3) := by decide +kernel
theorem dL_law_1038 : decode cL_law 1038 = .ok (.iconst 0, 1) := by decide +kernel
theorem dL_law_1039 : decode cL_law 1039 = .ok (.invokevirtual 117, 3) := by decide +kernel
theorem dL_law_1042 : decode cL_law 1042 = .ok (.if_icmp .eq 289, 3) := by decide +kernel
theorem dL_law_1045 : decode cL_law 1045 = .ok (.iconst 0, 1) := by decide +kernel
theorem dL_law_1046 : decode cL_law 1046 = .ok (.ireturn, 1) := by decide +kernel
theorem dL_law_1047 : decode cL_law 1047 = .ok (.aload_n 1, 1) := by decide +kernel
theorem dL_law_1048 : decode cL_law 1048 = .ok (.aload_n 0, 1) := by decide +kernel
theorem dL_law_1049 : decode cL_law 1049 = .ok (.iload_n 3, 1) := by decide +kernel
theorem dL_law_1050 : decode cL_law 1050 = .ok (.iconst 1, 1) := by decide +kernel
theorem dL_law_1051 : decode cL_law 1051 = .ok (.iadd, 1) := by decide +kernel
theorem dL_law_1052 : decode cL_law 1052 = .ok (.iaload, 1) := by decide +kernel
theorem dL_law_1053 : decode cL_law 1053 = .ok (.aload_n 0, 1) := by decide +kernel
theorem dL_law_1054 : decode cL_law 1054 = .ok (.iload_n 3, 1) := by decide +kernel
theorem dL_law_1055 : decode cL_law 1055 = .ok (.iconst 2, 1) := by decide +kernel
theorem dL_law_1056 : decode cL_law 1056 = .ok (.iadd, 1) := by decide +kernel
theorem dL_law_1057 : decode cL_law 1057 = .ok (.iaload, 1) := by decide +kernel
theorem dL_law_1058 : decode cL_law 1058 = .ok (.invokevirtual 118, 3) := by decide +kernel
theorem dL_law_1061 : decode cL_law 1061 = .ok (.aload_n 2, 1) := by decide +kernel
theorem dL_law_1062 : decode cL_law 1062 = .ok (.aload_n 0, 1) := by decide +kernel
theorem dL_law_1063 : decode cL_law 1063 = .ok (.iload_n 3, 1) := by decide +kernel
theorem dL_law_1064 : decode cL_law 1064 = .ok (.iconst 1, 1) := by decide +kernel
theorem dL_law_1065 : decode cL_law 1065 = .ok (.iadd, 1) := by decide +kernel
theorem dL_law_1066 : decode cL_law 1066 = .ok (.iaload, 1) := by decide +kernel
theorem dL_law_1067 : decode cL_law 1067 = .ok (.aload_n 0, 1) := by decide +kernel
theorem dL_law_1068 : decode cL_law 1068 = .ok (.iload_n 3, 1) := by decide +kernel
theorem dL_law_1069 : decode cL_law 1069 = .ok (.iconst 2, 1) := by decide +kernel
theorem dL_law_1070 : decode cL_law 1070 = .ok (.iadd, 1) := by decide +kernel
theorem dL_law_1071 : decode cL_law 1071 = .ok (.iaload, 1) := by decide +kernel
theorem dL_law_1072 : decode cL_law 1072 = .ok (.invokevirtual 121, 3) := by decide +kernel
theorem dL_law_1075 : decode cL_law 1075 = .ok (.if_icmp .eq 256, 3) := by decide +kernel
theorem dL_law_1078 : decode cL_law 1078 = .ok (.iconst 0, 1) := by decide +kernel
theorem dL_law_1079 : decode cL_law 1079 = .ok (.ireturn, 1) := by decide +kernel
theorem dL_law_1080 : decode cL_law 1080 = .ok (.aload_n 1, 1) := by decide +kernel
theorem dL_law_1081 : decode cL_law 1081 = .ok (.aload_n 0, 1) := by decide +kernel
theorem dL_law_1082 : decode cL_law 1082 = .ok (.iload_n 3, 1) := by decide +kernel
theorem dL_law_1083 : decode cL_law 1083 = .ok (.iconst 1, 1) := by decide +kernel
theorem dL_law_1084 : decode cL_law 1084 = .ok (.iadd, 1) := by decide +kernel
theorem dL_law_1085 : decode cL_law 1085 = .ok (.iaload, 1) := by decide +kernel
theorem dL_law_1086 : decode cL_law 1086 = .ok (.aload_n 0, 1) := by decide +kernel
theorem dL_law_1087 : decode cL_law 1087 = .ok (.iload_n 3, 1) := by decide +kernel
theorem dL_law_1088 : decode cL_law 1088 = .ok (.iconst 2, 1) := by decide +kernel
theorem dL_law_1089 : decode cL_law 1089 = .ok (.iadd, 1) := by decide +kernel
theorem dL_law_1090 : decode cL_law 1090 = .ok (.iaload, 1) := by decide +kernel
theorem dL_law_1091 : decode cL_law 1091 = .ok (.invokevirtual 122, 3) := by decide +kernel
theorem dL_law_1094 : decode cL_law 1094 = .ok (.aload_n 2, 1) := by decide +kernel
theorem dL_law_1095 : decode cL_law 1095 = .ok (.aload_n 0, 1) := by decide +kernel
theorem dL_law_1096 : decode cL_law 1096 = .ok (.iload_n 3, 1) := by decide +kernel
theorem dL_law_1097 : decode cL_law 1097 = .ok (.iconst 1, 1) := by decide +kernel
theorem dL_law_1098 : decode cL_law 1098 = .ok (.iadd, 1) := by decide +kernel
theorem dL_law_1099 : decode cL_law 1099 = .ok (.iaload, 1) := by decide +kernel
theorem dL_law_1100 : decode cL_law 1100 = .ok (.aload_n 0, 1) := by decide +kernel
theorem dL_law_1101 : decode cL_law 1101 = .ok (.iload_n 3, 1) := by decide +kernel
theorem dL_law_1102 : decode cL_law 1102 = .ok (.iconst 2, 1) := by decide +kernel
theorem dL_law_1103 : decode cL_law 1103 = .ok (.iadd, 1) := by decide +kernel
theorem dL_law_1104 : decode cL_law 1104 = .ok (.iaload, 1) := by decide +kernel
theorem dL_law_1105 : decode cL_law 1105 = .ok (.invokevirtual 125, 3) := by decide +kernel
theorem dL_law_1108 : decode cL_law 1108 = .ok (.if_icmp .eq 223, 3) := by decide +kernel
theorem dL_law_1111 : decode cL_law 1111 = .ok (.iconst 0, 1) := by decide +kernel
theorem dL_law_1112 : decode cL_law 1112 = .ok (.ireturn, 1) := by decide +kernel
theorem dL_law_1113 : decode cL_law 1113 = .ok (.aload_n 1, 1) := by decide +kernel
theorem dL_law_1114 : decode cL_law 1114 = .ok (.aload_n 0, 1) := by decide +kernel
theorem dL_law_1115 : decode cL_law 1115 = .ok (.iload_n 3, 1) := by decide +kernel
theorem dL_law_1116 : decode cL_law 1116 = .ok (.iconst 1, 1) := by decide +kernel
theorem dL_law_1117 : decode cL_law 1117 = .ok (.iadd, 1) := by decide +kernel
theorem dL_law_1118 : decode cL_law 1118 = .ok (.iaload, 1) := by decide +kernel
theorem dL_law_1119 : decode cL_law 1119 = .ok (.aload_n 0, 1) := by decide +kernel
theorem dL_law_1120 : decode cL_law 1120 = .ok (.iload_n 3, 1) := by decide +kernel
theorem dL_law_1121 : decode cL_law 1121 = .ok (.iconst 2, 1) := by decide +kernel
theorem dL_law_1122 : decode cL_law 1122 = .ok (.iadd, 1) := by decide +kernel
theorem dL_law_1123 : decode cL_law 1123 = .ok (.iaload, 1) := by decide +kernel
theorem dL_law_1124 : decode cL_law 1124 = .ok (.aload_n 0, 1) := by decide +kernel
theorem dL_law_1125 : decode cL_law 1125 = .ok (.iload_n 3, 1) := by decide +kernel
theorem dL_law_1126 : decode cL_law 1126 = .ok (.iconst 3, 1) := by decide +kernel
theorem dL_law_1127 : decode cL_law 1127 = .ok (.iadd, 1) := by decide +kernel
theorem dL_law_1128 : decode cL_law 1128 = .ok (.iaload, 1) := by decide +kernel
theorem dL_law_1129 : decode cL_law 1129 = .ok (.invokevirtual 126, 3) := by decide +kernel
theorem dL_law_1132 : decode cL_law 1132 = .ok (.aload_n 2, 1) := by decide +kernel
theorem dL_law_1133 : decode cL_law 1133 = .ok (.aload_n 0, 1) := by decide +kernel
theorem dL_law_1134 : decode cL_law 1134 = .ok (.iload_n 3, 1) := by decide +kernel
theorem dL_law_1135 : decode cL_law 1135 = .ok (.iconst 1, 1) := by decide +kernel
theorem dL_law_1136 : decode cL_law 1136 = .ok (.iadd, 1) := by decide +kernel
theorem dL_law_1137 : decode cL_law 1137 = .ok (.iaload, 1) := by decide +kernel
theorem dL_law_1138 : decode cL_law 1138 = .ok (.aload_n 0, 1) := by decide +kernel
theorem dL_law_1139 : decode cL_law 1139 = .ok (.iload_n 3, 1) := by decide +kernel
theorem dL_law_1140 : decode cL_law 1140 = .ok (.iconst 2, 1) := by decide +kernel
theorem dL_law_1141 : decode cL_law 1141 = .ok (.iadd, 1) := by decide +kernel
theorem dL_law_1142 : decode cL_law 1142 = .ok (.iaload, 1) := by decide +kernel
theorem dL_law_1143 : decode cL_law 1143 = .ok (.aload_n 0, 1) := by decide +kernel
theorem dL_law_1144 : decode cL_law 1144 = .ok (.iload_n 3, 1) := by decide +kernel
theorem dL_law_1145 : decode cL_law 1145 = .ok (.iconst 3, 1) := by decide +kernel
theorem dL_law_1146 : decode cL_law 1146 = .ok (.iadd, 1) := by decide +kernel
theorem dL_law_1147 : decode cL_law 1147 = .ok (.iaload, 1) := by decide +kernel
theorem dL_law_1148 : decode cL_law 1148 = .ok (.invokevirtual 129, 3) := by decide +kernel
theorem dL_law_1151 : decode cL_law 1151 = .ok (.if_icmp .eq 180, 3) := by decide +kernel
theorem dL_law_1154 : decode cL_law 1154 = .ok (.iconst 0, 1) := by decide +kernel
theorem dL_law_1155 : decode cL_law 1155 = .ok (.ireturn, 1) := by decide +kernel
theorem dL_law_1156 : decode cL_law 1156 = .ok (.aload_n 1, 1) := by decide +kernel
theorem dL_law_1157 : decode cL_law 1157 = .ok (.aload_n 0, 1) := by decide +kernel
theorem dL_law_1158 : decode cL_law 1158 = .ok (.iload_n 3, 1) := by decide +kernel
theorem dL_law_1159 : decode cL_law 1159 = .ok (.iconst 1, 1) := by decide +kernel
theorem dL_law_1160 : decode cL_law 1160 = .ok (.iadd, 1) := by decide +kernel
theorem dL_law_1161 : decode cL_law 1161 = .ok (.iaload, 1) := by decide +kernel
theorem dL_law_1162 : decode cL_law 1162 = .ok (.aload_n 0, 1) := by decide +kernel
theorem dL_law_1163 : decode cL_law 1163 = .ok (.iload_n 3, 1) := by decide +kernel
theorem dL_law_1164 : decode cL_law 1164 = .ok (.iconst 2, 1) := by decide +kernel
theorem dL_law_1165 : decode cL_law 1165 = .ok (.iadd, 1) := by decide +kernel
theorem dL_law_1166 : decode cL_law 1166 = .ok (.iaload, 1) := by decide +kernel
theorem dL_law_1167 : decode cL_law 1167 = .ok (.aload_n 0, 1) := by decide +kernel
theorem dL_law_1168 : decode cL_law 1168 = .ok (.iload_n 3, 1) := by decide +kernel
theorem dL_law_1169 : decode cL_law 1169 = .ok (.iconst 3, 1) := by decide +kernel
theorem dL_law_1170 : decode cL_law 1170 = .ok (.iadd, 1) := by decide +kernel
theorem dL_law_1171 : decode cL_law 1171 = .ok (.iaload, 1) := by decide +kernel
theorem dL_law_1172 : decode cL_law 1172 = .ok (.invokevirtual 130, 3) := by decide +kernel
theorem dL_law_1175 : decode cL_law 1175 = .ok (.aload_n 2, 1) := by decide +kernel
theorem dL_law_1176 : decode cL_law 1176 = .ok (.aload_n 0, 1) := by decide +kernel
theorem dL_law_1177 : decode cL_law 1177 = .ok (.iload_n 3, 1) := by decide +kernel
theorem dL_law_1178 : decode cL_law 1178 = .ok (.iconst 1, 1) := by decide +kernel
theorem dL_law_1179 : decode cL_law 1179 = .ok (.iadd, 1) := by decide +kernel
theorem dL_law_1180 : decode cL_law 1180 = .ok (.iaload, 1) := by decide +kernel
theorem dL_law_1181 : decode cL_law 1181 = .ok (.aload_n 0, 1) := by decide +kernel
theorem dL_law_1182 : decode cL_law 1182 = .ok (.iload_n 3, 1) := by decide +kernel
theorem dL_law_1183 : decode cL_law 1183 = .ok (.iconst 2, 1) := by decide +kernel
theorem dL_law_1184 : decode cL_law 1184 = .ok (.iadd, 1) := by decide +kernel
theorem dL_law_1185 : decode cL_law 1185 = .ok (.iaload, 1) := by decide +kernel
theorem dL_law_1186 : decode cL_law 1186 = .ok (.aload_n 0, 1) := by decide +kernel
theorem dL_law_1187 : decode cL_law 1187 = .ok (.iload_n 3, 1) := by decide +kernel
theorem dL_law_1188 : decode cL_law 1188 = .ok (.iconst 3, 1) := by decide +kernel
theorem dL_law_1189 : decode cL_law 1189 = .ok (.iadd, 1) := by decide +kernel
theorem dL_law_1190 : decode cL_law 1190 = .ok (.iaload, 1) := by decide +kernel
theorem dL_law_1191 : decode cL_law 1191 = .ok (.invokevirtual 133, 3) := by decide +kernel
theorem dL_law_1194 : decode cL_law 1194 = .ok (.if_icmp .eq 137, 3) := by decide +kernel
theorem dL_law_1197 : decode cL_law 1197 = .ok (.iconst 0, 1) := by decide +kernel
theorem dL_law_1198 : decode cL_law 1198 = .ok (.ireturn, 1) := by decide +kernel
theorem dL_law_1199 : decode cL_law 1199 = .ok (.aload_n 1, 1) := by decide +kernel
theorem dL_law_1200 : decode cL_law 1200 = .ok (.aload_n 0, 1) := by decide +kernel
theorem dL_law_1201 : decode cL_law 1201 = .ok (.iload_n 3, 1) := by decide +kernel
theorem dL_law_1202 : decode cL_law 1202 = .ok (.iconst 1, 1) := by decide +kernel
theorem dL_law_1203 : decode cL_law 1203 = .ok (.iadd, 1) := by decide +kernel
theorem dL_law_1204 : decode cL_law 1204 = .ok (.iaload, 1) := by decide +kernel
theorem dL_law_1205 : decode cL_law 1205 = .ok (.aload_n 0, 1) := by decide +kernel
theorem dL_law_1206 : decode cL_law 1206 = .ok (.iload_n 3, 1) := by decide +kernel
theorem dL_law_1207 : decode cL_law 1207 = .ok (.iconst 2, 1) := by decide +kernel
theorem dL_law_1208 : decode cL_law 1208 = .ok (.iadd, 1) := by decide +kernel
theorem dL_law_1209 : decode cL_law 1209 = .ok (.iaload, 1) := by decide +kernel
theorem dL_law_1210 : decode cL_law 1210 = .ok (.aload_n 0, 1) := by decide +kernel
theorem dL_law_1211 : decode cL_law 1211 = .ok (.iload_n 3, 1) := by decide +kernel
theorem dL_law_1212 : decode cL_law 1212 = .ok (.iconst 3, 1) := by decide +kernel
theorem dL_law_1213 : decode cL_law 1213 = .ok (.iadd, 1) := by decide +kernel
theorem dL_law_1214 : decode cL_law 1214 = .ok (.iaload, 1) := by decide +kernel
theorem dL_law_1215 : decode cL_law 1215 = .ok (.aload_n 0, 1) := by decide +kernel
theorem dL_law_1216 : decode cL_law 1216 = .ok (.iload_n 3, 1) := by decide +kernel
theorem dL_law_1217 : decode cL_law 1217 = .ok (.iconst 4, 1) := by decide +kernel
theorem dL_law_1218 : decode cL_law 1218 = .ok (.iadd, 1) := by decide +kernel
theorem dL_law_1219 : decode cL_law 1219 = .ok (.iaload, 1) := by decide +kernel
theorem dL_law_1220 : decode cL_law 1220 = .ok (.aload_n 0, 1) := by decide +kernel
theorem dL_law_1221 : decode cL_law 1221 = .ok (.iload_n 3, 1) := by decide +kernel
theorem dL_law_1222 : decode cL_law 1222 = .ok (.iconst 5, 1) := by decide +kernel
theorem dL_law_1223 : decode cL_law 1223 = .ok (.iadd, 1) := by decide +kernel
theorem dL_law_1224 : decode cL_law 1224 = .ok (.iaload, 1) := by decide +kernel
theorem dL_law_1225 : decode cL_law 1225 = .ok (.invokevirtual 134, 3) := by decide +kernel
theorem dL_law_1228 : decode cL_law 1228 = .ok (.aload_n 2, 1) := by decide +kernel
theorem dL_law_1229 : decode cL_law 1229 = .ok (.aload_n 0, 1) := by decide +kernel
theorem dL_law_1230 : decode cL_law 1230 = .ok (.iload_n 3, 1) := by decide +kernel
theorem dL_law_1231 : decode cL_law 1231 = .ok (.iconst 1, 1) := by decide +kernel
theorem dL_law_1232 : decode cL_law 1232 = .ok (.iadd, 1) := by decide +kernel
theorem dL_law_1233 : decode cL_law 1233 = .ok (.iaload, 1) := by decide +kernel
theorem dL_law_1234 : decode cL_law 1234 = .ok (.aload_n 0, 1) := by decide +kernel
theorem dL_law_1235 : decode cL_law 1235 = .ok (.iload_n 3, 1) := by decide +kernel
theorem dL_law_1236 : decode cL_law 1236 = .ok (.iconst 2, 1) := by decide +kernel
theorem dL_law_1237 : decode cL_law 1237 = .ok (.iadd, 1) := by decide +kernel
theorem dL_law_1238 : decode cL_law 1238 = .ok (.iaload, 1) := by decide +kernel
theorem dL_law_1239 : decode cL_law 1239 = .ok (.aload_n 0, 1) := by decide +kernel
theorem dL_law_1240 : decode cL_law 1240 = .ok (.iload_n 3, 1) := by decide +kernel
theorem dL_law_1241 : decode cL_law 1241 = .ok (.iconst 3, 1) := by decide +kernel
theorem dL_law_1242 : decode cL_law 1242 = .ok (.iadd, 1) := by decide +kernel
theorem dL_law_1243 : decode cL_law 1243 = .ok (.iaload, 1) := by decide +kernel
theorem dL_law_1244 : decode cL_law 1244 = .ok (.aload_n 0, 1) := by decide +kernel
theorem dL_law_1245 : decode cL_law 1245 = .ok (.iload_n 3, 1) := by decide +kernel
theorem dL_law_1246 : decode cL_law 1246 = .ok (.iconst 4, 1) := by decide +kernel
theorem dL_law_1247 : decode cL_law 1247 = .ok (.iadd, 1) := by decide +kernel
theorem dL_law_1248 : decode cL_law 1248 = .ok (.iaload, 1) := by decide +kernel
theorem dL_law_1249 : decode cL_law 1249 = .ok (.aload_n 0, 1) := by decide +kernel
end
section
theorem dL_law_1250 : decode cL_law 1250 = .ok (.iload_n 3, 1) := by decide +kernel
theorem dL_law_1251 : decode cL_law 1251 = .ok (.iconst 5, 1) := by decide +kernel
theorem dL_law_1252 : decode cL_law 1252 = .ok (.iadd, 1) := by decide +kernel
theorem dL_law_1253 : decode cL_law 1253 = .ok (.iaload, 1) := by decide +kernel
theorem dL_law_1254 : decode cL_law 1254 = .ok (.invokevirtual 137, 3) := by decide +kernel
theorem dL_law_1257 : decode cL_law 1257 = .ok (.if_icmp .eq 74, 3) := by decide +kernel
theorem dL_law_1260 : decode cL_law 1260 = .ok (.iconst 0, 1) := by decide +kernel
theorem dL_law_1261 : decode cL_law 1261 = .ok (.ireturn, 1) := by decide +kernel
theorem dL_law_1262 : decode cL_law 1262 = .ok (.aload_n 1, 1) := by decide +kernel
theorem dL_law_1263 : decode cL_law 1263 = .ok (.aload_n 0, 1) := by decide +kernel
theorem dL_law_1264 : decode cL_law 1264 = .ok (.iload_n 3, 1) := by decide +kernel
theorem dL_law_1265 : decode cL_law 1265 = .ok (.iconst 1, 1) := by decide +kernel
theorem dL_law_1266 : decode cL_law 1266 = .ok (.iadd, 1) := by decide +kernel
theorem dL_law_1267 : decode cL_law 1267 = .ok (.iaload, 1) := by decide +kernel
theorem dL_law_1268 : decode cL_law 1268 = .ok (.aload_n 0, 1) := by decide +kernel
theorem dL_law_1269 : decode cL_law 1269 = .ok (.iload_n 3, 1) := by decide +kernel
theorem dL_law_1270 : decode cL_law 1270 = .ok (.iconst 2, 1) := by decide +kernel
theorem dL_law_1271 : decode cL_law 1271 = .ok (.iadd, 1) := by decide +kernel
theorem dL_law_1272 : decode cL_law 1272 = .ok (.iaload, 1) := by decide +kernel
theorem dL_law_1273 : decode cL_law 1273 = .ok (.invokevirtual 138, 3) := by decide +kernel
theorem dL_law_1276 : decode cL_law 1276 = .ok (.aload_n 2, 1) := by decide +kernel
theorem dL_law_1277 : decode cL_law 1277 = .ok (.aload_n 0, 1) := by decide +kernel
theorem dL_law_1278 : decode cL_law 1278 = .ok (.iload_n 3, 1) := by decide +kernel
theorem dL_law_1279 : decode cL_law 1279 = .ok (.iconst 1, 1) := by decide +kernel
theorem dL_law_1280 : decode cL_law 1280 = .ok (.iadd, 1) := by decide +kernel
theorem dL_law_1281 : decode cL_law 1281 = .ok (.iaload, 1) := by decide +kernel
theorem dL_law_1282 : decode cL_law 1282 = .ok (.aload_n 0, 1) := by decide +kernel
theorem dL_law_1283 : decode cL_law 1283 = .ok (.iload_n 3, 1) := by decide +kernel
theorem dL_law_1284 : decode cL_law 1284 = .ok (.iconst 2, 1) := by decide +kernel
theorem dL_law_1285 : decode cL_law 1285 = .ok (.iadd, 1) := by decide +kernel
theorem dL_law_1286 : decode cL_law 1286 = .ok (.iaload, 1) := by decide +kernel
theorem dL_law_1287 : decode cL_law 1287 = .ok (.invokevirtual 141, 3) := by decide +kernel
theorem dL_law_1290 : decode cL_law 1290 = .ok (.if_icmp .eq 41, 3) := by decide +kernel
theorem dL_law_1293 : decode cL_law 1293 = .ok (.iconst 0, 1) := by decide +kernel
theorem dL_law_1294 : decode cL_law 1294 = .ok (.ireturn, 1) := by decide +kernel
theorem dL_law_1295 : decode cL_law 1295 = .ok (.aload_n 1, 1) := by decide +kernel
theorem dL_law_1296 : decode cL_law 1296 = .ok (.invokevirtual 142, 3) := by decide +kernel
theorem dL_law_1299 : decode cL_law 1299 = .ok (.aload_n 2, 1) := by decide +kernel
theorem dL_law_1300 : decode cL_law 1300 = .ok (.invokevirtual 146, 3) := by decide +kernel
theorem dL_law_1303 : decode cL_law 1303 = .ok (.if_icmp .eq 28, 3) := by decide +kernel
theorem dL_law_1306 : decode cL_law 1306 = .ok (.iconst 0, 1) := by decide +kernel
theorem dL_law_1307 : decode cL_law 1307 = .ok (.ireturn, 1) := by decide +kernel
theorem dL_law_1308 : decode cL_law 1308 = .ok (.aload_n 1, 1) := by decide +kernel
theorem dL_law_1309 : decode cL_law 1309 = .ok (.aload_n 0, 1) := by decide +kernel
theorem dL_law_1310 : decode cL_law 1310 = .ok (.iload_n 3, 1) := by decide +kernel
theorem dL_law_1311 : decode cL_law 1311 = .ok (.iconst 1, 1) := by decide +kernel
theorem dL_law_1312 : decode cL_law 1312 = .ok (.iadd, 1) := by decide +kernel
theorem dL_law_1313 : decode cL_law 1313 = .ok (.iaload, 1) := by decide +kernel
theorem dL_law_1314 : decode cL_law 1314 = .ok (.invokevirtual 147, 3) := by decide +kernel
theorem dL_law_1317 : decode cL_law 1317 = .ok (.aload_n 2, 1) := by decide +kernel
theorem dL_law_1318 : decode cL_law 1318 = .ok (.aload_n 0, 1) := by decide +kernel
theorem dL_law_1319 : decode cL_law 1319 = .ok (.iload_n 3, 1) := by decide +kernel
theorem dL_law_1320 : decode cL_law 1320 = .ok (.iconst 1, 1) := by decide +kernel
theorem dL_law_1321 : decode cL_law 1321 = .ok (.iadd, 1) := by decide +kernel
theorem dL_law_1322 : decode cL_law 1322 = .ok (.iaload, 1) := by decide +kernel
theorem dL_law_1323 : decode cL_law 1323 = .ok (.invokevirtual 150, 3) := by decide +kernel
theorem dL_law_1326 : decode cL_law 1326 = .ok (.if_icmp .eq 5, 3) := by decide +kernel
theorem dL_law_1329 : decode cL_law 1329 = .ok (.iconst 0, 1) := by decide +kernel
theorem dL_law_1330 : decode cL_law 1330 = .ok (.ireturn, 1) := by decide +kernel
theorem dL_law_1331 : decode cL_law 1331 = .ok (.iinc 3 6, 3) := by decide +kernel
theorem dL_law_1334 : decode cL_law 1334 = .ok (.goto (-1316), 3) := by decide +kernel
theorem dL_law_1337 : decode cL_law 1337 = .ok (.iconst 1, 1) := by decide +kernel
theorem dL_law_1338 : decode cL_law 1338 = .ok (.ireturn, 1) := by decide +kernel
theorem dX0_init_0 : decode cX0_init 0 = .ok (.aload_n 0, 1) := by decide +kernel
theorem dX0_init_1 : decode cX0_init 1 = .ok (.invokespecial 1, 3) := by decide +kernel
theorem dX0_init_4 : decode cX0_init 4 = .ok (.aload_n 0, 1) := by decide +kernel
theorem dX0_init_5 : decode cX0_init 5 = .ok (.iconst 1, 1) := by decide +kernel
theorem dX0_init_6 : decode cX0_init 6 = .ok (.newarray .int, 2) := by decide +kernel
theorem dX0_init_8 : decode cX0_init 8 = .ok (.putfield 7, 3) := by decide +kernel
theorem dX0_init_11 : decode cX0_init 11 = .ok (.aload_n 0, 1) := by decide +kernel
theorem dX0_init_12 : decode cX0_init 12 = .ok (.bipush 12, 2) := by decide +kernel
theorem dX0_init_14 : decode cX0_init 14 = .ok (.newarray .int, 2) := by decide +kernel
theorem dX0_init_16 : decode cX0_init 16 = .ok (.putfield 13, 3) := by decide +kernel
theorem dX0_init_19 : decode cX0_init 19 = .ok (.aload_n 0, 1) := by decide +kernel
theorem dX0_init_20 : decode cX0_init 20 = .ok (.bipush 12, 2) := by decide +kernel
theorem dX0_init_22 : decode cX0_init 22 = .ok (.newarray .int, 2) := by decide +kernel
theorem dX0_init_24 : decode cX0_init 24 = .ok (.putfield 16, 3) := by decide +kernel
theorem dX0_init_27 : decode cX0_init 27 = .ok (.return_, 1) := by decide +kernel
theorem dX0_size_0 : decode cX0_size 0 = .ok (.aload_n 0, 1) := by decide +kernel
theorem dX0_size_1 : decode cX0_size 1 = .ok (.getfield 7, 3) := by decide +kernel
theorem dX0_size_4 : decode cX0_size 4 = .ok (.iconst 0, 1) := by decide +kernel
theorem dX0_size_5 : decode cX0_size 5 = .ok (.iaload, 1) := by decide +kernel
theorem dX0_size_6 : decode cX0_size 6 = .ok (.ireturn, 1) := by decide +kernel
theorem dX0_everybody_0 : decode cX0_everybody 0 = .ok (.iconst 1, 1) := by decide +kernel
theorem dX0_everybody_1 : decode cX0_everybody 1 = .ok (.aload_n 0, 1) := by decide +kernel
theorem dX0_everybody_2 : decode cX0_everybody 2 = .ok (.invokevirtual 19, 3) := by decide +kernel
theorem dX0_everybody_5 : decode cX0_everybody 5 = .ok (.ishl, 1) := by decide +kernel
theorem dX0_everybody_6 : decode cX0_everybody 6 = .ok (.iconst 1, 1) := by decide +kernel
theorem dX0_everybody_7 : decode cX0_everybody 7 = .ok (.isub, 1) := by decide +kernel
theorem dX0_everybody_8 : decode cX0_everybody 8 = .ok (.ireturn, 1) := by decide +kernel
theorem dX0_together_0 : decode cX0_together 0 = .ok (.iconst 0, 1) := by decide +kernel
theorem dX0_together_1 : decode cX0_together 1 = .ok (.istore_n 2, 1) := by decide +kernel
theorem dX0_together_2 : decode cX0_together 2 = .ok (.iconst 0, 1) := by decide +kernel
theorem dX0_together_3 : decode cX0_together 3 = .ok (.istore_n 3, 1) := by decide +kernel
theorem dX0_together_4 : decode cX0_together 4 = .ok (.iload_n 3, 1) := by decide +kernel
theorem dX0_together_5 : decode cX0_together 5 = .ok (.aload_n 0, 1) := by decide +kernel
theorem dX0_together_6 : decode cX0_together 6 = .ok (.invokevirtual 19, 3) := by decide +kernel
theorem dX0_together_9 : decode cX0_together 9 = .ok (.if_icmp .ge 26, 3) := by decide +kernel
theorem dX0_together_12 : decode cX0_together 12 = .ok (.iload_n 1, 1) := by decide +kernel
theorem dX0_together_13 : decode cX0_together 13 = .ok (.iload_n 3, 1) := by decide +kernel
theorem dX0_together_14 : decode cX0_together 14 = .ok (.invokestatic 23, 3) := by decide +kernel
theorem dX0_together_17 : decode cX0_together 17 = .ok (.ifCond .eq 12, 3) := by decide +kernel
theorem dX0_together_20 : decode cX0_together 20 = .ok (.iload_n 2, 1) := by decide +kernel
theorem dX0_together_21 : decode cX0_together 21 = .ok (.aload_n 0, 1) := by decide +kernel
theorem dX0_together_22 : decode cX0_together 22 = .ok (.getfield 13, 3) := by decide +kernel
theorem dX0_together_25 : decode cX0_together 25 = .ok (.iload_n 3, 1) := by decide +kernel
theorem dX0_together_26 : decode cX0_together 26 = .ok (.iaload, 1) := by decide +kernel
theorem dX0_together_27 : decode cX0_together 27 = .ok (.iadd, 1) := by decide +kernel
theorem dX0_together_28 : decode cX0_together 28 = .ok (.istore_n 2, 1) := by decide +kernel
theorem dX0_together_29 : decode cX0_together 29 = .ok (.iinc 3 1, 3) := by decide +kernel
theorem dX0_together_32 : decode cX0_together 32 = .ok (.goto (-28), 3) := by decide +kernel
theorem dX0_together_35 : decode cX0_together 35 = .ok (.iload_n 2, 1) := by decide +kernel
theorem dX0_together_36 : decode cX0_together 36 = .ok (.ireturn, 1) := by decide +kernel
theorem dX0_draw_0 : decode cX0_draw 0 = .ok (.iload_n 1, 1) := by decide +kernel
theorem dX0_draw_1 : decode cX0_draw 1 = .ok (.istore_n 2, 1) := by decide +kernel
theorem dX0_draw_2 : decode cX0_draw 2 = .ok (.aload_n 0, 1) := by decide +kernel
theorem dX0_draw_3 : decode cX0_draw 3 = .ok (.invokevirtual 29, 3) := by decide +kernel
theorem dX0_draw_6 : decode cX0_draw 6 = .ok (.istore_n 3, 1) := by decide +kernel
theorem dX0_draw_7 : decode cX0_draw 7 = .ok (.iconst 0, 1) := by decide +kernel
theorem dX0_draw_8 : decode cX0_draw 8 = .ok (.istore 4, 2) := by decide +kernel
theorem dX0_draw_10 : decode cX0_draw 10 = .ok (.iload 4, 2) := by decide +kernel
theorem dX0_draw_12 : decode cX0_draw 12 = .ok (.aload_n 0, 1) := by decide +kernel
theorem dX0_draw_13 : decode cX0_draw 13 = .ok (.invokevirtual 19, 3) := by decide +kernel
theorem dX0_draw_16 : decode cX0_draw 16 = .ok (.if_icmp .ge 61, 3) := by decide +kernel
theorem dX0_draw_19 : decode cX0_draw 19 = .ok (.ldc 32, 2) := by decide +kernel
theorem dX0_draw_21 : decode cX0_draw 21 = .ok (.iload_n 2, 1) := by decide +kernel
theorem dX0_draw_22 : decode cX0_draw 22 = .ok (.imul, 1) := by decide +kernel
theorem dX0_draw_23 : decode cX0_draw 23 = .ok (.sipush 12345, 3) := by decide +kernel
theorem dX0_draw_26 : decode cX0_draw 26 = .ok (.iadd, 1) := by decide +kernel
theorem dX0_draw_27 : decode cX0_draw 27 = .ok (.istore_n 2, 1) := by decide +kernel
theorem dX0_draw_28 : decode cX0_draw 28 = .ok (.iload_n 2, 1) := by decide +kernel
theorem dX0_draw_29 : decode cX0_draw 29 = .ok (.bipush 16, 2) := by decide +kernel
theorem dX0_draw_31 : decode cX0_draw 31 = .ok (.iushr, 1) := by decide +kernel
theorem dX0_draw_32 : decode cX0_draw 32 = .ok (.iconst 1, 1) := by decide +kernel
theorem dX0_draw_33 : decode cX0_draw 33 = .ok (.aload_n 0, 1) := by decide +kernel
theorem dX0_draw_34 : decode cX0_draw 34 = .ok (.iload_n 3, 1) := by decide +kernel
theorem dX0_draw_35 : decode cX0_draw 35 = .ok (.invokevirtual 33, 3) := by decide +kernel
theorem dX0_draw_38 : decode cX0_draw 38 = .ok (.invokestatic 37, 3) := by decide +kernel
theorem dX0_draw_41 : decode cX0_draw 41 = .ok (.irem, 1) := by decide +kernel
theorem dX0_draw_42 : decode cX0_draw 42 = .ok (.istore 5, 2) := by decide +kernel
theorem dX0_draw_44 : decode cX0_draw 44 = .ok (.aload_n 0, 1) := by decide +kernel
theorem dX0_draw_45 : decode cX0_draw 45 = .ok (.iload_n 3, 1) := by decide +kernel
theorem dX0_draw_46 : decode cX0_draw 46 = .ok (.iload 5, 2) := by decide +kernel
theorem dX0_draw_48 : decode cX0_draw 48 = .ok (.invokevirtual 43, 3) := by decide +kernel
theorem dX0_draw_51 : decode cX0_draw 51 = .ok (.istore 6, 2) := by decide +kernel
theorem dX0_draw_53 : decode cX0_draw 53 = .ok (.aload_n 0, 1) := by decide +kernel
theorem dX0_draw_54 : decode cX0_draw 54 = .ok (.getfield 16, 3) := by decide +kernel
theorem dX0_draw_57 : decode cX0_draw 57 = .ok (.iload 4, 2) := by decide +kernel
theorem dX0_draw_59 : decode cX0_draw 59 = .ok (.iload 6, 2) := by decide +kernel
theorem dX0_draw_61 : decode cX0_draw 61 = .ok (.iastore, 1) := by decide +kernel
theorem dX0_draw_62 : decode cX0_draw 62 = .ok (.iload_n 3, 1) := by decide +kernel
theorem dX0_draw_63 : decode cX0_draw 63 = .ok (.iconst 1, 1) := by decide +kernel
theorem dX0_draw_64 : decode cX0_draw 64 = .ok (.iload 6, 2) := by decide +kernel
theorem dX0_draw_66 : decode cX0_draw 66 = .ok (.ishl, 1) := by decide +kernel
theorem dX0_draw_67 : decode cX0_draw 67 = .ok (.iconst (-1), 1) := by decide +kernel
theorem dX0_draw_68 : decode cX0_draw 68 = .ok (.ixor, 1) := by decide +kernel
theorem dX0_draw_69 : decode cX0_draw 69 = .ok (.iand, 1) := by decide +kernel
theorem dX0_draw_70 : decode cX0_draw 70 = .ok (.istore_n 3, 1) := by decide +kernel
theorem dX0_draw_71 : decode cX0_draw 71 = .ok (.iinc 4 1, 3) := by decide +kernel
theorem dX0_draw_74 : decode cX0_draw 74 = .ok (.goto (-64), 3) := by decide +kernel
theorem dX0_draw_77 : decode cX0_draw 77 = .ok (.return_, 1) := by decide +kernel
theorem dX0_owner_0 : decode cX0_owner 0 = .ok (.iload_n 2, 1) := by decide +kernel
theorem dX0_owner_1 : decode cX0_owner 1 = .ok (.istore_n 3, 1) := by decide +kernel
theorem dX0_owner_2 : decode cX0_owner 2 = .ok (.iconst 0, 1) := by decide +kernel
theorem dX0_owner_3 : decode cX0_owner 3 = .ok (.istore 4, 2) := by decide +kernel
theorem dX0_owner_5 : decode cX0_owner 5 = .ok (.iload 4, 2) := by decide +kernel
theorem dX0_owner_7 : decode cX0_owner 7 = .ok (.aload_n 0, 1) := by decide +kernel
theorem dX0_owner_8 : decode cX0_owner 8 = .ok (.invokevirtual 19, 3) := by decide +kernel
theorem dX0_owner_11 : decode cX0_owner 11 = .ok (.if_icmp .ge 42, 3) := by decide +kernel
theorem dX0_owner_14 : decode cX0_owner 14 = .ok (.iload_n 1, 1) := by decide +kernel
theorem dX0_owner_15 : decode cX0_owner 15 = .ok (.iload 4, 2) := by decide +kernel
theorem dX0_owner_17 : decode cX0_owner 17 = .ok (.invokestatic 23, 3) := by decide +kernel
theorem dX0_owner_20 : decode cX0_owner 20 = .ok (.ifCond .eq 27, 3) := by decide +kernel
theorem dX0_owner_23 : decode cX0_owner 23 = .ok (.iload_n 3, 1) := by decide +kernel
theorem dX0_owner_24 : decode cX0_owner 24 = .ok (.aload_n 0, 1) := by decide +kernel
theorem dX0_owner_25 : decode cX0_owner 25 = .ok (.getfield 13, 3) := by decide +kernel
theorem dX0_owner_28 : decode cX0_owner 28 = .ok (.iload 4, 2) := by decide +kernel
theorem dX0_owner_30 : decode cX0_owner 30 = .ok (.iaload, 1) := by decide +kernel
theorem dX0_owner_31 : decode cX0_owner 31 = .ok (.if_icmp .ge 6, 3) := by decide +kernel
theorem dX0_owner_34 : decode cX0_owner 34 = .ok (.iload 4, 2) := by decide +kernel
theorem dX0_owner_36 : decode cX0_owner 36 = .ok (.ireturn, 1) := by decide +kernel
theorem dX0_owner_37 : decode cX0_owner 37 = .ok (.iload_n 3, 1) := by decide +kernel
theorem dX0_owner_38 : decode cX0_owner 38 = .ok (.aload_n 0, 1) := by decide +kernel
theorem dX0_owner_39 : decode cX0_owner 39 = .ok (.getfield 13, 3) := by decide +kernel
theorem dX0_owner_42 : decode cX0_owner 42 = .ok (.iload 4, 2) := by decide +kernel
theorem dX0_owner_44 : decode cX0_owner 44 = .ok (.iaload, 1) := by decide +kernel
theorem dX0_owner_45 : decode cX0_owner 45 = .ok (.isub, 1) := by decide +kernel
theorem dX0_owner_46 : decode cX0_owner 46 = .ok (.istore_n 3, 1) := by decide +kernel
theorem dX0_owner_47 : decode cX0_owner 47 = .ok (.iinc 4 1, 3) := by decide +kernel
theorem dX0_owner_50 : decode cX0_owner 50 = .ok (.goto (-45), 3) := by decide +kernel
theorem dX0_owner_53 : decode cX0_owner 53 = .ok (.iconst 0, 1) := by decide +kernel
theorem dX0_owner_54 : decode cX0_owner 54 = .ok (.ireturn, 1) := by decide +kernel
theorem dX0_placeOf_0 : decode cX0_placeOf 0 = .ok (.iconst 0, 1) := by decide +kernel
theorem dX0_placeOf_1 : decode cX0_placeOf 1 = .ok (.istore_n 2, 1) := by decide +kernel
theorem dX0_placeOf_2 : decode cX0_placeOf 2 = .ok (.iconst 0, 1) := by decide +kernel
theorem dX0_placeOf_3 : decode cX0_placeOf 3 = .ok (.istore_n 3, 1) := by decide +kernel
theorem dX0_placeOf_4 : decode cX0_placeOf 4 = .ok (.iload_n 3, 1) := by decide +kernel
theorem dX0_placeOf_5 : decode cX0_placeOf 5 = .ok (.aload_n 0, 1) := by decide +kernel
theorem dX0_placeOf_6 : decode cX0_placeOf 6 = .ok (.invokevirtual 19, 3) := by decide +kernel
theorem dX0_placeOf_9 : decode cX0_placeOf 9 = .ok (.if_icmp .ge 21, 3) := by decide +kernel
theorem dX0_placeOf_12 : decode cX0_placeOf 12 = .ok (.aload_n 0, 1) := by decide +kernel
theorem dX0_placeOf_13 : decode cX0_placeOf 13 = .ok (.getfield 16, 3) := by decide +kernel
theorem dX0_placeOf_16 : decode cX0_placeOf 16 = .ok (.iload_n 3, 1) := by decide +kernel
theorem dX0_placeOf_17 : decode cX0_placeOf 17 = .ok (.iaload, 1) := by decide +kernel
theorem dX0_placeOf_18 : decode cX0_placeOf 18 = .ok (.iload_n 1, 1) := by decide +kernel
theorem dX0_placeOf_19 : decode cX0_placeOf 19 = .ok (.if_icmp .ne 5, 3) := by decide +kernel
theorem dX0_placeOf_22 : decode cX0_placeOf 22 = .ok (.iload_n 3, 1) := by decide +kernel
theorem dX0_placeOf_23 : decode cX0_placeOf 23 = .ok (.istore_n 2, 1) := by decide +kernel
theorem dX0_placeOf_24 : decode cX0_placeOf 24 = .ok (.iinc 3 1, 3) := by decide +kernel
theorem dX0_placeOf_27 : decode cX0_placeOf 27 = .ok (.goto (-23), 3) := by decide +kernel
theorem dX0_placeOf_30 : decode cX0_placeOf 30 = .ok (.iload_n 2, 1) := by decide +kernel
theorem dX0_placeOf_31 : decode cX0_placeOf 31 = .ok (.ireturn, 1) := by decide +kernel
theorem dX1_init_0 : decode cX1_init 0 = .ok (.aload_n 0, 1) := by decide +kernel
theorem dX1_init_1 : decode cX1_init 1 = .ok (.invokespecial 1, 3) := by decide +kernel
theorem dX1_init_4 : decode cX1_init 4 = .ok (.aload_n 0, 1) := by decide +kernel
theorem dX1_init_5 : decode cX1_init 5 = .ok (.bipush 20, 2) := by decide +kernel
theorem dX1_init_7 : decode cX1_init 7 = .ok (.anewarray 9, 3) := by decide +kernel
theorem dX1_init_10 : decode cX1_init 10 = .ok (.putfield 11, 3) := by decide +kernel
theorem dX1_init_13 : decode cX1_init 13 = .ok (.aload_n 0, 1) := by decide +kernel
theorem dX1_init_14 : decode cX1_init 14 = .ok (.iconst 0, 1) := by decide +kernel
theorem dX1_init_15 : decode cX1_init 15 = .ok (.putfield 15, 3) := by decide +kernel
theorem dX1_init_18 : decode cX1_init 18 = .ok (.aload_n 0, 1) := by decide +kernel
theorem dX1_init_19 : decode cX1_init 19 = .ok (.iconst 0, 1) := by decide +kernel
theorem dX1_init_20 : decode cX1_init 20 = .ok (.putfield 19, 3) := by decide +kernel
theorem dX1_init_23 : decode cX1_init 23 = .ok (.iconst 0, 1) := by decide +kernel
theorem dX1_init_24 : decode cX1_init 24 = .ok (.istore_n 1, 1) := by decide +kernel
theorem dX1_init_25 : decode cX1_init 25 = .ok (.iload_n 1, 1) := by decide +kernel
theorem dX1_init_26 : decode cX1_init 26 = .ok (.bipush 20, 2) := by decide +kernel
theorem dX1_init_28 : decode cX1_init 28 = .ok (.if_icmp .ge 22, 3) := by decide +kernel
theorem dX1_init_31 : decode cX1_init 31 = .ok (.aload_n 0, 1) := by decide +kernel
theorem dX1_init_32 : decode cX1_init 32 = .ok (.getfield 11, 3) := by decide +kernel
theorem dX1_init_35 : decode cX1_init 35 = .ok (.iload_n 1, 1) := by decide +kernel
theorem dX1_init_36 : decode cX1_init 36 = .ok (.new 9, 3) := by decide +kernel
theorem dX1_init_39 : decode cX1_init 39 = .ok (.dup, 1) := by decide +kernel
theorem dX1_init_40 : decode cX1_init 40 = .ok (.invokespecial 22, 3) := by decide +kernel
theorem dX1_init_43 : decode cX1_init 43 = .ok (.aastore, 1) := by decide +kernel
theorem dX1_init_44 : decode cX1_init 44 = .ok (.iinc 1 1, 3) := by decide +kernel
theorem dX1_init_47 : decode cX1_init 47 = .ok (.goto (-22), 3) := by decide +kernel
theorem dX1_init_50 : decode cX1_init 50 = .ok (.return_, 1) := by decide +kernel
theorem dX1_keep_0 : decode cX1_keep 0 = .ok (.aload_n 0, 1) := by decide +kernel
theorem dX1_keep_1 : decode cX1_keep 1 = .ok (.getfield 11, 3) := by decide +kernel
theorem dX1_keep_4 : decode cX1_keep 4 = .ok (.aload_n 0, 1) := by decide +kernel
theorem dX1_keep_5 : decode cX1_keep 5 = .ok (.getfield 15, 3) := by decide +kernel
theorem dX1_keep_8 : decode cX1_keep 8 = .ok (.aaload, 1) := by decide +kernel
theorem dX1_keep_9 : decode cX1_keep 9 = .ok (.aload_n 1, 1) := by decide +kernel
theorem dX1_keep_10 : decode cX1_keep 10 = .ok (.iload_n 2, 1) := by decide +kernel
theorem dX1_keep_11 : decode cX1_keep 11 = .ok (.iload_n 3, 1) := by decide +kernel
theorem dX1_keep_12 : decode cX1_keep 12 = .ok (.invokevirtual 23, 3) := by decide +kernel
theorem dX1_keep_15 : decode cX1_keep 15 = .ok (.aload_n 0, 1) := by decide +kernel
theorem dX1_keep_16 : decode cX1_keep 16 = .ok (.aload_n 0, 1) := by decide +kernel
theorem dX1_keep_17 : decode cX1_keep 17 = .ok (.getfield 15, 3) := by decide +kernel
theorem dX1_keep_20 : decode cX1_keep 20 = .ok (.iconst 1, 1) := by decide +kernel
theorem dX1_keep_21 : decode cX1_keep 21 = .ok (.iadd, 1) := by decide +kernel
theorem dX1_keep_22 : decode cX1_keep 22 = .ok (.bipush 20, 2) := by decide +kernel
theorem dX1_keep_24 : decode cX1_keep 24 = .ok (.irem, 1) := by decide +kernel
theorem dX1_keep_25 : decode cX1_keep 25 = .ok (.putfield 15, 3) := by decide +kernel
theorem dX1_keep_28 : decode cX1_keep 28 = .ok (.aload_n 0, 1) := by decide +kernel
theorem dX1_keep_29 : decode cX1_keep 29 = .ok (.bipush 20, 2) := by decide +kernel
theorem dX1_keep_31 : decode cX1_keep 31 = .ok (.aload_n 0, 1) := by decide +kernel
theorem dX1_keep_32 : decode cX1_keep 32 = .ok (.getfield 19, 3) := by decide +kernel
theorem dX1_keep_35 : decode cX1_keep 35 = .ok (.iconst 1, 1) := by decide +kernel
theorem dX1_keep_36 : decode cX1_keep 36 = .ok (.iadd, 1) := by decide +kernel
theorem dX1_keep_37 : decode cX1_keep 37 = .ok (.invokestatic 27, 3) := by decide +kernel
theorem dX1_keep_40 : decode cX1_keep 40 = .ok (.putfield 19, 3) := by decide +kernel
theorem dX1_keep_43 : decode cX1_keep 43 = .ok (.return_, 1) := by decide +kernel
theorem dX1_bringBack_0 : decode cX1_bringBack 0 = .ok (.aload_n 0, 1) := by decide +kernel
theorem dX1_bringBack_1 : decode cX1_bringBack 1 = .ok (.getfield 19, 3) := by decide +kernel
theorem dX1_bringBack_4 : decode cX1_bringBack 4 = .ok (.ifCond .ne 5, 3) := by decide +kernel
theorem dX1_bringBack_7 : decode cX1_bringBack 7 = .ok (.iconst 0, 1) := by decide +kernel
theorem dX1_bringBack_8 : decode cX1_bringBack 8 = .ok (.ireturn, 1) := by decide +kernel
theorem dX1_bringBack_9 : decode cX1_bringBack 9 = .ok (.aload_n 0, 1) := by decide +kernel
theorem dX1_bringBack_10 : decode cX1_bringBack 10 = .ok (.aload_n 0, 1) := by decide +kernel
theorem dX1_bringBack_11 : decode cX1_bringBack 11 = .ok (.getfield 15, 3) := by decide +kernel
theorem dX1_bringBack_14 : decode cX1_bringBack 14 = .ok (.bipush 20, 2) := by decide +kernel
theorem dX1_bringBack_16 : decode cX1_bringBack 16 = .ok (.iadd, 1) := by decide +kernel
theorem dX1_bringBack_17 : decode cX1_bringBack 17 = .ok (.iconst 1, 1) := by decide +kernel
theorem dX1_bringBack_18 : decode cX1_bringBack 18 = .ok (.isub, 1) := by decide +kernel
theorem dX1_bringBack_19 : decode cX1_bringBack 19 = .ok (.bipush 20, 2) := by decide +kernel
theorem dX1_bringBack_21 : decode cX1_bringBack 21 = .ok (.irem, 1) := by decide +kernel
theorem dX1_bringBack_22 : decode cX1_bringBack 22 = .ok (.putfield 15, 3) := by decide +kernel
theorem dX1_bringBack_25 : decode cX1_bringBack 25 = .ok (.aload_n 0, 1) := by decide +kernel
theorem dX1_bringBack_26 : decode cX1_bringBack 26 = .ok (.dup, 1) := by decide +kernel
theorem dX1_bringBack_27 : decode cX1_bringBack 27 = .ok (.getfield 19, 3) := by decide +kernel
theorem dX1_bringBack_30 : decode cX1_bringBack 30 = .ok (.iconst 1, 1) := by decide +kernel
theorem dX1_bringBack_31 : decode cX1_bringBack 31 = .ok (.isub, 1) := by decide +kernel
theorem dX1_bringBack_32 : decode cX1_bringBack 32 = .ok (.putfield 19, 3) := by decide +kernel
theorem dX1_bringBack_35 : decode cX1_bringBack 35 = .ok (.aload_n 0, 1) := by decide +kernel
theorem dX1_bringBack_36 : decode cX1_bringBack 36 = .ok (.getfield 11, 3) := by decide +kernel
theorem dX1_bringBack_39 : decode cX1_bringBack 39 = .ok (.aload_n 0, 1) := by decide +kernel
theorem dX1_bringBack_40 : decode cX1_bringBack 40 = .ok (.getfield 15, 3) := by decide +kernel
theorem dX1_bringBack_43 : decode cX1_bringBack 43 = .ok (.aaload, 1) := by decide +kernel
theorem dX1_bringBack_44 : decode cX1_bringBack 44 = .ok (.invokevirtual 33, 3) := by decide +kernel
theorem dX1_bringBack_47 : decode cX1_bringBack 47 = .ok (.iconst 1, 1) := by decide +kernel
theorem dX1_bringBack_48 : decode cX1_bringBack 48 = .ok (.ireturn, 1) := by decide +kernel
theorem dX2_init_0 : decode cX2_init 0 = .ok (.aload_n 0, 1) := by decide +kernel
theorem dX2_init_1 : decode cX2_init 1 = .ok (.invokespecial 1, 3) := by decide +kernel
theorem dX2_init_4 : decode cX2_init 4 = .ok (.aload_n 0, 1) := by decide +kernel
theorem dX2_init_5 : decode cX2_init 5 = .ok (.aconst_null, 1) := by decide +kernel
theorem dX2_init_6 : decode cX2_init 6 = .ok (.putfield 7, 3) := by decide +kernel
theorem dX2_init_9 : decode cX2_init 9 = .ok (.aload_n 0, 1) := by decide +kernel
theorem dX2_init_10 : decode cX2_init 10 = .ok (.iconst 0, 1) := by decide +kernel
theorem dX2_init_11 : decode cX2_init 11 = .ok (.putfield 13, 3) := by decide +kernel
theorem dX2_init_14 : decode cX2_init 14 = .ok (.aload_n 0, 1) := by decide +kernel
theorem dX2_init_15 : decode cX2_init 15 = .ok (.iconst 0, 1) := by decide +kernel
theorem dX2_init_16 : decode cX2_init 16 = .ok (.putfield 17, 3) := by decide +kernel
theorem dX2_init_19 : decode cX2_init 19 = .ok (.aload_n 0, 1) := by decide +kernel
theorem dX2_init_20 : decode cX2_init 20 = .ok (.iconst 1, 1) := by decide +kernel
theorem dX2_init_21 : decode cX2_init 21 = .ok (.newarray .int, 2) := by decide +kernel
theorem dX2_init_23 : decode cX2_init 23 = .ok (.putfield 20, 3) := by decide +kernel
theorem dX2_init_26 : decode cX2_init 26 = .ok (.return_, 1) := by decide +kernel
theorem dX2_keep_0 : decode cX2_keep 0 = .ok (.aload_n 0, 1) := by decide +kernel
theorem dX2_keep_1 : decode cX2_keep 1 = .ok (.getfield 20, 3) := by decide +kernel
theorem dX2_keep_4 : decode cX2_keep 4 = .ok (.arraylength, 1) := by decide +kernel
theorem dX2_keep_5 : decode cX2_keep 5 = .ok (.iload_n 3, 1) := by decide +kernel
theorem dX2_keep_6 : decode cX2_keep 6 = .ok (.if_icmp .ge 22, 3) := by decide +kernel
theorem dX2_keep_9 : decode cX2_keep 9 = .ok (.aload_n 0, 1) := by decide +kernel
theorem dX2_keep_10 : decode cX2_keep 10 = .ok (.iload_n 3, 1) := by decide +kernel
theorem dX2_keep_11 : decode cX2_keep 11 = .ok (.bipush 40, 2) := by decide +kernel
theorem dX2_keep_13 : decode cX2_keep 13 = .ok (.if_icmp .gt 8, 3) := by decide +kernel
theorem dX2_keep_16 : decode cX2_keep 16 = .ok (.bipush 40, 2) := by decide +kernel
theorem dX2_keep_18 : decode cX2_keep 18 = .ok (.goto 5, 3) := by decide +kernel
theorem dX2_keep_21 : decode cX2_keep 21 = .ok (.aload_n 1, 1) := by decide +kernel
theorem dX2_keep_22 : decode cX2_keep 22 = .ok (.arraylength, 1) := by decide +kernel
theorem dX2_keep_23 : decode cX2_keep 23 = .ok (.newarray .int, 2) := by decide +kernel
theorem dX2_keep_25 : decode cX2_keep 25 = .ok (.putfield 20, 3) := by decide +kernel
theorem dX2_keep_28 : decode cX2_keep 28 = .ok (.aload_n 0, 1) := by decide +kernel
theorem dX2_keep_29 : decode cX2_keep 29 = .ok (.aload_n 1, 1) := by decide +kernel
theorem dX2_keep_30 : decode cX2_keep 30 = .ok (.putfield 7, 3) := by decide +kernel
theorem dX2_keep_33 : decode cX2_keep 33 = .ok (.aload_n 0, 1) := by decide +kernel
theorem dX2_keep_34 : decode cX2_keep 34 = .ok (.iload_n 2, 1) := by decide +kernel
theorem dX2_keep_35 : decode cX2_keep 35 = .ok (.putfield 13, 3) := by decide +kernel
theorem dX2_keep_38 : decode cX2_keep 38 = .ok (.aload_n 0, 1) := by decide +kernel
theorem dX2_keep_39 : decode cX2_keep 39 = .ok (.iload_n 3, 1) := by decide +kernel
theorem dX2_keep_40 : decode cX2_keep 40 = .ok (.putfield 17, 3) := by decide +kernel
theorem dX2_keep_43 : decode cX2_keep 43 = .ok (.aload_n 0, 1) := by decide +kernel
theorem dX2_keep_44 : decode cX2_keep 44 = .ok (.getfield 7, 3) := by decide +kernel
theorem dX2_keep_47 : decode cX2_keep 47 = .ok (.aload_n 0, 1) := by decide +kernel
theorem dX2_keep_48 : decode cX2_keep 48 = .ok (.getfield 13, 3) := by decide +kernel
theorem dX2_keep_51 : decode cX2_keep 51 = .ok (.aload_n 0, 1) := by decide +kernel
theorem dX2_keep_52 : decode cX2_keep 52 = .ok (.getfield 20, 3) := by decide +kernel
theorem dX2_keep_55 : decode cX2_keep 55 = .ok (.iconst 0, 1) := by decide +kernel
theorem dX2_keep_56 : decode cX2_keep 56 = .ok (.aload_n 0, 1) := by decide +kernel
theorem dX2_keep_57 : decode cX2_keep 57 = .ok (.getfield 17, 3) := by decide +kernel
theorem dX2_keep_60 : decode cX2_keep 60 = .ok (.invokestatic 25, 3) := by decide +kernel
theorem dX2_keep_63 : decode cX2_keep 63 = .ok (.return_, 1) := by decide +kernel
theorem dX2_bringBack_0 : decode cX2_bringBack 0 = .ok (.aload_n 0, 1) := by decide +kernel
theorem dX2_bringBack_1 : decode cX2_bringBack 1 = .ok (.getfield 7, 3) := by decide +kernel
theorem dX2_bringBack_4 : decode cX2_bringBack 4 = .ok (.ifnull 23, 3) := by decide +kernel
theorem dX2_bringBack_7 : decode cX2_bringBack 7 = .ok (.aload_n 0, 1) := by decide +kernel
theorem dX2_bringBack_8 : decode cX2_bringBack 8 = .ok (.getfield 20, 3) := by decide +kernel
theorem dX2_bringBack_11 : decode cX2_bringBack 11 = .ok (.iconst 0, 1) := by decide +kernel
theorem dX2_bringBack_12 : decode cX2_bringBack 12 = .ok (.aload_n 0, 1) := by decide +kernel
theorem dX2_bringBack_13 : decode cX2_bringBack 13 = .ok (.getfield 7, 3) := by decide +kernel
theorem dX2_bringBack_16 : decode cX2_bringBack 16 = .ok (.aload_n 0, 1) := by decide +kernel
theorem dX2_bringBack_17 : decode cX2_bringBack 17 = .ok (.getfield 13, 3) := by decide +kernel
theorem dX2_bringBack_20 : decode cX2_bringBack 20 = .ok (.aload_n 0, 1) := by decide +kernel
theorem dX2_bringBack_21 : decode cX2_bringBack 21 = .ok (.getfield 17, 3) := by decide +kernel
theorem dX2_bringBack_24 : decode cX2_bringBack 24 = .ok (.invokestatic 25, 3) := by decide +kernel
theorem dX2_bringBack_27 : decode cX2_bringBack 27 = .ok (.return_, 1) := by decide +kernel
theorem dX3_init_0 : decode cX3_init 0 = .ok (.aload_n 0, 1) := by decide +kernel
theorem dX3_init_1 : decode cX3_init 1 = .ok (.invokespecial 7, 3) := by decide +kernel
theorem dX3_init_4 : decode cX3_init 4 = .ok (.aload_n 0, 1) := by decide +kernel
theorem dX3_init_5 : decode cX3_init 5 = .ok (.iconst 0, 1) := by decide +kernel
theorem dX3_init_6 : decode cX3_init 6 = .ok (.putfield 13, 3) := by decide +kernel
theorem dX3_init_9 : decode cX3_init 9 = .ok (.aload_n 0, 1) := by decide +kernel
theorem dX3_init_10 : decode cX3_init 10 = .ok (.bipush 15, 2) := by decide +kernel
theorem dX3_init_12 : decode cX3_init 12 = .ok (.newarray .int, 2) := by decide +kernel
theorem dX3_init_14 : decode cX3_init 14 = .ok (.putfield 17, 3) := by decide +kernel
theorem dX3_init_17 : decode cX3_init 17 = .ok (.aload_n 0, 1) := by decide +kernel
theorem dX3_init_18 : decode cX3_init 18 = .ok (.bipush 48, 2) := by decide +kernel
theorem dX3_init_20 : decode cX3_init 20 = .ok (.newarray .int, 2) := by decide +kernel
theorem dX3_init_22 : decode cX3_init 22 = .ok (.putfield 21, 3) := by decide +kernel
theorem dX3_init_25 : decode cX3_init 25 = .ok (.aload_n 0, 1) := by decide +kernel
theorem dX3_init_26 : decode cX3_init 26 = .ok (.sipush 225, 3) := by decide +kernel
theorem dX3_init_29 : decode cX3_init 29 = .ok (.newarray .int, 2) := by decide +kernel
theorem dX3_init_31 : decode cX3_init 31 = .ok (.putfield 24, 3) := by decide +kernel
theorem dX3_init_34 : decode cX3_init 34 = .ok (.aload_n 0, 1) := by decide +kernel
theorem dX3_init_35 : decode cX3_init 35 = .ok (.iconst 0, 1) := by decide +kernel
theorem dX3_init_36 : decode cX3_init 36 = .ok (.putfield 27, 3) := by decide +kernel
theorem dX3_init_39 : decode cX3_init 39 = .ok (.return_, 1) := by decide +kernel
theorem dX3_search_0 : decode cX3_search 0 = .ok (.aload_n 2, 1) := by decide +kernel
theorem dX3_search_1 : decode cX3_search 1 = .ok (.iload_n 3, 1) := by decide +kernel
theorem dX3_search_2 : decode cX3_search 2 = .ok (.iconst 0, 1) := by decide +kernel
theorem dX3_search_3 : decode cX3_search 3 = .ok (.invokevirtual 32, 3) := by decide +kernel
theorem dX3_search_6 : decode cX3_search 6 = .ok (.istore 4, 2) := by decide +kernel
theorem dX3_search_8 : decode cX3_search 8 = .ok (.aload_n 2, 1) := by decide +kernel
theorem dX3_search_9 : decode cX3_search 9 = .ok (.iload_n 3, 1) := by decide +kernel
theorem dX3_search_10 : decode cX3_search 10 = .ok (.iconst 1, 1) := by decide +kernel
theorem dX3_search_11 : decode cX3_search 11 = .ok (.invokevirtual 32, 3) := by decide +kernel
theorem dX3_search_14 : decode cX3_search 14 = .ok (.istore 5, 2) := by decide +kernel
theorem dX3_search_16 : decode cX3_search 16 = .ok (.aload_n 2, 1) := by decide +kernel
theorem dX3_search_17 : decode cX3_search 17 = .ok (.iload_n 3, 1) := by decide +kernel
theorem dX3_search_18 : decode cX3_search 18 = .ok (.iconst 2, 1) := by decide +kernel
theorem dX3_search_19 : decode cX3_search 19 = .ok (.invokevirtual 32, 3) := by decide +kernel
theorem dX3_search_22 : decode cX3_search 22 = .ok (.istore 6, 2) := by decide +kernel
theorem dX3_search_24 : decode cX3_search 24 = .ok (.aload_n 2, 1) := by decide +kernel
theorem dX3_search_25 : decode cX3_search 25 = .ok (.iload_n 3, 1) := by decide +kernel
theorem dX3_search_26 : decode cX3_search 26 = .ok (.iconst 3, 1) := by decide +kernel
theorem dX3_search_27 : decode cX3_search 27 = .ok (.invokevirtual 32, 3) := by decide +kernel
theorem dX3_search_30 : decode cX3_search 30 = .ok (.bipush 30, 2) := by decide +kernel
theorem dX3_search_32 : decode cX3_search 32 = .ok (.iload 5, 2) := by decide +kernel
theorem dX3_search_34 : decode cX3_search 34 = .ok (.isub, 1) := by decide +kernel
theorem dX3_search_35 : decode cX3_search 35 = .ok (.invokestatic 36, 3) := by decide +kernel
theorem dX3_search_38 : decode cX3_search 38 = .ok (.istore 7, 2) := by decide +kernel
theorem dX3_search_40 : decode cX3_search 40 = .ok (.aload_n 1, 1) := by decide +kernel
theorem dX3_search_41 : decode cX3_search 41 = .ok (.iload 4, 2) := by decide +kernel
theorem dX3_search_43 : decode cX3_search 43 = .ok (.invokevirtual 41, 3) := by decide +kernel
theorem dX3_search_46 : decode cX3_search 46 = .ok (.istore 8, 2) := by decide +kernel
theorem dX3_search_48 : decode cX3_search 48 = .ok (.aload_n 0, 1) := by decide +kernel
theorem dX3_search_49 : decode cX3_search 49 = .ok (.iconst 0, 1) := by decide +kernel
theorem dX3_search_50 : decode cX3_search 50 = .ok (.putfield 13, 3) := by decide +kernel
theorem dX3_search_53 : decode cX3_search 53 = .ok (.aload_n 0, 1) := by decide +kernel
theorem dX3_search_54 : decode cX3_search 54 = .ok (.invokevirtual 45, 3) := by decide +kernel
theorem dX3_search_57 : decode cX3_search 57 = .ok (.iconst 0, 1) := by decide +kernel
theorem dX3_search_58 : decode cX3_search 58 = .ok (.istore 9, 2) := by decide +kernel
theorem dX3_search_60 : decode cX3_search 60 = .ok (.iload 9, 2) := by decide +kernel
theorem dX3_search_62 : decode cX3_search 62 = .ok (.iload 7, 2) := by decide +kernel
theorem dX3_search_64 : decode cX3_search 64 = .ok (.if_icmp .ge 111, 3) := by decide +kernel
theorem dX3_search_67 : decode cX3_search 67 = .ok (.aload_n 0, 1) := by decide +kernel
theorem dX3_search_68 : decode cX3_search 68 = .ok (.getfield 13, 3) := by decide +kernel
theorem dX3_search_71 : decode cX3_search 71 = .ok (.ifCond .ne 104, 3) := by decide +kernel
theorem dX3_search_74 : decode cX3_search 74 = .ok (.aload_n 0, 1) := by decide +kernel
theorem dX3_search_75 : decode cX3_search 75 = .ok (.iload 9, 2) := by decide +kernel
theorem dX3_search_77 : decode cX3_search 77 = .ok (.invokevirtual 48, 3) := by decide +kernel
theorem dX3_search_80 : decode cX3_search 80 = .ok (.ifCond .eq 95, 3) := by decide +kernel
theorem dX3_search_83 : decode cX3_search 83 = .ok (.aload_n 1, 1) := by decide +kernel
theorem dX3_search_84 : decode cX3_search 84 = .ok (.iload 5, 2) := by decide +kernel
theorem dX3_search_86 : decode cX3_search 86 = .ok (.iload 9, 2) := by decide +kernel
theorem dX3_search_88 : decode cX3_search 88 = .ok (.iadd, 1) := by decide +kernel
theorem dX3_search_89 : decode cX3_search 89 = .ok (.iload 4, 2) := by decide +kernel
theorem dX3_search_91 : decode cX3_search 91 = .ok (.invokevirtual 51, 3) := by decide +kernel
theorem dX3_search_94 : decode cX3_search 94 = .ok (.istore 10, 2) := by decide +kernel
theorem dX3_search_96 : decode cX3_search 96 = .ok (.aload_n 0, 1) := by decide +kernel
theorem dX3_search_97 : decode cX3_search 97 = .ok (.aload_n 1, 1) := by decide +kernel
theorem dX3_search_98 : decode cX3_search 98 = .ok (.iload 9, 2) := by decide +kernel
theorem dX3_search_100 : decode cX3_search 100 = .ok (.iload 6, 2) := by decide +kernel
theorem dX3_search_102 : decode cX3_search 102 = .ok (.iload 10, 2) := by decide +kernel
theorem dX3_search_104 : decode cX3_search 104 = .ok (.invokevirtual 54, 3) := by decide +kernel
theorem dX3_search_107 : decode cX3_search 107 = .ok (.aload_n 0, 1) := by decide +kernel
theorem dX3_search_108 : decode cX3_search 108 = .ok (.getfield 27, 3) := by decide +kernel
theorem dX3_search_111 : decode cX3_search 111 = .ok (.ifCond .eq 14, 3) := by decide +kernel
theorem dX3_search_114 : decode cX3_search 114 = .ok (.aload_n 0, 1) := by decide +kernel
theorem dX3_search_115 : decode cX3_search 115 = .ok (.iload 9, 2) := by decide +kernel
theorem dX3_search_117 : decode cX3_search 117 = .ok (.iconst 1, 1) := by decide +kernel
theorem dX3_search_118 : decode cX3_search 118 = .ok (.iadd, 1) := by decide +kernel
theorem dX3_search_119 : decode cX3_search 119 = .ok (.putfield 13, 3) := by decide +kernel
theorem dX3_search_122 : decode cX3_search 122 = .ok (.goto 47, 3) := by decide +kernel
theorem dX3_search_125 : decode cX3_search 125 = .ok (.iload 8, 2) := by decide +kernel
theorem dX3_search_127 : decode cX3_search 127 = .ok (.aload_n 2, 1) := by decide +kernel
theorem dX3_search_128 : decode cX3_search 128 = .ok (.iload_n 3, 1) := by decide +kernel
theorem dX3_search_129 : decode cX3_search 129 = .ok (.iload 5, 2) := by decide +kernel
theorem dX3_search_131 : decode cX3_search 131 = .ok (.iload 9, 2) := by decide +kernel
theorem dX3_search_133 : decode cX3_search 133 = .ok (.iadd, 1) := by decide +kernel
theorem dX3_search_134 : decode cX3_search 134 = .ok (.invokevirtual 58, 3) := by decide +kernel
theorem dX3_search_137 : decode cX3_search 137 = .ok (.iconst (-1), 1) := by decide +kernel
theorem dX3_search_138 : decode cX3_search 138 = .ok (.ixor, 1) := by decide +kernel
theorem dX3_search_139 : decode cX3_search 139 = .ok (.iand, 1) := by decide +kernel
theorem dX3_search_140 : decode cX3_search 140 = .ok (.istore 11, 2) := by decide +kernel
theorem dX3_search_142 : decode cX3_search 142 = .ok (.aload_n 0, 1) := by decide +kernel
theorem dX3_search_143 : decode cX3_search 143 = .ok (.aload_n 1, 1) := by decide +kernel
theorem dX3_search_144 : decode cX3_search 144 = .ok (.iload 9, 2) := by decide +kernel
theorem dX3_search_146 : decode cX3_search 146 = .ok (.iload 6, 2) := by decide +kernel
theorem dX3_search_148 : decode cX3_search 148 = .ok (.iload 10, 2) := by decide +kernel
theorem dX3_search_150 : decode cX3_search 150 = .ok (.iload 11, 2) := by decide +kernel
theorem dX3_search_152 : decode cX3_search 152 = .ok (.invokevirtual 61, 3) := by decide +kernel
theorem dX3_search_155 : decode cX3_search 155 = .ok (.aload_n 0, 1) := by decide +kernel
theorem dX3_search_156 : decode cX3_search 156 = .ok (.iload 9, 2) := by decide +kernel
theorem dX3_search_158 : decode cX3_search 158 = .ok (.aload_n 2, 1) := by decide +kernel
theorem dX3_search_159 : decode cX3_search 159 = .ok (.iload_n 3, 1) := by decide +kernel
theorem dX3_search_160 : decode cX3_search 160 = .ok (.iconst 4, 1) := by decide +kernel
theorem dX3_search_161 : decode cX3_search 161 = .ok (.invokevirtual 32, 3) := by decide +kernel
theorem dX3_search_164 : decode cX3_search 164 = .ok (.iload 11, 2) := by decide +kernel
theorem dX3_search_166 : decode cX3_search 166 = .ok (.invokevirtual 65, 3) := by decide +kernel
theorem dX3_search_169 : decode cX3_search 169 = .ok (.iinc 9 1, 3) := by decide +kernel
theorem dX3_search_172 : decode cX3_search 172 = .ok (.goto (-112), 3) := by decide +kernel
theorem dX3_search_175 : decode cX3_search 175 = .ok (.aload_n 0, 1) := by decide +kernel
theorem dX3_search_176 : decode cX3_search 176 = .ok (.invokevirtual 69, 3) := by decide +kernel
theorem dX3_search_179 : decode cX3_search 179 = .ok (.aload_n 0, 1) := by decide +kernel
theorem dX3_search_180 : decode cX3_search 180 = .ok (.invokevirtual 72, 3) := by decide +kernel
theorem dX3_search_183 : decode cX3_search 183 = .ok (.aload_n 0, 1) := by decide +kernel
theorem dX3_search_184 : decode cX3_search 184 = .ok (.getfield 13, 3) := by decide +kernel
theorem dX3_search_187 : decode cX3_search 187 = .ok (.ifCond .le 7, 3) := by decide +kernel
theorem dX3_search_190 : decode cX3_search 190 = .ok (.iconst 1, 1) := by decide +kernel
theorem dX3_search_191 : decode cX3_search 191 = .ok (.goto 4, 3) := by decide +kernel
theorem dX3_search_194 : decode cX3_search 194 = .ok (.iconst 0, 1) := by decide +kernel
theorem dX3_search_195 : decode cX3_search 195 = .ok (.ireturn, 1) := by decide +kernel
theorem dX3_writeNights_0 : decode cX3_writeNights 0 = .ok (.aload_n 1, 1) := by decide +kernel
theorem dX3_writeNights_1 : decode cX3_writeNights 1 = .ok (.iload_n 2, 1) := by decide +kernel
theorem dX3_writeNights_2 : decode cX3_writeNights 2 = .ok (.iconst 1, 1) := by decide +kernel
theorem dX3_writeNights_3 : decode cX3_writeNights 3 = .ok (.invokevirtual 32, 3) := by decide +kernel
theorem dX3_writeNights_6 : decode cX3_writeNights 6 = .ok (.istore_n 3, 1) := by decide +kernel
theorem dX3_writeNights_7 : decode cX3_writeNights 7 = .ok (.aload_n 1, 1) := by decide +kernel
theorem dX3_writeNights_8 : decode cX3_writeNights 8 = .ok (.iload_n 2, 1) := by decide +kernel
theorem dX3_writeNights_9 : decode cX3_writeNights 9 = .ok (.invokevirtual 75, 3) := by decide +kernel
theorem dX3_writeNights_12 : decode cX3_writeNights 12 = .ok (.iconst 0, 1) := by decide +kernel
theorem dX3_writeNights_13 : decode cX3_writeNights 13 = .ok (.istore 4, 2) := by decide +kernel
theorem dX3_writeNights_15 : decode cX3_writeNights 15 = .ok (.iload 4, 2) := by decide +kernel
theorem dX3_writeNights_17 : decode cX3_writeNights 17 = .ok (.aload_n 0, 1) := by decide +kernel
theorem dX3_writeNights_18 : decode cX3_writeNights 18 = .ok (.getfield 13, 3) := by decide +kernel
theorem dX3_writeNights_21 : decode cX3_writeNights 21 = .ok (.iconst 1, 1) := by decide +kernel
theorem dX3_writeNights_22 : decode cX3_writeNights 22 = .ok (.isub, 1) := by decide +kernel
theorem dX3_writeNights_23 : decode cX3_writeNights 23 = .ok (.if_icmp .ge 27, 3) := by decide +kernel
theorem dX3_writeNights_26 : decode cX3_writeNights 26 = .ok (.aload_n 1, 1) := by decide +kernel
theorem dX3_writeNights_27 : decode cX3_writeNights 27 = .ok (.iload_n 2, 1) := by decide +kernel
theorem dX3_writeNights_28 : decode cX3_writeNights 28 = .ok (.iconst 5, 1) := by decide +kernel
theorem dX3_writeNights_29 : decode cX3_writeNights 29 = .ok (.iload_n 3, 1) := by decide +kernel
theorem dX3_writeNights_30 : decode cX3_writeNights 30 = .ok (.iadd, 1) := by decide +kernel
theorem dX3_writeNights_31 : decode cX3_writeNights 31 = .ok (.iload 4, 2) := by decide +kernel
theorem dX3_writeNights_33 : decode cX3_writeNights 33 = .ok (.iadd, 1) := by decide +kernel
theorem dX3_writeNights_34 : decode cX3_writeNights 34 = .ok (.aload_n 0, 1) := by decide +kernel
theorem dX3_writeNights_35 : decode cX3_writeNights 35 = .ok (.getfield 17, 3) := by decide +kernel
theorem dX3_writeNights_38 : decode cX3_writeNights 38 = .ok (.iload 4, 2) := by decide +kernel
theorem dX3_writeNights_40 : decode cX3_writeNights 40 = .ok (.iaload, 1) := by decide +kernel
theorem dX3_writeNights_41 : decode cX3_writeNights 41 = .ok (.invokevirtual 79, 3) := by decide +kernel
theorem dX3_writeNights_44 : decode cX3_writeNights 44 = .ok (.iinc 4 1, 3) := by decide +kernel
theorem dX3_writeNights_47 : decode cX3_writeNights 47 = .ok (.goto (-32), 3) := by decide +kernel
theorem dX3_writeNights_50 : decode cX3_writeNights 50 = .ok (.return_, 1) := by decide +kernel
theorem dX3_schedule_0 : decode cX3_schedule 0 = .ok (.iconst 0, 1) := by decide +kernel
theorem dX3_schedule_1 : decode cX3_schedule 1 = .ok (.istore 4, 2) := by decide +kernel
theorem dX3_schedule_3 : decode cX3_schedule 3 = .ok (.iload 4, 2) := by decide +kernel
theorem dX3_schedule_5 : decode cX3_schedule 5 = .ok (.aload_n 2, 1) := by decide +kernel
theorem dX3_schedule_6 : decode cX3_schedule 6 = .ok (.invokevirtual 82, 3) := by decide +kernel
theorem dX3_schedule_9 : decode cX3_schedule 9 = .ok (.if_icmp .ge 24, 3) := by decide +kernel
theorem dX3_schedule_12 : decode cX3_schedule 12 = .ok (.iload_n 3, 1) := by decide +kernel
theorem dX3_schedule_13 : decode cX3_schedule 13 = .ok (.iload 4, 2) := by decide +kernel
theorem dX3_schedule_15 : decode cX3_schedule 15 = .ok (.invokestatic 86, 3) := by decide +kernel
theorem dX3_schedule_18 : decode cX3_schedule 18 = .ok (.ifCond .eq 9, 3) := by decide +kernel
theorem dX3_schedule_21 : decode cX3_schedule 21 = .ok (.aload_n 2, 1) := by decide +kernel
theorem dX3_schedule_22 : decode cX3_schedule 22 = .ok (.iload 4, 2) := by decide +kernel
theorem dX3_schedule_24 : decode cX3_schedule 24 = .ok (.invokevirtual 75, 3) := by decide +kernel
theorem dX3_schedule_27 : decode cX3_schedule 27 = .ok (.iinc 4 1, 3) := by decide +kernel
theorem dX3_schedule_30 : decode cX3_schedule 30 = .ok (.goto (-27), 3) := by decide +kernel
theorem dX3_schedule_33 : decode cX3_schedule 33 = .ok (.iconst 0, 1) := by decide +kernel
theorem dX3_schedule_34 : decode cX3_schedule 34 = .ok (.istore 4, 2) := by decide +kernel
theorem dX3_schedule_36 : decode cX3_schedule 36 = .ok (.iconst 0, 1) := by decide +kernel
theorem dX3_schedule_37 : decode cX3_schedule 37 = .ok (.istore 5, 2) := by decide +kernel
theorem dX3_schedule_39 : decode cX3_schedule 39 = .ok (.iload 5, 2) := by decide +kernel
theorem dX3_schedule_41 : decode cX3_schedule 41 = .ok (.aload_n 2, 1) := by decide +kernel
theorem dX3_schedule_42 : decode cX3_schedule 42 = .ok (.invokevirtual 82, 3) := by decide +kernel
theorem dX3_schedule_45 : decode cX3_schedule 45 = .ok (.if_icmp .ge 39, 3) := by decide +kernel
theorem dX3_schedule_48 : decode cX3_schedule 48 = .ok (.iload_n 3, 1) := by decide +kernel
theorem dX3_schedule_49 : decode cX3_schedule 49 = .ok (.iload 5, 2) := by decide +kernel
theorem dX3_schedule_51 : decode cX3_schedule 51 = .ok (.invokestatic 86, 3) := by decide +kernel
theorem dX3_schedule_54 : decode cX3_schedule 54 = .ok (.ifCond .eq 24, 3) := by decide +kernel
theorem dX3_schedule_57 : decode cX3_schedule 57 = .ok (.aload_n 0, 1) := by decide +kernel
theorem dX3_schedule_58 : decode cX3_schedule 58 = .ok (.aload_n 1, 1) := by decide +kernel
theorem dX3_schedule_59 : decode cX3_schedule 59 = .ok (.aload_n 2, 1) := by decide +kernel
theorem dX3_schedule_60 : decode cX3_schedule 60 = .ok (.iload 5, 2) := by decide +kernel
theorem dX3_schedule_62 : decode cX3_schedule 62 = .ok (.invokevirtual 90, 3) := by decide +kernel
theorem dX3_schedule_65 : decode cX3_schedule 65 = .ok (.ifCond .eq 13, 3) := by decide +kernel
theorem dX3_schedule_68 : decode cX3_schedule 68 = .ok (.aload_n 0, 1) := by decide +kernel
theorem dX3_schedule_69 : decode cX3_schedule 69 = .ok (.aload_n 2, 1) := by decide +kernel
theorem dX3_schedule_70 : decode cX3_schedule 70 = .ok (.iload 5, 2) := by decide +kernel
theorem dX3_schedule_72 : decode cX3_schedule 72 = .ok (.invokevirtual 94, 3) := by decide +kernel
theorem dX3_schedule_75 : decode cX3_schedule 75 = .ok (.iinc 4 1, 3) := by decide +kernel
theorem dX3_schedule_78 : decode cX3_schedule 78 = .ok (.iinc 5 1, 3) := by decide +kernel
theorem dX3_schedule_81 : decode cX3_schedule 81 = .ok (.goto (-42), 3) := by decide +kernel
theorem dX3_schedule_84 : decode cX3_schedule 84 = .ok (.iload 4, 2) := by decide +kernel
theorem dX3_schedule_86 : decode cX3_schedule 86 = .ok (.ireturn, 1) := by decide +kernel
theorem dX3_startAhead_0 : decode cX3_startAhead 0 = .ok (.aload_n 0, 1) := by decide +kernel
theorem dX3_startAhead_1 : decode cX3_startAhead 1 = .ok (.getfield 21, 3) := by decide +kernel
theorem dX3_startAhead_4 : decode cX3_startAhead 4 = .ok (.iconst 0, 1) := by decide +kernel
theorem dX3_startAhead_5 : decode cX3_startAhead 5 = .ok (.invokestatic 98, 3) := by decide +kernel
theorem dX3_startAhead_8 : decode cX3_startAhead 8 = .ok (.aload_n 0, 1) := by decide +kernel
theorem dX3_startAhead_9 : decode cX3_startAhead 9 = .ok (.getfield 21, 3) := by decide +kernel
theorem dX3_startAhead_12 : decode cX3_startAhead 12 = .ok (.iconst 0, 1) := by decide +kernel
theorem dX3_startAhead_13 : decode cX3_startAhead 13 = .ok (.sipush 16384, 3) := by decide +kernel
theorem dX3_startAhead_16 : decode cX3_startAhead 16 = .ok (.iastore, 1) := by decide +kernel
theorem dX3_startAhead_17 : decode cX3_startAhead 17 = .ok (.return_, 1) := by decide +kernel
theorem dX3_placesAhead_0 : decode cX3_placesAhead 0 = .ok (.iconst 0, 1) := by decide +kernel
theorem dX3_placesAhead_1 : decode cX3_placesAhead 1 = .ok (.istore_n 2, 1) := by decide +kernel
theorem dX3_placesAhead_2 : decode cX3_placesAhead 2 = .ok (.iconst 0, 1) := by decide +kernel
theorem dX3_placesAhead_3 : decode cX3_placesAhead 3 = .ok (.istore_n 3, 1) := by decide +kernel
theorem dX3_placesAhead_4 : decode cX3_placesAhead 4 = .ok (.iload_n 3, 1) := by decide +kernel
theorem dX3_placesAhead_5 : decode cX3_placesAhead 5 = .ok (.iconst 3, 1) := by decide +kernel
theorem dX3_placesAhead_6 : decode cX3_placesAhead 6 = .ok (.if_icmp .ge 22, 3) := by decide +kernel
theorem dX3_placesAhead_9 : decode cX3_placesAhead 9 = .ok (.iload_n 2, 1) := by decide +kernel
theorem dX3_placesAhead_10 : decode cX3_placesAhead 10 = .ok (.aload_n 0, 1) := by decide +kernel
theorem dX3_placesAhead_11 : decode cX3_placesAhead 11 = .ok (.getfield 21, 3) := by decide +kernel
theorem dX3_placesAhead_14 : decode cX3_placesAhead 14 = .ok (.iload_n 1, 1) := by decide +kernel
theorem dX3_placesAhead_15 : decode cX3_placesAhead 15 = .ok (.iconst 3, 1) := by decide +kernel
theorem dX3_placesAhead_16 : decode cX3_placesAhead 16 = .ok (.imul, 1) := by decide +kernel
theorem dX3_placesAhead_17 : decode cX3_placesAhead 17 = .ok (.iload_n 3, 1) := by decide +kernel
theorem dX3_placesAhead_18 : decode cX3_placesAhead 18 = .ok (.iadd, 1) := by decide +kernel
theorem dX3_placesAhead_19 : decode cX3_placesAhead 19 = .ok (.iaload, 1) := by decide +kernel
theorem dX3_placesAhead_20 : decode cX3_placesAhead 20 = .ok (.ior, 1) := by decide +kernel
theorem dX3_placesAhead_21 : decode cX3_placesAhead 21 = .ok (.istore_n 2, 1) := by decide +kernel
theorem dX3_placesAhead_22 : decode cX3_placesAhead 22 = .ok (.iinc 3 1, 3) := by decide +kernel
theorem dX3_placesAhead_25 : decode cX3_placesAhead 25 = .ok (.goto (-21), 3) := by decide +kernel
theorem dX3_placesAhead_28 : decode cX3_placesAhead 28 = .ok (.iload_n 2, 1) := by decide +kernel
theorem dX3_placesAhead_29 : decode cX3_placesAhead 29 = .ok (.ireturn, 1) := by decide +kernel
theorem dX3_findEnders_0 : decode cX3_findEnders 0 = .ok (.aload_n 0, 1) := by decide +kernel
theorem dX3_findEnders_1 : decode cX3_findEnders 1 = .ok (.iload_n 2, 1) := by decide +kernel
theorem dX3_findEnders_2 : decode cX3_findEnders 2 = .ok (.invokevirtual 48, 3) := by decide +kernel
theorem dX3_findEnders_5 : decode cX3_findEnders 5 = .ok (.istore 5, 2) := by decide +kernel
theorem dX3_findEnders_7 : decode cX3_findEnders 7 = .ok (.aload_n 0, 1) := by decide +kernel
theorem dX3_findEnders_8 : decode cX3_findEnders 8 = .ok (.iconst 0, 1) := by decide +kernel
theorem dX3_findEnders_9 : decode cX3_findEnders 9 = .ok (.putfield 27, 3) := by decide +kernel
theorem dX3_findEnders_12 : decode cX3_findEnders 12 = .ok (.iconst 0, 1) := by decide +kernel
theorem dX3_findEnders_13 : decode cX3_findEnders 13 = .ok (.istore 6, 2) := by decide +kernel
theorem dX3_findEnders_15 : decode cX3_findEnders 15 = .ok (.iload 6, 2) := by decide +kernel
theorem dX3_findEnders_17 : decode cX3_findEnders 17 = .ok (.bipush 15, 2) := by decide +kernel
theorem dX3_findEnders_19 : decode cX3_findEnders 19 = .ok (.if_icmp .ge 44, 3) := by decide +kernel
theorem dX3_findEnders_22 : decode cX3_findEnders 22 = .ok (.iload 5, 2) := by decide +kernel
theorem dX3_findEnders_24 : decode cX3_findEnders 24 = .ok (.iload 6, 2) := by decide +kernel
theorem dX3_findEnders_26 : decode cX3_findEnders 26 = .ok (.invokestatic 86, 3) := by decide +kernel
theorem dX3_findEnders_29 : decode cX3_findEnders 29 = .ok (.ifCond .eq 28, 3) := by decide +kernel
theorem dX3_findEnders_32 : decode cX3_findEnders 32 = .ok (.aload_n 1, 1) := by decide +kernel
theorem dX3_findEnders_33 : decode cX3_findEnders 33 = .ok (.iload 6, 2) := by decide +kernel
theorem dX3_findEnders_35 : decode cX3_findEnders 35 = .ok (.iload_n 3, 1) := by decide +kernel
theorem dX3_findEnders_36 : decode cX3_findEnders 36 = .ok (.iload 4, 2) := by decide +kernel
theorem dX3_findEnders_38 : decode cX3_findEnders 38 = .ok (.invokevirtual 104, 3) := by decide +kernel
theorem dX3_findEnders_41 : decode cX3_findEnders 41 = .ok (.ifCond .eq 16, 3) := by decide +kernel
theorem dX3_findEnders_44 : decode cX3_findEnders 44 = .ok (.aload_n 0, 1) := by decide +kernel
theorem dX3_findEnders_45 : decode cX3_findEnders 45 = .ok (.dup, 1) := by decide +kernel
theorem dX3_findEnders_46 : decode cX3_findEnders 46 = .ok (.getfield 27, 3) := by decide +kernel
theorem dX3_findEnders_49 : decode cX3_findEnders 49 = .ok (.iconst 1, 1) := by decide +kernel
theorem dX3_findEnders_50 : decode cX3_findEnders 50 = .ok (.iload 6, 2) := by decide +kernel
theorem dX3_findEnders_52 : decode cX3_findEnders 52 = .ok (.ishl, 1) := by decide +kernel
theorem dX3_findEnders_53 : decode cX3_findEnders 53 = .ok (.ior, 1) := by decide +kernel
theorem dX3_findEnders_54 : decode cX3_findEnders 54 = .ok (.putfield 27, 3) := by decide +kernel
theorem dX3_findEnders_57 : decode cX3_findEnders 57 = .ok (.iinc 6 1, 3) := by decide +kernel
theorem dX3_findEnders_60 : decode cX3_findEnders 60 = .ok (.goto (-45), 3) := by decide +kernel
theorem dX3_findEnders_63 : decode cX3_findEnders 63 = .ok (.return_, 1) := by decide +kernel
theorem dX3_findLeads_0 : decode cX3_findLeads 0 = .ok (.aload_n 0, 1) := by decide +kernel
theorem dX3_findLeads_1 : decode cX3_findLeads 1 = .ok (.iload_n 2, 1) := by decide +kernel
theorem dX3_findLeads_2 : decode cX3_findLeads 2 = .ok (.invokevirtual 48, 3) := by decide +kernel
theorem dX3_findLeads_5 : decode cX3_findLeads 5 = .ok (.istore 6, 2) := by decide +kernel
theorem dX3_findLeads_7 : decode cX3_findLeads 7 = .ok (.iconst 0, 1) := by decide +kernel
theorem dX3_findLeads_8 : decode cX3_findLeads 8 = .ok (.istore 7, 2) := by decide +kernel
theorem dX3_findLeads_10 : decode cX3_findLeads 10 = .ok (.iload 7, 2) := by decide +kernel
theorem dX3_findLeads_12 : decode cX3_findLeads 12 = .ok (.bipush 15, 2) := by decide +kernel
theorem dX3_findLeads_14 : decode cX3_findLeads 14 = .ok (.if_icmp .ge 47, 3) := by decide +kernel
theorem dX3_findLeads_17 : decode cX3_findLeads 17 = .ok (.aload_n 0, 1) := by decide +kernel
theorem dX3_findLeads_18 : decode cX3_findLeads 18 = .ok (.getfield 24, 3) := by decide +kernel
theorem dX3_findLeads_21 : decode cX3_findLeads 21 = .ok (.iload_n 2, 1) := by decide +kernel
theorem dX3_findLeads_22 : decode cX3_findLeads 22 = .ok (.bipush 15, 2) := by decide +kernel
theorem dX3_findLeads_24 : decode cX3_findLeads 24 = .ok (.imul, 1) := by decide +kernel
theorem dX3_findLeads_25 : decode cX3_findLeads 25 = .ok (.iload 7, 2) := by decide +kernel
theorem dX3_findLeads_27 : decode cX3_findLeads 27 = .ok (.iadd, 1) := by decide +kernel
theorem dX3_findLeads_28 : decode cX3_findLeads 28 = .ok (.iload 6, 2) := by decide +kernel
theorem dX3_findLeads_30 : decode cX3_findLeads 30 = .ok (.iload 7, 2) := by decide +kernel
theorem dX3_findLeads_32 : decode cX3_findLeads 32 = .ok (.invokestatic 86, 3) := by decide +kernel
theorem dX3_findLeads_35 : decode cX3_findLeads 35 = .ok (.ifCond .eq 18, 3) := by decide +kernel
theorem dX3_findLeads_38 : decode cX3_findLeads 38 = .ok (.aload_n 1, 1) := by decide +kernel
theorem dX3_findLeads_39 : decode cX3_findLeads 39 = .ok (.iload 7, 2) := by decide +kernel
theorem dX3_findLeads_41 : decode cX3_findLeads 41 = .ok (.iload_n 3, 1) := by decide +kernel
theorem dX3_findLeads_42 : decode cX3_findLeads 42 = .ok (.iload 4, 2) := by decide +kernel
theorem dX3_findLeads_44 : decode cX3_findLeads 44 = .ok (.invokevirtual 108, 3) := by decide +kernel
theorem dX3_findLeads_47 : decode cX3_findLeads 47 = .ok (.iload 5, 2) := by decide +kernel
theorem dX3_findLeads_49 : decode cX3_findLeads 49 = .ok (.iand, 1) := by decide +kernel
theorem dX3_findLeads_50 : decode cX3_findLeads 50 = .ok (.goto 4, 3) := by decide +kernel
theorem dX3_findLeads_53 : decode cX3_findLeads 53 = .ok (.iconst 0, 1) := by decide +kernel
theorem dX3_findLeads_54 : decode cX3_findLeads 54 = .ok (.iastore, 1) := by decide +kernel
theorem dX3_findLeads_55 : decode cX3_findLeads 55 = .ok (.iinc 7 1, 3) := by decide +kernel
theorem dX3_findLeads_58 : decode cX3_findLeads 58 = .ok (.goto (-48), 3) := by decide +kernel
theorem dX3_findLeads_61 : decode cX3_findLeads 61 = .ok (.return_, 1) := by decide +kernel
theorem dX3_spread_0 : decode cX3_spread 0 = .ok (.iconst 0, 1) := by decide +kernel
theorem dX3_spread_1 : decode cX3_spread 1 = .ok (.istore 4, 2) := by decide +kernel
theorem dX3_spread_3 : decode cX3_spread 3 = .ok (.iload 4, 2) := by decide +kernel
theorem dX3_spread_5 : decode cX3_spread 5 = .ok (.iload_n 2, 1) := by decide +kernel
theorem dX3_spread_6 : decode cX3_spread 6 = .ok (.if_icmp .gt 108, 3) := by decide +kernel
theorem dX3_spread_9 : decode cX3_spread 9 = .ok (.aload_n 0, 1) := by decide +kernel
theorem dX3_spread_10 : decode cX3_spread 10 = .ok (.getfield 21, 3) := by decide +kernel
theorem dX3_spread_13 : decode cX3_spread 13 = .ok (.iload_n 1, 1) := by decide +kernel
theorem dX3_spread_14 : decode cX3_spread 14 = .ok (.iconst 3, 1) := by decide +kernel
theorem dX3_spread_15 : decode cX3_spread 15 = .ok (.imul, 1) := by decide +kernel
theorem dX3_spread_16 : decode cX3_spread 16 = .ok (.iload 4, 2) := by decide +kernel
theorem dX3_spread_18 : decode cX3_spread 18 = .ok (.iadd, 1) := by decide +kernel
theorem dX3_spread_19 : decode cX3_spread 19 = .ok (.iaload, 1) := by decide +kernel
theorem dX3_spread_20 : decode cX3_spread 20 = .ok (.istore 5, 2) := by decide +kernel
theorem dX3_spread_22 : decode cX3_spread 22 = .ok (.iconst 0, 1) := by decide +kernel
theorem dX3_spread_23 : decode cX3_spread 23 = .ok (.istore 6, 2) := by decide +kernel
theorem dX3_spread_25 : decode cX3_spread 25 = .ok (.iconst 0, 1) := by decide +kernel
theorem dX3_spread_26 : decode cX3_spread 26 = .ok (.istore 7, 2) := by decide +kernel
theorem dX3_spread_28 : decode cX3_spread 28 = .ok (.iload 7, 2) := by decide +kernel
theorem dX3_spread_30 : decode cX3_spread 30 = .ok (.bipush 15, 2) := by decide +kernel
theorem dX3_spread_32 : decode cX3_spread 32 = .ok (.if_icmp .ge 36, 3) := by decide +kernel
theorem dX3_spread_35 : decode cX3_spread 35 = .ok (.iload 5, 2) := by decide +kernel
theorem dX3_spread_37 : decode cX3_spread 37 = .ok (.iload 7, 2) := by decide +kernel
theorem dX3_spread_39 : decode cX3_spread 39 = .ok (.invokestatic 86, 3) := by decide +kernel
theorem dX3_spread_42 : decode cX3_spread 42 = .ok (.ifCond .eq 20, 3) := by decide +kernel
theorem dX3_spread_45 : decode cX3_spread 45 = .ok (.iload 6, 2) := by decide +kernel
theorem dX3_spread_47 : decode cX3_spread 47 = .ok (.aload_n 0, 1) := by decide +kernel
theorem dX3_spread_48 : decode cX3_spread 48 = .ok (.getfield 24, 3) := by decide +kernel
theorem dX3_spread_51 : decode cX3_spread 51 = .ok (.iload_n 1, 1) := by decide +kernel
theorem dX3_spread_52 : decode cX3_spread 52 = .ok (.bipush 15, 2) := by decide +kernel
theorem dX3_spread_54 : decode cX3_spread 54 = .ok (.imul, 1) := by decide +kernel
theorem dX3_spread_55 : decode cX3_spread 55 = .ok (.iload 7, 2) := by decide +kernel
theorem dX3_spread_57 : decode cX3_spread 57 = .ok (.iadd, 1) := by decide +kernel
theorem dX3_spread_58 : decode cX3_spread 58 = .ok (.iaload, 1) := by decide +kernel
theorem dX3_spread_59 : decode cX3_spread 59 = .ok (.ior, 1) := by decide +kernel
theorem dX3_spread_60 : decode cX3_spread 60 = .ok (.istore 6, 2) := by decide +kernel
theorem dX3_spread_62 : decode cX3_spread 62 = .ok (.iinc 7 1, 3) := by decide +kernel
theorem dX3_spread_65 : decode cX3_spread 65 = .ok (.goto (-37), 3) := by decide +kernel
theorem dX3_spread_68 : decode cX3_spread 68 = .ok (.iload 4, 2) := by decide +kernel
theorem dX3_spread_70 : decode cX3_spread 70 = .ok (.ifCond .le 23, 3) := by decide +kernel
theorem dX3_spread_73 : decode cX3_spread 73 = .ok (.iload 6, 2) := by decide +kernel
theorem dX3_spread_75 : decode cX3_spread 75 = .ok (.aload_n 0, 1) := by decide +kernel
theorem dX3_spread_76 : decode cX3_spread 76 = .ok (.getfield 21, 3) := by decide +kernel
theorem dX3_spread_79 : decode cX3_spread 79 = .ok (.iload_n 1, 1) := by decide +kernel
theorem dX3_spread_80 : decode cX3_spread 80 = .ok (.iconst 3, 1) := by decide +kernel
theorem dX3_spread_81 : decode cX3_spread 81 = .ok (.imul, 1) := by decide +kernel
theorem dX3_spread_82 : decode cX3_spread 82 = .ok (.iload 4, 2) := by decide +kernel
theorem dX3_spread_84 : decode cX3_spread 84 = .ok (.iadd, 1) := by decide +kernel
theorem dX3_spread_85 : decode cX3_spread 85 = .ok (.iconst 1, 1) := by decide +kernel
theorem dX3_spread_86 : decode cX3_spread 86 = .ok (.isub, 1) := by decide +kernel
theorem dX3_spread_87 : decode cX3_spread 87 = .ok (.iaload, 1) := by decide +kernel
theorem dX3_spread_88 : decode cX3_spread 88 = .ok (.iload_n 3, 1) := by decide +kernel
theorem dX3_spread_89 : decode cX3_spread 89 = .ok (.iand, 1) := by decide +kernel
theorem dX3_spread_90 : decode cX3_spread 90 = .ok (.ior, 1) := by decide +kernel
theorem dX3_spread_91 : decode cX3_spread 91 = .ok (.istore 6, 2) := by decide +kernel
theorem dX3_spread_93 : decode cX3_spread 93 = .ok (.aload_n 0, 1) := by decide +kernel
theorem dX3_spread_94 : decode cX3_spread 94 = .ok (.getfield 21, 3) := by decide +kernel
theorem dX3_spread_97 : decode cX3_spread 97 = .ok (.iload_n 1, 1) := by decide +kernel
theorem dX3_spread_98 : decode cX3_spread 98 = .ok (.iconst 1, 1) := by decide +kernel
theorem dX3_spread_99 : decode cX3_spread 99 = .ok (.iadd, 1) := by decide +kernel
theorem dX3_spread_100 : decode cX3_spread 100 = .ok (.iconst 3, 1) := by decide +kernel
theorem dX3_spread_101 : decode cX3_spread 101 = .ok (.imul, 1) := by decide +kernel
theorem dX3_spread_102 : decode cX3_spread 102 = .ok (.iload 4, 2) := by decide +kernel
theorem dX3_spread_104 : decode cX3_spread 104 = .ok (.iadd, 1) := by decide +kernel
theorem dX3_spread_105 : decode cX3_spread 105 = .ok (.iload 6, 2) := by decide +kernel
theorem dX3_spread_107 : decode cX3_spread 107 = .ok (.iastore, 1) := by decide +kernel
theorem dX3_spread_108 : decode cX3_spread 108 = .ok (.iinc 4 1, 3) := by decide +kernel
theorem dX3_spread_111 : decode cX3_spread 111 = .ok (.goto (-108), 3) := by decide +kernel
theorem dX3_spread_114 : decode cX3_spread 114 = .ok (.return_, 1) := by decide +kernel
theorem dX3_dropDeadEnds_0 : decode cX3_dropDeadEnds 0 = .ok (.aload_n 0, 1) := by decide +kernel
theorem dX3_dropDeadEnds_1 : decode cX3_dropDeadEnds 1 = .ok (.getfield 13, 3) := by decide +kernel
theorem dX3_dropDeadEnds_4 : decode cX3_dropDeadEnds 4 = .ok (.iconst 1, 1) := by decide +kernel
theorem dX3_dropDeadEnds_5 : decode cX3_dropDeadEnds 5 = .ok (.isub, 1) := by decide +kernel
theorem dX3_dropDeadEnds_6 : decode cX3_dropDeadEnds 6 = .ok (.istore_n 1, 1) := by decide +kernel
theorem dX3_dropDeadEnds_7 : decode cX3_dropDeadEnds 7 = .ok (.iload_n 1, 1) := by decide +kernel
theorem dX3_dropDeadEnds_8 : decode cX3_dropDeadEnds 8 = .ok (.ifCond .lt 97, 3) := by decide +kernel
theorem dX3_dropDeadEnds_11 : decode cX3_dropDeadEnds 11 = .ok (.iconst 0, 1) := by decide +kernel
theorem dX3_dropDeadEnds_12 : decode cX3_dropDeadEnds 12 = .ok (.istore_n 2, 1) := by decide +kernel
theorem dX3_dropDeadEnds_13 : decode cX3_dropDeadEnds 13 = .ok (.iload_n 2, 1) := by decide +kernel
theorem dX3_dropDeadEnds_14 : decode cX3_dropDeadEnds 14 = .ok (.iconst 3, 1) := by decide +kernel
theorem dX3_dropDeadEnds_15 : decode cX3_dropDeadEnds 15 = .ok (.if_icmp .ge 84, 3) := by decide +kernel
theorem dX3_dropDeadEnds_18 : decode cX3_dropDeadEnds 18 = .ok (.iconst 0, 1) := by decide +kernel
theorem dX3_dropDeadEnds_19 : decode cX3_dropDeadEnds 19 = .ok (.istore_n 3, 1) := by decide +kernel
theorem dX3_dropDeadEnds_20 : decode cX3_dropDeadEnds 20 = .ok (.iconst 0, 1) := by decide +kernel
theorem dX3_dropDeadEnds_21 : decode cX3_dropDeadEnds 21 = .ok (.istore 4, 2) := by decide +kernel
theorem dX3_dropDeadEnds_23 : decode cX3_dropDeadEnds 23 = .ok (.iload 4, 2) := by decide +kernel
theorem dX3_dropDeadEnds_25 : decode cX3_dropDeadEnds 25 = .ok (.bipush 15, 2) := by decide +kernel
theorem dX3_dropDeadEnds_27 : decode cX3_dropDeadEnds 27 = .ok (.if_icmp .ge 52, 3) := by decide +kernel
theorem dX3_dropDeadEnds_30 : decode cX3_dropDeadEnds 30 = .ok (.iload_n 1, 1) := by decide +kernel
theorem dX3_dropDeadEnds_31 : decode cX3_dropDeadEnds 31 = .ok (.aload_n 0, 1) := by decide +kernel
theorem dX3_dropDeadEnds_32 : decode cX3_dropDeadEnds 32 = .ok (.getfield 13, 3) := by decide +kernel
theorem dX3_dropDeadEnds_35 : decode cX3_dropDeadEnds 35 = .ok (.iconst 1, 1) := by decide +kernel
theorem dX3_dropDeadEnds_36 : decode cX3_dropDeadEnds 36 = .ok (.isub, 1) := by decide +kernel
theorem dX3_dropDeadEnds_37 : decode cX3_dropDeadEnds 37 = .ok (.if_icmp .ne 18, 3) := by decide +kernel
theorem dX3_dropDeadEnds_40 : decode cX3_dropDeadEnds 40 = .ok (.aload_n 0, 1) := by decide +kernel
theorem dX3_dropDeadEnds_41 : decode cX3_dropDeadEnds 41 = .ok (.getfield 27, 3) := by decide +kernel
theorem dX3_dropDeadEnds_44 : decode cX3_dropDeadEnds 44 = .ok (.iload 4, 2) := by decide +kernel
theorem dX3_dropDeadEnds_46 : decode cX3_dropDeadEnds 46 = .ok (.invokestatic 86, 3) := by decide +kernel
theorem dX3_dropDeadEnds_49 : decode cX3_dropDeadEnds 49 = .ok (.ifCond .eq 24, 3) := by decide +kernel
theorem dX3_dropDeadEnds_52 : decode cX3_dropDeadEnds 52 = .ok (.goto 14, 3) := by decide +kernel
theorem dX3_dropDeadEnds_55 : decode cX3_dropDeadEnds 55 = .ok (.aload_n 0, 1) := by decide +kernel
theorem dX3_dropDeadEnds_56 : decode cX3_dropDeadEnds 56 = .ok (.iload_n 1, 1) := by decide +kernel
theorem dX3_dropDeadEnds_57 : decode cX3_dropDeadEnds 57 = .ok (.iload_n 2, 1) := by decide +kernel
theorem dX3_dropDeadEnds_58 : decode cX3_dropDeadEnds 58 = .ok (.iload 4, 2) := by decide +kernel
theorem dX3_dropDeadEnds_60 : decode cX3_dropDeadEnds 60 = .ok (.invokevirtual 112, 3) := by decide +kernel
theorem dX3_dropDeadEnds_63 : decode cX3_dropDeadEnds 63 = .ok (.ifCond .eq 10, 3) := by decide +kernel
theorem dX3_dropDeadEnds_66 : decode cX3_dropDeadEnds 66 = .ok (.iload_n 3, 1) := by decide +kernel
theorem dX3_dropDeadEnds_67 : decode cX3_dropDeadEnds 67 = .ok (.iconst 1, 1) := by decide +kernel
theorem dX3_dropDeadEnds_68 : decode cX3_dropDeadEnds 68 = .ok (.iload 4, 2) := by decide +kernel
theorem dX3_dropDeadEnds_70 : decode cX3_dropDeadEnds 70 = .ok (.ishl, 1) := by decide +kernel
theorem dX3_dropDeadEnds_71 : decode cX3_dropDeadEnds 71 = .ok (.ior, 1) := by decide +kernel
theorem dX3_dropDeadEnds_72 : decode cX3_dropDeadEnds 72 = .ok (.istore_n 3, 1) := by decide +kernel
theorem dX3_dropDeadEnds_73 : decode cX3_dropDeadEnds 73 = .ok (.iinc 4 1, 3) := by decide +kernel
theorem dX3_dropDeadEnds_76 : decode cX3_dropDeadEnds 76 = .ok (.goto (-53), 3) := by decide +kernel
theorem dX3_dropDeadEnds_79 : decode cX3_dropDeadEnds 79 = .ok (.aload_n 0, 1) := by decide +kernel
theorem dX3_dropDeadEnds_80 : decode cX3_dropDeadEnds 80 = .ok (.getfield 21, 3) := by decide +kernel
theorem dX3_dropDeadEnds_83 : decode cX3_dropDeadEnds 83 = .ok (.iload_n 1, 1) := by decide +kernel
theorem dX3_dropDeadEnds_84 : decode cX3_dropDeadEnds 84 = .ok (.iconst 3, 1) := by decide +kernel
theorem dX3_dropDeadEnds_85 : decode cX3_dropDeadEnds 85 = .ok (.imul, 1) := by decide +kernel
theorem dX3_dropDeadEnds_86 : decode cX3_dropDeadEnds 86 = .ok (.iload_n 2, 1) := by decide +kernel
theorem dX3_dropDeadEnds_87 : decode cX3_dropDeadEnds 87 = .ok (.iadd, 1) := by decide +kernel
theorem dX3_dropDeadEnds_88 : decode cX3_dropDeadEnds 88 = .ok (.dup2, 1) := by decide +kernel
theorem dX3_dropDeadEnds_89 : decode cX3_dropDeadEnds 89 = .ok (.iaload, 1) := by decide +kernel
theorem dX3_dropDeadEnds_90 : decode cX3_dropDeadEnds 90 = .ok (.iload_n 3, 1) := by decide +kernel
theorem dX3_dropDeadEnds_91 : decode cX3_dropDeadEnds 91 = .ok (.iand, 1) := by decide +kernel
theorem dX3_dropDeadEnds_92 : decode cX3_dropDeadEnds 92 = .ok (.iastore, 1) := by decide +kernel
theorem dX3_dropDeadEnds_93 : decode cX3_dropDeadEnds 93 = .ok (.iinc 2 1, 3) := by decide +kernel
theorem dX3_dropDeadEnds_96 : decode cX3_dropDeadEnds 96 = .ok (.goto (-83), 3) := by decide +kernel
theorem dX3_dropDeadEnds_99 : decode cX3_dropDeadEnds 99 = .ok (.iinc 1 (-1), 3) := by decide +kernel
theorem dX3_dropDeadEnds_102 : decode cX3_dropDeadEnds 102 = .ok (.goto (-95), 3) := by decide +kernel
theorem dX3_dropDeadEnds_105 : decode cX3_dropDeadEnds 105 = .ok (.return_, 1) := by decide +kernel
theorem dX3_goesOn_0 : decode cX3_goesOn 0 = .ok (.aload_n 0, 1) := by decide +kernel
theorem dX3_goesOn_1 : decode cX3_goesOn 1 = .ok (.iload_n 1, 1) := by decide +kernel
theorem dX3_goesOn_2 : decode cX3_goesOn 2 = .ok (.iload_n 2, 1) := by decide +kernel
theorem dX3_goesOn_3 : decode cX3_goesOn 3 = .ok (.iload_n 3, 1) := by decide +kernel
theorem dX3_goesOn_4 : decode cX3_goesOn 4 = .ok (.invokevirtual 115, 3) := by decide +kernel
theorem dX3_goesOn_7 : decode cX3_goesOn 7 = .ok (.ifCond .ne 13, 3) := by decide +kernel
theorem dX3_goesOn_10 : decode cX3_goesOn 10 = .ok (.aload_n 0, 1) := by decide +kernel
theorem dX3_goesOn_11 : decode cX3_goesOn 11 = .ok (.iload_n 1, 1) := by decide +kernel
theorem dX3_goesOn_12 : decode cX3_goesOn 12 = .ok (.iload_n 2, 1) := by decide +kernel
theorem dX3_goesOn_13 : decode cX3_goesOn 13 = .ok (.iload_n 3, 1) := by decide +kernel
theorem dX3_goesOn_14 : decode cX3_goesOn 14 = .ok (.invokevirtual 118, 3) := by decide +kernel
theorem dX3_goesOn_17 : decode cX3_goesOn 17 = .ok (.ifCond .eq 7, 3) := by decide +kernel
theorem dX3_goesOn_20 : decode cX3_goesOn 20 = .ok (.iconst 1, 1) := by decide +kernel
theorem dX3_goesOn_21 : decode cX3_goesOn 21 = .ok (.goto 4, 3) := by decide +kernel
theorem dX3_goesOn_24 : decode cX3_goesOn 24 = .ok (.iconst 0, 1) := by decide +kernel
theorem dX3_goesOn_25 : decode cX3_goesOn 25 = .ok (.ireturn, 1) := by decide +kernel
theorem dX3_goers_0 : decode cX3_goers 0 = .ok (.aload_n 0, 1) := by decide +kernel
theorem dX3_goers_1 : decode cX3_goers 1 = .ok (.getfield 24, 3) := by decide +kernel
theorem dX3_goers_4 : decode cX3_goers 4 = .ok (.iload_n 1, 1) := by decide +kernel
theorem dX3_goers_5 : decode cX3_goers 5 = .ok (.bipush 15, 2) := by decide +kernel
theorem dX3_goers_7 : decode cX3_goers 7 = .ok (.imul, 1) := by decide +kernel
theorem dX3_goers_8 : decode cX3_goers 8 = .ok (.iload_n 3, 1) := by decide +kernel
theorem dX3_goers_9 : decode cX3_goers 9 = .ok (.iadd, 1) := by decide +kernel
theorem dX3_goers_10 : decode cX3_goers 10 = .ok (.iaload, 1) := by decide +kernel
theorem dX3_goers_11 : decode cX3_goers 11 = .ok (.aload_n 0, 1) := by decide +kernel
theorem dX3_goers_12 : decode cX3_goers 12 = .ok (.getfield 21, 3) := by decide +kernel
theorem dX3_goers_15 : decode cX3_goers 15 = .ok (.iload_n 1, 1) := by decide +kernel
theorem dX3_goers_16 : decode cX3_goers 16 = .ok (.iconst 1, 1) := by decide +kernel
theorem dX3_goers_17 : decode cX3_goers 17 = .ok (.iadd, 1) := by decide +kernel
theorem dX3_goers_18 : decode cX3_goers 18 = .ok (.iconst 3, 1) := by decide +kernel
theorem dX3_goers_19 : decode cX3_goers 19 = .ok (.imul, 1) := by decide +kernel
theorem dX3_goers_20 : decode cX3_goers 20 = .ok (.iload_n 2, 1) := by decide +kernel
theorem dX3_goers_21 : decode cX3_goers 21 = .ok (.iadd, 1) := by decide +kernel
theorem dX3_goers_22 : decode cX3_goers 22 = .ok (.iaload, 1) := by decide +kernel
theorem dX3_goers_23 : decode cX3_goers 23 = .ok (.iand, 1) := by decide +kernel
theorem dX3_goers_24 : decode cX3_goers 24 = .ok (.ireturn, 1) := by decide +kernel
theorem dX3_mayStay_0 : decode cX3_mayStay 0 = .ok (.iload_n 2, 1) := by decide +kernel
theorem dX3_mayStay_1 : decode cX3_mayStay 1 = .ok (.iconst 2, 1) := by decide +kernel
theorem dX3_mayStay_2 : decode cX3_mayStay 2 = .ok (.if_icmp .ge 28, 3) := by decide +kernel
theorem dX3_mayStay_5 : decode cX3_mayStay 5 = .ok (.aload_n 0, 1) := by decide +kernel
theorem dX3_mayStay_6 : decode cX3_mayStay 6 = .ok (.getfield 21, 3) := by decide +kernel
theorem dX3_mayStay_9 : decode cX3_mayStay 9 = .ok (.iload_n 1, 1) := by decide +kernel
theorem dX3_mayStay_10 : decode cX3_mayStay 10 = .ok (.iconst 1, 1) := by decide +kernel
theorem dX3_mayStay_11 : decode cX3_mayStay 11 = .ok (.iadd, 1) := by decide +kernel
theorem dX3_mayStay_12 : decode cX3_mayStay 12 = .ok (.iconst 3, 1) := by decide +kernel
theorem dX3_mayStay_13 : decode cX3_mayStay 13 = .ok (.imul, 1) := by decide +kernel
theorem dX3_mayStay_14 : decode cX3_mayStay 14 = .ok (.iload_n 2, 1) := by decide +kernel
theorem dX3_mayStay_15 : decode cX3_mayStay 15 = .ok (.iadd, 1) := by decide +kernel
theorem dX3_mayStay_16 : decode cX3_mayStay 16 = .ok (.iconst 1, 1) := by decide +kernel
theorem dX3_mayStay_17 : decode cX3_mayStay 17 = .ok (.iadd, 1) := by decide +kernel
theorem dX3_mayStay_18 : decode cX3_mayStay 18 = .ok (.iaload, 1) := by decide +kernel
theorem dX3_mayStay_19 : decode cX3_mayStay 19 = .ok (.iload_n 3, 1) := by decide +kernel
theorem dX3_mayStay_20 : decode cX3_mayStay 20 = .ok (.invokestatic 86, 3) := by decide +kernel
theorem dX3_mayStay_23 : decode cX3_mayStay 23 = .ok (.ifCond .eq 7, 3) := by decide +kernel
theorem dX3_mayStay_26 : decode cX3_mayStay 26 = .ok (.iconst 1, 1) := by decide +kernel
theorem dX3_mayStay_27 : decode cX3_mayStay 27 = .ok (.goto 4, 3) := by decide +kernel
theorem dX3_mayStay_30 : decode cX3_mayStay 30 = .ok (.iconst 0, 1) := by decide +kernel
theorem dX3_mayStay_31 : decode cX3_mayStay 31 = .ok (.ireturn, 1) := by decide +kernel
theorem dX3_chooseCamps_0 : decode cX3_chooseCamps 0 = .ok (.bipush 14, 2) := by decide +kernel
theorem dX3_chooseCamps_2 : decode cX3_chooseCamps 2 = .ok (.istore_n 1, 1) := by decide +kernel
theorem dX3_chooseCamps_3 : decode cX3_chooseCamps 3 = .ok (.iconst 0, 1) := by decide +kernel
theorem dX3_chooseCamps_4 : decode cX3_chooseCamps 4 = .ok (.istore_n 2, 1) := by decide +kernel
theorem dX3_chooseCamps_5 : decode cX3_chooseCamps 5 = .ok (.iconst 0, 1) := by decide +kernel
theorem dX3_chooseCamps_6 : decode cX3_chooseCamps 6 = .ok (.istore_n 3, 1) := by decide +kernel
theorem dX3_chooseCamps_7 : decode cX3_chooseCamps 7 = .ok (.iload_n 3, 1) := by decide +kernel
theorem dX3_chooseCamps_8 : decode cX3_chooseCamps 8 = .ok (.aload_n 0, 1) := by decide +kernel
theorem dX3_chooseCamps_9 : decode cX3_chooseCamps 9 = .ok (.getfield 13, 3) := by decide +kernel
theorem dX3_chooseCamps_12 : decode cX3_chooseCamps 12 = .ok (.iconst 1, 1) := by decide +kernel
theorem dX3_chooseCamps_13 : decode cX3_chooseCamps 13 = .ok (.isub, 1) := by decide +kernel
theorem dX3_chooseCamps_14 : decode cX3_chooseCamps 14 = .ok (.if_icmp .ge 53, 3) := by decide +kernel
theorem dX3_chooseCamps_17 : decode cX3_chooseCamps 17 = .ok (.aload_n 0, 1) := by decide +kernel
theorem dX3_chooseCamps_18 : decode cX3_chooseCamps 18 = .ok (.iload_n 3, 1) := by decide +kernel
theorem dX3_chooseCamps_19 : decode cX3_chooseCamps 19 = .ok (.iload_n 2, 1) := by decide +kernel
theorem dX3_chooseCamps_20 : decode cX3_chooseCamps 20 = .ok (.iload_n 1, 1) := by decide +kernel
theorem dX3_chooseCamps_21 : decode cX3_chooseCamps 21 = .ok (.invokevirtual 115, 3) := by decide +kernel
theorem dX3_chooseCamps_24 : decode cX3_chooseCamps 24 = .ok (.invokestatic 121, 3) := by decide +kernel
theorem dX3_chooseCamps_27 : decode cX3_chooseCamps 27 = .ok (.istore 4, 2) := by decide +kernel
theorem dX3_chooseCamps_29 : decode cX3_chooseCamps 29 = .ok (.aload_n 0, 1) := by decide +kernel
theorem dX3_chooseCamps_30 : decode cX3_chooseCamps 30 = .ok (.iload_n 3, 1) := by decide +kernel
theorem dX3_chooseCamps_31 : decode cX3_chooseCamps 31 = .ok (.iload_n 2, 1) := by decide +kernel
theorem dX3_chooseCamps_32 : decode cX3_chooseCamps 32 = .ok (.iload_n 1, 1) := by decide +kernel
theorem dX3_chooseCamps_33 : decode cX3_chooseCamps 33 = .ok (.invokevirtual 118, 3) := by decide +kernel
theorem dX3_chooseCamps_36 : decode cX3_chooseCamps 36 = .ok (.ifCond .eq 15, 3) := by decide +kernel
theorem dX3_chooseCamps_39 : decode cX3_chooseCamps 39 = .ok (.iload_n 1, 1) := by decide +kernel
theorem dX3_chooseCamps_40 : decode cX3_chooseCamps 40 = .ok (.iload 4, 2) := by decide +kernel
theorem dX3_chooseCamps_42 : decode cX3_chooseCamps 42 = .ok (.if_icmp .ge 9, 3) := by decide +kernel
theorem dX3_chooseCamps_45 : decode cX3_chooseCamps 45 = .ok (.iinc 2 1, 3) := by decide +kernel
theorem dX3_chooseCamps_48 : decode cX3_chooseCamps 48 = .ok (.goto 6, 3) := by decide +kernel
theorem dX3_chooseCamps_51 : decode cX3_chooseCamps 51 = .ok (.iload 4, 2) := by decide +kernel
theorem dX3_chooseCamps_53 : decode cX3_chooseCamps 53 = .ok (.istore_n 1, 1) := by decide +kernel
theorem dX3_chooseCamps_54 : decode cX3_chooseCamps 54 = .ok (.aload_n 0, 1) := by decide +kernel
theorem dX3_chooseCamps_55 : decode cX3_chooseCamps 55 = .ok (.getfield 17, 3) := by decide +kernel
theorem dX3_chooseCamps_58 : decode cX3_chooseCamps 58 = .ok (.iload_n 3, 1) := by decide +kernel
theorem dX3_chooseCamps_59 : decode cX3_chooseCamps 59 = .ok (.iload_n 1, 1) := by decide +kernel
theorem dX3_chooseCamps_60 : decode cX3_chooseCamps 60 = .ok (.iastore, 1) := by decide +kernel
theorem dX3_chooseCamps_61 : decode cX3_chooseCamps 61 = .ok (.iinc 3 1, 3) := by decide +kernel
theorem dX3_chooseCamps_64 : decode cX3_chooseCamps 64 = .ok (.goto (-57), 3) := by decide +kernel
theorem dX3_chooseCamps_67 : decode cX3_chooseCamps 67 = .ok (.return_, 1) := by decide +kernel
theorem dX3_lowest_0 : decode cX3_lowest 0 = .ok (.iconst 0, 1) := by decide +kernel
theorem dX3_lowest_1 : decode cX3_lowest 1 = .ok (.istore_n 1, 1) := by decide +kernel
theorem dX3_lowest_2 : decode cX3_lowest 2 = .ok (.iload_n 1, 1) := by decide +kernel
theorem dX3_lowest_3 : decode cX3_lowest 3 = .ok (.bipush 14, 2) := by decide +kernel
theorem dX3_lowest_5 : decode cX3_lowest 5 = .ok (.if_icmp .ge 19, 3) := by decide +kernel
theorem dX3_lowest_8 : decode cX3_lowest 8 = .ok (.iload_n 0, 1) := by decide +kernel
theorem dX3_lowest_9 : decode cX3_lowest 9 = .ok (.iload_n 1, 1) := by decide +kernel
theorem dX3_lowest_10 : decode cX3_lowest 10 = .ok (.invokestatic 86, 3) := by decide +kernel
theorem dX3_lowest_13 : decode cX3_lowest 13 = .ok (.ifCond .eq 5, 3) := by decide +kernel
theorem dX3_lowest_16 : decode cX3_lowest 16 = .ok (.iload_n 1, 1) := by decide +kernel
theorem dX3_lowest_17 : decode cX3_lowest 17 = .ok (.ireturn, 1) := by decide +kernel
theorem dX3_lowest_18 : decode cX3_lowest 18 = .ok (.iinc 1 1, 3) := by decide +kernel
theorem dX3_lowest_21 : decode cX3_lowest 21 = .ok (.goto (-19), 3) := by decide +kernel
theorem dX3_lowest_24 : decode cX3_lowest 24 = .ok (.bipush 14, 2) := by decide +kernel
end
section
theorem dX3_lowest_26 : decode cX3_lowest 26 = .ok (.ireturn, 1) := by decide +kernel
theorem dX4_init_0 : decode cX4_init 0 = .ok (.aload_n 0, 1) := by decide +kernel
theorem dX4_init_1 : decode cX4_init 1 = .ok (.invokespecial 5, 3) := by decide +kernel
theorem dX4_init_4 : decode cX4_init 4 = .ok (.aload_n 0, 1) := by decide +kernel
theorem dX4_init_5 : decode cX4_init 5 = .ok (.iconst 2, 1) := by decide +kernel
theorem dX4_init_6 : decode cX4_init 6 = .ok (.newarray .int, 2) := by decide +kernel
theorem dX4_init_8 : decode cX4_init 8 = .ok (.dup, 1) := by decide +kernel
theorem dX4_init_9 : decode cX4_init 9 = .ok (.iconst 0, 1) := by decide +kernel
theorem dX4_init_10 : decode cX4_init 10 = .ok (.sipush 200, 3) := by decide +kernel
theorem dX4_init_13 : decode cX4_init 13 = .ok (.iastore, 1) := by decide +kernel
theorem dX4_init_14 : decode cX4_init 14 = .ok (.dup, 1) := by decide +kernel
theorem dX4_init_15 : decode cX4_init 15 = .ok (.iconst 1, 1) := by decide +kernel
theorem dX4_init_16 : decode cX4_init 16 = .ok (.iconst 4, 1) := by decide +kernel
theorem dX4_init_17 : decode cX4_init 17 = .ok (.iastore, 1) := by decide +kernel
theorem dX4_init_18 : decode cX4_init 18 = .ok (.putfield 11, 3) := by decide +kernel
theorem dX4_init_21 : decode cX4_init 21 = .ok (.aload_n 0, 1) := by decide +kernel
theorem dX4_init_22 : decode cX4_init 22 = .ok (.iconst 3, 1) := by decide +kernel
theorem dX4_init_23 : decode cX4_init 23 = .ok (.newarray .int, 2) := by decide +kernel
theorem dX4_init_25 : decode cX4_init 25 = .ok (.putfield 15, 3) := by decide +kernel
theorem dX4_init_28 : decode cX4_init 28 = .ok (.aload_n 0, 1) := by decide +kernel
theorem dX4_init_29 : decode cX4_init 29 = .ok (.bipush 120, 2) := by decide +kernel
theorem dX4_init_31 : decode cX4_init 31 = .ok (.newarray .int, 2) := by decide +kernel
theorem dX4_init_33 : decode cX4_init 33 = .ok (.putfield 18, 3) := by decide +kernel
theorem dX4_init_36 : decode cX4_init 36 = .ok (.aload_n 0, 1) := by decide +kernel
theorem dX4_init_37 : decode cX4_init 37 = .ok (.bipush 14, 2) := by decide +kernel
theorem dX4_init_39 : decode cX4_init 39 = .ok (.newarray .int, 2) := by decide +kernel
theorem dX4_init_41 : decode cX4_init 41 = .ok (.putfield 21, 3) := by decide +kernel
theorem dX4_init_44 : decode cX4_init 44 = .ok (.aload_n 0, 1) := by decide +kernel
theorem dX4_init_45 : decode cX4_init 45 = .ok (.bipush 14, 2) := by decide +kernel
theorem dX4_init_47 : decode cX4_init 47 = .ok (.newarray .boolean, 2) := by decide +kernel
theorem dX4_init_49 : decode cX4_init 49 = .ok (.putfield 24, 3) := by decide +kernel
theorem dX4_init_52 : decode cX4_init 52 = .ok (.aload_n 0, 1) := by decide +kernel
theorem dX4_init_53 : decode cX4_init 53 = .ok (.bipush 10, 2) := by decide +kernel
theorem dX4_init_55 : decode cX4_init 55 = .ok (.newarray .int, 2) := by decide +kernel
theorem dX4_init_57 : decode cX4_init 57 = .ok (.putfield 28, 3) := by decide +kernel
theorem dX4_init_60 : decode cX4_init 60 = .ok (.aload_n 0, 1) := by decide +kernel
theorem dX4_init_61 : decode cX4_init 61 = .ok (.bipush 10, 2) := by decide +kernel
theorem dX4_init_63 : decode cX4_init 63 = .ok (.newarray .int, 2) := by decide +kernel
theorem dX4_init_65 : decode cX4_init 65 = .ok (.putfield 31, 3) := by decide +kernel
theorem dX4_init_68 : decode cX4_init 68 = .ok (.aload_n 0, 1) := by decide +kernel
theorem dX4_init_69 : decode cX4_init 69 = .ok (.bipush 10, 2) := by decide +kernel
theorem dX4_init_71 : decode cX4_init 71 = .ok (.newarray .int, 2) := by decide +kernel
theorem dX4_init_73 : decode cX4_init 73 = .ok (.putfield 34, 3) := by decide +kernel
theorem dX4_init_76 : decode cX4_init 76 = .ok (.aload_n 0, 1) := by decide +kernel
theorem dX4_init_77 : decode cX4_init 77 = .ok (.bipush 8, 2) := by decide +kernel
theorem dX4_init_79 : decode cX4_init 79 = .ok (.newarray .int, 2) := by decide +kernel
theorem dX4_init_81 : decode cX4_init 81 = .ok (.putfield 37, 3) := by decide +kernel
theorem dX4_init_84 : decode cX4_init 84 = .ok (.aload_n 0, 1) := by decide +kernel
theorem dX4_init_85 : decode cX4_init 85 = .ok (.getfield 18, 3) := by decide +kernel
theorem dX4_init_88 : decode cX4_init 88 = .ok (.bipush 100, 2) := by decide +kernel
theorem dX4_init_90 : decode cX4_init 90 = .ok (.invokestatic 40, 3) := by decide +kernel
theorem dX4_init_93 : decode cX4_init 93 = .ok (.return_, 1) := by decide +kernel
theorem dX4_arriving_0 : decode cX4_arriving 0 = .ok (.iload_n 1, 1) := by decide +kernel
theorem dX4_arriving_1 : decode cX4_arriving 1 = .ok (.iconst 1, 1) := by decide +kernel
theorem dX4_arriving_2 : decode cX4_arriving 2 = .ok (.aload_n 0, 1) := by decide +kernel
theorem dX4_arriving_3 : decode cX4_arriving 3 = .ok (.getfield 11, 3) := by decide +kernel
theorem dX4_arriving_6 : decode cX4_arriving 6 = .ok (.iconst 1, 1) := by decide +kernel
theorem dX4_arriving_7 : decode cX4_arriving 7 = .ok (.iaload, 1) := by decide +kernel
theorem dX4_arriving_8 : decode cX4_arriving 8 = .ok (.invokestatic 46, 3) := by decide +kernel
theorem dX4_arriving_11 : decode cX4_arriving 11 = .ok (.idiv, 1) := by decide +kernel
theorem dX4_arriving_12 : decode cX4_arriving 12 = .ok (.istore 4, 2) := by decide +kernel
theorem dX4_arriving_14 : decode cX4_arriving 14 = .ok (.iconst 0, 1) := by decide +kernel
theorem dX4_arriving_15 : decode cX4_arriving 15 = .ok (.iload_n 2, 1) := by decide +kernel
theorem dX4_arriving_16 : decode cX4_arriving 16 = .ok (.bipush 24, 2) := by decide +kernel
theorem dX4_arriving_18 : decode cX4_arriving 18 = .ok (.imul, 1) := by decide +kernel
theorem dX4_arriving_19 : decode cX4_arriving 19 = .ok (.iload_n 3, 1) := by decide +kernel
theorem dX4_arriving_20 : decode cX4_arriving 20 = .ok (.iadd, 1) := by decide +kernel
theorem dX4_arriving_21 : decode cX4_arriving 21 = .ok (.iload 4, 2) := by decide +kernel
theorem dX4_arriving_23 : decode cX4_arriving 23 = .ok (.isub, 1) := by decide +kernel
theorem dX4_arriving_24 : decode cX4_arriving 24 = .ok (.invokestatic 46, 3) := by decide +kernel
theorem dX4_arriving_27 : decode cX4_arriving 27 = .ok (.istore 5, 2) := by decide +kernel
theorem dX4_arriving_29 : decode cX4_arriving 29 = .ok (.aload_n 0, 1) := by decide +kernel
theorem dX4_arriving_30 : decode cX4_arriving 30 = .ok (.getfield 18, 3) := by decide +kernel
theorem dX4_arriving_33 : decode cX4_arriving 33 = .ok (.iload 5, 2) := by decide +kernel
theorem dX4_arriving_35 : decode cX4_arriving 35 = .ok (.bipush 6, 2) := by decide +kernel
theorem dX4_arriving_37 : decode cX4_arriving 37 = .ok (.idiv, 1) := by decide +kernel
theorem dX4_arriving_38 : decode cX4_arriving 38 = .ok (.iaload, 1) := by decide +kernel
theorem dX4_arriving_39 : decode cX4_arriving 39 = .ok (.ireturn, 1) := by decide +kernel
theorem dX4_firstHour_0 : decode cX4_firstHour 0 = .ok (.aload_n 0, 1) := by decide +kernel
theorem dX4_firstHour_1 : decode cX4_firstHour 1 = .ok (.getfield 31, 3) := by decide +kernel
theorem dX4_firstHour_4 : decode cX4_firstHour 4 = .ok (.iload_n 1, 1) := by decide +kernel
theorem dX4_firstHour_5 : decode cX4_firstHour 5 = .ok (.iaload, 1) := by decide +kernel
theorem dX4_firstHour_6 : decode cX4_firstHour 6 = .ok (.iload_n 3, 1) := by decide +kernel
theorem dX4_firstHour_7 : decode cX4_firstHour 7 = .ok (.iconst 3, 1) := by decide +kernel
theorem dX4_firstHour_8 : decode cX4_firstHour 8 = .ok (.if_icmp .ne 8, 3) := by decide +kernel
theorem dX4_firstHour_11 : decode cX4_firstHour 11 = .ok (.bipush 50, 2) := by decide +kernel
theorem dX4_firstHour_13 : decode cX4_firstHour 13 = .ok (.goto 4, 3) := by decide +kernel
theorem dX4_firstHour_16 : decode cX4_firstHour 16 = .ok (.iconst 0, 1) := by decide +kernel
theorem dX4_firstHour_17 : decode cX4_firstHour 17 = .ok (.isub, 1) := by decide +kernel
theorem dX4_firstHour_18 : decode cX4_firstHour 18 = .ok (.istore 4, 2) := by decide +kernel
theorem dX4_firstHour_20 : decode cX4_firstHour 20 = .ok (.bipush 8, 2) := by decide +kernel
theorem dX4_firstHour_22 : decode cX4_firstHour 22 = .ok (.istore 5, 2) := by decide +kernel
theorem dX4_firstHour_24 : decode cX4_firstHour 24 = .ok (.iload 5, 2) := by decide +kernel
theorem dX4_firstHour_26 : decode cX4_firstHour 26 = .ok (.bipush 17, 2) := by decide +kernel
theorem dX4_firstHour_28 : decode cX4_firstHour 28 = .ok (.if_icmp .gt 39, 3) := by decide +kernel
theorem dX4_firstHour_31 : decode cX4_firstHour 31 = .ok (.aload_n 0, 1) := by decide +kernel
theorem dX4_firstHour_32 : decode cX4_firstHour 32 = .ok (.aload_n 0, 1) := by decide +kernel
theorem dX4_firstHour_33 : decode cX4_firstHour 33 = .ok (.getfield 28, 3) := by decide +kernel
theorem dX4_firstHour_36 : decode cX4_firstHour 36 = .ok (.iload_n 1, 1) := by decide +kernel
theorem dX4_firstHour_37 : decode cX4_firstHour 37 = .ok (.iaload, 1) := by decide +kernel
theorem dX4_firstHour_38 : decode cX4_firstHour 38 = .ok (.iload_n 2, 1) := by decide +kernel
theorem dX4_firstHour_39 : decode cX4_firstHour 39 = .ok (.iload 5, 2) := by decide +kernel
theorem dX4_firstHour_41 : decode cX4_firstHour 41 = .ok (.invokevirtual 52, 3) := by decide +kernel
theorem dX4_firstHour_44 : decode cX4_firstHour 44 = .ok (.iload 4, 2) := by decide +kernel
theorem dX4_firstHour_46 : decode cX4_firstHour 46 = .ok (.aload_n 0, 1) := by decide +kernel
theorem dX4_firstHour_47 : decode cX4_firstHour 47 = .ok (.getfield 34, 3) := by decide +kernel
theorem dX4_firstHour_50 : decode cX4_firstHour 50 = .ok (.iload_n 1, 1) := by decide +kernel
theorem dX4_firstHour_51 : decode cX4_firstHour 51 = .ok (.iaload, 1) := by decide +kernel
theorem dX4_firstHour_52 : decode cX4_firstHour 52 = .ok (.invokestatic 56, 3) := by decide +kernel
theorem dX4_firstHour_55 : decode cX4_firstHour 55 = .ok (.ifCond .eq 6, 3) := by decide +kernel
theorem dX4_firstHour_58 : decode cX4_firstHour 58 = .ok (.iload 5, 2) := by decide +kernel
theorem dX4_firstHour_60 : decode cX4_firstHour 60 = .ok (.ireturn, 1) := by decide +kernel
theorem dX4_firstHour_61 : decode cX4_firstHour 61 = .ok (.iinc 5 1, 3) := by decide +kernel
theorem dX4_firstHour_64 : decode cX4_firstHour 64 = .ok (.goto (-40), 3) := by decide +kernel
theorem dX4_firstHour_67 : decode cX4_firstHour 67 = .ok (.iconst (-1), 1) := by decide +kernel
theorem dX4_firstHour_68 : decode cX4_firstHour 68 = .ok (.ireturn, 1) := by decide +kernel
theorem dX4_closedRapids_0 : decode cX4_closedRapids 0 = .ok (.iconst 0, 1) := by decide +kernel
theorem dX4_closedRapids_1 : decode cX4_closedRapids 1 = .ok (.istore_n 3, 1) := by decide +kernel
theorem dX4_closedRapids_2 : decode cX4_closedRapids 2 = .ok (.iconst 0, 1) := by decide +kernel
theorem dX4_closedRapids_3 : decode cX4_closedRapids 3 = .ok (.istore 4, 2) := by decide +kernel
theorem dX4_closedRapids_5 : decode cX4_closedRapids 5 = .ok (.iload 4, 2) := by decide +kernel
theorem dX4_closedRapids_7 : decode cX4_closedRapids 7 = .ok (.aload_n 0, 1) := by decide +kernel
theorem dX4_closedRapids_8 : decode cX4_closedRapids 8 = .ok (.getfield 15, 3) := by decide +kernel
theorem dX4_closedRapids_11 : decode cX4_closedRapids 11 = .ok (.iconst 1, 1) := by decide +kernel
theorem dX4_closedRapids_12 : decode cX4_closedRapids 12 = .ok (.iaload, 1) := by decide +kernel
theorem dX4_closedRapids_13 : decode cX4_closedRapids 13 = .ok (.if_icmp .ge 27, 3) := by decide +kernel
theorem dX4_closedRapids_16 : decode cX4_closedRapids 16 = .ok (.aload_n 0, 1) := by decide +kernel
theorem dX4_closedRapids_17 : decode cX4_closedRapids 17 = .ok (.iload 4, 2) := by decide +kernel
theorem dX4_closedRapids_19 : decode cX4_closedRapids 19 = .ok (.iload_n 1, 1) := by decide +kernel
theorem dX4_closedRapids_20 : decode cX4_closedRapids 20 = .ok (.iload_n 2, 1) := by decide +kernel
theorem dX4_closedRapids_21 : decode cX4_closedRapids 21 = .ok (.invokevirtual 60, 3) := by decide +kernel
theorem dX4_closedRapids_24 : decode cX4_closedRapids 24 = .ok (.ifCond .ge 10, 3) := by decide +kernel
theorem dX4_closedRapids_27 : decode cX4_closedRapids 27 = .ok (.iload_n 3, 1) := by decide +kernel
theorem dX4_closedRapids_28 : decode cX4_closedRapids 28 = .ok (.iconst 1, 1) := by decide +kernel
theorem dX4_closedRapids_29 : decode cX4_closedRapids 29 = .ok (.iload 4, 2) := by decide +kernel
theorem dX4_closedRapids_31 : decode cX4_closedRapids 31 = .ok (.ishl, 1) := by decide +kernel
theorem dX4_closedRapids_32 : decode cX4_closedRapids 32 = .ok (.ior, 1) := by decide +kernel
theorem dX4_closedRapids_33 : decode cX4_closedRapids 33 = .ok (.istore_n 3, 1) := by decide +kernel
theorem dX4_closedRapids_34 : decode cX4_closedRapids 34 = .ok (.iinc 4 1, 3) := by decide +kernel
theorem dX4_closedRapids_37 : decode cX4_closedRapids 37 = .ok (.goto (-32), 3) := by decide +kernel
theorem dX4_closedRapids_40 : decode cX4_closedRapids 40 = .ok (.iload_n 3, 1) := by decide +kernel
theorem dX4_closedRapids_41 : decode cX4_closedRapids 41 = .ok (.ireturn, 1) := by decide +kernel
theorem dX4_nextClosed_0 : decode cX4_nextClosed 0 = .ok (.sipush 251, 3) := by decide +kernel
theorem dX4_nextClosed_3 : decode cX4_nextClosed 3 = .ok (.istore_n 3, 1) := by decide +kernel
theorem dX4_nextClosed_4 : decode cX4_nextClosed 4 = .ok (.iconst 0, 1) := by decide +kernel
theorem dX4_nextClosed_5 : decode cX4_nextClosed 5 = .ok (.istore 4, 2) := by decide +kernel
theorem dX4_nextClosed_7 : decode cX4_nextClosed 7 = .ok (.iload 4, 2) := by decide +kernel
theorem dX4_nextClosed_9 : decode cX4_nextClosed 9 = .ok (.aload_n 0, 1) := by decide +kernel
theorem dX4_nextClosed_10 : decode cX4_nextClosed 10 = .ok (.getfield 15, 3) := by decide +kernel
theorem dX4_nextClosed_13 : decode cX4_nextClosed 13 = .ok (.iconst 1, 1) := by decide +kernel
theorem dX4_nextClosed_14 : decode cX4_nextClosed 14 = .ok (.iaload, 1) := by decide +kernel
theorem dX4_nextClosed_15 : decode cX4_nextClosed 15 = .ok (.if_icmp .ge 41, 3) := by decide +kernel
theorem dX4_nextClosed_18 : decode cX4_nextClosed 18 = .ok (.iload_n 2, 1) := by decide +kernel
theorem dX4_nextClosed_19 : decode cX4_nextClosed 19 = .ok (.iload 4, 2) := by decide +kernel
theorem dX4_nextClosed_21 : decode cX4_nextClosed 21 = .ok (.invokestatic 63, 3) := by decide +kernel
theorem dX4_nextClosed_24 : decode cX4_nextClosed 24 = .ok (.ifCond .eq 26, 3) := by decide +kernel
theorem dX4_nextClosed_27 : decode cX4_nextClosed 27 = .ok (.aload_n 0, 1) := by decide +kernel
theorem dX4_nextClosed_28 : decode cX4_nextClosed 28 = .ok (.getfield 28, 3) := by decide +kernel
theorem dX4_nextClosed_31 : decode cX4_nextClosed 31 = .ok (.iload 4, 2) := by decide +kernel
theorem dX4_nextClosed_33 : decode cX4_nextClosed 33 = .ok (.iaload, 1) := by decide +kernel
theorem dX4_nextClosed_34 : decode cX4_nextClosed 34 = .ok (.iload_n 1, 1) := by decide +kernel
theorem dX4_nextClosed_35 : decode cX4_nextClosed 35 = .ok (.if_icmp .le 15, 3) := by decide +kernel
theorem dX4_nextClosed_38 : decode cX4_nextClosed 38 = .ok (.iload_n 3, 1) := by decide +kernel
theorem dX4_nextClosed_39 : decode cX4_nextClosed 39 = .ok (.aload_n 0, 1) := by decide +kernel
theorem dX4_nextClosed_40 : decode cX4_nextClosed 40 = .ok (.getfield 28, 3) := by decide +kernel
theorem dX4_nextClosed_43 : decode cX4_nextClosed 43 = .ok (.iload 4, 2) := by decide +kernel
theorem dX4_nextClosed_45 : decode cX4_nextClosed 45 = .ok (.iaload, 1) := by decide +kernel
theorem dX4_nextClosed_46 : decode cX4_nextClosed 46 = .ok (.invokestatic 67, 3) := by decide +kernel
theorem dX4_nextClosed_49 : decode cX4_nextClosed 49 = .ok (.istore_n 3, 1) := by decide +kernel
theorem dX4_nextClosed_50 : decode cX4_nextClosed 50 = .ok (.iinc 4 1, 3) := by decide +kernel
theorem dX4_nextClosed_53 : decode cX4_nextClosed 53 = .ok (.goto (-46), 3) := by decide +kernel
theorem dX4_nextClosed_56 : decode cX4_nextClosed 56 = .ok (.iload_n 3, 1) := by decide +kernel
theorem dX4_nextClosed_57 : decode cX4_nextClosed 57 = .ok (.ireturn, 1) := by decide +kernel
theorem dX4_mileOf_0 : decode cX4_mileOf 0 = .ok (.iload_n 1, 1) := by decide +kernel
theorem dX4_mileOf_1 : decode cX4_mileOf 1 = .ok (.aload_n 0, 1) := by decide +kernel
theorem dX4_mileOf_2 : decode cX4_mileOf 2 = .ok (.getfield 15, 3) := by decide +kernel
theorem dX4_mileOf_5 : decode cX4_mileOf 5 = .ok (.iconst 0, 1) := by decide +kernel
theorem dX4_mileOf_6 : decode cX4_mileOf 6 = .ok (.iaload, 1) := by decide +kernel
theorem dX4_mileOf_7 : decode cX4_mileOf 7 = .ok (.if_icmp .ge 12, 3) := by decide +kernel
theorem dX4_mileOf_10 : decode cX4_mileOf 10 = .ok (.aload_n 0, 1) := by decide +kernel
theorem dX4_mileOf_11 : decode cX4_mileOf 11 = .ok (.getfield 21, 3) := by decide +kernel
theorem dX4_mileOf_14 : decode cX4_mileOf 14 = .ok (.iload_n 1, 1) := by decide +kernel
theorem dX4_mileOf_15 : decode cX4_mileOf 15 = .ok (.iaload, 1) := by decide +kernel
theorem dX4_mileOf_16 : decode cX4_mileOf 16 = .ok (.goto 4, 3) := by decide +kernel
theorem dX4_mileOf_19 : decode cX4_mileOf 19 = .ok (.iconst 0, 1) := by decide +kernel
theorem dX4_mileOf_20 : decode cX4_mileOf 20 = .ok (.ireturn, 1) := by decide +kernel
theorem dX4_campsFor_0 : decode cX4_campsFor 0 = .ok (.iconst 0, 1) := by decide +kernel
theorem dX4_campsFor_1 : decode cX4_campsFor 1 = .ok (.istore_n 2, 1) := by decide +kernel
theorem dX4_campsFor_2 : decode cX4_campsFor 2 = .ok (.iconst 0, 1) := by decide +kernel
theorem dX4_campsFor_3 : decode cX4_campsFor 3 = .ok (.istore_n 3, 1) := by decide +kernel
theorem dX4_campsFor_4 : decode cX4_campsFor 4 = .ok (.iload_n 3, 1) := by decide +kernel
theorem dX4_campsFor_5 : decode cX4_campsFor 5 = .ok (.aload_n 0, 1) := by decide +kernel
theorem dX4_campsFor_6 : decode cX4_campsFor 6 = .ok (.getfield 15, 3) := by decide +kernel
theorem dX4_campsFor_9 : decode cX4_campsFor 9 = .ok (.iconst 0, 1) := by decide +kernel
theorem dX4_campsFor_10 : decode cX4_campsFor 10 = .ok (.iaload, 1) := by decide +kernel
theorem dX4_campsFor_11 : decode cX4_campsFor 11 = .ok (.if_icmp .ge 44, 3) := by decide +kernel
theorem dX4_campsFor_14 : decode cX4_campsFor 14 = .ok (.aload_n 0, 1) := by decide +kernel
theorem dX4_campsFor_15 : decode cX4_campsFor 15 = .ok (.getfield 21, 3) := by decide +kernel
theorem dX4_campsFor_18 : decode cX4_campsFor 18 = .ok (.iload_n 3, 1) := by decide +kernel
theorem dX4_campsFor_19 : decode cX4_campsFor 19 = .ok (.iaload, 1) := by decide +kernel
theorem dX4_campsFor_20 : decode cX4_campsFor 20 = .ok (.aload_n 0, 1) := by decide +kernel
theorem dX4_campsFor_21 : decode cX4_campsFor 21 = .ok (.getfield 11, 3) := by decide +kernel
theorem dX4_campsFor_24 : decode cX4_campsFor 24 = .ok (.iconst 0, 1) := by decide +kernel
theorem dX4_campsFor_25 : decode cX4_campsFor 25 = .ok (.iaload, 1) := by decide +kernel
theorem dX4_campsFor_26 : decode cX4_campsFor 26 = .ok (.if_icmp .ge 23, 3) := by decide +kernel
theorem dX4_campsFor_29 : decode cX4_campsFor 29 = .ok (.iload_n 1, 1) := by decide +kernel
theorem dX4_campsFor_30 : decode cX4_campsFor 30 = .ok (.iconst 2, 1) := by decide +kernel
theorem dX4_campsFor_31 : decode cX4_campsFor 31 = .ok (.if_icmp .ne 12, 3) := by decide +kernel
theorem dX4_campsFor_34 : decode cX4_campsFor 34 = .ok (.aload_n 0, 1) := by decide +kernel
theorem dX4_campsFor_35 : decode cX4_campsFor 35 = .ok (.getfield 24, 3) := by decide +kernel
theorem dX4_campsFor_38 : decode cX4_campsFor 38 = .ok (.iload_n 3, 1) := by decide +kernel
theorem dX4_campsFor_39 : decode cX4_campsFor 39 = .ok (.baload, 1) := by decide +kernel
theorem dX4_campsFor_40 : decode cX4_campsFor 40 = .ok (.ifCond .ne 9, 3) := by decide +kernel
theorem dX4_campsFor_43 : decode cX4_campsFor 43 = .ok (.iload_n 2, 1) := by decide +kernel
theorem dX4_campsFor_44 : decode cX4_campsFor 44 = .ok (.iconst 1, 1) := by decide +kernel
theorem dX4_campsFor_45 : decode cX4_campsFor 45 = .ok (.iload_n 3, 1) := by decide +kernel
theorem dX4_campsFor_46 : decode cX4_campsFor 46 = .ok (.ishl, 1) := by decide +kernel
theorem dX4_campsFor_47 : decode cX4_campsFor 47 = .ok (.ior, 1) := by decide +kernel
theorem dX4_campsFor_48 : decode cX4_campsFor 48 = .ok (.istore_n 2, 1) := by decide +kernel
theorem dX4_campsFor_49 : decode cX4_campsFor 49 = .ok (.iinc 3 1, 3) := by decide +kernel
theorem dX4_campsFor_52 : decode cX4_campsFor 52 = .ok (.goto (-48), 3) := by decide +kernel
theorem dX4_campsFor_55 : decode cX4_campsFor 55 = .ok (.iload_n 2, 1) := by decide +kernel
theorem dX4_campsFor_56 : decode cX4_campsFor 56 = .ok (.ireturn, 1) := by decide +kernel
theorem dX4_campsAhead_0 : decode cX4_campsAhead 0 = .ok (.aload_n 0, 1) := by decide +kernel
theorem dX4_campsAhead_1 : decode cX4_campsAhead 1 = .ok (.iload_n 1, 1) := by decide +kernel
theorem dX4_campsAhead_2 : decode cX4_campsAhead 2 = .ok (.invokevirtual 70, 3) := by decide +kernel
theorem dX4_campsAhead_5 : decode cX4_campsAhead 5 = .ok (.istore 4, 2) := by decide +kernel
theorem dX4_campsAhead_7 : decode cX4_campsAhead 7 = .ok (.iload 4, 2) := by decide +kernel
theorem dX4_campsAhead_9 : decode cX4_campsAhead 9 = .ok (.iload_n 2, 1) := by decide +kernel
theorem dX4_campsAhead_10 : decode cX4_campsAhead 10 = .ok (.iadd, 1) := by decide +kernel
theorem dX4_campsAhead_11 : decode cX4_campsAhead 11 = .ok (.aload_n 0, 1) := by decide +kernel
theorem dX4_campsAhead_12 : decode cX4_campsAhead 12 = .ok (.iload 4, 2) := by decide +kernel
theorem dX4_campsAhead_14 : decode cX4_campsAhead 14 = .ok (.iload_n 3, 1) := by decide +kernel
theorem dX4_campsAhead_15 : decode cX4_campsAhead 15 = .ok (.invokevirtual 74, 3) := by decide +kernel
theorem dX4_campsAhead_18 : decode cX4_campsAhead 18 = .ok (.iconst 1, 1) := by decide +kernel
theorem dX4_campsAhead_19 : decode cX4_campsAhead 19 = .ok (.isub, 1) := by decide +kernel
theorem dX4_campsAhead_20 : decode cX4_campsAhead 20 = .ok (.invokestatic 67, 3) := by decide +kernel
theorem dX4_campsAhead_23 : decode cX4_campsAhead 23 = .ok (.istore 5, 2) := by decide +kernel
theorem dX4_campsAhead_25 : decode cX4_campsAhead 25 = .ok (.iconst 0, 1) := by decide +kernel
theorem dX4_campsAhead_26 : decode cX4_campsAhead 26 = .ok (.istore 6, 2) := by decide +kernel
theorem dX4_campsAhead_28 : decode cX4_campsAhead 28 = .ok (.iconst 0, 1) := by decide +kernel
theorem dX4_campsAhead_29 : decode cX4_campsAhead 29 = .ok (.istore 7, 2) := by decide +kernel
theorem dX4_campsAhead_31 : decode cX4_campsAhead 31 = .ok (.iload 7, 2) := by decide +kernel
theorem dX4_campsAhead_33 : decode cX4_campsAhead 33 = .ok (.aload_n 0, 1) := by decide +kernel
theorem dX4_campsAhead_34 : decode cX4_campsAhead 34 = .ok (.getfield 15, 3) := by decide +kernel
theorem dX4_campsAhead_37 : decode cX4_campsAhead 37 = .ok (.iconst 0, 1) := by decide +kernel
theorem dX4_campsAhead_38 : decode cX4_campsAhead 38 = .ok (.iaload, 1) := by decide +kernel
theorem dX4_campsAhead_39 : decode cX4_campsAhead 39 = .ok (.if_icmp .ge 37, 3) := by decide +kernel
theorem dX4_campsAhead_42 : decode cX4_campsAhead 42 = .ok (.aload_n 0, 1) := by decide +kernel
theorem dX4_campsAhead_43 : decode cX4_campsAhead 43 = .ok (.getfield 21, 3) := by decide +kernel
theorem dX4_campsAhead_46 : decode cX4_campsAhead 46 = .ok (.iload 7, 2) := by decide +kernel
theorem dX4_campsAhead_48 : decode cX4_campsAhead 48 = .ok (.iaload, 1) := by decide +kernel
theorem dX4_campsAhead_49 : decode cX4_campsAhead 49 = .ok (.iload 4, 2) := by decide +kernel
theorem dX4_campsAhead_51 : decode cX4_campsAhead 51 = .ok (.iconst 1, 1) := by decide +kernel
theorem dX4_campsAhead_52 : decode cX4_campsAhead 52 = .ok (.iadd, 1) := by decide +kernel
theorem dX4_campsAhead_53 : decode cX4_campsAhead 53 = .ok (.iload 5, 2) := by decide +kernel
theorem dX4_campsAhead_55 : decode cX4_campsAhead 55 = .ok (.invokestatic 56, 3) := by decide +kernel
theorem dX4_campsAhead_58 : decode cX4_campsAhead 58 = .ok (.ifCond .eq 12, 3) := by decide +kernel
theorem dX4_campsAhead_61 : decode cX4_campsAhead 61 = .ok (.iload 6, 2) := by decide +kernel
theorem dX4_campsAhead_63 : decode cX4_campsAhead 63 = .ok (.iconst 1, 1) := by decide +kernel
theorem dX4_campsAhead_64 : decode cX4_campsAhead 64 = .ok (.iload 7, 2) := by decide +kernel
theorem dX4_campsAhead_66 : decode cX4_campsAhead 66 = .ok (.ishl, 1) := by decide +kernel
theorem dX4_campsAhead_67 : decode cX4_campsAhead 67 = .ok (.ior, 1) := by decide +kernel
theorem dX4_campsAhead_68 : decode cX4_campsAhead 68 = .ok (.istore 6, 2) := by decide +kernel
theorem dX4_campsAhead_70 : decode cX4_campsAhead 70 = .ok (.iinc 7 1, 3) := by decide +kernel
theorem dX4_campsAhead_73 : decode cX4_campsAhead 73 = .ok (.goto (-42), 3) := by decide +kernel
theorem dX4_campsAhead_76 : decode cX4_campsAhead 76 = .ok (.iload 6, 2) := by decide +kernel
theorem dX4_campsAhead_78 : decode cX4_campsAhead 78 = .ok (.ireturn, 1) := by decide +kernel
theorem dX4_leadsToEnd_0 : decode cX4_leadsToEnd 0 = .ok (.aload_n 0, 1) := by decide +kernel
theorem dX4_leadsToEnd_1 : decode cX4_leadsToEnd 1 = .ok (.iload_n 1, 1) := by decide +kernel
theorem dX4_leadsToEnd_2 : decode cX4_leadsToEnd 2 = .ok (.invokevirtual 70, 3) := by decide +kernel
theorem dX4_leadsToEnd_5 : decode cX4_leadsToEnd 5 = .ok (.istore 4, 2) := by decide +kernel
theorem dX4_leadsToEnd_7 : decode cX4_leadsToEnd 7 = .ok (.aload_n 0, 1) := by decide +kernel
theorem dX4_leadsToEnd_8 : decode cX4_leadsToEnd 8 = .ok (.getfield 11, 3) := by decide +kernel
theorem dX4_leadsToEnd_11 : decode cX4_leadsToEnd 11 = .ok (.iconst 0, 1) := by decide +kernel
theorem dX4_leadsToEnd_12 : decode cX4_leadsToEnd 12 = .ok (.iaload, 1) := by decide +kernel
theorem dX4_leadsToEnd_13 : decode cX4_leadsToEnd 13 = .ok (.iload 4, 2) := by decide +kernel
theorem dX4_leadsToEnd_15 : decode cX4_leadsToEnd 15 = .ok (.iload_n 2, 1) := by decide +kernel
theorem dX4_leadsToEnd_16 : decode cX4_leadsToEnd 16 = .ok (.iadd, 1) := by decide +kernel
theorem dX4_leadsToEnd_17 : decode cX4_leadsToEnd 17 = .ok (.if_icmp .gt 23, 3) := by decide +kernel
theorem dX4_leadsToEnd_20 : decode cX4_leadsToEnd 20 = .ok (.aload_n 0, 1) := by decide +kernel
theorem dX4_leadsToEnd_21 : decode cX4_leadsToEnd 21 = .ok (.getfield 11, 3) := by decide +kernel
theorem dX4_leadsToEnd_24 : decode cX4_leadsToEnd 24 = .ok (.iconst 0, 1) := by decide +kernel
theorem dX4_leadsToEnd_25 : decode cX4_leadsToEnd 25 = .ok (.iaload, 1) := by decide +kernel
theorem dX4_leadsToEnd_26 : decode cX4_leadsToEnd 26 = .ok (.aload_n 0, 1) := by decide +kernel
theorem dX4_leadsToEnd_27 : decode cX4_leadsToEnd 27 = .ok (.iload 4, 2) := by decide +kernel
theorem dX4_leadsToEnd_29 : decode cX4_leadsToEnd 29 = .ok (.iload_n 3, 1) := by decide +kernel
theorem dX4_leadsToEnd_30 : decode cX4_leadsToEnd 30 = .ok (.invokevirtual 74, 3) := by decide +kernel
theorem dX4_leadsToEnd_33 : decode cX4_leadsToEnd 33 = .ok (.if_icmp .gt 7, 3) := by decide +kernel
theorem dX4_leadsToEnd_36 : decode cX4_leadsToEnd 36 = .ok (.iconst 1, 1) := by decide +kernel
theorem dX4_leadsToEnd_37 : decode cX4_leadsToEnd 37 = .ok (.goto 4, 3) := by decide +kernel
theorem dX4_leadsToEnd_40 : decode cX4_leadsToEnd 40 = .ok (.iconst 0, 1) := by decide +kernel
theorem dX4_leadsToEnd_41 : decode cX4_leadsToEnd 41 = .ok (.ireturn, 1) := by decide +kernel
theorem dX4_minutesOut_0 : decode cX4_minutesOut 0 = .ok (.iload_n 2, 1) := by decide +kernel
theorem dX4_minutesOut_1 : decode cX4_minutesOut 1 = .ok (.ifCond .eq 8, 3) := by decide +kernel
theorem dX4_minutesOut_4 : decode cX4_minutesOut 4 = .ok (.bipush 20, 2) := by decide +kernel
theorem dX4_minutesOut_6 : decode cX4_minutesOut 6 = .ok (.goto 5, 3) := by decide +kernel
theorem dX4_minutesOut_9 : decode cX4_minutesOut 9 = .ok (.bipush 60, 2) := by decide +kernel
theorem dX4_minutesOut_11 : decode cX4_minutesOut 11 = .ok (.istore_n 3, 1) := by decide +kernel
theorem dX4_minutesOut_12 : decode cX4_minutesOut 12 = .ok (.sipush 15001, 3) := by decide +kernel
theorem dX4_minutesOut_15 : decode cX4_minutesOut 15 = .ok (.istore 4, 2) := by decide +kernel
theorem dX4_minutesOut_17 : decode cX4_minutesOut 17 = .ok (.iconst 0, 1) := by decide +kernel
theorem dX4_minutesOut_18 : decode cX4_minutesOut 18 = .ok (.istore 5, 2) := by decide +kernel
theorem dX4_minutesOut_20 : decode cX4_minutesOut 20 = .ok (.iload 5, 2) := by decide +kernel
theorem dX4_minutesOut_22 : decode cX4_minutesOut 22 = .ok (.aload_n 0, 1) := by decide +kernel
theorem dX4_minutesOut_23 : decode cX4_minutesOut 23 = .ok (.getfield 15, 3) := by decide +kernel
theorem dX4_minutesOut_26 : decode cX4_minutesOut 26 = .ok (.iconst 2, 1) := by decide +kernel
theorem dX4_minutesOut_27 : decode cX4_minutesOut 27 = .ok (.iaload, 1) := by decide +kernel
theorem dX4_minutesOut_28 : decode cX4_minutesOut 28 = .ok (.if_icmp .ge 61, 3) := by decide +kernel
theorem dX4_minutesOut_31 : decode cX4_minutesOut 31 = .ok (.aload_n 0, 1) := by decide +kernel
theorem dX4_minutesOut_32 : decode cX4_minutesOut 32 = .ok (.getfield 37, 3) := by decide +kernel
theorem dX4_minutesOut_35 : decode cX4_minutesOut 35 = .ok (.iload 5, 2) := by decide +kernel
theorem dX4_minutesOut_37 : decode cX4_minutesOut 37 = .ok (.iaload, 1) := by decide +kernel
theorem dX4_minutesOut_38 : decode cX4_minutesOut 38 = .ok (.aload_n 0, 1) := by decide +kernel
theorem dX4_minutesOut_39 : decode cX4_minutesOut 39 = .ok (.getfield 11, 3) := by decide +kernel
theorem dX4_minutesOut_42 : decode cX4_minutesOut 42 = .ok (.iconst 0, 1) := by decide +kernel
theorem dX4_minutesOut_43 : decode cX4_minutesOut 43 = .ok (.iaload, 1) := by decide +kernel
theorem dX4_minutesOut_44 : decode cX4_minutesOut 44 = .ok (.if_icmp .ge 39, 3) := by decide +kernel
theorem dX4_minutesOut_47 : decode cX4_minutesOut 47 = .ok (.aload_n 0, 1) := by decide +kernel
theorem dX4_minutesOut_48 : decode cX4_minutesOut 48 = .ok (.getfield 37, 3) := by decide +kernel
theorem dX4_minutesOut_51 : decode cX4_minutesOut 51 = .ok (.iload 5, 2) := by decide +kernel
theorem dX4_minutesOut_53 : decode cX4_minutesOut 53 = .ok (.iaload, 1) := by decide +kernel
theorem dX4_minutesOut_54 : decode cX4_minutesOut 54 = .ok (.iload_n 1, 1) := by decide +kernel
theorem dX4_minutesOut_55 : decode cX4_minutesOut 55 = .ok (.isub, 1) := by decide +kernel
theorem dX4_minutesOut_56 : decode cX4_minutesOut 56 = .ok (.istore 6, 2) := by decide +kernel
theorem dX4_minutesOut_58 : decode cX4_minutesOut 58 = .ok (.iload 4, 2) := by decide +kernel
theorem dX4_minutesOut_60 : decode cX4_minutesOut 60 = .ok (.iload 6, 2) := by decide +kernel
theorem dX4_minutesOut_62 : decode cX4_minutesOut 62 = .ok (.ifCond .lt 11, 3) := by decide +kernel
theorem dX4_minutesOut_65 : decode cX4_minutesOut 65 = .ok (.iload 6, 2) := by decide +kernel
theorem dX4_minutesOut_67 : decode cX4_minutesOut 67 = .ok (.bipush 12, 2) := by decide +kernel
theorem dX4_minutesOut_69 : decode cX4_minutesOut 69 = .ok (.imul, 1) := by decide +kernel
theorem dX4_minutesOut_70 : decode cX4_minutesOut 70 = .ok (.goto 8, 3) := by decide +kernel
theorem dX4_minutesOut_73 : decode cX4_minutesOut 73 = .ok (.iload 6, 2) := by decide +kernel
theorem dX4_minutesOut_75 : decode cX4_minutesOut 75 = .ok (.ineg, 1) := by decide +kernel
theorem dX4_minutesOut_76 : decode cX4_minutesOut 76 = .ok (.iload_n 3, 1) := by decide +kernel
theorem dX4_minutesOut_77 : decode cX4_minutesOut 77 = .ok (.imul, 1) := by decide +kernel
theorem dX4_minutesOut_78 : decode cX4_minutesOut 78 = .ok (.invokestatic 67, 3) := by decide +kernel
theorem dX4_minutesOut_81 : decode cX4_minutesOut 81 = .ok (.istore 4, 2) := by decide +kernel
theorem dX4_minutesOut_83 : decode cX4_minutesOut 83 = .ok (.iinc 5 1, 3) := by decide +kernel
theorem dX4_minutesOut_86 : decode cX4_minutesOut 86 = .ok (.goto (-66), 3) := by decide +kernel
theorem dX4_minutesOut_89 : decode cX4_minutesOut 89 = .ok (.iload 4, 2) := by decide +kernel
theorem dX4_minutesOut_91 : decode cX4_minutesOut 91 = .ok (.ireturn, 1) := by decide +kernel
theorem dX5_init_0 : decode cX5_init 0 = .ok (.aload_n 0, 1) := by decide +kernel
theorem dX5_init_1 : decode cX5_init 1 = .ok (.invokespecial 1, 3) := by decide +kernel
theorem dX5_init_4 : decode cX5_init 4 = .ok (.aload_n 0, 1) := by decide +kernel
theorem dX5_init_5 : decode cX5_init 5 = .ok (.iconst 0, 1) := by decide +kernel
theorem dX5_init_6 : decode cX5_init 6 = .ok (.putfield 7, 3) := by decide +kernel
theorem dX5_init_9 : decode cX5_init 9 = .ok (.aload_n 0, 1) := by decide +kernel
theorem dX5_init_10 : decode cX5_init 10 = .ok (.iconst 0, 1) := by decide +kernel
theorem dX5_init_11 : decode cX5_init 11 = .ok (.putfield 13, 3) := by decide +kernel
theorem dX5_init_14 : decode cX5_init 14 = .ok (.aload_n 0, 1) := by decide +kernel
theorem dX5_init_15 : decode cX5_init 15 = .ok (.bipush 40, 2) := by decide +kernel
theorem dX5_init_17 : decode cX5_init 17 = .ok (.newarray .int, 2) := by decide +kernel
theorem dX5_init_19 : decode cX5_init 19 = .ok (.putfield 16, 3) := by decide +kernel
theorem dX5_init_22 : decode cX5_init 22 = .ok (.return_, 1) := by decide +kernel
theorem dX5_isMissing_0 : decode cX5_isMissing 0 = .ok (.aload_n 0, 1) := by decide +kernel
theorem dX5_isMissing_1 : decode cX5_isMissing 1 = .ok (.getfield 7, 3) := by decide +kernel
theorem dX5_isMissing_4 : decode cX5_isMissing 4 = .ok (.ifCond .ne 7, 3) := by decide +kernel
theorem dX5_isMissing_7 : decode cX5_isMissing 7 = .ok (.iconst 1, 1) := by decide +kernel
theorem dX5_isMissing_8 : decode cX5_isMissing 8 = .ok (.goto 4, 3) := by decide +kernel
theorem dX5_isMissing_11 : decode cX5_isMissing 11 = .ok (.iconst 0, 1) := by decide +kernel
theorem dX5_isMissing_12 : decode cX5_isMissing 12 = .ok (.ireturn, 1) := by decide +kernel
theorem dX5_renew_0 : decode cX5_renew 0 = .ok (.aload_n 0, 1) := by decide +kernel
theorem dX5_renew_1 : decode cX5_renew 1 = .ok (.iload_n 1, 1) := by decide +kernel
theorem dX5_renew_2 : decode cX5_renew 2 = .ok (.putfield 7, 3) := by decide +kernel
theorem dX5_renew_5 : decode cX5_renew 5 = .ok (.aload_n 0, 1) := by decide +kernel
theorem dX5_renew_6 : decode cX5_renew 6 = .ok (.aload_n 0, 1) := by decide +kernel
theorem dX5_renew_7 : decode cX5_renew 7 = .ok (.invokevirtual 20, 3) := by decide +kernel
theorem dX5_renew_10 : decode cX5_renew 10 = .ok (.ifCond .eq 7, 3) := by decide +kernel
theorem dX5_renew_13 : decode cX5_renew 13 = .ok (.iconst 0, 1) := by decide +kernel
theorem dX5_renew_14 : decode cX5_renew 14 = .ok (.goto 4, 3) := by decide +kernel
theorem dX5_renew_17 : decode cX5_renew 17 = .ok (.iload_n 2, 1) := by decide +kernel
theorem dX5_renew_18 : decode cX5_renew 18 = .ok (.putfield 13, 3) := by decide +kernel
theorem dX5_renew_21 : decode cX5_renew 21 = .ok (.aload_n 0, 1) := by decide +kernel
theorem dX5_renew_22 : decode cX5_renew 22 = .ok (.getfield 16, 3) := by decide +kernel
theorem dX5_renew_25 : decode cX5_renew 25 = .ok (.iconst 0, 1) := by decide +kernel
theorem dX5_renew_26 : decode cX5_renew 26 = .ok (.invokestatic 24, 3) := by decide +kernel
theorem dX5_renew_29 : decode cX5_renew 29 = .ok (.aload_n 0, 1) := by decide +kernel
theorem dX5_renew_30 : decode cX5_renew 30 = .ok (.getfield 13, 3) := by decide +kernel
theorem dX5_renew_33 : decode cX5_renew 33 = .ok (.ireturn, 1) := by decide +kernel
theorem dX5_lowest_0 : decode cX5_lowest 0 = .ok (.aload_n 0, 1) := by decide +kernel
theorem dX5_lowest_1 : decode cX5_lowest 1 = .ok (.getfield 7, 3) := by decide +kernel
theorem dX5_lowest_4 : decode cX5_lowest 4 = .ok (.lookupswitch 34 #[(8, 28), (16, 31)], 28) := by decide +kernel
theorem dX5_lowest_32 : decode cX5_lowest 32 = .ok (.iload_n 1, 1) := by decide +kernel
theorem dX5_lowest_33 : decode cX5_lowest 33 = .ok (.i2b, 1) := by decide +kernel
theorem dX5_lowest_34 : decode cX5_lowest 34 = .ok (.ireturn, 1) := by decide +kernel
theorem dX5_lowest_35 : decode cX5_lowest 35 = .ok (.iload_n 1, 1) := by decide +kernel
theorem dX5_lowest_36 : decode cX5_lowest 36 = .ok (.i2s, 1) := by decide +kernel
theorem dX5_lowest_37 : decode cX5_lowest 37 = .ok (.ireturn, 1) := by decide +kernel
theorem dX5_lowest_38 : decode cX5_lowest 38 = .ok (.iload_n 1, 1) := by decide +kernel
theorem dX5_lowest_39 : decode cX5_lowest 39 = .ok (.ireturn, 1) := by decide +kernel
theorem dX5_has_0 : decode cX5_has 0 = .ok (.iload_n 1, 1) := by decide +kernel
theorem dX5_has_1 : decode cX5_has 1 = .ok (.ifCond .lt 29, 3) := by decide +kernel
theorem dX5_has_4 : decode cX5_has 4 = .ok (.iload_n 2, 1) := by decide +kernel
theorem dX5_has_5 : decode cX5_has 5 = .ok (.ifCond .lt 25, 3) := by decide +kernel
theorem dX5_has_8 : decode cX5_has 8 = .ok (.iload_n 1, 1) := by decide +kernel
theorem dX5_has_9 : decode cX5_has 9 = .ok (.aload_n 0, 1) := by decide +kernel
theorem dX5_has_10 : decode cX5_has 10 = .ok (.getfield 13, 3) := by decide +kernel
theorem dX5_has_13 : decode cX5_has 13 = .ok (.if_icmp .gt 17, 3) := by decide +kernel
theorem dX5_has_16 : decode cX5_has 16 = .ok (.iload_n 2, 1) := by decide +kernel
theorem dX5_has_17 : decode cX5_has 17 = .ok (.aload_n 0, 1) := by decide +kernel
theorem dX5_has_18 : decode cX5_has 18 = .ok (.getfield 13, 3) := by decide +kernel
theorem dX5_has_21 : decode cX5_has 21 = .ok (.iload_n 1, 1) := by decide +kernel
theorem dX5_has_22 : decode cX5_has 22 = .ok (.isub, 1) := by decide +kernel
theorem dX5_has_23 : decode cX5_has 23 = .ok (.if_icmp .gt 7, 3) := by decide +kernel
theorem dX5_has_26 : decode cX5_has 26 = .ok (.iconst 1, 1) := by decide +kernel
theorem dX5_has_27 : decode cX5_has 27 = .ok (.goto 4, 3) := by decide +kernel
theorem dX5_has_30 : decode cX5_has 30 = .ok (.iconst 0, 1) := by decide +kernel
theorem dX5_has_31 : decode cX5_has 31 = .ok (.ireturn, 1) := by decide +kernel
theorem dX6_init_0 : decode cX6_init 0 = .ok (.aload_n 0, 1) := by decide +kernel
theorem dX6_init_1 : decode cX6_init 1 = .ok (.invokespecial 5, 3) := by decide +kernel
theorem dX6_init_4 : decode cX6_init 4 = .ok (.aload_n 0, 1) := by decide +kernel
theorem dX6_init_5 : decode cX6_init 5 = .ok (.iconst 1, 1) := by decide +kernel
theorem dX6_init_6 : decode cX6_init 6 = .ok (.newarray .int, 2) := by decide +kernel
theorem dX6_init_8 : decode cX6_init 8 = .ok (.putfield 11, 3) := by decide +kernel
theorem dX6_init_11 : decode cX6_init 11 = .ok (.aload_n 0, 1) := by decide +kernel
theorem dX6_init_12 : decode cX6_init 12 = .ok (.sipush 350, 3) := by decide +kernel
theorem dX6_init_15 : decode cX6_init 15 = .ok (.newarray .int, 2) := by decide +kernel
theorem dX6_init_17 : decode cX6_init 17 = .ok (.putfield 15, 3) := by decide +kernel
theorem dX6_init_20 : decode cX6_init 20 = .ok (.aload_n 0, 1) := by decide +kernel
theorem dX6_init_21 : decode cX6_init 21 = .ok (.sipush 350, 3) := by decide +kernel
theorem dX6_init_24 : decode cX6_init 24 = .ok (.newarray .int, 2) := by decide +kernel
theorem dX6_init_26 : decode cX6_init 26 = .ok (.putfield 18, 3) := by decide +kernel
theorem dX6_init_29 : decode cX6_init 29 = .ok (.return_, 1) := by decide +kernel
theorem dX6_size_0 : decode cX6_size 0 = .ok (.aload_n 0, 1) := by decide +kernel
theorem dX6_size_1 : decode cX6_size 1 = .ok (.getfield 11, 3) := by decide +kernel
theorem dX6_size_4 : decode cX6_size 4 = .ok (.iconst 0, 1) := by decide +kernel
theorem dX6_size_5 : decode cX6_size 5 = .ok (.iaload, 1) := by decide +kernel
theorem dX6_size_6 : decode cX6_size 6 = .ok (.ireturn, 1) := by decide +kernel
theorem dX6_index_0 : decode cX6_index 0 = .ok (.iload_n 1, 1) := by decide +kernel
theorem dX6_index_1 : decode cX6_index 1 = .ok (.bipush 35, 2) := by decide +kernel
theorem dX6_index_3 : decode cX6_index 3 = .ok (.imul, 1) := by decide +kernel
theorem dX6_index_4 : decode cX6_index 4 = .ok (.iload_n 2, 1) := by decide +kernel
theorem dX6_index_5 : decode cX6_index 5 = .ok (.iadd, 1) := by decide +kernel
theorem dX6_index_6 : decode cX6_index 6 = .ok (.ireturn, 1) := by decide +kernel
theorem dX6_read_0 : decode cX6_read 0 = .ok (.aload_n 0, 1) := by decide +kernel
theorem dX6_read_1 : decode cX6_read 1 = .ok (.getfield 15, 3) := by decide +kernel
theorem dX6_read_4 : decode cX6_read 4 = .ok (.aload_n 0, 1) := by decide +kernel
theorem dX6_read_5 : decode cX6_read 5 = .ok (.iload_n 1, 1) := by decide +kernel
theorem dX6_read_6 : decode cX6_read 6 = .ok (.iload_n 2, 1) := by decide +kernel
theorem dX6_read_7 : decode cX6_read 7 = .ok (.invokevirtual 21, 3) := by decide +kernel
theorem dX6_read_10 : decode cX6_read 10 = .ok (.iaload, 1) := by decide +kernel
theorem dX6_read_11 : decode cX6_read 11 = .ok (.ireturn, 1) := by decide +kernel
theorem dX6_write_0 : decode cX6_write 0 = .ok (.aload_n 0, 1) := by decide +kernel
theorem dX6_write_1 : decode cX6_write 1 = .ok (.getfield 15, 3) := by decide +kernel
theorem dX6_write_4 : decode cX6_write 4 = .ok (.aload_n 0, 1) := by decide +kernel
theorem dX6_write_5 : decode cX6_write 5 = .ok (.iload_n 1, 1) := by decide +kernel
theorem dX6_write_6 : decode cX6_write 6 = .ok (.iload_n 2, 1) := by decide +kernel
theorem dX6_write_7 : decode cX6_write 7 = .ok (.invokevirtual 21, 3) := by decide +kernel
theorem dX6_write_10 : decode cX6_write 10 = .ok (.iload_n 3, 1) := by decide +kernel
theorem dX6_write_11 : decode cX6_write 11 = .ok (.iastore, 1) := by decide +kernel
theorem dX6_write_12 : decode cX6_write 12 = .ok (.return_, 1) := by decide +kernel
theorem dX6_clearNights_0 : decode cX6_clearNights 0 = .ok (.iconst 0, 1) := by decide +kernel
theorem dX6_clearNights_1 : decode cX6_clearNights 1 = .ok (.istore_n 2, 1) := by decide +kernel
theorem dX6_clearNights_2 : decode cX6_clearNights 2 = .ok (.iload_n 2, 1) := by decide +kernel
theorem dX6_clearNights_3 : decode cX6_clearNights 3 = .ok (.bipush 30, 2) := by decide +kernel
theorem dX6_clearNights_5 : decode cX6_clearNights 5 = .ok (.if_icmp .ge 18, 3) := by decide +kernel
theorem dX6_clearNights_8 : decode cX6_clearNights 8 = .ok (.aload_n 0, 1) := by decide +kernel
theorem dX6_clearNights_9 : decode cX6_clearNights 9 = .ok (.iload_n 1, 1) := by decide +kernel
theorem dX6_clearNights_10 : decode cX6_clearNights 10 = .ok (.iconst 5, 1) := by decide +kernel
theorem dX6_clearNights_11 : decode cX6_clearNights 11 = .ok (.iload_n 2, 1) := by decide +kernel
theorem dX6_clearNights_12 : decode cX6_clearNights 12 = .ok (.iadd, 1) := by decide +kernel
theorem dX6_clearNights_13 : decode cX6_clearNights 13 = .ok (.iconst (-1), 1) := by decide +kernel
theorem dX6_clearNights_14 : decode cX6_clearNights 14 = .ok (.invokevirtual 25, 3) := by decide +kernel
theorem dX6_clearNights_17 : decode cX6_clearNights 17 = .ok (.iinc 2 1, 3) := by decide +kernel
theorem dX6_clearNights_20 : decode cX6_clearNights 20 = .ok (.goto (-18), 3) := by decide +kernel
theorem dX6_clearNights_23 : decode cX6_clearNights 23 = .ok (.return_, 1) := by decide +kernel
theorem dX6_nightsOf_0 : decode cX6_nightsOf 0 = .ok (.iconst 0, 1) := by decide +kernel
theorem dX6_nightsOf_1 : decode cX6_nightsOf 1 = .ok (.istore_n 2, 1) := by decide +kernel
theorem dX6_nightsOf_2 : decode cX6_nightsOf 2 = .ok (.iconst 0, 1) := by decide +kernel
theorem dX6_nightsOf_3 : decode cX6_nightsOf 3 = .ok (.istore_n 3, 1) := by decide +kernel
theorem dX6_nightsOf_4 : decode cX6_nightsOf 4 = .ok (.iload_n 3, 1) := by decide +kernel
theorem dX6_nightsOf_5 : decode cX6_nightsOf 5 = .ok (.bipush 30, 2) := by decide +kernel
theorem dX6_nightsOf_7 : decode cX6_nightsOf 7 = .ok (.if_icmp .ge 24, 3) := by decide +kernel
theorem dX6_nightsOf_10 : decode cX6_nightsOf 10 = .ok (.aload_n 0, 1) := by decide +kernel
theorem dX6_nightsOf_11 : decode cX6_nightsOf 11 = .ok (.iload_n 1, 1) := by decide +kernel
theorem dX6_nightsOf_12 : decode cX6_nightsOf 12 = .ok (.iconst 5, 1) := by decide +kernel
theorem dX6_nightsOf_13 : decode cX6_nightsOf 13 = .ok (.iload_n 3, 1) := by decide +kernel
theorem dX6_nightsOf_14 : decode cX6_nightsOf 14 = .ok (.iadd, 1) := by decide +kernel
theorem dX6_nightsOf_15 : decode cX6_nightsOf 15 = .ok (.invokevirtual 29, 3) := by decide +kernel
theorem dX6_nightsOf_18 : decode cX6_nightsOf 18 = .ok (.iconst (-1), 1) := by decide +kernel
theorem dX6_nightsOf_19 : decode cX6_nightsOf 19 = .ok (.if_icmp .eq 6, 3) := by decide +kernel
theorem dX6_nightsOf_22 : decode cX6_nightsOf 22 = .ok (.iinc 2 1, 3) := by decide +kernel
theorem dX6_nightsOf_25 : decode cX6_nightsOf 25 = .ok (.iinc 3 1, 3) := by decide +kernel
theorem dX6_nightsOf_28 : decode cX6_nightsOf 28 = .ok (.goto (-24), 3) := by decide +kernel
theorem dX6_nightsOf_31 : decode cX6_nightsOf 31 = .ok (.iload_n 2, 1) := by decide +kernel
theorem dX6_nightsOf_32 : decode cX6_nightsOf 32 = .ok (.ireturn, 1) := by decide +kernel
theorem dX6_guest_0 : decode cX6_guest 0 = .ok (.iconst 0, 1) := by decide +kernel
theorem dX6_guest_1 : decode cX6_guest 1 = .ok (.istore_n 3, 1) := by decide +kernel
theorem dX6_guest_2 : decode cX6_guest 2 = .ok (.iload_n 3, 1) := by decide +kernel
theorem dX6_guest_3 : decode cX6_guest 3 = .ok (.aload_n 0, 1) := by decide +kernel
theorem dX6_guest_4 : decode cX6_guest 4 = .ok (.invokevirtual 32, 3) := by decide +kernel
theorem dX6_guest_7 : decode cX6_guest 7 = .ok (.if_icmp .ge 23, 3) := by decide +kernel
theorem dX6_guest_10 : decode cX6_guest 10 = .ok (.aload_n 0, 1) := by decide +kernel
theorem dX6_guest_11 : decode cX6_guest 11 = .ok (.iload_n 3, 1) := by decide +kernel
theorem dX6_guest_12 : decode cX6_guest 12 = .ok (.iconst 5, 1) := by decide +kernel
theorem dX6_guest_13 : decode cX6_guest 13 = .ok (.iload_n 2, 1) := by decide +kernel
theorem dX6_guest_14 : decode cX6_guest 14 = .ok (.iadd, 1) := by decide +kernel
theorem dX6_guest_15 : decode cX6_guest 15 = .ok (.invokevirtual 29, 3) := by decide +kernel
theorem dX6_guest_18 : decode cX6_guest 18 = .ok (.iload_n 1, 1) := by decide +kernel
theorem dX6_guest_19 : decode cX6_guest 19 = .ok (.if_icmp .ne 5, 3) := by decide +kernel
theorem dX6_guest_22 : decode cX6_guest 22 = .ok (.iload_n 3, 1) := by decide +kernel
theorem dX6_guest_23 : decode cX6_guest 23 = .ok (.ireturn, 1) := by decide +kernel
theorem dX6_guest_24 : decode cX6_guest 24 = .ok (.iinc 3 1, 3) := by decide +kernel
theorem dX6_guest_27 : decode cX6_guest 27 = .ok (.goto (-25), 3) := by decide +kernel
theorem dX6_guest_30 : decode cX6_guest 30 = .ok (.iconst (-1), 1) := by decide +kernel
theorem dX6_guest_31 : decode cX6_guest 31 = .ok (.ireturn, 1) := by decide +kernel
theorem dX6_takenFrom_0 : decode cX6_takenFrom 0 = .ok (.iconst 0, 1) := by decide +kernel
theorem dX6_takenFrom_1 : decode cX6_takenFrom 1 = .ok (.istore_n 3, 1) := by decide +kernel
theorem dX6_takenFrom_2 : decode cX6_takenFrom 2 = .ok (.iconst 0, 1) := by decide +kernel
theorem dX6_takenFrom_3 : decode cX6_takenFrom 3 = .ok (.istore 4, 2) := by decide +kernel
theorem dX6_takenFrom_5 : decode cX6_takenFrom 5 = .ok (.iload 4, 2) := by decide +kernel
theorem dX6_takenFrom_7 : decode cX6_takenFrom 7 = .ok (.aload_n 0, 1) := by decide +kernel
theorem dX6_takenFrom_8 : decode cX6_takenFrom 8 = .ok (.invokevirtual 32, 3) := by decide +kernel
theorem dX6_takenFrom_11 : decode cX6_takenFrom 11 = .ok (.if_icmp .ge 39, 3) := by decide +kernel
theorem dX6_takenFrom_14 : decode cX6_takenFrom 14 = .ok (.aload_n 0, 1) := by decide +kernel
theorem dX6_takenFrom_15 : decode cX6_takenFrom 15 = .ok (.iload 4, 2) := by decide +kernel
theorem dX6_takenFrom_17 : decode cX6_takenFrom 17 = .ok (.iconst 5, 1) := by decide +kernel
theorem dX6_takenFrom_18 : decode cX6_takenFrom 18 = .ok (.iload_n 2, 1) := by decide +kernel
theorem dX6_takenFrom_19 : decode cX6_takenFrom 19 = .ok (.iadd, 1) := by decide +kernel
theorem dX6_takenFrom_20 : decode cX6_takenFrom 20 = .ok (.invokevirtual 29, 3) := by decide +kernel
theorem dX6_takenFrom_23 : decode cX6_takenFrom 23 = .ok (.istore 5, 2) := by decide +kernel
theorem dX6_takenFrom_25 : decode cX6_takenFrom 25 = .ok (.iload 4, 2) := by decide +kernel
theorem dX6_takenFrom_27 : decode cX6_takenFrom 27 = .ok (.iload_n 1, 1) := by decide +kernel
theorem dX6_takenFrom_28 : decode cX6_takenFrom 28 = .ok (.if_icmp .eq 16, 3) := by decide +kernel
theorem dX6_takenFrom_31 : decode cX6_takenFrom 31 = .ok (.iload 5, 2) := by decide +kernel
theorem dX6_takenFrom_33 : decode cX6_takenFrom 33 = .ok (.iconst (-1), 1) := by decide +kernel
theorem dX6_takenFrom_34 : decode cX6_takenFrom 34 = .ok (.if_icmp .eq 10, 3) := by decide +kernel
theorem dX6_takenFrom_37 : decode cX6_takenFrom 37 = .ok (.iload_n 3, 1) := by decide +kernel
theorem dX6_takenFrom_38 : decode cX6_takenFrom 38 = .ok (.iconst 1, 1) := by decide +kernel
theorem dX6_takenFrom_39 : decode cX6_takenFrom 39 = .ok (.iload 5, 2) := by decide +kernel
theorem dX6_takenFrom_41 : decode cX6_takenFrom 41 = .ok (.ishl, 1) := by decide +kernel
theorem dX6_takenFrom_42 : decode cX6_takenFrom 42 = .ok (.ior, 1) := by decide +kernel
theorem dX6_takenFrom_43 : decode cX6_takenFrom 43 = .ok (.istore_n 3, 1) := by decide +kernel
theorem dX6_takenFrom_44 : decode cX6_takenFrom 44 = .ok (.iinc 4 1, 3) := by decide +kernel
theorem dX6_takenFrom_47 : decode cX6_takenFrom 47 = .ok (.goto (-42), 3) := by decide +kernel
theorem dX6_takenFrom_50 : decode cX6_takenFrom 50 = .ok (.iload_n 3, 1) := by decide +kernel
theorem dX6_takenFrom_51 : decode cX6_takenFrom 51 = .ok (.ireturn, 1) := by decide +kernel
theorem dX6_saveRows_0 : decode cX6_saveRows 0 = .ok (.aload_n 0, 1) := by decide +kernel
theorem dX6_saveRows_1 : decode cX6_saveRows 1 = .ok (.getfield 15, 3) := by decide +kernel
theorem dX6_saveRows_4 : decode cX6_saveRows 4 = .ok (.iconst 0, 1) := by decide +kernel
theorem dX6_saveRows_5 : decode cX6_saveRows 5 = .ok (.aload_n 0, 1) := by decide +kernel
theorem dX6_saveRows_6 : decode cX6_saveRows 6 = .ok (.getfield 18, 3) := by decide +kernel
theorem dX6_saveRows_9 : decode cX6_saveRows 9 = .ok (.iconst 0, 1) := by decide +kernel
theorem dX6_saveRows_10 : decode cX6_saveRows 10 = .ok (.aload_n 0, 1) := by decide +kernel
theorem dX6_saveRows_11 : decode cX6_saveRows 11 = .ok (.getfield 15, 3) := by decide +kernel
theorem dX6_saveRows_14 : decode cX6_saveRows 14 = .ok (.arraylength, 1) := by decide +kernel
theorem dX6_saveRows_15 : decode cX6_saveRows 15 = .ok (.invokestatic 36, 3) := by decide +kernel
theorem dX6_saveRows_18 : decode cX6_saveRows 18 = .ok (.return_, 1) := by decide +kernel
theorem dX6_bringRowsBack_0 : decode cX6_bringRowsBack 0 = .ok (.aload_n 0, 1) := by decide +kernel
theorem dX6_bringRowsBack_1 : decode cX6_bringRowsBack 1 = .ok (.getfield 18, 3) := by decide +kernel
theorem dX6_bringRowsBack_4 : decode cX6_bringRowsBack 4 = .ok (.iconst 0, 1) := by decide +kernel
theorem dX6_bringRowsBack_5 : decode cX6_bringRowsBack 5 = .ok (.aload_n 0, 1) := by decide +kernel
theorem dX6_bringRowsBack_6 : decode cX6_bringRowsBack 6 = .ok (.getfield 15, 3) := by decide +kernel
theorem dX6_bringRowsBack_9 : decode cX6_bringRowsBack 9 = .ok (.iconst 0, 1) := by decide +kernel
theorem dX6_bringRowsBack_10 : decode cX6_bringRowsBack 10 = .ok (.aload_n 0, 1) := by decide +kernel
theorem dX6_bringRowsBack_11 : decode cX6_bringRowsBack 11 = .ok (.getfield 15, 3) := by decide +kernel
theorem dX6_bringRowsBack_14 : decode cX6_bringRowsBack 14 = .ok (.arraylength, 1) := by decide +kernel
theorem dX6_bringRowsBack_15 : decode cX6_bringRowsBack 15 = .ok (.invokestatic 36, 3) := by decide +kernel
theorem dX6_bringRowsBack_18 : decode cX6_bringRowsBack 18 = .ok (.return_, 1) := by decide +kernel
theorem dX7_init_0 : decode cX7_init 0 = .ok (.aload_n 0, 1) := by decide +kernel
theorem dX7_init_1 : decode cX7_init 1 = .ok (.invokespecial 1, 3) := by decide +kernel
theorem dX7_init_4 : decode cX7_init 4 = .ok (.aload_n 0, 1) := by decide +kernel
theorem dX7_init_5 : decode cX7_init 5 = .ok (.new 7, 3) := by decide +kernel
theorem dX7_init_8 : decode cX7_init 8 = .ok (.dup, 1) := by decide +kernel
theorem dX7_init_9 : decode cX7_init 9 = .ok (.invokespecial 9, 3) := by decide +kernel
theorem dX7_init_12 : decode cX7_init 12 = .ok (.putfield 10, 3) := by decide +kernel
theorem dX7_init_15 : decode cX7_init 15 = .ok (.aload_n 0, 1) := by decide +kernel
theorem dX7_init_16 : decode cX7_init 16 = .ok (.new 16, 3) := by decide +kernel
theorem dX7_init_19 : decode cX7_init 19 = .ok (.dup, 1) := by decide +kernel
theorem dX7_init_20 : decode cX7_init 20 = .ok (.invokespecial 18, 3) := by decide +kernel
theorem dX7_init_23 : decode cX7_init 23 = .ok (.putfield 19, 3) := by decide +kernel
theorem dX7_init_26 : decode cX7_init 26 = .ok (.aload_n 0, 1) := by decide +kernel
theorem dX7_init_27 : decode cX7_init 27 = .ok (.new 23, 3) := by decide +kernel
theorem dX7_init_30 : decode cX7_init 30 = .ok (.dup, 1) := by decide +kernel
theorem dX7_init_31 : decode cX7_init 31 = .ok (.invokespecial 25, 3) := by decide +kernel
theorem dX7_init_34 : decode cX7_init 34 = .ok (.putfield 26, 3) := by decide +kernel
theorem dX7_init_37 : decode cX7_init 37 = .ok (.aload_n 0, 1) := by decide +kernel
theorem dX7_init_38 : decode cX7_init 38 = .ok (.new 30, 3) := by decide +kernel
theorem dX7_init_41 : decode cX7_init 41 = .ok (.dup, 1) := by decide +kernel
theorem dX7_init_42 : decode cX7_init 42 = .ok (.invokespecial 32, 3) := by decide +kernel
theorem dX7_init_45 : decode cX7_init 45 = .ok (.putfield 33, 3) := by decide +kernel
theorem dX7_init_48 : decode cX7_init 48 = .ok (.aload_n 0, 1) := by decide +kernel
theorem dX7_init_49 : decode cX7_init 49 = .ok (.new 37, 3) := by decide +kernel
theorem dX7_init_52 : decode cX7_init 52 = .ok (.dup, 1) := by decide +kernel
theorem dX7_init_53 : decode cX7_init 53 = .ok (.invokespecial 39, 3) := by decide +kernel
theorem dX7_init_56 : decode cX7_init 56 = .ok (.putfield 40, 3) := by decide +kernel
theorem dX7_init_59 : decode cX7_init 59 = .ok (.aload_n 0, 1) := by decide +kernel
theorem dX7_init_60 : decode cX7_init 60 = .ok (.iconst 4, 1) := by decide +kernel
theorem dX7_init_61 : decode cX7_init 61 = .ok (.anewarray 44, 3) := by decide +kernel
theorem dX7_init_64 : decode cX7_init 64 = .ok (.putfield 46, 3) := by decide +kernel
theorem dX7_init_67 : decode cX7_init 67 = .ok (.aload_n 0, 1) := by decide +kernel
theorem dX7_init_68 : decode cX7_init 68 = .ok (.iconst 0, 1) := by decide +kernel
theorem dX7_init_69 : decode cX7_init 69 = .ok (.putfield 50, 3) := by decide +kernel
theorem dX7_init_72 : decode cX7_init 72 = .ok (.iconst 0, 1) := by decide +kernel
theorem dX7_init_73 : decode cX7_init 73 = .ok (.istore_n 1, 1) := by decide +kernel
theorem dX7_init_74 : decode cX7_init 74 = .ok (.iload_n 1, 1) := by decide +kernel
theorem dX7_init_75 : decode cX7_init 75 = .ok (.iconst 4, 1) := by decide +kernel
theorem dX7_init_76 : decode cX7_init 76 = .ok (.if_icmp .ge 22, 3) := by decide +kernel
theorem dX7_init_79 : decode cX7_init 79 = .ok (.aload_n 0, 1) := by decide +kernel
theorem dX7_init_80 : decode cX7_init 80 = .ok (.getfield 46, 3) := by decide +kernel
theorem dX7_init_83 : decode cX7_init 83 = .ok (.iload_n 1, 1) := by decide +kernel
theorem dX7_init_84 : decode cX7_init 84 = .ok (.new 44, 3) := by decide +kernel
theorem dX7_init_87 : decode cX7_init 87 = .ok (.dup, 1) := by decide +kernel
theorem dX7_init_88 : decode cX7_init 88 = .ok (.invokespecial 54, 3) := by decide +kernel
theorem dX7_init_91 : decode cX7_init 91 = .ok (.aastore, 1) := by decide +kernel
theorem dX7_init_92 : decode cX7_init 92 = .ok (.iinc 1 1, 3) := by decide +kernel
theorem dX7_init_95 : decode cX7_init 95 = .ok (.goto (-21), 3) := by decide +kernel
theorem dX7_init_98 : decode cX7_init 98 = .ok (.return_, 1) := by decide +kernel
theorem dX7_end_0 : decode cX7_end 0 = .ok (.iload_n 1, 1) := by decide +kernel
theorem dX7_end_1 : decode cX7_end 1 = .ok (.iconst 1, 1) := by decide +kernel
theorem dX7_end_2 : decode cX7_end 2 = .ok (.sipush 250, 3) := by decide +kernel
theorem dX7_end_5 : decode cX7_end 5 = .ok (.invokestatic 55, 3) := by decide +kernel
theorem dX7_end_8 : decode cX7_end 8 = .ok (.ifCond .ne 10, 3) := by decide +kernel
theorem dX7_end_11 : decode cX7_end 11 = .ok (.aload_n 0, 1) := by decide +kernel
theorem dX7_end_12 : decode cX7_end 12 = .ok (.ldc 59, 2) := by decide +kernel
theorem dX7_end_14 : decode cX7_end 14 = .ok (.invokevirtual 60, 3) := by decide +kernel
theorem dX7_end_17 : decode cX7_end 17 = .ok (.ireturn, 1) := by decide +kernel
theorem dX7_end_18 : decode cX7_end 18 = .ok (.aload_n 0, 1) := by decide +kernel
theorem dX7_end_19 : decode cX7_end 19 = .ok (.aload_n 0, 1) := by decide +kernel
theorem dX7_end_20 : decode cX7_end 20 = .ok (.getfield 10, 3) := by decide +kernel
theorem dX7_end_23 : decode cX7_end 23 = .ok (.getfield 64, 3) := by decide +kernel
theorem dX7_end_26 : decode cX7_end 26 = .ok (.iconst 0, 1) := by decide +kernel
theorem dX7_end_27 : decode cX7_end 27 = .ok (.iload_n 1, 1) := by decide +kernel
theorem dX7_end_28 : decode cX7_end 28 = .ok (.invokevirtual 68, 3) := by decide +kernel
theorem dX7_end_31 : decode cX7_end 31 = .ok (.ireturn, 1) := by decide +kernel
theorem dX7_camp_0 : decode cX7_camp 0 = .ok (.iload_n 1, 1) := by decide +kernel
theorem dX7_camp_1 : decode cX7_camp 1 = .ok (.iconst 1, 1) := by decide +kernel
theorem dX7_camp_2 : decode cX7_camp 2 = .ok (.sipush 249, 3) := by decide +kernel
theorem dX7_camp_5 : decode cX7_camp 5 = .ok (.invokestatic 55, 3) := by decide +kernel
theorem dX7_camp_8 : decode cX7_camp 8 = .ok (.ifCond .ne 10, 3) := by decide +kernel
theorem dX7_camp_11 : decode cX7_camp 11 = .ok (.aload_n 0, 1) := by decide +kernel
theorem dX7_camp_12 : decode cX7_camp 12 = .ok (.ldc 59, 2) := by decide +kernel
theorem dX7_camp_14 : decode cX7_camp 14 = .ok (.invokevirtual 60, 3) := by decide +kernel
theorem dX7_camp_17 : decode cX7_camp 17 = .ok (.ireturn, 1) := by decide +kernel
theorem dX7_camp_18 : decode cX7_camp 18 = .ok (.aload_n 0, 1) := by decide +kernel
theorem dX7_camp_19 : decode cX7_camp 19 = .ok (.getfield 10, 3) := by decide +kernel
theorem dX7_camp_22 : decode cX7_camp 22 = .ok (.getfield 72, 3) := by decide +kernel
theorem dX7_camp_25 : decode cX7_camp 25 = .ok (.iconst 0, 1) := by decide +kernel
theorem dX7_camp_26 : decode cX7_camp 26 = .ok (.iaload, 1) := by decide +kernel
theorem dX7_camp_27 : decode cX7_camp 27 = .ok (.istore_n 3, 1) := by decide +kernel
theorem dX7_camp_28 : decode cX7_camp 28 = .ok (.iload_n 3, 1) := by decide +kernel
theorem dX7_camp_29 : decode cX7_camp 29 = .ok (.bipush 14, 2) := by decide +kernel
theorem dX7_camp_31 : decode cX7_camp 31 = .ok (.if_icmp .lt 10, 3) := by decide +kernel
theorem dX7_camp_34 : decode cX7_camp 34 = .ok (.aload_n 0, 1) := by decide +kernel
theorem dX7_camp_35 : decode cX7_camp 35 = .ok (.ldc 75, 2) := by decide +kernel
theorem dX7_camp_37 : decode cX7_camp 37 = .ok (.invokevirtual 60, 3) := by decide +kernel
theorem dX7_camp_40 : decode cX7_camp 40 = .ok (.ireturn, 1) := by decide +kernel
theorem dX7_camp_41 : decode cX7_camp 41 = .ok (.aload_n 0, 1) := by decide +kernel
theorem dX7_camp_42 : decode cX7_camp 42 = .ok (.getfield 10, 3) := by decide +kernel
theorem dX7_camp_45 : decode cX7_camp 45 = .ok (.getfield 76, 3) := by decide +kernel
theorem dX7_camp_48 : decode cX7_camp 48 = .ok (.iload_n 3, 1) := by decide +kernel
theorem dX7_camp_49 : decode cX7_camp 49 = .ok (.iload_n 1, 1) := by decide +kernel
theorem dX7_camp_50 : decode cX7_camp 50 = .ok (.iastore, 1) := by decide +kernel
theorem dX7_camp_51 : decode cX7_camp 51 = .ok (.aload_n 0, 1) := by decide +kernel
theorem dX7_camp_52 : decode cX7_camp 52 = .ok (.getfield 10, 3) := by decide +kernel
theorem dX7_camp_55 : decode cX7_camp 55 = .ok (.getfield 79, 3) := by decide +kernel
theorem dX7_camp_58 : decode cX7_camp 58 = .ok (.iload_n 3, 1) := by decide +kernel
theorem dX7_camp_59 : decode cX7_camp 59 = .ok (.iload_n 2, 1) := by decide +kernel
theorem dX7_camp_60 : decode cX7_camp 60 = .ok (.bastore, 1) := by decide +kernel
theorem dX7_camp_61 : decode cX7_camp 61 = .ok (.aload_n 0, 1) := by decide +kernel
theorem dX7_camp_62 : decode cX7_camp 62 = .ok (.aload_n 0, 1) := by decide +kernel
theorem dX7_camp_63 : decode cX7_camp 63 = .ok (.getfield 10, 3) := by decide +kernel
theorem dX7_camp_66 : decode cX7_camp 66 = .ok (.getfield 72, 3) := by decide +kernel
theorem dX7_camp_69 : decode cX7_camp 69 = .ok (.iconst 0, 1) := by decide +kernel
theorem dX7_camp_70 : decode cX7_camp 70 = .ok (.iload_n 3, 1) := by decide +kernel
theorem dX7_camp_71 : decode cX7_camp 71 = .ok (.iconst 1, 1) := by decide +kernel
theorem dX7_camp_72 : decode cX7_camp 72 = .ok (.iadd, 1) := by decide +kernel
theorem dX7_camp_73 : decode cX7_camp 73 = .ok (.invokevirtual 68, 3) := by decide +kernel
theorem dX7_camp_76 : decode cX7_camp 76 = .ok (.ireturn, 1) := by decide +kernel
theorem dX7_rapid_0 : decode cX7_rapid 0 = .ok (.iload_n 1, 1) := by decide +kernel
theorem dX7_rapid_1 : decode cX7_rapid 1 = .ok (.iconst 1, 1) := by decide +kernel
theorem dX7_rapid_2 : decode cX7_rapid 2 = .ok (.sipush 249, 3) := by decide +kernel
theorem dX7_rapid_5 : decode cX7_rapid 5 = .ok (.invokestatic 55, 3) := by decide +kernel
theorem dX7_rapid_8 : decode cX7_rapid 8 = .ok (.ifCond .eq 17, 3) := by decide +kernel
theorem dX7_rapid_11 : decode cX7_rapid 11 = .ok (.iload_n 2, 1) := by decide +kernel
theorem dX7_rapid_12 : decode cX7_rapid 12 = .ok (.invokestatic 83, 3) := by decide +kernel
theorem dX7_rapid_15 : decode cX7_rapid 15 = .ok (.ifCond .eq 10, 3) := by decide +kernel
theorem dX7_rapid_18 : decode cX7_rapid 18 = .ok (.iload_n 3, 1) := by decide +kernel
theorem dX7_rapid_19 : decode cX7_rapid 19 = .ok (.invokestatic 83, 3) := by decide +kernel
theorem dX7_rapid_22 : decode cX7_rapid 22 = .ok (.ifCond .ne 10, 3) := by decide +kernel
theorem dX7_rapid_25 : decode cX7_rapid 25 = .ok (.aload_n 0, 1) := by decide +kernel
theorem dX7_rapid_26 : decode cX7_rapid 26 = .ok (.ldc 59, 2) := by decide +kernel
theorem dX7_rapid_28 : decode cX7_rapid 28 = .ok (.invokevirtual 60, 3) := by decide +kernel
theorem dX7_rapid_31 : decode cX7_rapid 31 = .ok (.ireturn, 1) := by decide +kernel
theorem dX7_rapid_32 : decode cX7_rapid 32 = .ok (.iload_n 2, 1) := by decide +kernel
theorem dX7_rapid_33 : decode cX7_rapid 33 = .ok (.iload_n 3, 1) := by decide +kernel
theorem dX7_rapid_34 : decode cX7_rapid 34 = .ok (.if_icmp .le 10, 3) := by decide +kernel
theorem dX7_rapid_37 : decode cX7_rapid 37 = .ok (.aload_n 0, 1) := by decide +kernel
theorem dX7_rapid_38 : decode cX7_rapid 38 = .ok (.ldc 87, 2) := by decide +kernel
theorem dX7_rapid_40 : decode cX7_rapid 40 = .ok (.invokevirtual 60, 3) := by decide +kernel
theorem dX7_rapid_43 : decode cX7_rapid 43 = .ok (.ireturn, 1) := by decide +kernel
theorem dX7_rapid_44 : decode cX7_rapid 44 = .ok (.aload_n 0, 1) := by decide +kernel
theorem dX7_rapid_45 : decode cX7_rapid 45 = .ok (.getfield 10, 3) := by decide +kernel
theorem dX7_rapid_48 : decode cX7_rapid 48 = .ok (.getfield 72, 3) := by decide +kernel
theorem dX7_rapid_51 : decode cX7_rapid 51 = .ok (.iconst 1, 1) := by decide +kernel
theorem dX7_rapid_52 : decode cX7_rapid 52 = .ok (.iaload, 1) := by decide +kernel
theorem dX7_rapid_53 : decode cX7_rapid 53 = .ok (.istore 4, 2) := by decide +kernel
theorem dX7_rapid_55 : decode cX7_rapid 55 = .ok (.iload 4, 2) := by decide +kernel
theorem dX7_rapid_57 : decode cX7_rapid 57 = .ok (.bipush 10, 2) := by decide +kernel
theorem dX7_rapid_59 : decode cX7_rapid 59 = .ok (.if_icmp .lt 10, 3) := by decide +kernel
theorem dX7_rapid_62 : decode cX7_rapid 62 = .ok (.aload_n 0, 1) := by decide +kernel
theorem dX7_rapid_63 : decode cX7_rapid 63 = .ok (.ldc 75, 2) := by decide +kernel
theorem dX7_rapid_65 : decode cX7_rapid 65 = .ok (.invokevirtual 60, 3) := by decide +kernel
theorem dX7_rapid_68 : decode cX7_rapid 68 = .ok (.ireturn, 1) := by decide +kernel
theorem dX7_rapid_69 : decode cX7_rapid 69 = .ok (.aload_n 0, 1) := by decide +kernel
theorem dX7_rapid_70 : decode cX7_rapid 70 = .ok (.getfield 10, 3) := by decide +kernel
theorem dX7_rapid_73 : decode cX7_rapid 73 = .ok (.getfield 88, 3) := by decide +kernel
theorem dX7_rapid_76 : decode cX7_rapid 76 = .ok (.iload 4, 2) := by decide +kernel
theorem dX7_rapid_78 : decode cX7_rapid 78 = .ok (.iload_n 1, 1) := by decide +kernel
theorem dX7_rapid_79 : decode cX7_rapid 79 = .ok (.iastore, 1) := by decide +kernel
theorem dX7_rapid_80 : decode cX7_rapid 80 = .ok (.aload_n 0, 1) := by decide +kernel
theorem dX7_rapid_81 : decode cX7_rapid 81 = .ok (.getfield 10, 3) := by decide +kernel
theorem dX7_rapid_84 : decode cX7_rapid 84 = .ok (.getfield 91, 3) := by decide +kernel
theorem dX7_rapid_87 : decode cX7_rapid 87 = .ok (.iload 4, 2) := by decide +kernel
theorem dX7_rapid_89 : decode cX7_rapid 89 = .ok (.iload_n 2, 1) := by decide +kernel
theorem dX7_rapid_90 : decode cX7_rapid 90 = .ok (.iastore, 1) := by decide +kernel
theorem dX7_rapid_91 : decode cX7_rapid 91 = .ok (.aload_n 0, 1) := by decide +kernel
theorem dX7_rapid_92 : decode cX7_rapid 92 = .ok (.getfield 10, 3) := by decide +kernel
theorem dX7_rapid_95 : decode cX7_rapid 95 = .ok (.getfield 94, 3) := by decide +kernel
theorem dX7_rapid_98 : decode cX7_rapid 98 = .ok (.iload 4, 2) := by decide +kernel
theorem dX7_rapid_100 : decode cX7_rapid 100 = .ok (.iload_n 3, 1) := by decide +kernel
theorem dX7_rapid_101 : decode cX7_rapid 101 = .ok (.iastore, 1) := by decide +kernel
theorem dX7_rapid_102 : decode cX7_rapid 102 = .ok (.aload_n 0, 1) := by decide +kernel
theorem dX7_rapid_103 : decode cX7_rapid 103 = .ok (.aload_n 0, 1) := by decide +kernel
theorem dX7_rapid_104 : decode cX7_rapid 104 = .ok (.getfield 10, 3) := by decide +kernel
theorem dX7_rapid_107 : decode cX7_rapid 107 = .ok (.getfield 72, 3) := by decide +kernel
theorem dX7_rapid_110 : decode cX7_rapid 110 = .ok (.iconst 1, 1) := by decide +kernel
theorem dX7_rapid_111 : decode cX7_rapid 111 = .ok (.iload 4, 2) := by decide +kernel
theorem dX7_rapid_113 : decode cX7_rapid 113 = .ok (.iconst 1, 1) := by decide +kernel
theorem dX7_rapid_114 : decode cX7_rapid 114 = .ok (.iadd, 1) := by decide +kernel
theorem dX7_rapid_115 : decode cX7_rapid 115 = .ok (.invokevirtual 68, 3) := by decide +kernel
theorem dX7_rapid_118 : decode cX7_rapid 118 = .ok (.ireturn, 1) := by decide +kernel
theorem dX7_landing_0 : decode cX7_landing 0 = .ok (.iload_n 1, 1) := by decide +kernel
theorem dX7_landing_1 : decode cX7_landing 1 = .ok (.invokestatic 97, 3) := by decide +kernel
theorem dX7_landing_4 : decode cX7_landing 4 = .ok (.ifCond .ne 10, 3) := by decide +kernel
theorem dX7_landing_7 : decode cX7_landing 7 = .ok (.aload_n 0, 1) := by decide +kernel
theorem dX7_landing_8 : decode cX7_landing 8 = .ok (.ldc 59, 2) := by decide +kernel
theorem dX7_landing_10 : decode cX7_landing 10 = .ok (.invokevirtual 60, 3) := by decide +kernel
theorem dX7_landing_13 : decode cX7_landing 13 = .ok (.ireturn, 1) := by decide +kernel
theorem dX7_landing_14 : decode cX7_landing 14 = .ok (.aload_n 0, 1) := by decide +kernel
theorem dX7_landing_15 : decode cX7_landing 15 = .ok (.getfield 10, 3) := by decide +kernel
theorem dX7_landing_18 : decode cX7_landing 18 = .ok (.getfield 72, 3) := by decide +kernel
theorem dX7_landing_21 : decode cX7_landing 21 = .ok (.iconst 2, 1) := by decide +kernel
theorem dX7_landing_22 : decode cX7_landing 22 = .ok (.iaload, 1) := by decide +kernel
theorem dX7_landing_23 : decode cX7_landing 23 = .ok (.istore_n 2, 1) := by decide +kernel
theorem dX7_landing_24 : decode cX7_landing 24 = .ok (.iload_n 2, 1) := by decide +kernel
theorem dX7_landing_25 : decode cX7_landing 25 = .ok (.bipush 8, 2) := by decide +kernel
theorem dX7_landing_27 : decode cX7_landing 27 = .ok (.if_icmp .lt 10, 3) := by decide +kernel
theorem dX7_landing_30 : decode cX7_landing 30 = .ok (.aload_n 0, 1) := by decide +kernel
theorem dX7_landing_31 : decode cX7_landing 31 = .ok (.ldc 75, 2) := by decide +kernel
theorem dX7_landing_33 : decode cX7_landing 33 = .ok (.invokevirtual 60, 3) := by decide +kernel
theorem dX7_landing_36 : decode cX7_landing 36 = .ok (.ireturn, 1) := by decide +kernel
theorem dX7_landing_37 : decode cX7_landing 37 = .ok (.aload_n 0, 1) := by decide +kernel
theorem dX7_landing_38 : decode cX7_landing 38 = .ok (.getfield 10, 3) := by decide +kernel
theorem dX7_landing_41 : decode cX7_landing 41 = .ok (.getfield 100, 3) := by decide +kernel
theorem dX7_landing_44 : decode cX7_landing 44 = .ok (.iload_n 2, 1) := by decide +kernel
theorem dX7_landing_45 : decode cX7_landing 45 = .ok (.iload_n 1, 1) := by decide +kernel
theorem dX7_landing_46 : decode cX7_landing 46 = .ok (.iastore, 1) := by decide +kernel
theorem dX7_landing_47 : decode cX7_landing 47 = .ok (.aload_n 0, 1) := by decide +kernel
theorem dX7_landing_48 : decode cX7_landing 48 = .ok (.aload_n 0, 1) := by decide +kernel
theorem dX7_landing_49 : decode cX7_landing 49 = .ok (.getfield 10, 3) := by decide +kernel
theorem dX7_landing_52 : decode cX7_landing 52 = .ok (.getfield 72, 3) := by decide +kernel
theorem dX7_landing_55 : decode cX7_landing 55 = .ok (.iconst 2, 1) := by decide +kernel
theorem dX7_landing_56 : decode cX7_landing 56 = .ok (.iload_n 2, 1) := by decide +kernel
theorem dX7_landing_57 : decode cX7_landing 57 = .ok (.iconst 1, 1) := by decide +kernel
theorem dX7_landing_58 : decode cX7_landing 58 = .ok (.iadd, 1) := by decide +kernel
theorem dX7_landing_59 : decode cX7_landing 59 = .ok (.invokevirtual 68, 3) := by decide +kernel
theorem dX7_landing_62 : decode cX7_landing 62 = .ok (.iconst 1, 1) := by decide +kernel
theorem dX7_landing_63 : decode cX7_landing 63 = .ok (.iadd, 1) := by decide +kernel
theorem dX7_landing_64 : decode cX7_landing 64 = .ok (.ireturn, 1) := by decide +kernel
theorem dX7_speed_0 : decode cX7_speed 0 = .ok (.iload_n 1, 1) := by decide +kernel
theorem dX7_speed_1 : decode cX7_speed 1 = .ok (.iconst 1, 1) := by decide +kernel
theorem dX7_speed_2 : decode cX7_speed 2 = .ok (.bipush 9, 2) := by decide +kernel
theorem dX7_speed_4 : decode cX7_speed 4 = .ok (.invokestatic 55, 3) := by decide +kernel
theorem dX7_speed_7 : decode cX7_speed 7 = .ok (.ifCond .ne 10, 3) := by decide +kernel
theorem dX7_speed_10 : decode cX7_speed 10 = .ok (.aload_n 0, 1) := by decide +kernel
theorem dX7_speed_11 : decode cX7_speed 11 = .ok (.ldc 59, 2) := by decide +kernel
theorem dX7_speed_13 : decode cX7_speed 13 = .ok (.invokevirtual 60, 3) := by decide +kernel
theorem dX7_speed_16 : decode cX7_speed 16 = .ok (.ireturn, 1) := by decide +kernel
theorem dX7_speed_17 : decode cX7_speed 17 = .ok (.aload_n 0, 1) := by decide +kernel
theorem dX7_speed_18 : decode cX7_speed 18 = .ok (.aload_n 0, 1) := by decide +kernel
theorem dX7_speed_19 : decode cX7_speed 19 = .ok (.getfield 10, 3) := by decide +kernel
theorem dX7_speed_22 : decode cX7_speed 22 = .ok (.getfield 64, 3) := by decide +kernel
theorem dX7_speed_25 : decode cX7_speed 25 = .ok (.iconst 1, 1) := by decide +kernel
theorem dX7_speed_26 : decode cX7_speed 26 = .ok (.iload_n 1, 1) := by decide +kernel
theorem dX7_speed_27 : decode cX7_speed 27 = .ok (.invokevirtual 68, 3) := by decide +kernel
theorem dX7_speed_30 : decode cX7_speed 30 = .ok (.ireturn, 1) := by decide +kernel
theorem dX7_water_0 : decode cX7_water 0 = .ok (.iload_n 1, 1) := by decide +kernel
theorem dX7_water_1 : decode cX7_water 1 = .ok (.invokestatic 103, 3) := by decide +kernel
theorem dX7_water_4 : decode cX7_water 4 = .ok (.ifCond .eq 19, 3) := by decide +kernel
theorem dX7_water_7 : decode cX7_water 7 = .ok (.iload_n 2, 1) := by decide +kernel
theorem dX7_water_8 : decode cX7_water 8 = .ok (.iconst 0, 1) := by decide +kernel
theorem dX7_water_9 : decode cX7_water 9 = .ok (.iconst 3, 1) := by decide +kernel
theorem dX7_water_10 : decode cX7_water 10 = .ok (.invokestatic 55, 3) := by decide +kernel
theorem dX7_water_13 : decode cX7_water 13 = .ok (.ifCond .eq 10, 3) := by decide +kernel
theorem dX7_water_16 : decode cX7_water 16 = .ok (.iload_n 3, 1) := by decide +kernel
theorem dX7_water_17 : decode cX7_water 17 = .ok (.invokestatic 83, 3) := by decide +kernel
theorem dX7_water_20 : decode cX7_water 20 = .ok (.ifCond .ne 10, 3) := by decide +kernel
theorem dX7_water_23 : decode cX7_water 23 = .ok (.aload_n 0, 1) := by decide +kernel
theorem dX7_water_24 : decode cX7_water 24 = .ok (.ldc 59, 2) := by decide +kernel
theorem dX7_water_26 : decode cX7_water 26 = .ok (.invokevirtual 60, 3) := by decide +kernel
theorem dX7_water_29 : decode cX7_water 29 = .ok (.ireturn, 1) := by decide +kernel
theorem dX7_water_30 : decode cX7_water 30 = .ok (.aload_n 0, 1) := by decide +kernel
theorem dX7_water_31 : decode cX7_water 31 = .ok (.aload_n 0, 1) := by decide +kernel
theorem dX7_water_32 : decode cX7_water 32 = .ok (.getfield 10, 3) := by decide +kernel
theorem dX7_water_35 : decode cX7_water 35 = .ok (.getfield 106, 3) := by decide +kernel
theorem dX7_water_38 : decode cX7_water 38 = .ok (.iload_n 1, 1) := by decide +kernel
theorem dX7_water_39 : decode cX7_water 39 = .ok (.iconst 4, 1) := by decide +kernel
theorem dX7_water_40 : decode cX7_water 40 = .ok (.imul, 1) := by decide +kernel
theorem dX7_water_41 : decode cX7_water 41 = .ok (.iload_n 2, 1) := by decide +kernel
theorem dX7_water_42 : decode cX7_water 42 = .ok (.iadd, 1) := by decide +kernel
theorem dX7_water_43 : decode cX7_water 43 = .ok (.iload_n 3, 1) := by decide +kernel
theorem dX7_water_44 : decode cX7_water 44 = .ok (.invokevirtual 68, 3) := by decide +kernel
theorem dX7_water_47 : decode cX7_water 47 = .ok (.ireturn, 1) := by decide +kernel
theorem dX7_waterAt_0 : decode cX7_waterAt 0 = .ok (.iload_n 1, 1) := by decide +kernel
theorem dX7_waterAt_1 : decode cX7_waterAt 1 = .ok (.invokestatic 97, 3) := by decide +kernel
theorem dX7_waterAt_4 : decode cX7_waterAt 4 = .ok (.ifCond .eq 20, 3) := by decide +kernel
theorem dX7_waterAt_7 : decode cX7_waterAt 7 = .ok (.iload_n 2, 1) := by decide +kernel
theorem dX7_waterAt_8 : decode cX7_waterAt 8 = .ok (.invokestatic 103, 3) := by decide +kernel
theorem dX7_waterAt_11 : decode cX7_waterAt 11 = .ok (.ifCond .eq 13, 3) := by decide +kernel
theorem dX7_waterAt_14 : decode cX7_waterAt 14 = .ok (.iload_n 3, 1) := by decide +kernel
theorem dX7_waterAt_15 : decode cX7_waterAt 15 = .ok (.iconst 0, 1) := by decide +kernel
theorem dX7_waterAt_16 : decode cX7_waterAt 16 = .ok (.bipush 23, 2) := by decide +kernel
theorem dX7_waterAt_18 : decode cX7_waterAt 18 = .ok (.invokestatic 55, 3) := by decide +kernel
theorem dX7_waterAt_21 : decode cX7_waterAt 21 = .ok (.ifCond .ne 10, 3) := by decide +kernel
theorem dX7_waterAt_24 : decode cX7_waterAt 24 = .ok (.aload_n 0, 1) := by decide +kernel
theorem dX7_waterAt_25 : decode cX7_waterAt 25 = .ok (.ldc 59, 2) := by decide +kernel
theorem dX7_waterAt_27 : decode cX7_waterAt 27 = .ok (.invokevirtual 60, 3) := by decide +kernel
theorem dX7_waterAt_30 : decode cX7_waterAt 30 = .ok (.ireturn, 1) := by decide +kernel
theorem dX7_waterAt_31 : decode cX7_waterAt 31 = .ok (.aload_n 0, 1) := by decide +kernel
theorem dX7_waterAt_32 : decode cX7_waterAt 32 = .ok (.getfield 10, 3) := by decide +kernel
theorem dX7_waterAt_35 : decode cX7_waterAt 35 = .ok (.iload_n 1, 1) := by decide +kernel
theorem dX7_waterAt_36 : decode cX7_waterAt 36 = .ok (.iload_n 2, 1) := by decide +kernel
theorem dX7_waterAt_37 : decode cX7_waterAt 37 = .ok (.iload_n 3, 1) := by decide +kernel
theorem dX7_waterAt_38 : decode cX7_waterAt 38 = .ok (.invokevirtual 109, 3) := by decide +kernel
theorem dX7_waterAt_41 : decode cX7_waterAt 41 = .ok (.ireturn, 1) := by decide +kernel
theorem dX7_runs_0 : decode cX7_runs 0 = .ok (.iload_n 1, 1) := by decide +kernel
theorem dX7_runs_1 : decode cX7_runs 1 = .ok (.iconst 0, 1) := by decide +kernel
theorem dX7_runs_2 : decode cX7_runs 2 = .ok (.aload_n 0, 1) := by decide +kernel
theorem dX7_runs_3 : decode cX7_runs 3 = .ok (.getfield 10, 3) := by decide +kernel
theorem dX7_runs_6 : decode cX7_runs 6 = .ok (.getfield 72, 3) := by decide +kernel
theorem dX7_runs_9 : decode cX7_runs 9 = .ok (.iconst 1, 1) := by decide +kernel
theorem dX7_runs_10 : decode cX7_runs 10 = .ok (.iaload, 1) := by decide +kernel
theorem dX7_runs_11 : decode cX7_runs 11 = .ok (.iconst 1, 1) := by decide +kernel
theorem dX7_runs_12 : decode cX7_runs 12 = .ok (.isub, 1) := by decide +kernel
theorem dX7_runs_13 : decode cX7_runs 13 = .ok (.invokestatic 55, 3) := by decide +kernel
theorem dX7_runs_16 : decode cX7_runs 16 = .ok (.ifCond .eq 17, 3) := by decide +kernel
theorem dX7_runs_19 : decode cX7_runs 19 = .ok (.iload_n 2, 1) := by decide +kernel
theorem dX7_runs_20 : decode cX7_runs 20 = .ok (.invokestatic 103, 3) := by decide +kernel
theorem dX7_runs_23 : decode cX7_runs 23 = .ok (.ifCond .eq 10, 3) := by decide +kernel
theorem dX7_runs_26 : decode cX7_runs 26 = .ok (.iload_n 3, 1) := by decide +kernel
theorem dX7_runs_27 : decode cX7_runs 27 = .ok (.invokestatic 113, 3) := by decide +kernel
theorem dX7_runs_30 : decode cX7_runs 30 = .ok (.ifCond .ne 10, 3) := by decide +kernel
theorem dX7_runs_33 : decode cX7_runs 33 = .ok (.aload_n 0, 1) := by decide +kernel
theorem dX7_runs_34 : decode cX7_runs 34 = .ok (.ldc 59, 2) := by decide +kernel
theorem dX7_runs_36 : decode cX7_runs 36 = .ok (.invokevirtual 60, 3) := by decide +kernel
theorem dX7_runs_39 : decode cX7_runs 39 = .ok (.ireturn, 1) := by decide +kernel
theorem dX7_runs_40 : decode cX7_runs 40 = .ok (.aload_n 0, 1) := by decide +kernel
theorem dX7_runs_41 : decode cX7_runs 41 = .ok (.getfield 10, 3) := by decide +kernel
theorem dX7_runs_44 : decode cX7_runs 44 = .ok (.iload_n 1, 1) := by decide +kernel
theorem dX7_runs_45 : decode cX7_runs 45 = .ok (.iload_n 2, 1) := by decide +kernel
theorem dX7_runs_46 : decode cX7_runs 46 = .ok (.iload_n 3, 1) := by decide +kernel
theorem dX7_runs_47 : decode cX7_runs 47 = .ok (.invokevirtual 116, 3) := by decide +kernel
theorem dX7_runs_50 : decode cX7_runs 50 = .ok (.ireturn, 1) := by decide +kernel
theorem dX7_trip_0 : decode cX7_trip 0 = .ok (.iload_n 1, 1) := by decide +kernel
theorem dX7_trip_1 : decode cX7_trip 1 = .ok (.invokestatic 113, 3) := by decide +kernel
theorem dX7_trip_4 : decode cX7_trip 4 = .ok (.ifCond .eq 41, 3) := by decide +kernel
theorem dX7_trip_7 : decode cX7_trip 7 = .ok (.iload_n 2, 1) := by decide +kernel
theorem dX7_trip_8 : decode cX7_trip 8 = .ok (.invokestatic 103, 3) := by decide +kernel
theorem dX7_trip_11 : decode cX7_trip 11 = .ok (.ifCond .eq 34, 3) := by decide +kernel
theorem dX7_trip_14 : decode cX7_trip 14 = .ok (.iload_n 3, 1) := by decide +kernel
theorem dX7_trip_15 : decode cX7_trip 15 = .ok (.iconst 1, 1) := by decide +kernel
theorem dX7_trip_16 : decode cX7_trip 16 = .ok (.bipush 60, 2) := by decide +kernel
theorem dX7_trip_18 : decode cX7_trip 18 = .ok (.invokestatic 55, 3) := by decide +kernel
theorem dX7_trip_21 : decode cX7_trip 21 = .ok (.ifCond .eq 24, 3) := by decide +kernel
theorem dX7_trip_24 : decode cX7_trip 24 = .ok (.iload 4, 2) := by decide +kernel
theorem dX7_trip_26 : decode cX7_trip 26 = .ok (.iconst 1, 1) := by decide +kernel
theorem dX7_trip_27 : decode cX7_trip 27 = .ok (.bipush 15, 2) := by decide +kernel
theorem dX7_trip_29 : decode cX7_trip 29 = .ok (.invokestatic 55, 3) := by decide +kernel
theorem dX7_trip_32 : decode cX7_trip 32 = .ok (.ifCond .eq 13, 3) := by decide +kernel
theorem dX7_trip_35 : decode cX7_trip 35 = .ok (.iload 5, 2) := by decide +kernel
theorem dX7_trip_37 : decode cX7_trip 37 = .ok (.iconst 0, 1) := by decide +kernel
theorem dX7_trip_38 : decode cX7_trip 38 = .ok (.iconst 2, 1) := by decide +kernel
theorem dX7_trip_39 : decode cX7_trip 39 = .ok (.invokestatic 55, 3) := by decide +kernel
theorem dX7_trip_42 : decode cX7_trip 42 = .ok (.ifCond .ne 10, 3) := by decide +kernel
theorem dX7_trip_45 : decode cX7_trip 45 = .ok (.aload_n 0, 1) := by decide +kernel
theorem dX7_trip_46 : decode cX7_trip 46 = .ok (.ldc 59, 2) := by decide +kernel
theorem dX7_trip_48 : decode cX7_trip 48 = .ok (.invokevirtual 60, 3) := by decide +kernel
theorem dX7_trip_51 : decode cX7_trip 51 = .ok (.ireturn, 1) := by decide +kernel
theorem dX7_trip_52 : decode cX7_trip 52 = .ok (.aload_n 0, 1) := by decide +kernel
theorem dX7_trip_53 : decode cX7_trip 53 = .ok (.getfield 19, 3) := by decide +kernel
theorem dX7_trip_56 : decode cX7_trip 56 = .ok (.invokevirtual 119, 3) := by decide +kernel
theorem dX7_trip_59 : decode cX7_trip 59 = .ok (.istore 6, 2) := by decide +kernel
theorem dX7_trip_61 : decode cX7_trip 61 = .ok (.iload 6, 2) := by decide +kernel
theorem dX7_trip_63 : decode cX7_trip 63 = .ok (.bipush 10, 2) := by decide +kernel
theorem dX7_trip_65 : decode cX7_trip 65 = .ok (.if_icmp .lt 10, 3) := by decide +kernel
theorem dX7_trip_68 : decode cX7_trip 68 = .ok (.aload_n 0, 1) := by decide +kernel
theorem dX7_trip_69 : decode cX7_trip 69 = .ok (.ldc 75, 2) := by decide +kernel
theorem dX7_trip_71 : decode cX7_trip 71 = .ok (.invokevirtual 60, 3) := by decide +kernel
end
section
theorem dX7_trip_74 : decode cX7_trip 74 = .ok (.ireturn, 1) := by decide +kernel
theorem dX7_trip_75 : decode cX7_trip 75 = .ok (.aload_n 0, 1) := by decide +kernel
theorem dX7_trip_76 : decode cX7_trip 76 = .ok (.getfield 19, 3) := by decide +kernel
theorem dX7_trip_79 : decode cX7_trip 79 = .ok (.iload 6, 2) := by decide +kernel
theorem dX7_trip_81 : decode cX7_trip 81 = .ok (.iconst 0, 1) := by decide +kernel
theorem dX7_trip_82 : decode cX7_trip 82 = .ok (.iload_n 1, 1) := by decide +kernel
theorem dX7_trip_83 : decode cX7_trip 83 = .ok (.invokevirtual 123, 3) := by decide +kernel
theorem dX7_trip_86 : decode cX7_trip 86 = .ok (.aload_n 0, 1) := by decide +kernel
theorem dX7_trip_87 : decode cX7_trip 87 = .ok (.getfield 19, 3) := by decide +kernel
theorem dX7_trip_90 : decode cX7_trip 90 = .ok (.iload 6, 2) := by decide +kernel
theorem dX7_trip_92 : decode cX7_trip 92 = .ok (.iconst 1, 1) := by decide +kernel
theorem dX7_trip_93 : decode cX7_trip 93 = .ok (.iload_n 2, 1) := by decide +kernel
theorem dX7_trip_94 : decode cX7_trip 94 = .ok (.invokevirtual 123, 3) := by decide +kernel
theorem dX7_trip_97 : decode cX7_trip 97 = .ok (.aload_n 0, 1) := by decide +kernel
theorem dX7_trip_98 : decode cX7_trip 98 = .ok (.getfield 19, 3) := by decide +kernel
theorem dX7_trip_101 : decode cX7_trip 101 = .ok (.iload 6, 2) := by decide +kernel
theorem dX7_trip_103 : decode cX7_trip 103 = .ok (.iconst 2, 1) := by decide +kernel
theorem dX7_trip_104 : decode cX7_trip 104 = .ok (.iload_n 3, 1) := by decide +kernel
theorem dX7_trip_105 : decode cX7_trip 105 = .ok (.invokevirtual 123, 3) := by decide +kernel
theorem dX7_trip_108 : decode cX7_trip 108 = .ok (.aload_n 0, 1) := by decide +kernel
theorem dX7_trip_109 : decode cX7_trip 109 = .ok (.getfield 19, 3) := by decide +kernel
theorem dX7_trip_112 : decode cX7_trip 112 = .ok (.iload 6, 2) := by decide +kernel
theorem dX7_trip_114 : decode cX7_trip 114 = .ok (.iconst 3, 1) := by decide +kernel
theorem dX7_trip_115 : decode cX7_trip 115 = .ok (.iload 4, 2) := by decide +kernel
theorem dX7_trip_117 : decode cX7_trip 117 = .ok (.invokevirtual 123, 3) := by decide +kernel
theorem dX7_trip_120 : decode cX7_trip 120 = .ok (.aload_n 0, 1) := by decide +kernel
theorem dX7_trip_121 : decode cX7_trip 121 = .ok (.getfield 19, 3) := by decide +kernel
theorem dX7_trip_124 : decode cX7_trip 124 = .ok (.iload 6, 2) := by decide +kernel
theorem dX7_trip_126 : decode cX7_trip 126 = .ok (.iconst 4, 1) := by decide +kernel
theorem dX7_trip_127 : decode cX7_trip 127 = .ok (.iload 5, 2) := by decide +kernel
theorem dX7_trip_129 : decode cX7_trip 129 = .ok (.invokevirtual 123, 3) := by decide +kernel
theorem dX7_trip_132 : decode cX7_trip 132 = .ok (.aload_n 0, 1) := by decide +kernel
theorem dX7_trip_133 : decode cX7_trip 133 = .ok (.getfield 19, 3) := by decide +kernel
theorem dX7_trip_136 : decode cX7_trip 136 = .ok (.iload 6, 2) := by decide +kernel
theorem dX7_trip_138 : decode cX7_trip 138 = .ok (.invokevirtual 127, 3) := by decide +kernel
theorem dX7_trip_141 : decode cX7_trip 141 = .ok (.aload_n 0, 1) := by decide +kernel
theorem dX7_trip_142 : decode cX7_trip 142 = .ok (.aload_n 0, 1) := by decide +kernel
theorem dX7_trip_143 : decode cX7_trip 143 = .ok (.getfield 19, 3) := by decide +kernel
theorem dX7_trip_146 : decode cX7_trip 146 = .ok (.getfield 131, 3) := by decide +kernel
theorem dX7_trip_149 : decode cX7_trip 149 = .ok (.iconst 0, 1) := by decide +kernel
theorem dX7_trip_150 : decode cX7_trip 150 = .ok (.iload 6, 2) := by decide +kernel
theorem dX7_trip_152 : decode cX7_trip 152 = .ok (.iconst 1, 1) := by decide +kernel
theorem dX7_trip_153 : decode cX7_trip 153 = .ok (.iadd, 1) := by decide +kernel
theorem dX7_trip_154 : decode cX7_trip 154 = .ok (.invokevirtual 68, 3) := by decide +kernel
theorem dX7_trip_157 : decode cX7_trip 157 = .ok (.ireturn, 1) := by decide +kernel
theorem dX7_as_0 : decode cX7_as 0 = .ok (.aload_n 0, 1) := by decide +kernel
theorem dX7_as_1 : decode cX7_as 1 = .ok (.iload_n 1, 1) := by decide +kernel
theorem dX7_as_2 : decode cX7_as 2 = .ok (.invokevirtual 134, 3) := by decide +kernel
theorem dX7_as_5 : decode cX7_as 5 = .ok (.ifCond .eq 10, 3) := by decide +kernel
theorem dX7_as_8 : decode cX7_as 8 = .ok (.iload_n 2, 1) := by decide +kernel
theorem dX7_as_9 : decode cX7_as 9 = .ok (.invokestatic 113, 3) := by decide +kernel
theorem dX7_as_12 : decode cX7_as 12 = .ok (.ifCond .ne 10, 3) := by decide +kernel
theorem dX7_as_15 : decode cX7_as 15 = .ok (.aload_n 0, 1) := by decide +kernel
theorem dX7_as_16 : decode cX7_as 16 = .ok (.ldc 59, 2) := by decide +kernel
theorem dX7_as_18 : decode cX7_as 18 = .ok (.invokevirtual 60, 3) := by decide +kernel
theorem dX7_as_21 : decode cX7_as 21 = .ok (.ireturn, 1) := by decide +kernel
theorem dX7_as_22 : decode cX7_as 22 = .ok (.aload_n 0, 1) := by decide +kernel
theorem dX7_as_23 : decode cX7_as 23 = .ok (.getfield 19, 3) := by decide +kernel
theorem dX7_as_26 : decode cX7_as 26 = .ok (.iload_n 1, 1) := by decide +kernel
theorem dX7_as_27 : decode cX7_as 27 = .ok (.iconst 0, 1) := by decide +kernel
theorem dX7_as_28 : decode cX7_as 28 = .ok (.invokevirtual 137, 3) := by decide +kernel
theorem dX7_as_31 : decode cX7_as 31 = .ok (.istore_n 3, 1) := by decide +kernel
theorem dX7_as_32 : decode cX7_as 32 = .ok (.iconst 0, 1) := by decide +kernel
theorem dX7_as_33 : decode cX7_as 33 = .ok (.istore 4, 2) := by decide +kernel
theorem dX7_as_35 : decode cX7_as 35 = .ok (.iload 4, 2) := by decide +kernel
theorem dX7_as_37 : decode cX7_as 37 = .ok (.iconst 4, 1) := by decide +kernel
theorem dX7_as_38 : decode cX7_as 38 = .ok (.if_icmp .ge 27, 3) := by decide +kernel
theorem dX7_as_41 : decode cX7_as 41 = .ok (.iload_n 3, 1) := by decide +kernel
theorem dX7_as_42 : decode cX7_as 42 = .ok (.iload_n 2, 1) := by decide +kernel
theorem dX7_as_43 : decode cX7_as 43 = .ok (.if_icmp .eq 22, 3) := by decide +kernel
theorem dX7_as_46 : decode cX7_as 46 = .ok (.iload_n 3, 1) := by decide +kernel
theorem dX7_as_47 : decode cX7_as 47 = .ok (.invokestatic 113, 3) := by decide +kernel
theorem dX7_as_50 : decode cX7_as 50 = .ok (.ifCond .eq 15, 3) := by decide +kernel
theorem dX7_as_53 : decode cX7_as 53 = .ok (.getstatic 141, 3) := by decide +kernel
theorem dX7_as_56 : decode cX7_as 56 = .ok (.iload_n 3, 1) := by decide +kernel
theorem dX7_as_57 : decode cX7_as 57 = .ok (.iaload, 1) := by decide +kernel
theorem dX7_as_58 : decode cX7_as 58 = .ok (.istore_n 3, 1) := by decide +kernel
theorem dX7_as_59 : decode cX7_as 59 = .ok (.iinc 4 1, 3) := by decide +kernel
theorem dX7_as_62 : decode cX7_as 62 = .ok (.goto (-27), 3) := by decide +kernel
theorem dX7_as_65 : decode cX7_as 65 = .ok (.iload_n 3, 1) := by decide +kernel
theorem dX7_as_66 : decode cX7_as 66 = .ok (.iload_n 2, 1) := by decide +kernel
theorem dX7_as_67 : decode cX7_as 67 = .ok (.if_icmp .ne 7, 3) := by decide +kernel
theorem dX7_as_70 : decode cX7_as 70 = .ok (.iload_n 1, 1) := by decide +kernel
theorem dX7_as_71 : decode cX7_as 71 = .ok (.goto 9, 3) := by decide +kernel
theorem dX7_as_74 : decode cX7_as 74 = .ok (.aload_n 0, 1) := by decide +kernel
theorem dX7_as_75 : decode cX7_as 75 = .ok (.ldc 144, 2) := by decide +kernel
theorem dX7_as_77 : decode cX7_as 77 = .ok (.invokevirtual 60, 3) := by decide +kernel
theorem dX7_as_80 : decode cX7_as 80 = .ok (.ireturn, 1) := by decide +kernel
theorem dX7_of_0 : decode cX7_of 0 = .ok (.aload_n 0, 1) := by decide +kernel
theorem dX7_of_1 : decode cX7_of 1 = .ok (.iload_n 1, 1) := by decide +kernel
theorem dX7_of_2 : decode cX7_of 2 = .ok (.invokevirtual 134, 3) := by decide +kernel
theorem dX7_of_5 : decode cX7_of 5 = .ok (.ifCond .eq 12, 3) := by decide +kernel
theorem dX7_of_8 : decode cX7_of 8 = .ok (.iload_n 2, 1) := by decide +kernel
theorem dX7_of_9 : decode cX7_of 9 = .ok (.iconst 0, 1) := by decide +kernel
theorem dX7_of_10 : decode cX7_of 10 = .ok (.iconst 5, 1) := by decide +kernel
theorem dX7_of_11 : decode cX7_of 11 = .ok (.invokestatic 55, 3) := by decide +kernel
theorem dX7_of_14 : decode cX7_of 14 = .ok (.ifCond .ne 10, 3) := by decide +kernel
theorem dX7_of_17 : decode cX7_of 17 = .ok (.aload_n 0, 1) := by decide +kernel
theorem dX7_of_18 : decode cX7_of 18 = .ok (.ldc 59, 2) := by decide +kernel
theorem dX7_of_20 : decode cX7_of 20 = .ok (.invokevirtual 60, 3) := by decide +kernel
theorem dX7_of_23 : decode cX7_of 23 = .ok (.ireturn, 1) := by decide +kernel
theorem dX7_of_24 : decode cX7_of 24 = .ok (.iload_n 2, 1) := by decide +kernel
theorem dX7_of_25 : decode cX7_of 25 = .ok (.iconst 5, 1) := by decide +kernel
theorem dX7_of_26 : decode cX7_of 26 = .ok (.if_icmp .ge 15, 3) := by decide +kernel
theorem dX7_of_29 : decode cX7_of 29 = .ok (.aload_n 0, 1) := by decide +kernel
theorem dX7_of_30 : decode cX7_of 30 = .ok (.getfield 19, 3) := by decide +kernel
theorem dX7_of_33 : decode cX7_of 33 = .ok (.iload_n 1, 1) := by decide +kernel
theorem dX7_of_34 : decode cX7_of 34 = .ok (.iload_n 2, 1) := by decide +kernel
theorem dX7_of_35 : decode cX7_of 35 = .ok (.invokevirtual 137, 3) := by decide +kernel
theorem dX7_of_38 : decode cX7_of 38 = .ok (.goto 11, 3) := by decide +kernel
theorem dX7_of_41 : decode cX7_of 41 = .ok (.aload_n 0, 1) := by decide +kernel
theorem dX7_of_42 : decode cX7_of 42 = .ok (.getfield 19, 3) := by decide +kernel
theorem dX7_of_45 : decode cX7_of 45 = .ok (.iload_n 1, 1) := by decide +kernel
theorem dX7_of_46 : decode cX7_of 46 = .ok (.invokevirtual 145, 3) := by decide +kernel
theorem dX7_of_49 : decode cX7_of 49 = .ok (.ireturn, 1) := by decide +kernel
theorem dX7_launch_0 : decode cX7_launch 0 = .ok (.aload_n 0, 1) := by decide +kernel
theorem dX7_launch_1 : decode cX7_launch 1 = .ok (.iload_n 1, 1) := by decide +kernel
theorem dX7_launch_2 : decode cX7_launch 2 = .ok (.invokevirtual 134, 3) := by decide +kernel
theorem dX7_launch_5 : decode cX7_launch 5 = .ok (.ifCond .eq 10, 3) := by decide +kernel
theorem dX7_launch_8 : decode cX7_launch 8 = .ok (.iload_n 2, 1) := by decide +kernel
theorem dX7_launch_9 : decode cX7_launch 9 = .ok (.invokestatic 103, 3) := by decide +kernel
theorem dX7_launch_12 : decode cX7_launch 12 = .ok (.ifCond .ne 10, 3) := by decide +kernel
theorem dX7_launch_15 : decode cX7_launch 15 = .ok (.aload_n 0, 1) := by decide +kernel
theorem dX7_launch_16 : decode cX7_launch 16 = .ok (.ldc 59, 2) := by decide +kernel
theorem dX7_launch_18 : decode cX7_launch 18 = .ok (.invokevirtual 60, 3) := by decide +kernel
theorem dX7_launch_21 : decode cX7_launch 21 = .ok (.ireturn, 1) := by decide +kernel
theorem dX7_launch_22 : decode cX7_launch 22 = .ok (.aload_n 0, 1) := by decide +kernel
theorem dX7_launch_23 : decode cX7_launch 23 = .ok (.iload_n 1, 1) := by decide +kernel
theorem dX7_launch_24 : decode cX7_launch 24 = .ok (.iconst 1, 1) := by decide +kernel
theorem dX7_launch_25 : decode cX7_launch 25 = .ok (.invokevirtual 148, 3) := by decide +kernel
theorem dX7_launch_28 : decode cX7_launch 28 = .ok (.aload_n 0, 1) := by decide +kernel
theorem dX7_launch_29 : decode cX7_launch 29 = .ok (.getfield 19, 3) := by decide +kernel
theorem dX7_launch_32 : decode cX7_launch 32 = .ok (.iload_n 1, 1) := by decide +kernel
theorem dX7_launch_33 : decode cX7_launch 33 = .ok (.iconst 1, 1) := by decide +kernel
theorem dX7_launch_34 : decode cX7_launch 34 = .ok (.invokevirtual 137, 3) := by decide +kernel
theorem dX7_launch_37 : decode cX7_launch 37 = .ok (.istore_n 3, 1) := by decide +kernel
theorem dX7_launch_38 : decode cX7_launch 38 = .ok (.aload_n 0, 1) := by decide +kernel
theorem dX7_launch_39 : decode cX7_launch 39 = .ok (.getfield 19, 3) := by decide +kernel
theorem dX7_launch_42 : decode cX7_launch 42 = .ok (.iload_n 1, 1) := by decide +kernel
theorem dX7_launch_43 : decode cX7_launch 43 = .ok (.iconst 1, 1) := by decide +kernel
theorem dX7_launch_44 : decode cX7_launch 44 = .ok (.iload_n 2, 1) := by decide +kernel
theorem dX7_launch_45 : decode cX7_launch 45 = .ok (.invokevirtual 123, 3) := by decide +kernel
theorem dX7_launch_48 : decode cX7_launch 48 = .ok (.aload_n 0, 1) := by decide +kernel
theorem dX7_launch_49 : decode cX7_launch 49 = .ok (.getfield 19, 3) := by decide +kernel
theorem dX7_launch_52 : decode cX7_launch 52 = .ok (.iload_n 1, 1) := by decide +kernel
theorem dX7_launch_53 : decode cX7_launch 53 = .ok (.invokevirtual 127, 3) := by decide +kernel
theorem dX7_launch_56 : decode cX7_launch 56 = .ok (.iload_n 3, 1) := by decide +kernel
theorem dX7_launch_57 : decode cX7_launch 57 = .ok (.ireturn, 1) := by decide +kernel
theorem dX7_night_0 : decode cX7_night 0 = .ok (.aload_n 0, 1) := by decide +kernel
theorem dX7_night_1 : decode cX7_night 1 = .ok (.iload_n 1, 1) := by decide +kernel
theorem dX7_night_2 : decode cX7_night 2 = .ok (.invokevirtual 134, 3) := by decide +kernel
theorem dX7_night_5 : decode cX7_night 5 = .ok (.ifCond .eq 23, 3) := by decide +kernel
theorem dX7_night_8 : decode cX7_night 8 = .ok (.iload_n 2, 1) := by decide +kernel
theorem dX7_night_9 : decode cX7_night 9 = .ok (.invokestatic 103, 3) := by decide +kernel
theorem dX7_night_12 : decode cX7_night 12 = .ok (.ifCond .eq 16, 3) := by decide +kernel
theorem dX7_night_15 : decode cX7_night 15 = .ok (.iload_n 3, 1) := by decide +kernel
theorem dX7_night_16 : decode cX7_night 16 = .ok (.iconst (-1), 1) := by decide +kernel
theorem dX7_night_17 : decode cX7_night 17 = .ok (.if_icmp .eq 18, 3) := by decide +kernel
theorem dX7_night_20 : decode cX7_night 20 = .ok (.aload_n 0, 1) := by decide +kernel
theorem dX7_night_21 : decode cX7_night 21 = .ok (.iload_n 3, 1) := by decide +kernel
theorem dX7_night_22 : decode cX7_night 22 = .ok (.invokevirtual 152, 3) := by decide +kernel
theorem dX7_night_25 : decode cX7_night 25 = .ok (.ifCond .ne 10, 3) := by decide +kernel
theorem dX7_night_28 : decode cX7_night 28 = .ok (.aload_n 0, 1) := by decide +kernel
theorem dX7_night_29 : decode cX7_night 29 = .ok (.ldc 59, 2) := by decide +kernel
theorem dX7_night_31 : decode cX7_night 31 = .ok (.invokevirtual 60, 3) := by decide +kernel
theorem dX7_night_34 : decode cX7_night 34 = .ok (.ireturn, 1) := by decide +kernel
theorem dX7_night_35 : decode cX7_night 35 = .ok (.iload_n 3, 1) := by decide +kernel
theorem dX7_night_36 : decode cX7_night 36 = .ok (.iconst (-1), 1) := by decide +kernel
theorem dX7_night_37 : decode cX7_night 37 = .ok (.if_icmp .eq 65, 3) := by decide +kernel
theorem dX7_night_40 : decode cX7_night 40 = .ok (.aload_n 0, 1) := by decide +kernel
theorem dX7_night_41 : decode cX7_night 41 = .ok (.getfield 19, 3) := by decide +kernel
theorem dX7_night_44 : decode cX7_night 44 = .ok (.iload_n 3, 1) := by decide +kernel
theorem dX7_night_45 : decode cX7_night 45 = .ok (.iload_n 2, 1) := by decide +kernel
theorem dX7_night_46 : decode cX7_night 46 = .ok (.invokevirtual 155, 3) := by decide +kernel
theorem dX7_night_49 : decode cX7_night 49 = .ok (.istore 4, 2) := by decide +kernel
theorem dX7_night_51 : decode cX7_night 51 = .ok (.iload 4, 2) := by decide +kernel
theorem dX7_night_53 : decode cX7_night 53 = .ok (.iconst (-1), 1) := by decide +kernel
theorem dX7_night_54 : decode cX7_night 54 = .ok (.if_icmp .eq 16, 3) := by decide +kernel
theorem dX7_night_57 : decode cX7_night 57 = .ok (.iload 4, 2) := by decide +kernel
theorem dX7_night_59 : decode cX7_night 59 = .ok (.iload_n 1, 1) := by decide +kernel
theorem dX7_night_60 : decode cX7_night 60 = .ok (.if_icmp .eq 10, 3) := by decide +kernel
theorem dX7_night_63 : decode cX7_night 63 = .ok (.aload_n 0, 1) := by decide +kernel
theorem dX7_night_64 : decode cX7_night 64 = .ok (.ldc 158, 2) := by decide +kernel
theorem dX7_night_66 : decode cX7_night 66 = .ok (.invokevirtual 60, 3) := by decide +kernel
theorem dX7_night_69 : decode cX7_night 69 = .ok (.ireturn, 1) := by decide +kernel
theorem dX7_night_70 : decode cX7_night 70 = .ok (.aload_n 0, 1) := by decide +kernel
theorem dX7_night_71 : decode cX7_night 71 = .ok (.getfield 10, 3) := by decide +kernel
theorem dX7_night_74 : decode cX7_night 74 = .ok (.getfield 79, 3) := by decide +kernel
theorem dX7_night_77 : decode cX7_night 77 = .ok (.iload_n 3, 1) := by decide +kernel
theorem dX7_night_78 : decode cX7_night 78 = .ok (.baload, 1) := by decide +kernel
theorem dX7_night_79 : decode cX7_night 79 = .ok (.ifCond .eq 23, 3) := by decide +kernel
theorem dX7_night_82 : decode cX7_night 82 = .ok (.aload_n 0, 1) := by decide +kernel
theorem dX7_night_83 : decode cX7_night 83 = .ok (.getfield 19, 3) := by decide +kernel
theorem dX7_night_86 : decode cX7_night 86 = .ok (.iload_n 1, 1) := by decide +kernel
theorem dX7_night_87 : decode cX7_night 87 = .ok (.iconst 0, 1) := by decide +kernel
theorem dX7_night_88 : decode cX7_night 88 = .ok (.invokevirtual 137, 3) := by decide +kernel
theorem dX7_night_91 : decode cX7_night 91 = .ok (.iconst 2, 1) := by decide +kernel
theorem dX7_night_92 : decode cX7_night 92 = .ok (.if_icmp .ne 10, 3) := by decide +kernel
theorem dX7_night_95 : decode cX7_night 95 = .ok (.aload_n 0, 1) := by decide +kernel
theorem dX7_night_96 : decode cX7_night 96 = .ok (.ldc 144, 2) := by decide +kernel
theorem dX7_night_98 : decode cX7_night 98 = .ok (.invokevirtual 60, 3) := by decide +kernel
theorem dX7_night_101 : decode cX7_night 101 = .ok (.ireturn, 1) := by decide +kernel
theorem dX7_night_102 : decode cX7_night 102 = .ok (.aload_n 0, 1) := by decide +kernel
theorem dX7_night_103 : decode cX7_night 103 = .ok (.aload_n 0, 1) := by decide +kernel
theorem dX7_night_104 : decode cX7_night 104 = .ok (.getfield 19, 3) := by decide +kernel
theorem dX7_night_107 : decode cX7_night 107 = .ok (.getfield 159, 3) := by decide +kernel
theorem dX7_night_110 : decode cX7_night 110 = .ok (.aload_n 0, 1) := by decide +kernel
theorem dX7_night_111 : decode cX7_night 111 = .ok (.getfield 19, 3) := by decide +kernel
theorem dX7_night_114 : decode cX7_night 114 = .ok (.iload_n 1, 1) := by decide +kernel
theorem dX7_night_115 : decode cX7_night 115 = .ok (.iconst 5, 1) := by decide +kernel
theorem dX7_night_116 : decode cX7_night 116 = .ok (.iload_n 2, 1) := by decide +kernel
theorem dX7_night_117 : decode cX7_night 117 = .ok (.iadd, 1) := by decide +kernel
theorem dX7_night_118 : decode cX7_night 118 = .ok (.invokevirtual 162, 3) := by decide +kernel
theorem dX7_night_121 : decode cX7_night 121 = .ok (.iload_n 3, 1) := by decide +kernel
theorem dX7_night_122 : decode cX7_night 122 = .ok (.invokevirtual 68, 3) := by decide +kernel
theorem dX7_night_125 : decode cX7_night 125 = .ok (.ireturn, 1) := by decide +kernel
theorem dX7_at_0 : decode cX7_at 0 = .ok (.aload_n 0, 1) := by decide +kernel
theorem dX7_at_1 : decode cX7_at 1 = .ok (.iload_n 1, 1) := by decide +kernel
theorem dX7_at_2 : decode cX7_at 2 = .ok (.invokevirtual 134, 3) := by decide +kernel
theorem dX7_at_5 : decode cX7_at 5 = .ok (.ifCond .eq 10, 3) := by decide +kernel
theorem dX7_at_8 : decode cX7_at 8 = .ok (.iload_n 2, 1) := by decide +kernel
theorem dX7_at_9 : decode cX7_at 9 = .ok (.invokestatic 103, 3) := by decide +kernel
theorem dX7_at_12 : decode cX7_at 12 = .ok (.ifCond .ne 10, 3) := by decide +kernel
theorem dX7_at_15 : decode cX7_at 15 = .ok (.aload_n 0, 1) := by decide +kernel
theorem dX7_at_16 : decode cX7_at 16 = .ok (.ldc 59, 2) := by decide +kernel
theorem dX7_at_18 : decode cX7_at 18 = .ok (.invokevirtual 60, 3) := by decide +kernel
theorem dX7_at_21 : decode cX7_at 21 = .ok (.ireturn, 1) := by decide +kernel
theorem dX7_at_22 : decode cX7_at 22 = .ok (.aload_n 0, 1) := by decide +kernel
theorem dX7_at_23 : decode cX7_at 23 = .ok (.getfield 19, 3) := by decide +kernel
theorem dX7_at_26 : decode cX7_at 26 = .ok (.iload_n 1, 1) := by decide +kernel
theorem dX7_at_27 : decode cX7_at 27 = .ok (.iconst 5, 1) := by decide +kernel
theorem dX7_at_28 : decode cX7_at 28 = .ok (.iload_n 2, 1) := by decide +kernel
theorem dX7_at_29 : decode cX7_at 29 = .ok (.iadd, 1) := by decide +kernel
theorem dX7_at_30 : decode cX7_at 30 = .ok (.invokevirtual 137, 3) := by decide +kernel
theorem dX7_at_33 : decode cX7_at 33 = .ok (.istore_n 3, 1) := by decide +kernel
theorem dX7_at_34 : decode cX7_at 34 = .ok (.iload_n 3, 1) := by decide +kernel
theorem dX7_at_35 : decode cX7_at 35 = .ok (.iconst (-1), 1) := by decide +kernel
theorem dX7_at_36 : decode cX7_at 36 = .ok (.if_icmp .ne 12, 3) := by decide +kernel
theorem dX7_at_39 : decode cX7_at 39 = .ok (.aload_n 0, 1) := by decide +kernel
theorem dX7_at_40 : decode cX7_at 40 = .ok (.ldc 165, 2) := by decide +kernel
theorem dX7_at_42 : decode cX7_at 42 = .ok (.invokevirtual 60, 3) := by decide +kernel
theorem dX7_at_45 : decode cX7_at 45 = .ok (.goto 4, 3) := by decide +kernel
theorem dX7_at_48 : decode cX7_at 48 = .ok (.iload_n 3, 1) := by decide +kernel
theorem dX7_at_49 : decode cX7_at 49 = .ok (.ireturn, 1) := by decide +kernel
theorem dX7_who_0 : decode cX7_who 0 = .ok (.aload_n 0, 1) := by decide +kernel
theorem dX7_who_1 : decode cX7_who 1 = .ok (.iload_n 1, 1) := by decide +kernel
theorem dX7_who_2 : decode cX7_who 2 = .ok (.invokevirtual 152, 3) := by decide +kernel
theorem dX7_who_5 : decode cX7_who 5 = .ok (.ifCond .eq 10, 3) := by decide +kernel
theorem dX7_who_8 : decode cX7_who 8 = .ok (.iload_n 2, 1) := by decide +kernel
theorem dX7_who_9 : decode cX7_who 9 = .ok (.invokestatic 103, 3) := by decide +kernel
theorem dX7_who_12 : decode cX7_who 12 = .ok (.ifCond .ne 10, 3) := by decide +kernel
theorem dX7_who_15 : decode cX7_who 15 = .ok (.aload_n 0, 1) := by decide +kernel
theorem dX7_who_16 : decode cX7_who 16 = .ok (.ldc 59, 2) := by decide +kernel
theorem dX7_who_18 : decode cX7_who 18 = .ok (.invokevirtual 60, 3) := by decide +kernel
theorem dX7_who_21 : decode cX7_who 21 = .ok (.ireturn, 1) := by decide +kernel
theorem dX7_who_22 : decode cX7_who 22 = .ok (.aload_n 0, 1) := by decide +kernel
theorem dX7_who_23 : decode cX7_who 23 = .ok (.getfield 19, 3) := by decide +kernel
theorem dX7_who_26 : decode cX7_who 26 = .ok (.iload_n 1, 1) := by decide +kernel
theorem dX7_who_27 : decode cX7_who 27 = .ok (.iload_n 2, 1) := by decide +kernel
theorem dX7_who_28 : decode cX7_who 28 = .ok (.invokevirtual 155, 3) := by decide +kernel
theorem dX7_who_31 : decode cX7_who 31 = .ok (.istore_n 3, 1) := by decide +kernel
theorem dX7_who_32 : decode cX7_who 32 = .ok (.iload_n 3, 1) := by decide +kernel
theorem dX7_who_33 : decode cX7_who 33 = .ok (.iconst (-1), 1) := by decide +kernel
theorem dX7_who_34 : decode cX7_who 34 = .ok (.if_icmp .ne 12, 3) := by decide +kernel
theorem dX7_who_37 : decode cX7_who 37 = .ok (.aload_n 0, 1) := by decide +kernel
theorem dX7_who_38 : decode cX7_who 38 = .ok (.ldc 165, 2) := by decide +kernel
theorem dX7_who_40 : decode cX7_who 40 = .ok (.invokevirtual 60, 3) := by decide +kernel
theorem dX7_who_43 : decode cX7_who 43 = .ok (.goto 4, 3) := by decide +kernel
theorem dX7_who_46 : decode cX7_who 46 = .ok (.iload_n 3, 1) := by decide +kernel
theorem dX7_who_47 : decode cX7_who 47 = .ok (.ireturn, 1) := by decide +kernel
theorem dX7_plan_0 : decode cX7_plan 0 = .ok (.aload_n 0, 1) := by decide +kernel
theorem dX7_plan_1 : decode cX7_plan 1 = .ok (.iload_n 1, 1) := by decide +kernel
theorem dX7_plan_2 : decode cX7_plan 2 = .ok (.invokevirtual 134, 3) := by decide +kernel
theorem dX7_plan_5 : decode cX7_plan 5 = .ok (.ifCond .ne 10, 3) := by decide +kernel
theorem dX7_plan_8 : decode cX7_plan 8 = .ok (.aload_n 0, 1) := by decide +kernel
theorem dX7_plan_9 : decode cX7_plan 9 = .ok (.ldc 59, 2) := by decide +kernel
theorem dX7_plan_11 : decode cX7_plan 11 = .ok (.invokevirtual 60, 3) := by decide +kernel
theorem dX7_plan_14 : decode cX7_plan 14 = .ok (.ireturn, 1) := by decide +kernel
theorem dX7_plan_15 : decode cX7_plan 15 = .ok (.aload_n 0, 1) := by decide +kernel
theorem dX7_plan_16 : decode cX7_plan 16 = .ok (.getfield 26, 3) := by decide +kernel
theorem dX7_plan_19 : decode cX7_plan 19 = .ok (.aload_n 0, 1) := by decide +kernel
theorem dX7_plan_20 : decode cX7_plan 20 = .ok (.getfield 10, 3) := by decide +kernel
theorem dX7_plan_23 : decode cX7_plan 23 = .ok (.aload_n 0, 1) := by decide +kernel
theorem dX7_plan_24 : decode cX7_plan 24 = .ok (.getfield 19, 3) := by decide +kernel
theorem dX7_plan_27 : decode cX7_plan 27 = .ok (.iload_n 1, 1) := by decide +kernel
theorem dX7_plan_28 : decode cX7_plan 28 = .ok (.invokevirtual 166, 3) := by decide +kernel
theorem dX7_plan_31 : decode cX7_plan 31 = .ok (.ifCond .eq 13, 3) := by decide +kernel
theorem dX7_plan_34 : decode cX7_plan 34 = .ok (.aload_n 0, 1) := by decide +kernel
theorem dX7_plan_35 : decode cX7_plan 35 = .ok (.getfield 26, 3) := by decide +kernel
theorem dX7_plan_38 : decode cX7_plan 38 = .ok (.getfield 170, 3) := by decide +kernel
theorem dX7_plan_41 : decode cX7_plan 41 = .ok (.goto 9, 3) := by decide +kernel
theorem dX7_plan_44 : decode cX7_plan 44 = .ok (.aload_n 0, 1) := by decide +kernel
theorem dX7_plan_45 : decode cX7_plan 45 = .ok (.ldc 165, 2) := by decide +kernel
theorem dX7_plan_47 : decode cX7_plan 47 = .ok (.invokevirtual 60, 3) := by decide +kernel
theorem dX7_plan_50 : decode cX7_plan 50 = .ok (.ireturn, 1) := by decide +kernel
theorem dX7_planned_0 : decode cX7_planned 0 = .ok (.aload_n 0, 1) := by decide +kernel
theorem dX7_planned_1 : decode cX7_planned 1 = .ok (.iload_n 1, 1) := by decide +kernel
theorem dX7_planned_2 : decode cX7_planned 2 = .ok (.invokevirtual 134, 3) := by decide +kernel
theorem dX7_planned_5 : decode cX7_planned 5 = .ok (.ifCond .ne 10, 3) := by decide +kernel
theorem dX7_planned_8 : decode cX7_planned 8 = .ok (.aload_n 0, 1) := by decide +kernel
theorem dX7_planned_9 : decode cX7_planned 9 = .ok (.ldc 59, 2) := by decide +kernel
theorem dX7_planned_11 : decode cX7_planned 11 = .ok (.invokevirtual 60, 3) := by decide +kernel
theorem dX7_planned_14 : decode cX7_planned 14 = .ok (.ireturn, 1) := by decide +kernel
theorem dX7_planned_15 : decode cX7_planned 15 = .ok (.aload_n 0, 1) := by decide +kernel
theorem dX7_planned_16 : decode cX7_planned 16 = .ok (.getfield 26, 3) := by decide +kernel
theorem dX7_planned_19 : decode cX7_planned 19 = .ok (.aload_n 0, 1) := by decide +kernel
theorem dX7_planned_20 : decode cX7_planned 20 = .ok (.getfield 10, 3) := by decide +kernel
theorem dX7_planned_23 : decode cX7_planned 23 = .ok (.aload_n 0, 1) := by decide +kernel
theorem dX7_planned_24 : decode cX7_planned 24 = .ok (.getfield 19, 3) := by decide +kernel
theorem dX7_planned_27 : decode cX7_planned 27 = .ok (.iload_n 1, 1) := by decide +kernel
theorem dX7_planned_28 : decode cX7_planned 28 = .ok (.invokevirtual 166, 3) := by decide +kernel
theorem dX7_planned_31 : decode cX7_planned 31 = .ok (.ifCond .ne 10, 3) := by decide +kernel
theorem dX7_planned_34 : decode cX7_planned 34 = .ok (.aload_n 0, 1) := by decide +kernel
theorem dX7_planned_35 : decode cX7_planned 35 = .ok (.ldc 165, 2) := by decide +kernel
theorem dX7_planned_37 : decode cX7_planned 37 = .ok (.invokevirtual 60, 3) := by decide +kernel
theorem dX7_planned_40 : decode cX7_planned 40 = .ok (.ireturn, 1) := by decide +kernel
theorem dX7_planned_41 : decode cX7_planned 41 = .ok (.iload_n 2, 1) := by decide +kernel
theorem dX7_planned_42 : decode cX7_planned 42 = .ok (.iconst 0, 1) := by decide +kernel
theorem dX7_planned_43 : decode cX7_planned 43 = .ok (.aload_n 0, 1) := by decide +kernel
theorem dX7_planned_44 : decode cX7_planned 44 = .ok (.getfield 26, 3) := by decide +kernel
theorem dX7_planned_47 : decode cX7_planned 47 = .ok (.getfield 170, 3) := by decide +kernel
theorem dX7_planned_50 : decode cX7_planned 50 = .ok (.iconst 1, 1) := by decide +kernel
theorem dX7_planned_51 : decode cX7_planned 51 = .ok (.isub, 1) := by decide +kernel
theorem dX7_planned_52 : decode cX7_planned 52 = .ok (.invokestatic 55, 3) := by decide +kernel
theorem dX7_planned_55 : decode cX7_planned 55 = .ok (.ifCond .ne 10, 3) := by decide +kernel
theorem dX7_planned_58 : decode cX7_planned 58 = .ok (.aload_n 0, 1) := by decide +kernel
theorem dX7_planned_59 : decode cX7_planned 59 = .ok (.ldc 59, 2) := by decide +kernel
theorem dX7_planned_61 : decode cX7_planned 61 = .ok (.invokevirtual 60, 3) := by decide +kernel
theorem dX7_planned_64 : decode cX7_planned 64 = .ok (.ireturn, 1) := by decide +kernel
theorem dX7_planned_65 : decode cX7_planned 65 = .ok (.iload_n 2, 1) := by decide +kernel
theorem dX7_planned_66 : decode cX7_planned 66 = .ok (.aload_n 0, 1) := by decide +kernel
theorem dX7_planned_67 : decode cX7_planned 67 = .ok (.getfield 26, 3) := by decide +kernel
theorem dX7_planned_70 : decode cX7_planned 70 = .ok (.getfield 170, 3) := by decide +kernel
theorem dX7_planned_73 : decode cX7_planned 73 = .ok (.iconst 1, 1) := by decide +kernel
theorem dX7_planned_74 : decode cX7_planned 74 = .ok (.isub, 1) := by decide +kernel
theorem dX7_planned_75 : decode cX7_planned 75 = .ok (.if_icmp .ne 7, 3) := by decide +kernel
theorem dX7_planned_78 : decode cX7_planned 78 = .ok (.iconst (-1), 1) := by decide +kernel
theorem dX7_planned_79 : decode cX7_planned 79 = .ok (.goto 12, 3) := by decide +kernel
theorem dX7_planned_82 : decode cX7_planned 82 = .ok (.aload_n 0, 1) := by decide +kernel
theorem dX7_planned_83 : decode cX7_planned 83 = .ok (.getfield 26, 3) := by decide +kernel
theorem dX7_planned_86 : decode cX7_planned 86 = .ok (.getfield 173, 3) := by decide +kernel
theorem dX7_planned_89 : decode cX7_planned 89 = .ok (.iload_n 2, 1) := by decide +kernel
theorem dX7_planned_90 : decode cX7_planned 90 = .ok (.iaload, 1) := by decide +kernel
theorem dX7_planned_91 : decode cX7_planned 91 = .ok (.ireturn, 1) := by decide +kernel
theorem dX7_take_0 : decode cX7_take 0 = .ok (.aload_n 0, 1) := by decide +kernel
theorem dX7_take_1 : decode cX7_take 1 = .ok (.iload_n 1, 1) := by decide +kernel
theorem dX7_take_2 : decode cX7_take 2 = .ok (.invokevirtual 134, 3) := by decide +kernel
theorem dX7_take_5 : decode cX7_take 5 = .ok (.ifCond .ne 10, 3) := by decide +kernel
theorem dX7_take_8 : decode cX7_take 8 = .ok (.aload_n 0, 1) := by decide +kernel
theorem dX7_take_9 : decode cX7_take 9 = .ok (.ldc 59, 2) := by decide +kernel
theorem dX7_take_11 : decode cX7_take 11 = .ok (.invokevirtual 60, 3) := by decide +kernel
theorem dX7_take_14 : decode cX7_take 14 = .ok (.ireturn, 1) := by decide +kernel
theorem dX7_take_15 : decode cX7_take 15 = .ok (.aload_n 0, 1) := by decide +kernel
theorem dX7_take_16 : decode cX7_take 16 = .ok (.getfield 26, 3) := by decide +kernel
theorem dX7_take_19 : decode cX7_take 19 = .ok (.aload_n 0, 1) := by decide +kernel
theorem dX7_take_20 : decode cX7_take 20 = .ok (.getfield 10, 3) := by decide +kernel
theorem dX7_take_23 : decode cX7_take 23 = .ok (.aload_n 0, 1) := by decide +kernel
theorem dX7_take_24 : decode cX7_take 24 = .ok (.getfield 19, 3) := by decide +kernel
theorem dX7_take_27 : decode cX7_take 27 = .ok (.iload_n 1, 1) := by decide +kernel
theorem dX7_take_28 : decode cX7_take 28 = .ok (.invokevirtual 166, 3) := by decide +kernel
theorem dX7_take_31 : decode cX7_take 31 = .ok (.ifCond .ne 10, 3) := by decide +kernel
theorem dX7_take_34 : decode cX7_take 34 = .ok (.aload_n 0, 1) := by decide +kernel
theorem dX7_take_35 : decode cX7_take 35 = .ok (.ldc 165, 2) := by decide +kernel
theorem dX7_take_37 : decode cX7_take 37 = .ok (.invokevirtual 60, 3) := by decide +kernel
theorem dX7_take_40 : decode cX7_take 40 = .ok (.ireturn, 1) := by decide +kernel
theorem dX7_take_41 : decode cX7_take 41 = .ok (.aload_n 0, 1) := by decide +kernel
theorem dX7_take_42 : decode cX7_take 42 = .ok (.iload_n 1, 1) := by decide +kernel
theorem dX7_take_43 : decode cX7_take 43 = .ok (.iconst 1, 1) := by decide +kernel
theorem dX7_take_44 : decode cX7_take 44 = .ok (.invokevirtual 148, 3) := by decide +kernel
theorem dX7_take_47 : decode cX7_take 47 = .ok (.aload_n 0, 1) := by decide +kernel
theorem dX7_take_48 : decode cX7_take 48 = .ok (.getfield 26, 3) := by decide +kernel
theorem dX7_take_51 : decode cX7_take 51 = .ok (.aload_n 0, 1) := by decide +kernel
theorem dX7_take_52 : decode cX7_take 52 = .ok (.getfield 19, 3) := by decide +kernel
theorem dX7_take_55 : decode cX7_take 55 = .ok (.iload_n 1, 1) := by decide +kernel
theorem dX7_take_56 : decode cX7_take 56 = .ok (.invokevirtual 176, 3) := by decide +kernel
theorem dX7_take_59 : decode cX7_take 59 = .ok (.aload_n 0, 1) := by decide +kernel
theorem dX7_take_60 : decode cX7_take 60 = .ok (.getfield 26, 3) := by decide +kernel
theorem dX7_take_63 : decode cX7_take 63 = .ok (.getfield 170, 3) := by decide +kernel
theorem dX7_take_66 : decode cX7_take 66 = .ok (.iconst 1, 1) := by decide +kernel
theorem dX7_take_67 : decode cX7_take 67 = .ok (.isub, 1) := by decide +kernel
theorem dX7_take_68 : decode cX7_take 68 = .ok (.ireturn, 1) := by decide +kernel
theorem dX7_calendar_0 : decode cX7_calendar 0 = .ok (.aload_n 0, 1) := by decide +kernel
theorem dX7_calendar_1 : decode cX7_calendar 1 = .ok (.iload_n 1, 1) := by decide +kernel
theorem dX7_calendar_2 : decode cX7_calendar 2 = .ok (.invokevirtual 180, 3) := by decide +kernel
theorem dX7_calendar_5 : decode cX7_calendar 5 = .ok (.ifCond .ne 10, 3) := by decide +kernel
theorem dX7_calendar_8 : decode cX7_calendar 8 = .ok (.aload_n 0, 1) := by decide +kernel
theorem dX7_calendar_9 : decode cX7_calendar 9 = .ok (.ldc 59, 2) := by decide +kernel
theorem dX7_calendar_11 : decode cX7_calendar 11 = .ok (.invokevirtual 60, 3) := by decide +kernel
theorem dX7_calendar_14 : decode cX7_calendar 14 = .ok (.ireturn, 1) := by decide +kernel
theorem dX7_calendar_15 : decode cX7_calendar 15 = .ok (.aload_n 0, 1) := by decide +kernel
theorem dX7_calendar_16 : decode cX7_calendar 16 = .ok (.getfield 19, 3) := by decide +kernel
theorem dX7_calendar_19 : decode cX7_calendar 19 = .ok (.invokevirtual 183, 3) := by decide +kernel
theorem dX7_calendar_22 : decode cX7_calendar 22 = .ok (.aload_n 0, 1) := by decide +kernel
theorem dX7_calendar_23 : decode cX7_calendar 23 = .ok (.getfield 26, 3) := by decide +kernel
theorem dX7_calendar_26 : decode cX7_calendar 26 = .ok (.aload_n 0, 1) := by decide +kernel
theorem dX7_calendar_27 : decode cX7_calendar 27 = .ok (.getfield 10, 3) := by decide +kernel
theorem dX7_calendar_30 : decode cX7_calendar 30 = .ok (.aload_n 0, 1) := by decide +kernel
theorem dX7_calendar_31 : decode cX7_calendar 31 = .ok (.getfield 19, 3) := by decide +kernel
theorem dX7_calendar_34 : decode cX7_calendar 34 = .ok (.iload_n 1, 1) := by decide +kernel
theorem dX7_calendar_35 : decode cX7_calendar 35 = .ok (.invokevirtual 186, 3) := by decide +kernel
theorem dX7_calendar_38 : decode cX7_calendar 38 = .ok (.istore_n 2, 1) := by decide +kernel
theorem dX7_calendar_39 : decode cX7_calendar 39 = .ok (.aload_n 0, 1) := by decide +kernel
theorem dX7_calendar_40 : decode cX7_calendar 40 = .ok (.getfield 19, 3) := by decide +kernel
theorem dX7_calendar_43 : decode cX7_calendar 43 = .ok (.invokevirtual 190, 3) := by decide +kernel
theorem dX7_calendar_46 : decode cX7_calendar 46 = .ok (.iload_n 2, 1) := by decide +kernel
theorem dX7_calendar_47 : decode cX7_calendar 47 = .ok (.ireturn, 1) := by decide +kernel
theorem dX7_fill_0 : decode cX7_fill 0 = .ok (.aload_n 0, 1) := by decide +kernel
theorem dX7_fill_1 : decode cX7_fill 1 = .ok (.iload_n 1, 1) := by decide +kernel
theorem dX7_fill_2 : decode cX7_fill 2 = .ok (.invokevirtual 180, 3) := by decide +kernel
theorem dX7_fill_5 : decode cX7_fill 5 = .ok (.ifCond .ne 10, 3) := by decide +kernel
theorem dX7_fill_8 : decode cX7_fill 8 = .ok (.aload_n 0, 1) := by decide +kernel
theorem dX7_fill_9 : decode cX7_fill 9 = .ok (.ldc 59, 2) := by decide +kernel
theorem dX7_fill_11 : decode cX7_fill 11 = .ok (.invokevirtual 60, 3) := by decide +kernel
theorem dX7_fill_14 : decode cX7_fill 14 = .ok (.ireturn, 1) := by decide +kernel
theorem dX7_fill_15 : decode cX7_fill 15 = .ok (.aload_n 0, 1) := by decide +kernel
theorem dX7_fill_16 : decode cX7_fill 16 = .ok (.iconst 0, 1) := by decide +kernel
theorem dX7_fill_17 : decode cX7_fill 17 = .ok (.aload_n 0, 1) := by decide +kernel
theorem dX7_fill_18 : decode cX7_fill 18 = .ok (.getfield 19, 3) := by decide +kernel
theorem dX7_fill_21 : decode cX7_fill 21 = .ok (.invokevirtual 119, 3) := by decide +kernel
theorem dX7_fill_24 : decode cX7_fill 24 = .ok (.invokevirtual 148, 3) := by decide +kernel
theorem dX7_fill_27 : decode cX7_fill 27 = .ok (.aload_n 0, 1) := by decide +kernel
theorem dX7_fill_28 : decode cX7_fill 28 = .ok (.getfield 26, 3) := by decide +kernel
theorem dX7_fill_31 : decode cX7_fill 31 = .ok (.aload_n 0, 1) := by decide +kernel
theorem dX7_fill_32 : decode cX7_fill 32 = .ok (.getfield 10, 3) := by decide +kernel
theorem dX7_fill_35 : decode cX7_fill 35 = .ok (.aload_n 0, 1) := by decide +kernel
theorem dX7_fill_36 : decode cX7_fill 36 = .ok (.getfield 19, 3) := by decide +kernel
theorem dX7_fill_39 : decode cX7_fill 39 = .ok (.iload_n 1, 1) := by decide +kernel
theorem dX7_fill_40 : decode cX7_fill 40 = .ok (.invokevirtual 186, 3) := by decide +kernel
theorem dX7_fill_43 : decode cX7_fill 43 = .ok (.ireturn, 1) := by decide +kernel
theorem dX7_near_0 : decode cX7_near 0 = .ok (.aload_n 0, 1) := by decide +kernel
theorem dX7_near_1 : decode cX7_near 1 = .ok (.iload_n 1, 1) := by decide +kernel
theorem dX7_near_2 : decode cX7_near 2 = .ok (.invokevirtual 134, 3) := by decide +kernel
theorem dX7_near_5 : decode cX7_near 5 = .ok (.ifCond .eq 18, 3) := by decide +kernel
theorem dX7_near_8 : decode cX7_near 8 = .ok (.aload_n 0, 1) := by decide +kernel
theorem dX7_near_9 : decode cX7_near 9 = .ok (.iload_n 2, 1) := by decide +kernel
theorem dX7_near_10 : decode cX7_near 10 = .ok (.invokevirtual 134, 3) := by decide +kernel
theorem dX7_near_13 : decode cX7_near 13 = .ok (.ifCond .eq 10, 3) := by decide +kernel
theorem dX7_near_16 : decode cX7_near 16 = .ok (.iload_n 3, 1) := by decide +kernel
theorem dX7_near_17 : decode cX7_near 17 = .ok (.invokestatic 97, 3) := by decide +kernel
theorem dX7_near_20 : decode cX7_near 20 = .ok (.ifCond .ne 10, 3) := by decide +kernel
theorem dX7_near_23 : decode cX7_near 23 = .ok (.aload_n 0, 1) := by decide +kernel
theorem dX7_near_24 : decode cX7_near 24 = .ok (.ldc 59, 2) := by decide +kernel
theorem dX7_near_26 : decode cX7_near 26 = .ok (.invokevirtual 60, 3) := by decide +kernel
theorem dX7_near_29 : decode cX7_near 29 = .ok (.ireturn, 1) := by decide +kernel
theorem dX7_near_30 : decode cX7_near 30 = .ok (.iload_n 1, 1) := by decide +kernel
theorem dX7_near_31 : decode cX7_near 31 = .ok (.iload_n 2, 1) := by decide +kernel
theorem dX7_near_32 : decode cX7_near 32 = .ok (.if_icmp .ne 10, 3) := by decide +kernel
theorem dX7_near_35 : decode cX7_near 35 = .ok (.aload_n 0, 1) := by decide +kernel
theorem dX7_near_36 : decode cX7_near 36 = .ok (.ldc 87, 2) := by decide +kernel
theorem dX7_near_38 : decode cX7_near 38 = .ok (.invokevirtual 60, 3) := by decide +kernel
theorem dX7_near_41 : decode cX7_near 41 = .ok (.ireturn, 1) := by decide +kernel
theorem dX7_near_42 : decode cX7_near 42 = .ok (.iconst 0, 1) := by decide +kernel
theorem dX7_near_43 : decode cX7_near 43 = .ok (.istore 4, 2) := by decide +kernel
theorem dX7_near_45 : decode cX7_near 45 = .ok (.iconst 0, 1) := by decide +kernel
theorem dX7_near_46 : decode cX7_near 46 = .ok (.istore 5, 2) := by decide +kernel
theorem dX7_near_48 : decode cX7_near 48 = .ok (.iload 5, 2) := by decide +kernel
theorem dX7_near_50 : decode cX7_near 50 = .ok (.bipush 30, 2) := by decide +kernel
theorem dX7_near_52 : decode cX7_near 52 = .ok (.if_icmp .ge 86, 3) := by decide +kernel
theorem dX7_near_55 : decode cX7_near 55 = .ok (.aload_n 0, 1) := by decide +kernel
theorem dX7_near_56 : decode cX7_near 56 = .ok (.getfield 19, 3) := by decide +kernel
theorem dX7_near_59 : decode cX7_near 59 = .ok (.iload_n 1, 1) := by decide +kernel
theorem dX7_near_60 : decode cX7_near 60 = .ok (.iconst 5, 1) := by decide +kernel
theorem dX7_near_61 : decode cX7_near 61 = .ok (.iload 5, 2) := by decide +kernel
theorem dX7_near_63 : decode cX7_near 63 = .ok (.iadd, 1) := by decide +kernel
theorem dX7_near_64 : decode cX7_near 64 = .ok (.invokevirtual 137, 3) := by decide +kernel
theorem dX7_near_67 : decode cX7_near 67 = .ok (.istore 6, 2) := by decide +kernel
theorem dX7_near_69 : decode cX7_near 69 = .ok (.aload_n 0, 1) := by decide +kernel
theorem dX7_near_70 : decode cX7_near 70 = .ok (.getfield 19, 3) := by decide +kernel
theorem dX7_near_73 : decode cX7_near 73 = .ok (.iload_n 2, 1) := by decide +kernel
theorem dX7_near_74 : decode cX7_near 74 = .ok (.iconst 5, 1) := by decide +kernel
theorem dX7_near_75 : decode cX7_near 75 = .ok (.iload 5, 2) := by decide +kernel
theorem dX7_near_77 : decode cX7_near 77 = .ok (.iadd, 1) := by decide +kernel
theorem dX7_near_78 : decode cX7_near 78 = .ok (.invokevirtual 137, 3) := by decide +kernel
theorem dX7_near_81 : decode cX7_near 81 = .ok (.istore 7, 2) := by decide +kernel
theorem dX7_near_83 : decode cX7_near 83 = .ok (.aload_n 0, 1) := by decide +kernel
theorem dX7_near_84 : decode cX7_near 84 = .ok (.iload 6, 2) := by decide +kernel
theorem dX7_near_86 : decode cX7_near 86 = .ok (.invokevirtual 152, 3) := by decide +kernel
theorem dX7_near_89 : decode cX7_near 89 = .ok (.ifCond .eq 43, 3) := by decide +kernel
theorem dX7_near_92 : decode cX7_near 92 = .ok (.aload_n 0, 1) := by decide +kernel
theorem dX7_near_93 : decode cX7_near 93 = .ok (.iload 7, 2) := by decide +kernel
theorem dX7_near_95 : decode cX7_near 95 = .ok (.invokevirtual 152, 3) := by decide +kernel
theorem dX7_near_98 : decode cX7_near 98 = .ok (.ifCond .eq 34, 3) := by decide +kernel
theorem dX7_near_101 : decode cX7_near 101 = .ok (.aload_n 0, 1) := by decide +kernel
theorem dX7_near_102 : decode cX7_near 102 = .ok (.getfield 10, 3) := by decide +kernel
theorem dX7_near_105 : decode cX7_near 105 = .ok (.getfield 76, 3) := by decide +kernel
theorem dX7_near_108 : decode cX7_near 108 = .ok (.iload 6, 2) := by decide +kernel
theorem dX7_near_110 : decode cX7_near 110 = .ok (.iaload, 1) := by decide +kernel
theorem dX7_near_111 : decode cX7_near 111 = .ok (.aload_n 0, 1) := by decide +kernel
theorem dX7_near_112 : decode cX7_near 112 = .ok (.getfield 10, 3) := by decide +kernel
theorem dX7_near_115 : decode cX7_near 115 = .ok (.getfield 76, 3) := by decide +kernel
theorem dX7_near_118 : decode cX7_near 118 = .ok (.iload 7, 2) := by decide +kernel
theorem dX7_near_120 : decode cX7_near 120 = .ok (.iaload, 1) := by decide +kernel
theorem dX7_near_121 : decode cX7_near 121 = .ok (.isub, 1) := by decide +kernel
theorem dX7_near_122 : decode cX7_near 122 = .ok (.invokestatic 193, 3) := by decide +kernel
theorem dX7_near_125 : decode cX7_near 125 = .ok (.iload_n 3, 1) := by decide +kernel
theorem dX7_near_126 : decode cX7_near 126 = .ok (.if_icmp .gt 6, 3) := by decide +kernel
theorem dX7_near_129 : decode cX7_near 129 = .ok (.iinc 4 1, 3) := by decide +kernel
theorem dX7_near_132 : decode cX7_near 132 = .ok (.iinc 5 1, 3) := by decide +kernel
theorem dX7_near_135 : decode cX7_near 135 = .ok (.goto (-87), 3) := by decide +kernel
theorem dX7_near_138 : decode cX7_near 138 = .ok (.iload 4, 2) := by decide +kernel
theorem dX7_near_140 : decode cX7_near 140 = .ok (.ireturn, 1) := by decide +kernel
theorem dX7_hurt_0 : decode cX7_hurt 0 = .ok (.aload_n 0, 1) := by decide +kernel
theorem dX7_hurt_1 : decode cX7_hurt 1 = .ok (.iload_n 1, 1) := by decide +kernel
theorem dX7_hurt_2 : decode cX7_hurt 2 = .ok (.invokevirtual 134, 3) := by decide +kernel
theorem dX7_hurt_5 : decode cX7_hurt 5 = .ok (.ifCond .eq 10, 3) := by decide +kernel
theorem dX7_hurt_8 : decode cX7_hurt 8 = .ok (.iload_n 2, 1) := by decide +kernel
theorem dX7_hurt_9 : decode cX7_hurt 9 = .ok (.invokestatic 97, 3) := by decide +kernel
theorem dX7_hurt_12 : decode cX7_hurt 12 = .ok (.ifCond .ne 10, 3) := by decide +kernel
theorem dX7_hurt_15 : decode cX7_hurt 15 = .ok (.aload_n 0, 1) := by decide +kernel
theorem dX7_hurt_16 : decode cX7_hurt 16 = .ok (.ldc 59, 2) := by decide +kernel
theorem dX7_hurt_18 : decode cX7_hurt 18 = .ok (.invokevirtual 60, 3) := by decide +kernel
theorem dX7_hurt_21 : decode cX7_hurt 21 = .ok (.ireturn, 1) := by decide +kernel
theorem dX7_hurt_22 : decode cX7_hurt 22 = .ok (.aload_n 0, 1) := by decide +kernel
theorem dX7_hurt_23 : decode cX7_hurt 23 = .ok (.getfield 19, 3) := by decide +kernel
theorem dX7_hurt_26 : decode cX7_hurt 26 = .ok (.iload_n 1, 1) := by decide +kernel
theorem dX7_hurt_27 : decode cX7_hurt 27 = .ok (.iconst 0, 1) := by decide +kernel
theorem dX7_hurt_28 : decode cX7_hurt 28 = .ok (.invokevirtual 137, 3) := by decide +kernel
theorem dX7_hurt_31 : decode cX7_hurt 31 = .ok (.istore_n 3, 1) := by decide +kernel
theorem dX7_hurt_32 : decode cX7_hurt 32 = .ok (.aload_n 0, 1) := by decide +kernel
theorem dX7_hurt_33 : decode cX7_hurt 33 = .ok (.getfield 10, 3) := by decide +kernel
theorem dX7_hurt_36 : decode cX7_hurt 36 = .ok (.iload_n 2, 1) := by decide +kernel
theorem dX7_hurt_37 : decode cX7_hurt 37 = .ok (.iload_n 3, 1) := by decide +kernel
theorem dX7_hurt_38 : decode cX7_hurt 38 = .ok (.iconst 1, 1) := by decide +kernel
theorem dX7_hurt_39 : decode cX7_hurt 39 = .ok (.if_icmp .eq 8, 3) := by decide +kernel
theorem dX7_hurt_42 : decode cX7_hurt 42 = .ok (.iload_n 3, 1) := by decide +kernel
theorem dX7_hurt_43 : decode cX7_hurt 43 = .ok (.iconst 3, 1) := by decide +kernel
theorem dX7_hurt_44 : decode cX7_hurt 44 = .ok (.if_icmp .ne 7, 3) := by decide +kernel
theorem dX7_hurt_47 : decode cX7_hurt 47 = .ok (.iconst 1, 1) := by decide +kernel
theorem dX7_hurt_48 : decode cX7_hurt 48 = .ok (.goto 4, 3) := by decide +kernel
theorem dX7_hurt_51 : decode cX7_hurt 51 = .ok (.iconst 0, 1) := by decide +kernel
theorem dX7_hurt_52 : decode cX7_hurt 52 = .ok (.invokevirtual 198, 3) := by decide +kernel
theorem dX7_hurt_55 : decode cX7_hurt 55 = .ok (.istore 4, 2) := by decide +kernel
theorem dX7_hurt_57 : decode cX7_hurt 57 = .ok (.iload 4, 2) := by decide +kernel
theorem dX7_hurt_59 : decode cX7_hurt 59 = .ok (.sipush 15001, 3) := by decide +kernel
theorem dX7_hurt_62 : decode cX7_hurt 62 = .ok (.if_icmp .ne 12, 3) := by decide +kernel
theorem dX7_hurt_65 : decode cX7_hurt 65 = .ok (.aload_n 0, 1) := by decide +kernel
theorem dX7_hurt_66 : decode cX7_hurt 66 = .ok (.ldc 165, 2) := by decide +kernel
theorem dX7_hurt_68 : decode cX7_hurt 68 = .ok (.invokevirtual 60, 3) := by decide +kernel
theorem dX7_hurt_71 : decode cX7_hurt 71 = .ok (.goto 5, 3) := by decide +kernel
theorem dX7_hurt_74 : decode cX7_hurt 74 = .ok (.iload 4, 2) := by decide +kernel
theorem dX7_hurt_76 : decode cX7_hurt 76 = .ok (.ireturn, 1) := by decide +kernel
theorem dX7_applicant_0 : decode cX7_applicant 0 = .ok (.iload_n 1, 1) := by decide +kernel
theorem dX7_applicant_1 : decode cX7_applicant 1 = .ok (.iconst 1, 1) := by decide +kernel
theorem dX7_applicant_2 : decode cX7_applicant 2 = .ok (.bipush 99, 2) := by decide +kernel
theorem dX7_applicant_4 : decode cX7_applicant 4 = .ok (.invokestatic 55, 3) := by decide +kernel
theorem dX7_applicant_7 : decode cX7_applicant 7 = .ok (.ifCond .ne 10, 3) := by decide +kernel
theorem dX7_applicant_10 : decode cX7_applicant 10 = .ok (.aload_n 0, 1) := by decide +kernel
theorem dX7_applicant_11 : decode cX7_applicant 11 = .ok (.ldc 59, 2) := by decide +kernel
theorem dX7_applicant_13 : decode cX7_applicant 13 = .ok (.invokevirtual 60, 3) := by decide +kernel
theorem dX7_applicant_16 : decode cX7_applicant 16 = .ok (.ireturn, 1) := by decide +kernel
theorem dX7_applicant_17 : decode cX7_applicant 17 = .ok (.aload_n 0, 1) := by decide +kernel
theorem dX7_applicant_18 : decode cX7_applicant 18 = .ok (.getfield 33, 3) := by decide +kernel
theorem dX7_applicant_21 : decode cX7_applicant 21 = .ok (.invokevirtual 202, 3) := by decide +kernel
theorem dX7_applicant_24 : decode cX7_applicant 24 = .ok (.istore_n 2, 1) := by decide +kernel
theorem dX7_applicant_25 : decode cX7_applicant 25 = .ok (.iload_n 2, 1) := by decide +kernel
theorem dX7_applicant_26 : decode cX7_applicant 26 = .ok (.bipush 12, 2) := by decide +kernel
theorem dX7_applicant_28 : decode cX7_applicant 28 = .ok (.if_icmp .lt 10, 3) := by decide +kernel
theorem dX7_applicant_31 : decode cX7_applicant 31 = .ok (.aload_n 0, 1) := by decide +kernel
theorem dX7_applicant_32 : decode cX7_applicant 32 = .ok (.ldc 75, 2) := by decide +kernel
theorem dX7_applicant_34 : decode cX7_applicant 34 = .ok (.invokevirtual 60, 3) := by decide +kernel
theorem dX7_applicant_37 : decode cX7_applicant 37 = .ok (.ireturn, 1) := by decide +kernel
theorem dX7_applicant_38 : decode cX7_applicant 38 = .ok (.aload_n 0, 1) := by decide +kernel
theorem dX7_applicant_39 : decode cX7_applicant 39 = .ok (.getfield 33, 3) := by decide +kernel
theorem dX7_applicant_42 : decode cX7_applicant 42 = .ok (.getfield 203, 3) := by decide +kernel
theorem dX7_applicant_45 : decode cX7_applicant 45 = .ok (.iload_n 2, 1) := by decide +kernel
theorem dX7_applicant_46 : decode cX7_applicant 46 = .ok (.iload_n 1, 1) := by decide +kernel
theorem dX7_applicant_47 : decode cX7_applicant 47 = .ok (.iastore, 1) := by decide +kernel
theorem dX7_applicant_48 : decode cX7_applicant 48 = .ok (.aload_n 0, 1) := by decide +kernel
theorem dX7_applicant_49 : decode cX7_applicant 49 = .ok (.aload_n 0, 1) := by decide +kernel
theorem dX7_applicant_50 : decode cX7_applicant 50 = .ok (.getfield 33, 3) := by decide +kernel
theorem dX7_applicant_53 : decode cX7_applicant 53 = .ok (.getfield 206, 3) := by decide +kernel
theorem dX7_applicant_56 : decode cX7_applicant 56 = .ok (.iconst 0, 1) := by decide +kernel
theorem dX7_applicant_57 : decode cX7_applicant 57 = .ok (.iload_n 2, 1) := by decide +kernel
theorem dX7_applicant_58 : decode cX7_applicant 58 = .ok (.iconst 1, 1) := by decide +kernel
theorem dX7_applicant_59 : decode cX7_applicant 59 = .ok (.iadd, 1) := by decide +kernel
theorem dX7_applicant_60 : decode cX7_applicant 60 = .ok (.invokevirtual 68, 3) := by decide +kernel
theorem dX7_applicant_63 : decode cX7_applicant 63 = .ok (.ireturn, 1) := by decide +kernel
theorem dX7_weigh_0 : decode cX7_weigh 0 = .ok (.aload_n 0, 1) := by decide +kernel
theorem dX7_weigh_1 : decode cX7_weigh 1 = .ok (.iload_n 1, 1) := by decide +kernel
theorem dX7_weigh_2 : decode cX7_weigh 2 = .ok (.invokevirtual 207, 3) := by decide +kernel
theorem dX7_weigh_5 : decode cX7_weigh 5 = .ok (.ifCond .eq 13, 3) := by decide +kernel
theorem dX7_weigh_8 : decode cX7_weigh 8 = .ok (.iload_n 2, 1) := by decide +kernel
theorem dX7_weigh_9 : decode cX7_weigh 9 = .ok (.iconst 1, 1) := by decide +kernel
theorem dX7_weigh_10 : decode cX7_weigh 10 = .ok (.bipush 99, 2) := by decide +kernel
theorem dX7_weigh_12 : decode cX7_weigh 12 = .ok (.invokestatic 55, 3) := by decide +kernel
theorem dX7_weigh_15 : decode cX7_weigh 15 = .ok (.ifCond .ne 10, 3) := by decide +kernel
theorem dX7_weigh_18 : decode cX7_weigh 18 = .ok (.aload_n 0, 1) := by decide +kernel
theorem dX7_weigh_19 : decode cX7_weigh 19 = .ok (.ldc 59, 2) := by decide +kernel
theorem dX7_weigh_21 : decode cX7_weigh 21 = .ok (.invokevirtual 60, 3) := by decide +kernel
theorem dX7_weigh_24 : decode cX7_weigh 24 = .ok (.ireturn, 1) := by decide +kernel
theorem dX7_weigh_25 : decode cX7_weigh 25 = .ok (.aload_n 0, 1) := by decide +kernel
theorem dX7_weigh_26 : decode cX7_weigh 26 = .ok (.aload_n 0, 1) := by decide +kernel
theorem dX7_weigh_27 : decode cX7_weigh 27 = .ok (.getfield 33, 3) := by decide +kernel
theorem dX7_weigh_30 : decode cX7_weigh 30 = .ok (.getfield 203, 3) := by decide +kernel
theorem dX7_weigh_33 : decode cX7_weigh 33 = .ok (.iload_n 1, 1) := by decide +kernel
theorem dX7_weigh_34 : decode cX7_weigh 34 = .ok (.iload_n 2, 1) := by decide +kernel
theorem dX7_weigh_35 : decode cX7_weigh 35 = .ok (.invokevirtual 68, 3) := by decide +kernel
theorem dX7_weigh_38 : decode cX7_weigh 38 = .ok (.ireturn, 1) := by decide +kernel
theorem dX7_chance_0 : decode cX7_chance 0 = .ok (.aload_n 0, 1) := by decide +kernel
theorem dX7_chance_1 : decode cX7_chance 1 = .ok (.iload_n 1, 1) := by decide +kernel
theorem dX7_chance_2 : decode cX7_chance 2 = .ok (.invokevirtual 207, 3) := by decide +kernel
theorem dX7_chance_5 : decode cX7_chance 5 = .ok (.ifCond .ne 10, 3) := by decide +kernel
theorem dX7_chance_8 : decode cX7_chance 8 = .ok (.aload_n 0, 1) := by decide +kernel
theorem dX7_chance_9 : decode cX7_chance 9 = .ok (.ldc 59, 2) := by decide +kernel
theorem dX7_chance_11 : decode cX7_chance 11 = .ok (.invokevirtual 60, 3) := by decide +kernel
theorem dX7_chance_14 : decode cX7_chance 14 = .ok (.ireturn, 1) := by decide +kernel
theorem dX7_chance_15 : decode cX7_chance 15 = .ok (.aload_n 0, 1) := by decide +kernel
theorem dX7_chance_16 : decode cX7_chance 16 = .ok (.getfield 33, 3) := by decide +kernel
theorem dX7_chance_19 : decode cX7_chance 19 = .ok (.getfield 203, 3) := by decide +kernel
theorem dX7_chance_22 : decode cX7_chance 22 = .ok (.iload_n 1, 1) := by decide +kernel
theorem dX7_chance_23 : decode cX7_chance 23 = .ok (.iaload, 1) := by decide +kernel
theorem dX7_chance_24 : decode cX7_chance 24 = .ok (.istore_n 3, 1) := by decide +kernel
theorem dX7_chance_25 : decode cX7_chance 25 = .ok (.aload_n 0, 1) := by decide +kernel
theorem dX7_chance_26 : decode cX7_chance 26 = .ok (.getfield 33, 3) := by decide +kernel
theorem dX7_chance_29 : decode cX7_chance 29 = .ok (.aload_n 0, 1) := by decide +kernel
theorem dX7_chance_30 : decode cX7_chance 30 = .ok (.getfield 33, 3) := by decide +kernel
theorem dX7_chance_33 : decode cX7_chance 33 = .ok (.invokevirtual 210, 3) := by decide +kernel
theorem dX7_chance_36 : decode cX7_chance 36 = .ok (.invokevirtual 213, 3) := by decide +kernel
theorem dX7_chance_39 : decode cX7_chance 39 = .ok (.istore 4, 2) := by decide +kernel
theorem dX7_chance_41 : decode cX7_chance 41 = .ok (.iload_n 3, 1) := by decide +kernel
theorem dX7_chance_42 : decode cX7_chance 42 = .ok (.iload 4, 2) := by decide +kernel
theorem dX7_chance_44 : decode cX7_chance 44 = .ok (.invokestatic 216, 3) := by decide +kernel
theorem dX7_chance_47 : decode cX7_chance 47 = .ok (.istore 5, 2) := by decide +kernel
theorem dX7_chance_49 : decode cX7_chance 49 = .ok (.iload_n 2, 1) := by decide +kernel
theorem dX7_chance_50 : decode cX7_chance 50 = .ok (.ifCond .eq 8, 3) := by decide +kernel
theorem dX7_chance_53 : decode cX7_chance 53 = .ok (.iload 4, 2) := by decide +kernel
theorem dX7_chance_55 : decode cX7_chance 55 = .ok (.goto 4, 3) := by decide +kernel
theorem dX7_chance_58 : decode cX7_chance 58 = .ok (.iload_n 3, 1) := by decide +kernel
theorem dX7_chance_59 : decode cX7_chance 59 = .ok (.iload 5, 2) := by decide +kernel
theorem dX7_chance_61 : decode cX7_chance 61 = .ok (.idiv, 1) := by decide +kernel
theorem dX7_chance_62 : decode cX7_chance 62 = .ok (.ireturn, 1) := by decide +kernel
theorem dX7_drawn_0 : decode cX7_drawn 0 = .ok (.aload_n 0, 1) := by decide +kernel
theorem dX7_drawn_1 : decode cX7_drawn 1 = .ok (.iload_n 2, 1) := by decide +kernel
theorem dX7_drawn_2 : decode cX7_drawn 2 = .ok (.invokevirtual 207, 3) := by decide +kernel
theorem dX7_drawn_5 : decode cX7_drawn 5 = .ok (.ifCond .ne 10, 3) := by decide +kernel
theorem dX7_drawn_8 : decode cX7_drawn 8 = .ok (.aload_n 0, 1) := by decide +kernel
theorem dX7_drawn_9 : decode cX7_drawn 9 = .ok (.ldc 59, 2) := by decide +kernel
theorem dX7_drawn_11 : decode cX7_drawn 11 = .ok (.invokevirtual 60, 3) := by decide +kernel
theorem dX7_drawn_14 : decode cX7_drawn 14 = .ok (.ireturn, 1) := by decide +kernel
theorem dX7_drawn_15 : decode cX7_drawn 15 = .ok (.aload_n 0, 1) := by decide +kernel
theorem dX7_drawn_16 : decode cX7_drawn 16 = .ok (.getfield 33, 3) := by decide +kernel
theorem dX7_drawn_19 : decode cX7_drawn 19 = .ok (.iload_n 1, 1) := by decide +kernel
theorem dX7_drawn_20 : decode cX7_drawn 20 = .ok (.invokevirtual 219, 3) := by decide +kernel
theorem dX7_drawn_23 : decode cX7_drawn 23 = .ok (.aload_n 0, 1) := by decide +kernel
theorem dX7_drawn_24 : decode cX7_drawn 24 = .ok (.getfield 33, 3) := by decide +kernel
theorem dX7_drawn_27 : decode cX7_drawn 27 = .ok (.getfield 222, 3) := by decide +kernel
theorem dX7_drawn_30 : decode cX7_drawn 30 = .ok (.iload_n 2, 1) := by decide +kernel
theorem dX7_drawn_31 : decode cX7_drawn 31 = .ok (.iaload, 1) := by decide +kernel
theorem dX7_drawn_32 : decode cX7_drawn 32 = .ok (.ireturn, 1) := by decide +kernel
theorem dX7_turn_0 : decode cX7_turn 0 = .ok (.aload_n 0, 1) := by decide +kernel
theorem dX7_turn_1 : decode cX7_turn 1 = .ok (.iload_n 2, 1) := by decide +kernel
theorem dX7_turn_2 : decode cX7_turn 2 = .ok (.invokevirtual 207, 3) := by decide +kernel
theorem dX7_turn_5 : decode cX7_turn 5 = .ok (.ifCond .ne 10, 3) := by decide +kernel
theorem dX7_turn_8 : decode cX7_turn 8 = .ok (.aload_n 0, 1) := by decide +kernel
theorem dX7_turn_9 : decode cX7_turn 9 = .ok (.ldc 59, 2) := by decide +kernel
theorem dX7_turn_11 : decode cX7_turn 11 = .ok (.invokevirtual 60, 3) := by decide +kernel
theorem dX7_turn_14 : decode cX7_turn 14 = .ok (.ireturn, 1) := by decide +kernel
theorem dX7_turn_15 : decode cX7_turn 15 = .ok (.aload_n 0, 1) := by decide +kernel
theorem dX7_turn_16 : decode cX7_turn 16 = .ok (.getfield 33, 3) := by decide +kernel
theorem dX7_turn_19 : decode cX7_turn 19 = .ok (.iload_n 1, 1) := by decide +kernel
theorem dX7_turn_20 : decode cX7_turn 20 = .ok (.invokevirtual 219, 3) := by decide +kernel
theorem dX7_turn_23 : decode cX7_turn 23 = .ok (.aload_n 0, 1) := by decide +kernel
theorem dX7_turn_24 : decode cX7_turn 24 = .ok (.getfield 33, 3) := by decide +kernel
theorem dX7_turn_27 : decode cX7_turn 27 = .ok (.iload_n 2, 1) := by decide +kernel
theorem dX7_turn_28 : decode cX7_turn 28 = .ok (.invokevirtual 225, 3) := by decide +kernel
theorem dX7_turn_31 : decode cX7_turn 31 = .ok (.ireturn, 1) := by decide +kernel
theorem dX7_sheet_0 : decode cX7_sheet 0 = .ok (.iload_n 1, 1) := by decide +kernel
theorem dX7_sheet_1 : decode cX7_sheet 1 = .ok (.invokestatic 228, 3) := by decide +kernel
theorem dX7_sheet_4 : decode cX7_sheet 4 = .ok (.ifCond .eq 25, 3) := by decide +kernel
theorem dX7_sheet_7 : decode cX7_sheet 7 = .ok (.iload_n 2, 1) := by decide +kernel
theorem dX7_sheet_8 : decode cX7_sheet 8 = .ok (.ifCond .eq 28, 3) := by decide +kernel
theorem dX7_sheet_11 : decode cX7_sheet 11 = .ok (.iload_n 2, 1) := by decide +kernel
theorem dX7_sheet_12 : decode cX7_sheet 12 = .ok (.bipush 8, 2) := by decide +kernel
theorem dX7_sheet_14 : decode cX7_sheet 14 = .ok (.if_icmp .eq 22, 3) := by decide +kernel
theorem dX7_sheet_17 : decode cX7_sheet 17 = .ok (.iload_n 2, 1) := by decide +kernel
theorem dX7_sheet_18 : decode cX7_sheet 18 = .ok (.bipush 16, 2) := by decide +kernel
theorem dX7_sheet_20 : decode cX7_sheet 20 = .ok (.if_icmp .eq 16, 3) := by decide +kernel
theorem dX7_sheet_23 : decode cX7_sheet 23 = .ok (.iload_n 2, 1) := by decide +kernel
theorem dX7_sheet_24 : decode cX7_sheet 24 = .ok (.bipush 32, 2) := by decide +kernel
theorem dX7_sheet_26 : decode cX7_sheet 26 = .ok (.if_icmp .eq 10, 3) := by decide +kernel
theorem dX7_sheet_29 : decode cX7_sheet 29 = .ok (.aload_n 0, 1) := by decide +kernel
theorem dX7_sheet_30 : decode cX7_sheet 30 = .ok (.ldc 59, 2) := by decide +kernel
theorem dX7_sheet_32 : decode cX7_sheet 32 = .ok (.invokevirtual 60, 3) := by decide +kernel
theorem dX7_sheet_35 : decode cX7_sheet 35 = .ok (.ireturn, 1) := by decide +kernel
theorem dX7_sheet_36 : decode cX7_sheet 36 = .ok (.iload_n 3, 1) := by decide +kernel
theorem dX7_sheet_37 : decode cX7_sheet 37 = .ok (.ifCond .ge 10, 3) := by decide +kernel
theorem dX7_sheet_40 : decode cX7_sheet 40 = .ok (.aload_n 0, 1) := by decide +kernel
theorem dX7_sheet_41 : decode cX7_sheet 41 = .ok (.ldc 87, 2) := by decide +kernel
theorem dX7_sheet_43 : decode cX7_sheet 43 = .ok (.invokevirtual 60, 3) := by decide +kernel
theorem dX7_sheet_46 : decode cX7_sheet 46 = .ok (.ireturn, 1) := by decide +kernel
theorem dX7_sheet_47 : decode cX7_sheet 47 = .ok (.iload_n 3, 1) := by decide +kernel
theorem dX7_sheet_48 : decode cX7_sheet 48 = .ok (.bipush 40, 2) := by decide +kernel
theorem dX7_sheet_50 : decode cX7_sheet 50 = .ok (.if_icmp .le 10, 3) := by decide +kernel
theorem dX7_sheet_53 : decode cX7_sheet 53 = .ok (.aload_n 0, 1) := by decide +kernel
theorem dX7_sheet_54 : decode cX7_sheet 54 = .ok (.ldc 59, 2) := by decide +kernel
theorem dX7_sheet_56 : decode cX7_sheet 56 = .ok (.invokevirtual 60, 3) := by decide +kernel
theorem dX7_sheet_59 : decode cX7_sheet 59 = .ok (.ireturn, 1) := by decide +kernel
theorem dX7_sheet_60 : decode cX7_sheet 60 = .ok (.aload_n 0, 1) := by decide +kernel
theorem dX7_sheet_61 : decode cX7_sheet 61 = .ok (.getfield 46, 3) := by decide +kernel
theorem dX7_sheet_64 : decode cX7_sheet 64 = .ok (.iload_n 1, 1) := by decide +kernel
theorem dX7_sheet_65 : decode cX7_sheet 65 = .ok (.aaload, 1) := by decide +kernel
theorem dX7_sheet_66 : decode cX7_sheet 66 = .ok (.iload_n 2, 1) := by decide +kernel
theorem dX7_sheet_67 : decode cX7_sheet 67 = .ok (.iload_n 3, 1) := by decide +kernel
theorem dX7_sheet_68 : decode cX7_sheet 68 = .ok (.invokevirtual 231, 3) := by decide +kernel
theorem dX7_sheet_71 : decode cX7_sheet 71 = .ok (.ireturn, 1) := by decide +kernel
theorem dX7_put_0 : decode cX7_put 0 = .ok (.iload_n 1, 1) := by decide +kernel
theorem dX7_put_1 : decode cX7_put 1 = .ok (.invokestatic 228, 3) := by decide +kernel
theorem dX7_put_4 : decode cX7_put 4 = .ok (.ifCond .ne 10, 3) := by decide +kernel
theorem dX7_put_7 : decode cX7_put 7 = .ok (.aload_n 0, 1) := by decide +kernel
theorem dX7_put_8 : decode cX7_put 8 = .ok (.ldc 59, 2) := by decide +kernel
theorem dX7_put_10 : decode cX7_put 10 = .ok (.invokevirtual 60, 3) := by decide +kernel
theorem dX7_put_13 : decode cX7_put 13 = .ok (.ireturn, 1) := by decide +kernel
theorem dX7_put_14 : decode cX7_put 14 = .ok (.aload_n 0, 1) := by decide +kernel
theorem dX7_put_15 : decode cX7_put 15 = .ok (.getfield 46, 3) := by decide +kernel
theorem dX7_put_18 : decode cX7_put 18 = .ok (.iload_n 1, 1) := by decide +kernel
theorem dX7_put_19 : decode cX7_put 19 = .ok (.aaload, 1) := by decide +kernel
theorem dX7_put_20 : decode cX7_put 20 = .ok (.astore 4, 2) := by decide +kernel
theorem dX7_put_22 : decode cX7_put 22 = .ok (.aload 4, 2) := by decide +kernel
theorem dX7_put_24 : decode cX7_put 24 = .ok (.invokevirtual 234, 3) := by decide +kernel
theorem dX7_put_27 : decode cX7_put 27 = .ok (.ifCond .eq 10, 3) := by decide +kernel
theorem dX7_put_30 : decode cX7_put 30 = .ok (.aload_n 0, 1) := by decide +kernel
theorem dX7_put_31 : decode cX7_put 31 = .ok (.ldc 238, 2) := by decide +kernel
theorem dX7_put_33 : decode cX7_put 33 = .ok (.invokevirtual 60, 3) := by decide +kernel
theorem dX7_put_36 : decode cX7_put 36 = .ok (.ireturn, 1) := by decide +kernel
theorem dX7_put_37 : decode cX7_put 37 = .ok (.iload_n 2, 1) := by decide +kernel
theorem dX7_put_38 : decode cX7_put 38 = .ok (.iconst 0, 1) := by decide +kernel
theorem dX7_put_39 : decode cX7_put 39 = .ok (.aload 4, 2) := by decide +kernel
theorem dX7_put_41 : decode cX7_put 41 = .ok (.getfield 239, 3) := by decide +kernel
theorem dX7_put_44 : decode cX7_put 44 = .ok (.iconst 1, 1) := by decide +kernel
theorem dX7_put_45 : decode cX7_put 45 = .ok (.isub, 1) := by decide +kernel
theorem dX7_put_46 : decode cX7_put 46 = .ok (.invokestatic 55, 3) := by decide +kernel
theorem dX7_put_49 : decode cX7_put 49 = .ok (.ifCond .ne 10, 3) := by decide +kernel
theorem dX7_put_52 : decode cX7_put 52 = .ok (.aload_n 0, 1) := by decide +kernel
theorem dX7_put_53 : decode cX7_put 53 = .ok (.ldc 59, 2) := by decide +kernel
theorem dX7_put_55 : decode cX7_put 55 = .ok (.invokevirtual 60, 3) := by decide +kernel
theorem dX7_put_58 : decode cX7_put 58 = .ok (.ireturn, 1) := by decide +kernel
theorem dX7_put_59 : decode cX7_put 59 = .ok (.aload 4, 2) := by decide +kernel
theorem dX7_put_61 : decode cX7_put 61 = .ok (.getfield 241, 3) := by decide +kernel
theorem dX7_put_64 : decode cX7_put 64 = .ok (.iload_n 2, 1) := by decide +kernel
theorem dX7_put_65 : decode cX7_put 65 = .ok (.aload 4, 2) := by decide +kernel
theorem dX7_put_67 : decode cX7_put 67 = .ok (.iload_n 3, 1) := by decide +kernel
theorem dX7_put_68 : decode cX7_put 68 = .ok (.invokevirtual 244, 3) := by decide +kernel
theorem dX7_put_71 : decode cX7_put 71 = .ok (.iastore, 1) := by decide +kernel
theorem dX7_put_72 : decode cX7_put 72 = .ok (.iconst 0, 1) := by decide +kernel
theorem dX7_put_73 : decode cX7_put 73 = .ok (.ireturn, 1) := by decide +kernel
theorem dX7_copy_0 : decode cX7_copy 0 = .ok (.iload_n 1, 1) := by decide +kernel
theorem dX7_copy_1 : decode cX7_copy 1 = .ok (.invokestatic 228, 3) := by decide +kernel
theorem dX7_copy_4 : decode cX7_copy 4 = .ok (.ifCond .eq 10, 3) := by decide +kernel
theorem dX7_copy_7 : decode cX7_copy 7 = .ok (.iload_n 3, 1) := by decide +kernel
theorem dX7_copy_8 : decode cX7_copy 8 = .ok (.invokestatic 228, 3) := by decide +kernel
theorem dX7_copy_11 : decode cX7_copy 11 = .ok (.ifCond .ne 10, 3) := by decide +kernel
theorem dX7_copy_14 : decode cX7_copy 14 = .ok (.aload_n 0, 1) := by decide +kernel
theorem dX7_copy_15 : decode cX7_copy 15 = .ok (.ldc 59, 2) := by decide +kernel
theorem dX7_copy_17 : decode cX7_copy 17 = .ok (.invokevirtual 60, 3) := by decide +kernel
theorem dX7_copy_20 : decode cX7_copy 20 = .ok (.ireturn, 1) := by decide +kernel
theorem dX7_copy_21 : decode cX7_copy 21 = .ok (.aload_n 0, 1) := by decide +kernel
theorem dX7_copy_22 : decode cX7_copy 22 = .ok (.getfield 46, 3) := by decide +kernel
theorem dX7_copy_25 : decode cX7_copy 25 = .ok (.iload_n 1, 1) := by decide +kernel
theorem dX7_copy_26 : decode cX7_copy 26 = .ok (.aaload, 1) := by decide +kernel
theorem dX7_copy_27 : decode cX7_copy 27 = .ok (.astore 6, 2) := by decide +kernel
theorem dX7_copy_29 : decode cX7_copy 29 = .ok (.aload_n 0, 1) := by decide +kernel
theorem dX7_copy_30 : decode cX7_copy 30 = .ok (.getfield 46, 3) := by decide +kernel
theorem dX7_copy_33 : decode cX7_copy 33 = .ok (.iload_n 3, 1) := by decide +kernel
theorem dX7_copy_34 : decode cX7_copy 34 = .ok (.aaload, 1) := by decide +kernel
theorem dX7_copy_35 : decode cX7_copy 35 = .ok (.astore 7, 2) := by decide +kernel
theorem dX7_copy_37 : decode cX7_copy 37 = .ok (.aload 6, 2) := by decide +kernel
theorem dX7_copy_39 : decode cX7_copy 39 = .ok (.invokevirtual 234, 3) := by decide +kernel
theorem dX7_copy_42 : decode cX7_copy 42 = .ok (.ifCond .ne 11, 3) := by decide +kernel
theorem dX7_copy_45 : decode cX7_copy 45 = .ok (.aload 7, 2) := by decide +kernel
theorem dX7_copy_47 : decode cX7_copy 47 = .ok (.invokevirtual 234, 3) := by decide +kernel
theorem dX7_copy_50 : decode cX7_copy 50 = .ok (.ifCond .eq 10, 3) := by decide +kernel
theorem dX7_copy_53 : decode cX7_copy 53 = .ok (.aload_n 0, 1) := by decide +kernel
theorem dX7_copy_54 : decode cX7_copy 54 = .ok (.ldc 238, 2) := by decide +kernel
theorem dX7_copy_56 : decode cX7_copy 56 = .ok (.invokevirtual 60, 3) := by decide +kernel
theorem dX7_copy_59 : decode cX7_copy 59 = .ok (.ireturn, 1) := by decide +kernel
theorem dX7_copy_60 : decode cX7_copy 60 = .ok (.aload 6, 2) := by decide +kernel
theorem dX7_copy_62 : decode cX7_copy 62 = .ok (.getfield 247, 3) := by decide +kernel
theorem dX7_copy_65 : decode cX7_copy 65 = .ok (.aload 7, 2) := by decide +kernel
theorem dX7_copy_67 : decode cX7_copy 67 = .ok (.getfield 247, 3) := by decide +kernel
theorem dX7_copy_70 : decode cX7_copy 70 = .ok (.if_icmp .eq 10, 3) := by decide +kernel
theorem dX7_copy_73 : decode cX7_copy 73 = .ok (.aload_n 0, 1) := by decide +kernel
theorem dX7_copy_74 : decode cX7_copy 74 = .ok (.ldc 144, 2) := by decide +kernel
theorem dX7_copy_76 : decode cX7_copy 76 = .ok (.invokevirtual 60, 3) := by decide +kernel
theorem dX7_copy_79 : decode cX7_copy 79 = .ok (.ireturn, 1) := by decide +kernel
theorem dX7_copy_80 : decode cX7_copy 80 = .ok (.aload 6, 2) := by decide +kernel
theorem dX7_copy_82 : decode cX7_copy 82 = .ok (.iload_n 2, 1) := by decide +kernel
theorem dX7_copy_83 : decode cX7_copy 83 = .ok (.iload 5, 2) := by decide +kernel
theorem dX7_copy_85 : decode cX7_copy 85 = .ok (.invokevirtual 250, 3) := by decide +kernel
theorem dX7_copy_88 : decode cX7_copy 88 = .ok (.ifCond .eq 15, 3) := by decide +kernel
theorem dX7_copy_91 : decode cX7_copy 91 = .ok (.aload 7, 2) := by decide +kernel
theorem dX7_copy_93 : decode cX7_copy 93 = .ok (.iload 4, 2) := by decide +kernel
theorem dX7_copy_95 : decode cX7_copy 95 = .ok (.iload 5, 2) := by decide +kernel
theorem dX7_copy_97 : decode cX7_copy 97 = .ok (.invokevirtual 250, 3) := by decide +kernel
theorem dX7_copy_100 : decode cX7_copy 100 = .ok (.ifCond .ne 10, 3) := by decide +kernel
theorem dX7_copy_103 : decode cX7_copy 103 = .ok (.aload_n 0, 1) := by decide +kernel
theorem dX7_copy_104 : decode cX7_copy 104 = .ok (.ldc 59, 2) := by decide +kernel
theorem dX7_copy_106 : decode cX7_copy 106 = .ok (.invokevirtual 60, 3) := by decide +kernel
theorem dX7_copy_109 : decode cX7_copy 109 = .ok (.ireturn, 1) := by decide +kernel
theorem dX7_copy_110 : decode cX7_copy 110 = .ok (.aload 6, 2) := by decide +kernel
theorem dX7_copy_112 : decode cX7_copy 112 = .ok (.getfield 241, 3) := by decide +kernel
theorem dX7_copy_115 : decode cX7_copy 115 = .ok (.iload_n 2, 1) := by decide +kernel
theorem dX7_copy_116 : decode cX7_copy 116 = .ok (.aload 7, 2) := by decide +kernel
theorem dX7_copy_118 : decode cX7_copy 118 = .ok (.getfield 241, 3) := by decide +kernel
theorem dX7_copy_121 : decode cX7_copy 121 = .ok (.iload 4, 2) := by decide +kernel
theorem dX7_copy_123 : decode cX7_copy 123 = .ok (.iload 5, 2) := by decide +kernel
theorem dX7_copy_125 : decode cX7_copy 125 = .ok (.invokestatic 254, 3) := by decide +kernel
theorem dX7_copy_128 : decode cX7_copy 128 = .ok (.iload 5, 2) := by decide +kernel
theorem dX7_copy_130 : decode cX7_copy 130 = .ok (.ireturn, 1) := by decide +kernel
theorem dX7_let_0 : decode cX7_let 0 = .ok (.iload_n 1, 1) := by decide +kernel
theorem dX7_let_1 : decode cX7_let 1 = .ok (.invokestatic 103, 3) := by decide +kernel
theorem dX7_let_4 : decode cX7_let 4 = .ok (.ifCond .eq 10, 3) := by decide +kernel
theorem dX7_let_7 : decode cX7_let 7 = .ok (.iload_n 2, 1) := by decide +kernel
theorem dX7_let_8 : decode cX7_let 8 = .ok (.invokestatic 228, 3) := by decide +kernel
theorem dX7_let_11 : decode cX7_let 11 = .ok (.ifCond .ne 10, 3) := by decide +kernel
theorem dX7_let_14 : decode cX7_let 14 = .ok (.aload_n 0, 1) := by decide +kernel
theorem dX7_let_15 : decode cX7_let 15 = .ok (.ldc 59, 2) := by decide +kernel
theorem dX7_let_17 : decode cX7_let 17 = .ok (.invokevirtual 60, 3) := by decide +kernel
theorem dX7_let_20 : decode cX7_let 20 = .ok (.ireturn, 1) := by decide +kernel
theorem dX7_let_21 : decode cX7_let 21 = .ok (.aload_n 0, 1) := by decide +kernel
theorem dX7_let_22 : decode cX7_let 22 = .ok (.getfield 46, 3) := by decide +kernel
theorem dX7_let_25 : decode cX7_let 25 = .ok (.iload_n 2, 1) := by decide +kernel
theorem dX7_let_26 : decode cX7_let 26 = .ok (.aaload, 1) := by decide +kernel
theorem dX7_let_27 : decode cX7_let 27 = .ok (.astore_n 3, 1) := by decide +kernel
theorem dX7_let_28 : decode cX7_let 28 = .ok (.aload_n 3, 1) := by decide +kernel
theorem dX7_let_29 : decode cX7_let 29 = .ok (.invokevirtual 234, 3) := by decide +kernel
theorem dX7_let_32 : decode cX7_let 32 = .ok (.ifCond .eq 10, 3) := by decide +kernel
theorem dX7_let_35 : decode cX7_let 35 = .ok (.aload_n 0, 1) := by decide +kernel
theorem dX7_let_36 : decode cX7_let 36 = .ok (.ldc 238, 2) := by decide +kernel
theorem dX7_let_38 : decode cX7_let 38 = .ok (.invokevirtual 60, 3) := by decide +kernel
theorem dX7_let_41 : decode cX7_let 41 = .ok (.ireturn, 1) := by decide +kernel
theorem dX7_let_42 : decode cX7_let 42 = .ok (.iload_n 1, 1) := by decide +kernel
theorem dX7_let_43 : decode cX7_let 43 = .ok (.iconst 4, 1) := by decide +kernel
theorem dX7_let_44 : decode cX7_let 44 = .ok (.imul, 1) := by decide +kernel
theorem dX7_let_45 : decode cX7_let 45 = .ok (.istore 4, 2) := by decide +kernel
theorem dX7_let_47 : decode cX7_let 47 = .ok (.aload_n 3, 1) := by decide +kernel
theorem dX7_let_48 : decode cX7_let 48 = .ok (.getfield 239, 3) := by decide +kernel
theorem dX7_let_51 : decode cX7_let 51 = .ok (.bipush 120, 2) := by decide +kernel
theorem dX7_let_53 : decode cX7_let 53 = .ok (.iload 4, 2) := by decide +kernel
theorem dX7_let_55 : decode cX7_let 55 = .ok (.isub, 1) := by decide +kernel
theorem dX7_let_56 : decode cX7_let 56 = .ok (.if_icmp .le 10, 3) := by decide +kernel
theorem dX7_let_59 : decode cX7_let 59 = .ok (.aload_n 0, 1) := by decide +kernel
theorem dX7_let_60 : decode cX7_let 60 = .ok (.ldc 87, 2) := by decide +kernel
theorem dX7_let_62 : decode cX7_let 62 = .ok (.invokevirtual 60, 3) := by decide +kernel
theorem dX7_let_65 : decode cX7_let 65 = .ok (.ireturn, 1) := by decide +kernel
theorem dX7_let_66 : decode cX7_let 66 = .ok (.iconst 0, 1) := by decide +kernel
theorem dX7_let_67 : decode cX7_let 67 = .ok (.istore 5, 2) := by decide +kernel
theorem dX7_let_69 : decode cX7_let 69 = .ok (.iload 5, 2) := by decide +kernel
theorem dX7_let_71 : decode cX7_let 71 = .ok (.aload_n 3, 1) := by decide +kernel
theorem dX7_let_72 : decode cX7_let 72 = .ok (.getfield 239, 3) := by decide +kernel
theorem dX7_let_75 : decode cX7_let 75 = .ok (.if_icmp .ge 29, 3) := by decide +kernel
theorem dX7_let_78 : decode cX7_let 78 = .ok (.aload_n 3, 1) := by decide +kernel
theorem dX7_let_79 : decode cX7_let 79 = .ok (.getfield 241, 3) := by decide +kernel
theorem dX7_let_82 : decode cX7_let 82 = .ok (.iload 5, 2) := by decide +kernel
theorem dX7_let_84 : decode cX7_let 84 = .ok (.iaload, 1) := by decide +kernel
theorem dX7_let_85 : decode cX7_let 85 = .ok (.invokestatic 83, 3) := by decide +kernel
theorem dX7_let_88 : decode cX7_let 88 = .ok (.ifCond .ne 10, 3) := by decide +kernel
theorem dX7_let_91 : decode cX7_let 91 = .ok (.aload_n 0, 1) := by decide +kernel
theorem dX7_let_92 : decode cX7_let 92 = .ok (.ldc 59, 2) := by decide +kernel
theorem dX7_let_94 : decode cX7_let 94 = .ok (.invokevirtual 60, 3) := by decide +kernel
theorem dX7_let_97 : decode cX7_let 97 = .ok (.ireturn, 1) := by decide +kernel
theorem dX7_let_98 : decode cX7_let 98 = .ok (.iinc 5 1, 3) := by decide +kernel
theorem dX7_let_101 : decode cX7_let 101 = .ok (.goto (-32), 3) := by decide +kernel
theorem dX7_let_104 : decode cX7_let 104 = .ok (.aload_n 0, 1) := by decide +kernel
theorem dX7_let_105 : decode cX7_let 105 = .ok (.getfield 40, 3) := by decide +kernel
theorem dX7_let_108 : decode cX7_let 108 = .ok (.aload_n 0, 1) := by decide +kernel
theorem dX7_let_109 : decode cX7_let 109 = .ok (.getfield 10, 3) := by decide +kernel
theorem dX7_let_112 : decode cX7_let 112 = .ok (.getfield 106, 3) := by decide +kernel
theorem dX7_let_115 : decode cX7_let 115 = .ok (.iload 4, 2) := by decide +kernel
theorem dX7_let_117 : decode cX7_let 117 = .ok (.aload_n 3, 1) := by decide +kernel
theorem dX7_let_118 : decode cX7_let 118 = .ok (.getfield 239, 3) := by decide +kernel
theorem dX7_let_121 : decode cX7_let 121 = .ok (.invokevirtual 260, 3) := by decide +kernel
theorem dX7_let_124 : decode cX7_let 124 = .ok (.aload_n 3, 1) := by decide +kernel
theorem dX7_let_125 : decode cX7_let 125 = .ok (.getfield 241, 3) := by decide +kernel
theorem dX7_let_128 : decode cX7_let 128 = .ok (.iconst 0, 1) := by decide +kernel
theorem dX7_let_129 : decode cX7_let 129 = .ok (.aload_n 0, 1) := by decide +kernel
theorem dX7_let_130 : decode cX7_let 130 = .ok (.getfield 10, 3) := by decide +kernel
theorem dX7_let_133 : decode cX7_let 133 = .ok (.getfield 106, 3) := by decide +kernel
theorem dX7_let_136 : decode cX7_let 136 = .ok (.iload 4, 2) := by decide +kernel
theorem dX7_let_138 : decode cX7_let 138 = .ok (.aload_n 3, 1) := by decide +kernel
theorem dX7_let_139 : decode cX7_let 139 = .ok (.getfield 239, 3) := by decide +kernel
theorem dX7_let_142 : decode cX7_let 142 = .ok (.invokestatic 254, 3) := by decide +kernel
theorem dX7_let_145 : decode cX7_let 145 = .ok (.aload_n 3, 1) := by decide +kernel
theorem dX7_let_146 : decode cX7_let 146 = .ok (.getfield 239, 3) := by decide +kernel
theorem dX7_let_149 : decode cX7_let 149 = .ok (.ireturn, 1) := by decide +kernel
theorem dX7_undo_0 : decode cX7_undo 0 = .ok (.aload_n 0, 1) := by decide +kernel
theorem dX7_undo_1 : decode cX7_undo 1 = .ok (.getfield 40, 3) := by decide +kernel
theorem dX7_undo_4 : decode cX7_undo 4 = .ok (.invokevirtual 264, 3) := by decide +kernel
theorem dX7_undo_7 : decode cX7_undo 7 = .ok (.ifCond .eq 13, 3) := by decide +kernel
theorem dX7_undo_10 : decode cX7_undo 10 = .ok (.aload_n 0, 1) := by decide +kernel
theorem dX7_undo_11 : decode cX7_undo 11 = .ok (.getfield 40, 3) := by decide +kernel
theorem dX7_undo_14 : decode cX7_undo 14 = .ok (.getfield 267, 3) := by decide +kernel
theorem dX7_undo_17 : decode cX7_undo 17 = .ok (.goto 9, 3) := by decide +kernel
theorem dX7_undo_20 : decode cX7_undo 20 = .ok (.aload_n 0, 1) := by decide +kernel
theorem dX7_undo_21 : decode cX7_undo 21 = .ok (.ldc 165, 2) := by decide +kernel
theorem dX7_undo_23 : decode cX7_undo 23 = .ok (.invokevirtual 60, 3) := by decide +kernel
theorem dX7_undo_26 : decode cX7_undo 26 = .ok (.ireturn, 1) := by decide +kernel
theorem dX7_all_0 : decode cX7_all 0 = .ok (.iload_n 1, 1) := by decide +kernel
theorem dX7_all_1 : decode cX7_all 1 = .ok (.tableswitch 90 0 5 #[39, 49, 59, 69, 77, 85], 39) := by decide +kernel
theorem dX7_all_40 : decode cX7_all 40 = .ok (.aload_n 0, 1) := by decide +kernel
theorem dX7_all_41 : decode cX7_all 41 = .ok (.getfield 10, 3) := by decide +kernel
end
section
theorem dX7_all_44 : decode cX7_all 44 = .ok (.getfield 72, 3) := by decide +kernel
theorem dX7_all_47 : decode cX7_all 47 = .ok (.iconst 0, 1) := by decide +kernel
theorem dX7_all_48 : decode cX7_all 48 = .ok (.iaload, 1) := by decide +kernel
theorem dX7_all_49 : decode cX7_all 49 = .ok (.ireturn, 1) := by decide +kernel
theorem dX7_all_50 : decode cX7_all 50 = .ok (.aload_n 0, 1) := by decide +kernel
theorem dX7_all_51 : decode cX7_all 51 = .ok (.getfield 10, 3) := by decide +kernel
theorem dX7_all_54 : decode cX7_all 54 = .ok (.getfield 72, 3) := by decide +kernel
theorem dX7_all_57 : decode cX7_all 57 = .ok (.iconst 1, 1) := by decide +kernel
theorem dX7_all_58 : decode cX7_all 58 = .ok (.iaload, 1) := by decide +kernel
theorem dX7_all_59 : decode cX7_all 59 = .ok (.ireturn, 1) := by decide +kernel
theorem dX7_all_60 : decode cX7_all 60 = .ok (.aload_n 0, 1) := by decide +kernel
theorem dX7_all_61 : decode cX7_all 61 = .ok (.getfield 10, 3) := by decide +kernel
theorem dX7_all_64 : decode cX7_all 64 = .ok (.getfield 72, 3) := by decide +kernel
theorem dX7_all_67 : decode cX7_all 67 = .ok (.iconst 2, 1) := by decide +kernel
theorem dX7_all_68 : decode cX7_all 68 = .ok (.iaload, 1) := by decide +kernel
theorem dX7_all_69 : decode cX7_all 69 = .ok (.ireturn, 1) := by decide +kernel
theorem dX7_all_70 : decode cX7_all 70 = .ok (.aload_n 0, 1) := by decide +kernel
theorem dX7_all_71 : decode cX7_all 71 = .ok (.getfield 19, 3) := by decide +kernel
theorem dX7_all_74 : decode cX7_all 74 = .ok (.invokevirtual 119, 3) := by decide +kernel
theorem dX7_all_77 : decode cX7_all 77 = .ok (.ireturn, 1) := by decide +kernel
theorem dX7_all_78 : decode cX7_all 78 = .ok (.aload_n 0, 1) := by decide +kernel
theorem dX7_all_79 : decode cX7_all 79 = .ok (.getfield 33, 3) := by decide +kernel
theorem dX7_all_82 : decode cX7_all 82 = .ok (.invokevirtual 202, 3) := by decide +kernel
theorem dX7_all_85 : decode cX7_all 85 = .ok (.ireturn, 1) := by decide +kernel
theorem dX7_all_86 : decode cX7_all 86 = .ok (.aload_n 0, 1) := by decide +kernel
theorem dX7_all_87 : decode cX7_all 87 = .ok (.getfield 50, 3) := by decide +kernel
theorem dX7_all_90 : decode cX7_all 90 = .ok (.ireturn, 1) := by decide +kernel
theorem dX7_all_91 : decode cX7_all 91 = .ok (.aload_n 0, 1) := by decide +kernel
theorem dX7_all_92 : decode cX7_all 92 = .ok (.ldc 59, 2) := by decide +kernel
theorem dX7_all_94 : decode cX7_all 94 = .ok (.invokevirtual 60, 3) := by decide +kernel
theorem dX7_all_97 : decode cX7_all 97 = .ok (.ireturn, 1) := by decide +kernel
theorem dX7_finding_0 : decode cX7_finding 0 = .ok (.aload_n 0, 1) := by decide +kernel
theorem dX7_finding_1 : decode cX7_finding 1 = .ok (.dup, 1) := by decide +kernel
theorem dX7_finding_2 : decode cX7_finding 2 = .ok (.getfield 50, 3) := by decide +kernel
theorem dX7_finding_5 : decode cX7_finding 5 = .ok (.iconst 1, 1) := by decide +kernel
theorem dX7_finding_6 : decode cX7_finding 6 = .ok (.iadd, 1) := by decide +kernel
theorem dX7_finding_7 : decode cX7_finding 7 = .ok (.putfield 50, 3) := by decide +kernel
theorem dX7_finding_10 : decode cX7_finding 10 = .ok (.iload_n 1, 1) := by decide +kernel
theorem dX7_finding_11 : decode cX7_finding 11 = .ok (.ireturn, 1) := by decide +kernel
theorem dX7_change_0 : decode cX7_change 0 = .ok (.aload_n 0, 1) := by decide +kernel
theorem dX7_change_1 : decode cX7_change 1 = .ok (.getfield 40, 3) := by decide +kernel
theorem dX7_change_4 : decode cX7_change 4 = .ok (.aload_n 1, 1) := by decide +kernel
theorem dX7_change_5 : decode cX7_change 5 = .ok (.iload_n 2, 1) := by decide +kernel
theorem dX7_change_6 : decode cX7_change 6 = .ok (.iconst 1, 1) := by decide +kernel
theorem dX7_change_7 : decode cX7_change 7 = .ok (.invokevirtual 260, 3) := by decide +kernel
theorem dX7_change_10 : decode cX7_change 10 = .ok (.aload_n 1, 1) := by decide +kernel
theorem dX7_change_11 : decode cX7_change 11 = .ok (.iload_n 2, 1) := by decide +kernel
theorem dX7_change_12 : decode cX7_change 12 = .ok (.iaload, 1) := by decide +kernel
theorem dX7_change_13 : decode cX7_change 13 = .ok (.istore 4, 2) := by decide +kernel
theorem dX7_change_15 : decode cX7_change 15 = .ok (.aload_n 1, 1) := by decide +kernel
theorem dX7_change_16 : decode cX7_change 16 = .ok (.iload_n 2, 1) := by decide +kernel
theorem dX7_change_17 : decode cX7_change 17 = .ok (.iload_n 3, 1) := by decide +kernel
theorem dX7_change_18 : decode cX7_change 18 = .ok (.iastore, 1) := by decide +kernel
theorem dX7_change_19 : decode cX7_change 19 = .ok (.iload 4, 2) := by decide +kernel
theorem dX7_change_21 : decode cX7_change 21 = .ok (.ireturn, 1) := by decide +kernel
theorem dX7_keepTrips_0 : decode cX7_keepTrips 0 = .ok (.aload_n 0, 1) := by decide +kernel
theorem dX7_keepTrips_1 : decode cX7_keepTrips 1 = .ok (.getfield 40, 3) := by decide +kernel
theorem dX7_keepTrips_4 : decode cX7_keepTrips 4 = .ok (.aload_n 0, 1) := by decide +kernel
theorem dX7_keepTrips_5 : decode cX7_keepTrips 5 = .ok (.getfield 19, 3) := by decide +kernel
theorem dX7_keepTrips_8 : decode cX7_keepTrips 8 = .ok (.getfield 159, 3) := by decide +kernel
theorem dX7_keepTrips_11 : decode cX7_keepTrips 11 = .ok (.aload_n 0, 1) := by decide +kernel
theorem dX7_keepTrips_12 : decode cX7_keepTrips 12 = .ok (.getfield 19, 3) := by decide +kernel
theorem dX7_keepTrips_15 : decode cX7_keepTrips 15 = .ok (.iload_n 1, 1) := by decide +kernel
theorem dX7_keepTrips_16 : decode cX7_keepTrips 16 = .ok (.iconst 0, 1) := by decide +kernel
theorem dX7_keepTrips_17 : decode cX7_keepTrips 17 = .ok (.invokevirtual 162, 3) := by decide +kernel
theorem dX7_keepTrips_20 : decode cX7_keepTrips 20 = .ok (.iload_n 2, 1) := by decide +kernel
theorem dX7_keepTrips_21 : decode cX7_keepTrips 21 = .ok (.bipush 35, 2) := by decide +kernel
theorem dX7_keepTrips_23 : decode cX7_keepTrips 23 = .ok (.imul, 1) := by decide +kernel
theorem dX7_keepTrips_24 : decode cX7_keepTrips 24 = .ok (.invokevirtual 260, 3) := by decide +kernel
theorem dX7_keepTrips_27 : decode cX7_keepTrips 27 = .ok (.return_, 1) := by decide +kernel
theorem dX7_isCamp_0 : decode cX7_isCamp 0 = .ok (.iload_n 1, 1) := by decide +kernel
theorem dX7_isCamp_1 : decode cX7_isCamp 1 = .ok (.iconst 0, 1) := by decide +kernel
theorem dX7_isCamp_2 : decode cX7_isCamp 2 = .ok (.aload_n 0, 1) := by decide +kernel
theorem dX7_isCamp_3 : decode cX7_isCamp 3 = .ok (.getfield 10, 3) := by decide +kernel
theorem dX7_isCamp_6 : decode cX7_isCamp 6 = .ok (.getfield 72, 3) := by decide +kernel
theorem dX7_isCamp_9 : decode cX7_isCamp 9 = .ok (.iconst 0, 1) := by decide +kernel
theorem dX7_isCamp_10 : decode cX7_isCamp 10 = .ok (.iaload, 1) := by decide +kernel
theorem dX7_isCamp_11 : decode cX7_isCamp 11 = .ok (.iconst 1, 1) := by decide +kernel
theorem dX7_isCamp_12 : decode cX7_isCamp 12 = .ok (.isub, 1) := by decide +kernel
theorem dX7_isCamp_13 : decode cX7_isCamp 13 = .ok (.invokestatic 55, 3) := by decide +kernel
theorem dX7_isCamp_16 : decode cX7_isCamp 16 = .ok (.ireturn, 1) := by decide +kernel
theorem dX7_isTrip_0 : decode cX7_isTrip 0 = .ok (.iload_n 1, 1) := by decide +kernel
theorem dX7_isTrip_1 : decode cX7_isTrip 1 = .ok (.iconst 0, 1) := by decide +kernel
theorem dX7_isTrip_2 : decode cX7_isTrip 2 = .ok (.aload_n 0, 1) := by decide +kernel
theorem dX7_isTrip_3 : decode cX7_isTrip 3 = .ok (.getfield 19, 3) := by decide +kernel
theorem dX7_isTrip_6 : decode cX7_isTrip 6 = .ok (.invokevirtual 119, 3) := by decide +kernel
theorem dX7_isTrip_9 : decode cX7_isTrip 9 = .ok (.iconst 1, 1) := by decide +kernel
theorem dX7_isTrip_10 : decode cX7_isTrip 10 = .ok (.isub, 1) := by decide +kernel
theorem dX7_isTrip_11 : decode cX7_isTrip 11 = .ok (.invokestatic 55, 3) := by decide +kernel
theorem dX7_isTrip_14 : decode cX7_isTrip 14 = .ok (.ireturn, 1) := by decide +kernel
theorem dX7_isSet_0 : decode cX7_isSet 0 = .ok (.iload_n 1, 1) := by decide +kernel
theorem dX7_isSet_1 : decode cX7_isSet 1 = .ok (.iconst 1, 1) := by decide +kernel
theorem dX7_isSet_2 : decode cX7_isSet 2 = .ok (.aload_n 0, 1) := by decide +kernel
theorem dX7_isSet_3 : decode cX7_isSet 3 = .ok (.getfield 19, 3) := by decide +kernel
theorem dX7_isSet_6 : decode cX7_isSet 6 = .ok (.invokevirtual 119, 3) := by decide +kernel
theorem dX7_isSet_9 : decode cX7_isSet 9 = .ok (.ishl, 1) := by decide +kernel
theorem dX7_isSet_10 : decode cX7_isSet 10 = .ok (.ineg, 1) := by decide +kernel
theorem dX7_isSet_11 : decode cX7_isSet 11 = .ok (.iand, 1) := by decide +kernel
theorem dX7_isSet_12 : decode cX7_isSet 12 = .ok (.ifCond .ne 7, 3) := by decide +kernel
theorem dX7_isSet_15 : decode cX7_isSet 15 = .ok (.iconst 1, 1) := by decide +kernel
theorem dX7_isSet_16 : decode cX7_isSet 16 = .ok (.goto 4, 3) := by decide +kernel
theorem dX7_isSet_19 : decode cX7_isSet 19 = .ok (.iconst 0, 1) := by decide +kernel
theorem dX7_isSet_20 : decode cX7_isSet 20 = .ok (.ireturn, 1) := by decide +kernel
theorem dX7_isApplicant_0 : decode cX7_isApplicant 0 = .ok (.iload_n 1, 1) := by decide +kernel
theorem dX7_isApplicant_1 : decode cX7_isApplicant 1 = .ok (.iconst 0, 1) := by decide +kernel
theorem dX7_isApplicant_2 : decode cX7_isApplicant 2 = .ok (.aload_n 0, 1) := by decide +kernel
theorem dX7_isApplicant_3 : decode cX7_isApplicant 3 = .ok (.getfield 33, 3) := by decide +kernel
theorem dX7_isApplicant_6 : decode cX7_isApplicant 6 = .ok (.invokevirtual 202, 3) := by decide +kernel
theorem dX7_isApplicant_9 : decode cX7_isApplicant 9 = .ok (.iconst 1, 1) := by decide +kernel
theorem dX7_isApplicant_10 : decode cX7_isApplicant 10 = .ok (.isub, 1) := by decide +kernel
theorem dX7_isApplicant_11 : decode cX7_isApplicant 11 = .ok (.invokestatic 55, 3) := by decide +kernel
theorem dX7_isApplicant_14 : decode cX7_isApplicant 14 = .ok (.ireturn, 1) := by decide +kernel
theorem dX7_isSheet_0 : decode cX7_isSheet 0 = .ok (.iload_n 0, 1) := by decide +kernel
theorem dX7_isSheet_1 : decode cX7_isSheet 1 = .ok (.iconst 0, 1) := by decide +kernel
theorem dX7_isSheet_2 : decode cX7_isSheet 2 = .ok (.iconst 3, 1) := by decide +kernel
theorem dX7_isSheet_3 : decode cX7_isSheet 3 = .ok (.invokestatic 55, 3) := by decide +kernel
theorem dX7_isSheet_6 : decode cX7_isSheet 6 = .ok (.ireturn, 1) := by decide +kernel
theorem dX7_isDay_0 : decode cX7_isDay 0 = .ok (.iload_n 0, 1) := by decide +kernel
theorem dX7_isDay_1 : decode cX7_isDay 1 = .ok (.iconst 0, 1) := by decide +kernel
theorem dX7_isDay_2 : decode cX7_isDay 2 = .ok (.bipush 29, 2) := by decide +kernel
theorem dX7_isDay_4 : decode cX7_isDay 4 = .ok (.invokestatic 55, 3) := by decide +kernel
theorem dX7_isDay_7 : decode cX7_isDay 7 = .ok (.ireturn, 1) := by decide +kernel
theorem dX7_isKind_0 : decode cX7_isKind 0 = .ok (.iload_n 0, 1) := by decide +kernel
theorem dX7_isKind_1 : decode cX7_isKind 1 = .ok (.iconst 0, 1) := by decide +kernel
theorem dX7_isKind_2 : decode cX7_isKind 2 = .ok (.iconst 3, 1) := by decide +kernel
theorem dX7_isKind_3 : decode cX7_isKind 3 = .ok (.invokestatic 55, 3) := by decide +kernel
theorem dX7_isKind_6 : decode cX7_isKind 6 = .ok (.ireturn, 1) := by decide +kernel
theorem dX7_isMile_0 : decode cX7_isMile 0 = .ok (.iload_n 0, 1) := by decide +kernel
theorem dX7_isMile_1 : decode cX7_isMile 1 = .ok (.iconst 0, 1) := by decide +kernel
theorem dX7_isMile_2 : decode cX7_isMile 2 = .ok (.sipush 250, 3) := by decide +kernel
theorem dX7_isMile_5 : decode cX7_isMile 5 = .ok (.invokestatic 55, 3) := by decide +kernel
theorem dX7_isMile_8 : decode cX7_isMile 8 = .ok (.ireturn, 1) := by decide +kernel
theorem dX7_isWater_0 : decode cX7_isWater 0 = .ok (.iload_n 0, 1) := by decide +kernel
theorem dX7_isWater_1 : decode cX7_isWater 1 = .ok (.iconst 0, 1) := by decide +kernel
theorem dX7_isWater_2 : decode cX7_isWater 2 = .ok (.sipush 999, 3) := by decide +kernel
theorem dX7_isWater_5 : decode cX7_isWater 5 = .ok (.invokestatic 55, 3) := by decide +kernel
theorem dX7_isWater_8 : decode cX7_isWater 8 = .ok (.ireturn, 1) := by decide +kernel
theorem dX7_within_0 : decode cX7_within 0 = .ok (.iload_n 1, 1) := by decide +kernel
theorem dX7_within_1 : decode cX7_within 1 = .ok (.iload_n 0, 1) := by decide +kernel
theorem dX7_within_2 : decode cX7_within 2 = .ok (.if_icmp .gt 12, 3) := by decide +kernel
theorem dX7_within_5 : decode cX7_within 5 = .ok (.iload_n 0, 1) := by decide +kernel
theorem dX7_within_6 : decode cX7_within 6 = .ok (.iload_n 2, 1) := by decide +kernel
theorem dX7_within_7 : decode cX7_within 7 = .ok (.if_icmp .gt 7, 3) := by decide +kernel
theorem dX7_within_10 : decode cX7_within 10 = .ok (.iconst 1, 1) := by decide +kernel
theorem dX7_within_11 : decode cX7_within 11 = .ok (.goto 4, 3) := by decide +kernel
theorem dX7_within_14 : decode cX7_within 14 = .ok (.iconst 0, 1) := by decide +kernel
theorem dX7_within_15 : decode cX7_within 15 = .ok (.ireturn, 1) := by decide +kernel
theorem dX7_holds_0 : decode cX7_holds 0 = .ok (.iload_n 0, 1) := by decide +kernel
theorem dX7_holds_1 : decode cX7_holds 1 = .ok (.iconst 1, 1) := by decide +kernel
theorem dX7_holds_2 : decode cX7_holds 2 = .ok (.iload_n 1, 1) := by decide +kernel
theorem dX7_holds_3 : decode cX7_holds 3 = .ok (.ishl, 1) := by decide +kernel
theorem dX7_holds_4 : decode cX7_holds 4 = .ok (.iand, 1) := by decide +kernel
theorem dX7_holds_5 : decode cX7_holds 5 = .ok (.ifCond .eq 7, 3) := by decide +kernel
theorem dX7_holds_8 : decode cX7_holds 8 = .ok (.iconst 1, 1) := by decide +kernel
theorem dX7_holds_9 : decode cX7_holds 9 = .ok (.goto 4, 3) := by decide +kernel
theorem dX7_holds_12 : decode cX7_holds 12 = .ok (.iconst 0, 1) := by decide +kernel
theorem dX7_holds_13 : decode cX7_holds 13 = .ok (.ireturn, 1) := by decide +kernel
theorem dX7_greatestDivisor_0 : decode cX7_greatestDivisor 0 = .ok (.iload_n 0, 1) := by decide +kernel
theorem dX7_greatestDivisor_1 : decode cX7_greatestDivisor 1 = .ok (.istore_n 2, 1) := by decide +kernel
theorem dX7_greatestDivisor_2 : decode cX7_greatestDivisor 2 = .ok (.iload_n 2, 1) := by decide +kernel
theorem dX7_greatestDivisor_3 : decode cX7_greatestDivisor 3 = .ok (.iconst 1, 1) := by decide +kernel
theorem dX7_greatestDivisor_4 : decode cX7_greatestDivisor 4 = .ok (.if_icmp .le 23, 3) := by decide +kernel
theorem dX7_greatestDivisor_7 : decode cX7_greatestDivisor 7 = .ok (.iload_n 0, 1) := by decide +kernel
theorem dX7_greatestDivisor_8 : decode cX7_greatestDivisor 8 = .ok (.iload_n 2, 1) := by decide +kernel
theorem dX7_greatestDivisor_9 : decode cX7_greatestDivisor 9 = .ok (.irem, 1) := by decide +kernel
theorem dX7_greatestDivisor_10 : decode cX7_greatestDivisor 10 = .ok (.ifCond .ne 11, 3) := by decide +kernel
theorem dX7_greatestDivisor_13 : decode cX7_greatestDivisor 13 = .ok (.iload_n 1, 1) := by decide +kernel
theorem dX7_greatestDivisor_14 : decode cX7_greatestDivisor 14 = .ok (.iload_n 2, 1) := by decide +kernel
theorem dX7_greatestDivisor_15 : decode cX7_greatestDivisor 15 = .ok (.irem, 1) := by decide +kernel
theorem dX7_greatestDivisor_16 : decode cX7_greatestDivisor 16 = .ok (.ifCond .ne 5, 3) := by decide +kernel
theorem dX7_greatestDivisor_19 : decode cX7_greatestDivisor 19 = .ok (.iload_n 2, 1) := by decide +kernel
theorem dX7_greatestDivisor_20 : decode cX7_greatestDivisor 20 = .ok (.ireturn, 1) := by decide +kernel
theorem dX7_greatestDivisor_21 : decode cX7_greatestDivisor 21 = .ok (.iinc 2 (-1), 3) := by decide +kernel
theorem dX7_greatestDivisor_24 : decode cX7_greatestDivisor 24 = .ok (.goto (-22), 3) := by decide +kernel
theorem dX7_greatestDivisor_27 : decode cX7_greatestDivisor 27 = .ok (.iconst 1, 1) := by decide +kernel
theorem dX7_greatestDivisor_28 : decode cX7_greatestDivisor 28 = .ok (.ireturn, 1) := by decide +kernel
theorem dX8_init_0 : decode cX8_init 0 = .ok (.aload_n 0, 1) := by decide +kernel
theorem dX8_init_1 : decode cX8_init 1 = .ok (.invokespecial 1, 3) := by decide +kernel
theorem dX8_init_4 : decode cX8_init 4 = .ok (.aload_n 0, 1) := by decide +kernel
theorem dX8_init_5 : decode cX8_init 5 = .ok (.sipush 556, 3) := by decide +kernel
theorem dX8_init_8 : decode cX8_init 8 = .ok (.newarray .int, 2) := by decide +kernel
theorem dX8_init_10 : decode cX8_init 10 = .ok (.putfield 7, 3) := by decide +kernel
theorem dX8_init_13 : decode cX8_init 13 = .ok (.aload_n 0, 1) := by decide +kernel
theorem dX8_init_14 : decode cX8_init 14 = .ok (.sipush 11120, 3) := by decide +kernel
theorem dX8_init_17 : decode cX8_init 17 = .ok (.newarray .int, 2) := by decide +kernel
theorem dX8_init_19 : decode cX8_init 19 = .ok (.putfield 13, 3) := by decide +kernel
theorem dX8_init_22 : decode cX8_init 22 = .ok (.aload_n 0, 1) := by decide +kernel
theorem dX8_init_23 : decode cX8_init 23 = .ok (.iconst 4, 1) := by decide +kernel
theorem dX8_init_24 : decode cX8_init 24 = .ok (.newarray .int, 2) := by decide +kernel
theorem dX8_init_26 : decode cX8_init 26 = .ok (.putfield 16, 3) := by decide +kernel
theorem dX8_init_29 : decode cX8_init 29 = .ok (.aload_n 0, 1) := by decide +kernel
theorem dX8_init_30 : decode cX8_init 30 = .ok (.iconst 4, 1) := by decide +kernel
theorem dX8_init_31 : decode cX8_init 31 = .ok (.newarray .int, 2) := by decide +kernel
theorem dX8_init_33 : decode cX8_init 33 = .ok (.putfield 19, 3) := by decide +kernel
theorem dX8_init_36 : decode cX8_init 36 = .ok (.aload_n 0, 1) := by decide +kernel
theorem dX8_init_37 : decode cX8_init 37 = .ok (.sipush 160, 3) := by decide +kernel
theorem dX8_init_40 : decode cX8_init 40 = .ok (.newarray .int, 2) := by decide +kernel
theorem dX8_init_42 : decode cX8_init 42 = .ok (.putfield 22, 3) := by decide +kernel
theorem dX8_init_45 : decode cX8_init 45 = .ok (.aload_n 0, 1) := by decide +kernel
theorem dX8_init_46 : decode cX8_init 46 = .ok (.sipush 720, 3) := by decide +kernel
theorem dX8_init_49 : decode cX8_init 49 = .ok (.newarray .int, 2) := by decide +kernel
theorem dX8_init_51 : decode cX8_init 51 = .ok (.putfield 25, 3) := by decide +kernel
theorem dX8_init_54 : decode cX8_init 54 = .ok (.aload_n 0, 1) := by decide +kernel
theorem dX8_init_55 : decode cX8_init 55 = .ok (.bipush 15, 2) := by decide +kernel
theorem dX8_init_57 : decode cX8_init 57 = .ok (.newarray .int, 2) := by decide +kernel
theorem dX8_init_59 : decode cX8_init 59 = .ok (.putfield 28, 3) := by decide +kernel
theorem dX8_init_62 : decode cX8_init 62 = .ok (.aload_n 0, 1) := by decide +kernel
theorem dX8_init_63 : decode cX8_init 63 = .ok (.sipush 300, 3) := by decide +kernel
theorem dX8_init_66 : decode cX8_init 66 = .ok (.newarray .int, 2) := by decide +kernel
theorem dX8_init_68 : decode cX8_init 68 = .ok (.putfield 31, 3) := by decide +kernel
theorem dX8_init_71 : decode cX8_init 71 = .ok (.aload_n 0, 1) := by decide +kernel
theorem dX8_init_72 : decode cX8_init 72 = .ok (.bipush 12, 2) := by decide +kernel
theorem dX8_init_74 : decode cX8_init 74 = .ok (.newarray .int, 2) := by decide +kernel
theorem dX8_init_76 : decode cX8_init 76 = .ok (.putfield 34, 3) := by decide +kernel
theorem dX8_init_79 : decode cX8_init 79 = .ok (.aload_n 0, 1) := by decide +kernel
theorem dX8_init_80 : decode cX8_init 80 = .ok (.bipush 12, 2) := by decide +kernel
theorem dX8_init_82 : decode cX8_init 82 = .ok (.newarray .boolean, 2) := by decide +kernel
theorem dX8_init_84 : decode cX8_init 84 = .ok (.putfield 37, 3) := by decide +kernel
theorem dX8_init_87 : decode cX8_init 87 = .ok (.aload_n 0, 1) := by decide +kernel
theorem dX8_init_88 : decode cX8_init 88 = .ok (.bipush 40, 2) := by decide +kernel
theorem dX8_init_90 : decode cX8_init 90 = .ok (.newarray .int, 2) := by decide +kernel
theorem dX8_init_92 : decode cX8_init 92 = .ok (.putfield 41, 3) := by decide +kernel
theorem dX8_init_95 : decode cX8_init 95 = .ok (.aload_n 0, 1) := by decide +kernel
theorem dX8_init_96 : decode cX8_init 96 = .ok (.getfield 7, 3) := by decide +kernel
theorem dX8_init_99 : decode cX8_init 99 = .ok (.iconst 0, 1) := by decide +kernel
theorem dX8_init_100 : decode cX8_init 100 = .ok (.sipush 200, 3) := by decide +kernel
theorem dX8_init_103 : decode cX8_init 103 = .ok (.iastore, 1) := by decide +kernel
theorem dX8_init_104 : decode cX8_init 104 = .ok (.aload_n 0, 1) := by decide +kernel
theorem dX8_init_105 : decode cX8_init 105 = .ok (.getfield 7, 3) := by decide +kernel
theorem dX8_init_108 : decode cX8_init 108 = .ok (.iconst 1, 1) := by decide +kernel
theorem dX8_init_109 : decode cX8_init 109 = .ok (.iconst 4, 1) := by decide +kernel
theorem dX8_init_110 : decode cX8_init 110 = .ok (.iastore, 1) := by decide +kernel
theorem dX8_init_111 : decode cX8_init 111 = .ok (.iconst 0, 1) := by decide +kernel
theorem dX8_init_112 : decode cX8_init 112 = .ok (.istore_n 1, 1) := by decide +kernel
theorem dX8_init_113 : decode cX8_init 113 = .ok (.iload_n 1, 1) := by decide +kernel
theorem dX8_init_114 : decode cX8_init 114 = .ok (.bipush 120, 2) := by decide +kernel
theorem dX8_init_116 : decode cX8_init 116 = .ok (.if_icmp .ge 20, 3) := by decide +kernel
theorem dX8_init_119 : decode cX8_init 119 = .ok (.aload_n 0, 1) := by decide +kernel
theorem dX8_init_120 : decode cX8_init 120 = .ok (.getfield 7, 3) := by decide +kernel
theorem dX8_init_123 : decode cX8_init 123 = .ok (.bipush 74, 2) := by decide +kernel
theorem dX8_init_125 : decode cX8_init 125 = .ok (.iload_n 1, 1) := by decide +kernel
theorem dX8_init_126 : decode cX8_init 126 = .ok (.iadd, 1) := by decide +kernel
theorem dX8_init_127 : decode cX8_init 127 = .ok (.bipush 100, 2) := by decide +kernel
theorem dX8_init_129 : decode cX8_init 129 = .ok (.iastore, 1) := by decide +kernel
theorem dX8_init_130 : decode cX8_init 130 = .ok (.iinc 1 1, 3) := by decide +kernel
theorem dX8_init_133 : decode cX8_init 133 = .ok (.goto (-20), 3) := by decide +kernel
theorem dX8_init_136 : decode cX8_init 136 = .ok (.iconst 0, 1) := by decide +kernel
theorem dX8_init_137 : decode cX8_init 137 = .ok (.istore_n 1, 1) := by decide +kernel
theorem dX8_init_138 : decode cX8_init 138 = .ok (.iload_n 1, 1) := by decide +kernel
theorem dX8_init_139 : decode cX8_init 139 = .ok (.sipush 300, 3) := by decide +kernel
theorem dX8_init_142 : decode cX8_init 142 = .ok (.if_icmp .ge 20, 3) := by decide +kernel
theorem dX8_init_145 : decode cX8_init 145 = .ok (.aload_n 0, 1) := by decide +kernel
theorem dX8_init_146 : decode cX8_init 146 = .ok (.getfield 7, 3) := by decide +kernel
theorem dX8_init_149 : decode cX8_init 149 = .ok (.sipush 244, 3) := by decide +kernel
theorem dX8_init_152 : decode cX8_init 152 = .ok (.iload_n 1, 1) := by decide +kernel
theorem dX8_init_153 : decode cX8_init 153 = .ok (.iadd, 1) := by decide +kernel
theorem dX8_init_154 : decode cX8_init 154 = .ok (.iconst (-1), 1) := by decide +kernel
theorem dX8_init_155 : decode cX8_init 155 = .ok (.iastore, 1) := by decide +kernel
theorem dX8_init_156 : decode cX8_init 156 = .ok (.iinc 1 1, 3) := by decide +kernel
theorem dX8_init_159 : decode cX8_init 159 = .ok (.goto (-21), 3) := by decide +kernel
theorem dX8_init_162 : decode cX8_init 162 = .ok (.return_, 1) := by decide +kernel
theorem dX8_finding_0 : decode cX8_finding 0 = .ok (.aload_n 0, 1) := by decide +kernel
theorem dX8_finding_1 : decode cX8_finding 1 = .ok (.dup, 1) := by decide +kernel
theorem dX8_finding_2 : decode cX8_finding 2 = .ok (.getfield 44, 3) := by decide +kernel
theorem dX8_finding_5 : decode cX8_finding 5 = .ok (.iconst 1, 1) := by decide +kernel
theorem dX8_finding_6 : decode cX8_finding 6 = .ok (.iadd, 1) := by decide +kernel
theorem dX8_finding_7 : decode cX8_finding 7 = .ok (.putfield 44, 3) := by decide +kernel
theorem dX8_finding_10 : decode cX8_finding 10 = .ok (.iload_n 1, 1) := by decide +kernel
theorem dX8_finding_11 : decode cX8_finding 11 = .ok (.ireturn, 1) := by decide +kernel
theorem dX8_isIn_0 : decode cX8_isIn 0 = .ok (.iload_n 0, 1) := by decide +kernel
theorem dX8_isIn_1 : decode cX8_isIn 1 = .ok (.iload_n 1, 1) := by decide +kernel
theorem dX8_isIn_2 : decode cX8_isIn 2 = .ok (.if_icmp .lt 12, 3) := by decide +kernel
theorem dX8_isIn_5 : decode cX8_isIn 5 = .ok (.iload_n 0, 1) := by decide +kernel
theorem dX8_isIn_6 : decode cX8_isIn 6 = .ok (.iload_n 2, 1) := by decide +kernel
theorem dX8_isIn_7 : decode cX8_isIn 7 = .ok (.if_icmp .gt 7, 3) := by decide +kernel
theorem dX8_isIn_10 : decode cX8_isIn 10 = .ok (.iconst 1, 1) := by decide +kernel
theorem dX8_isIn_11 : decode cX8_isIn 11 = .ok (.goto 4, 3) := by decide +kernel
theorem dX8_isIn_14 : decode cX8_isIn 14 = .ok (.iconst 0, 1) := by decide +kernel
theorem dX8_isIn_15 : decode cX8_isIn 15 = .ok (.ireturn, 1) := by decide +kernel
theorem dX8_isCamp_0 : decode cX8_isCamp 0 = .ok (.iload_n 1, 1) := by decide +kernel
theorem dX8_isCamp_1 : decode cX8_isCamp 1 = .ok (.ifCond .lt 17, 3) := by decide +kernel
theorem dX8_isCamp_4 : decode cX8_isCamp 4 = .ok (.iload_n 1, 1) := by decide +kernel
theorem dX8_isCamp_5 : decode cX8_isCamp 5 = .ok (.aload_n 0, 1) := by decide +kernel
theorem dX8_isCamp_6 : decode cX8_isCamp 6 = .ok (.getfield 7, 3) := by decide +kernel
theorem dX8_isCamp_9 : decode cX8_isCamp 9 = .ok (.iconst 2, 1) := by decide +kernel
theorem dX8_isCamp_10 : decode cX8_isCamp 10 = .ok (.iaload, 1) := by decide +kernel
theorem dX8_isCamp_11 : decode cX8_isCamp 11 = .ok (.if_icmp .ge 7, 3) := by decide +kernel
theorem dX8_isCamp_14 : decode cX8_isCamp 14 = .ok (.iconst 1, 1) := by decide +kernel
theorem dX8_isCamp_15 : decode cX8_isCamp 15 = .ok (.goto 4, 3) := by decide +kernel
theorem dX8_isCamp_18 : decode cX8_isCamp 18 = .ok (.iconst 0, 1) := by decide +kernel
theorem dX8_isCamp_19 : decode cX8_isCamp 19 = .ok (.ireturn, 1) := by decide +kernel
theorem dX8_isRapid_0 : decode cX8_isRapid 0 = .ok (.iload_n 1, 1) := by decide +kernel
theorem dX8_isRapid_1 : decode cX8_isRapid 1 = .ok (.ifCond .lt 17, 3) := by decide +kernel
theorem dX8_isRapid_4 : decode cX8_isRapid 4 = .ok (.iload_n 1, 1) := by decide +kernel
theorem dX8_isRapid_5 : decode cX8_isRapid 5 = .ok (.aload_n 0, 1) := by decide +kernel
theorem dX8_isRapid_6 : decode cX8_isRapid 6 = .ok (.getfield 7, 3) := by decide +kernel
theorem dX8_isRapid_9 : decode cX8_isRapid 9 = .ok (.iconst 3, 1) := by decide +kernel
theorem dX8_isRapid_10 : decode cX8_isRapid 10 = .ok (.iaload, 1) := by decide +kernel
theorem dX8_isRapid_11 : decode cX8_isRapid 11 = .ok (.if_icmp .ge 7, 3) := by decide +kernel
theorem dX8_isRapid_14 : decode cX8_isRapid 14 = .ok (.iconst 1, 1) := by decide +kernel
theorem dX8_isRapid_15 : decode cX8_isRapid 15 = .ok (.goto 4, 3) := by decide +kernel
theorem dX8_isRapid_18 : decode cX8_isRapid 18 = .ok (.iconst 0, 1) := by decide +kernel
theorem dX8_isRapid_19 : decode cX8_isRapid 19 = .ok (.ireturn, 1) := by decide +kernel
theorem dX8_isTrip_0 : decode cX8_isTrip 0 = .ok (.iload_n 1, 1) := by decide +kernel
theorem dX8_isTrip_1 : decode cX8_isTrip 1 = .ok (.ifCond .lt 17, 3) := by decide +kernel
theorem dX8_isTrip_4 : decode cX8_isTrip 4 = .ok (.iload_n 1, 1) := by decide +kernel
theorem dX8_isTrip_5 : decode cX8_isTrip 5 = .ok (.aload_n 0, 1) := by decide +kernel
theorem dX8_isTrip_6 : decode cX8_isTrip 6 = .ok (.getfield 7, 3) := by decide +kernel
theorem dX8_isTrip_9 : decode cX8_isTrip 9 = .ok (.iconst 5, 1) := by decide +kernel
theorem dX8_isTrip_10 : decode cX8_isTrip 10 = .ok (.iaload, 1) := by decide +kernel
theorem dX8_isTrip_11 : decode cX8_isTrip 11 = .ok (.if_icmp .ge 7, 3) := by decide +kernel
theorem dX8_isTrip_14 : decode cX8_isTrip 14 = .ok (.iconst 1, 1) := by decide +kernel
theorem dX8_isTrip_15 : decode cX8_isTrip 15 = .ok (.goto 4, 3) := by decide +kernel
theorem dX8_isTrip_18 : decode cX8_isTrip 18 = .ok (.iconst 0, 1) := by decide +kernel
theorem dX8_isTrip_19 : decode cX8_isTrip 19 = .ok (.ireturn, 1) := by decide +kernel
theorem dX8_isApplicant_0 : decode cX8_isApplicant 0 = .ok (.iload_n 1, 1) := by decide +kernel
theorem dX8_isApplicant_1 : decode cX8_isApplicant 1 = .ok (.ifCond .lt 18, 3) := by decide +kernel
theorem dX8_isApplicant_4 : decode cX8_isApplicant 4 = .ok (.iload_n 1, 1) := by decide +kernel
theorem dX8_isApplicant_5 : decode cX8_isApplicant 5 = .ok (.aload_n 0, 1) := by decide +kernel
theorem dX8_isApplicant_6 : decode cX8_isApplicant 6 = .ok (.getfield 7, 3) := by decide +kernel
theorem dX8_isApplicant_9 : decode cX8_isApplicant 9 = .ok (.bipush 6, 2) := by decide +kernel
theorem dX8_isApplicant_11 : decode cX8_isApplicant 11 = .ok (.iaload, 1) := by decide +kernel
theorem dX8_isApplicant_12 : decode cX8_isApplicant 12 = .ok (.if_icmp .ge 7, 3) := by decide +kernel
theorem dX8_isApplicant_15 : decode cX8_isApplicant 15 = .ok (.iconst 1, 1) := by decide +kernel
theorem dX8_isApplicant_16 : decode cX8_isApplicant 16 = .ok (.goto 4, 3) := by decide +kernel
theorem dX8_isApplicant_19 : decode cX8_isApplicant 19 = .ok (.iconst 0, 1) := by decide +kernel
theorem dX8_isApplicant_20 : decode cX8_isApplicant 20 = .ok (.ireturn, 1) := by decide +kernel
theorem dX8_isDay_0 : decode cX8_isDay 0 = .ok (.iload_n 0, 1) := by decide +kernel
theorem dX8_isDay_1 : decode cX8_isDay 1 = .ok (.iconst 0, 1) := by decide +kernel
theorem dX8_isDay_2 : decode cX8_isDay 2 = .ok (.bipush 29, 2) := by decide +kernel
theorem dX8_isDay_4 : decode cX8_isDay 4 = .ok (.invokestatic 48, 3) := by decide +kernel
theorem dX8_isDay_7 : decode cX8_isDay 7 = .ok (.ireturn, 1) := by decide +kernel
theorem dX8_isWater_0 : decode cX8_isWater 0 = .ok (.iload_n 0, 1) := by decide +kernel
theorem dX8_isWater_1 : decode cX8_isWater 1 = .ok (.iconst 0, 1) := by decide +kernel
theorem dX8_isWater_2 : decode cX8_isWater 2 = .ok (.sipush 999, 3) := by decide +kernel
theorem dX8_isWater_5 : decode cX8_isWater 5 = .ok (.invokestatic 48, 3) := by decide +kernel
theorem dX8_isWater_8 : decode cX8_isWater 8 = .ok (.ireturn, 1) := by decide +kernel
theorem dX8_keep_0 : decode cX8_keep 0 = .ok (.aload_n 0, 1) := by decide +kernel
theorem dX8_keep_1 : decode cX8_keep 1 = .ok (.getfield 52, 3) := by decide +kernel
theorem dX8_keep_4 : decode cX8_keep 4 = .ok (.bipush 20, 2) := by decide +kernel
theorem dX8_keep_6 : decode cX8_keep 6 = .ok (.if_icmp .ne 44, 3) := by decide +kernel
theorem dX8_keep_9 : decode cX8_keep 9 = .ok (.iconst 0, 1) := by decide +kernel
theorem dX8_keep_10 : decode cX8_keep 10 = .ok (.istore_n 1, 1) := by decide +kernel
theorem dX8_keep_11 : decode cX8_keep 11 = .ok (.iload_n 1, 1) := by decide +kernel
theorem dX8_keep_12 : decode cX8_keep 12 = .ok (.sipush 10564, 3) := by decide +kernel
theorem dX8_keep_15 : decode cX8_keep 15 = .ok (.if_icmp .ge 25, 3) := by decide +kernel
theorem dX8_keep_18 : decode cX8_keep 18 = .ok (.aload_n 0, 1) := by decide +kernel
theorem dX8_keep_19 : decode cX8_keep 19 = .ok (.getfield 13, 3) := by decide +kernel
theorem dX8_keep_22 : decode cX8_keep 22 = .ok (.iload_n 1, 1) := by decide +kernel
theorem dX8_keep_23 : decode cX8_keep 23 = .ok (.aload_n 0, 1) := by decide +kernel
theorem dX8_keep_24 : decode cX8_keep 24 = .ok (.getfield 13, 3) := by decide +kernel
theorem dX8_keep_27 : decode cX8_keep 27 = .ok (.iload_n 1, 1) := by decide +kernel
theorem dX8_keep_28 : decode cX8_keep 28 = .ok (.sipush 556, 3) := by decide +kernel
theorem dX8_keep_31 : decode cX8_keep 31 = .ok (.iadd, 1) := by decide +kernel
theorem dX8_keep_32 : decode cX8_keep 32 = .ok (.iaload, 1) := by decide +kernel
theorem dX8_keep_33 : decode cX8_keep 33 = .ok (.iastore, 1) := by decide +kernel
theorem dX8_keep_34 : decode cX8_keep 34 = .ok (.iinc 1 1, 3) := by decide +kernel
theorem dX8_keep_37 : decode cX8_keep 37 = .ok (.goto (-26), 3) := by decide +kernel
theorem dX8_keep_40 : decode cX8_keep 40 = .ok (.aload_n 0, 1) := by decide +kernel
theorem dX8_keep_41 : decode cX8_keep 41 = .ok (.dup, 1) := by decide +kernel
theorem dX8_keep_42 : decode cX8_keep 42 = .ok (.getfield 52, 3) := by decide +kernel
theorem dX8_keep_45 : decode cX8_keep 45 = .ok (.iconst 1, 1) := by decide +kernel
theorem dX8_keep_46 : decode cX8_keep 46 = .ok (.isub, 1) := by decide +kernel
theorem dX8_keep_47 : decode cX8_keep 47 = .ok (.putfield 52, 3) := by decide +kernel
theorem dX8_keep_50 : decode cX8_keep 50 = .ok (.iconst 0, 1) := by decide +kernel
theorem dX8_keep_51 : decode cX8_keep 51 = .ok (.istore_n 1, 1) := by decide +kernel
theorem dX8_keep_52 : decode cX8_keep 52 = .ok (.iload_n 1, 1) := by decide +kernel
theorem dX8_keep_53 : decode cX8_keep 53 = .ok (.sipush 556, 3) := by decide +kernel
theorem dX8_keep_56 : decode cX8_keep 56 = .ok (.if_icmp .ge 30, 3) := by decide +kernel
theorem dX8_keep_59 : decode cX8_keep 59 = .ok (.aload_n 0, 1) := by decide +kernel
theorem dX8_keep_60 : decode cX8_keep 60 = .ok (.getfield 13, 3) := by decide +kernel
theorem dX8_keep_63 : decode cX8_keep 63 = .ok (.sipush 556, 3) := by decide +kernel
theorem dX8_keep_66 : decode cX8_keep 66 = .ok (.aload_n 0, 1) := by decide +kernel
theorem dX8_keep_67 : decode cX8_keep 67 = .ok (.getfield 52, 3) := by decide +kernel
theorem dX8_keep_70 : decode cX8_keep 70 = .ok (.imul, 1) := by decide +kernel
theorem dX8_keep_71 : decode cX8_keep 71 = .ok (.iload_n 1, 1) := by decide +kernel
theorem dX8_keep_72 : decode cX8_keep 72 = .ok (.iadd, 1) := by decide +kernel
theorem dX8_keep_73 : decode cX8_keep 73 = .ok (.aload_n 0, 1) := by decide +kernel
theorem dX8_keep_74 : decode cX8_keep 74 = .ok (.getfield 7, 3) := by decide +kernel
theorem dX8_keep_77 : decode cX8_keep 77 = .ok (.iload_n 1, 1) := by decide +kernel
theorem dX8_keep_78 : decode cX8_keep 78 = .ok (.iaload, 1) := by decide +kernel
theorem dX8_keep_79 : decode cX8_keep 79 = .ok (.iastore, 1) := by decide +kernel
theorem dX8_keep_80 : decode cX8_keep 80 = .ok (.iinc 1 1, 3) := by decide +kernel
theorem dX8_keep_83 : decode cX8_keep 83 = .ok (.goto (-31), 3) := by decide +kernel
theorem dX8_keep_86 : decode cX8_keep 86 = .ok (.aload_n 0, 1) := by decide +kernel
theorem dX8_keep_87 : decode cX8_keep 87 = .ok (.dup, 1) := by decide +kernel
theorem dX8_keep_88 : decode cX8_keep 88 = .ok (.getfield 52, 3) := by decide +kernel
theorem dX8_keep_91 : decode cX8_keep 91 = .ok (.iconst 1, 1) := by decide +kernel
theorem dX8_keep_92 : decode cX8_keep 92 = .ok (.iadd, 1) := by decide +kernel
theorem dX8_keep_93 : decode cX8_keep 93 = .ok (.putfield 52, 3) := by decide +kernel
theorem dX8_keep_96 : decode cX8_keep 96 = .ok (.return_, 1) := by decide +kernel
theorem dX8_undo_0 : decode cX8_undo 0 = .ok (.aload_n 0, 1) := by decide +kernel
theorem dX8_undo_1 : decode cX8_undo 1 = .ok (.getfield 52, 3) := by decide +kernel
theorem dX8_undo_4 : decode cX8_undo 4 = .ok (.ifCond .ne 10, 3) := by decide +kernel
theorem dX8_undo_7 : decode cX8_undo 7 = .ok (.aload_n 0, 1) := by decide +kernel
theorem dX8_undo_8 : decode cX8_undo 8 = .ok (.ldc 55, 2) := by decide +kernel
theorem dX8_undo_10 : decode cX8_undo 10 = .ok (.invokevirtual 56, 3) := by decide +kernel
theorem dX8_undo_13 : decode cX8_undo 13 = .ok (.ireturn, 1) := by decide +kernel
theorem dX8_undo_14 : decode cX8_undo 14 = .ok (.aload_n 0, 1) := by decide +kernel
theorem dX8_undo_15 : decode cX8_undo 15 = .ok (.dup, 1) := by decide +kernel
theorem dX8_undo_16 : decode cX8_undo 16 = .ok (.getfield 52, 3) := by decide +kernel
theorem dX8_undo_19 : decode cX8_undo 19 = .ok (.iconst 1, 1) := by decide +kernel
theorem dX8_undo_20 : decode cX8_undo 20 = .ok (.isub, 1) := by decide +kernel
theorem dX8_undo_21 : decode cX8_undo 21 = .ok (.putfield 52, 3) := by decide +kernel
theorem dX8_undo_24 : decode cX8_undo 24 = .ok (.iconst 0, 1) := by decide +kernel
theorem dX8_undo_25 : decode cX8_undo 25 = .ok (.istore_n 1, 1) := by decide +kernel
theorem dX8_undo_26 : decode cX8_undo 26 = .ok (.iload_n 1, 1) := by decide +kernel
theorem dX8_undo_27 : decode cX8_undo 27 = .ok (.sipush 556, 3) := by decide +kernel
theorem dX8_undo_30 : decode cX8_undo 30 = .ok (.if_icmp .ge 30, 3) := by decide +kernel
theorem dX8_undo_33 : decode cX8_undo 33 = .ok (.aload_n 0, 1) := by decide +kernel
theorem dX8_undo_34 : decode cX8_undo 34 = .ok (.getfield 7, 3) := by decide +kernel
theorem dX8_undo_37 : decode cX8_undo 37 = .ok (.iload_n 1, 1) := by decide +kernel
theorem dX8_undo_38 : decode cX8_undo 38 = .ok (.aload_n 0, 1) := by decide +kernel
theorem dX8_undo_39 : decode cX8_undo 39 = .ok (.getfield 13, 3) := by decide +kernel
theorem dX8_undo_42 : decode cX8_undo 42 = .ok (.sipush 556, 3) := by decide +kernel
theorem dX8_undo_45 : decode cX8_undo 45 = .ok (.aload_n 0, 1) := by decide +kernel
theorem dX8_undo_46 : decode cX8_undo 46 = .ok (.getfield 52, 3) := by decide +kernel
theorem dX8_undo_49 : decode cX8_undo 49 = .ok (.imul, 1) := by decide +kernel
theorem dX8_undo_50 : decode cX8_undo 50 = .ok (.iload_n 1, 1) := by decide +kernel
theorem dX8_undo_51 : decode cX8_undo 51 = .ok (.iadd, 1) := by decide +kernel
theorem dX8_undo_52 : decode cX8_undo 52 = .ok (.iaload, 1) := by decide +kernel
theorem dX8_undo_53 : decode cX8_undo 53 = .ok (.iastore, 1) := by decide +kernel
theorem dX8_undo_54 : decode cX8_undo 54 = .ok (.iinc 1 1, 3) := by decide +kernel
theorem dX8_undo_57 : decode cX8_undo 57 = .ok (.goto (-31), 3) := by decide +kernel
theorem dX8_undo_60 : decode cX8_undo 60 = .ok (.aload_n 0, 1) := by decide +kernel
theorem dX8_undo_61 : decode cX8_undo 61 = .ok (.getfield 52, 3) := by decide +kernel
theorem dX8_undo_64 : decode cX8_undo 64 = .ok (.ireturn, 1) := by decide +kernel
theorem dX8_becomes_0 : decode cX8_becomes 0 = .ok (.aload_n 0, 1) := by decide +kernel
theorem dX8_becomes_1 : decode cX8_becomes 1 = .ok (.invokevirtual 60, 3) := by decide +kernel
theorem dX8_becomes_4 : decode cX8_becomes 4 = .ok (.aload_n 0, 1) := by decide +kernel
theorem dX8_becomes_5 : decode cX8_becomes 5 = .ok (.getfield 7, 3) := by decide +kernel
theorem dX8_becomes_8 : decode cX8_becomes 8 = .ok (.iload_n 1, 1) := by decide +kernel
theorem dX8_becomes_9 : decode cX8_becomes 9 = .ok (.iaload, 1) := by decide +kernel
theorem dX8_becomes_10 : decode cX8_becomes 10 = .ok (.istore_n 3, 1) := by decide +kernel
theorem dX8_becomes_11 : decode cX8_becomes 11 = .ok (.aload_n 0, 1) := by decide +kernel
theorem dX8_becomes_12 : decode cX8_becomes 12 = .ok (.getfield 7, 3) := by decide +kernel
theorem dX8_becomes_15 : decode cX8_becomes 15 = .ok (.iload_n 1, 1) := by decide +kernel
theorem dX8_becomes_16 : decode cX8_becomes 16 = .ok (.iload_n 2, 1) := by decide +kernel
theorem dX8_becomes_17 : decode cX8_becomes 17 = .ok (.iastore, 1) := by decide +kernel
theorem dX8_becomes_18 : decode cX8_becomes 18 = .ok (.iload_n 3, 1) := by decide +kernel
theorem dX8_becomes_19 : decode cX8_becomes 19 = .ok (.ireturn, 1) := by decide +kernel
theorem dX8_end_0 : decode cX8_end 0 = .ok (.iload_n 1, 1) := by decide +kernel
theorem dX8_end_1 : decode cX8_end 1 = .ok (.iconst 1, 1) := by decide +kernel
theorem dX8_end_2 : decode cX8_end 2 = .ok (.sipush 250, 3) := by decide +kernel
theorem dX8_end_5 : decode cX8_end 5 = .ok (.invokestatic 48, 3) := by decide +kernel
theorem dX8_end_8 : decode cX8_end 8 = .ok (.ifCond .eq 12, 3) := by decide +kernel
theorem dX8_end_11 : decode cX8_end 11 = .ok (.aload_n 0, 1) := by decide +kernel
theorem dX8_end_12 : decode cX8_end 12 = .ok (.iconst 0, 1) := by decide +kernel
theorem dX8_end_13 : decode cX8_end 13 = .ok (.iload_n 1, 1) := by decide +kernel
theorem dX8_end_14 : decode cX8_end 14 = .ok (.invokevirtual 63, 3) := by decide +kernel
theorem dX8_end_17 : decode cX8_end 17 = .ok (.goto 9, 3) := by decide +kernel
theorem dX8_end_20 : decode cX8_end 20 = .ok (.aload_n 0, 1) := by decide +kernel
theorem dX8_end_21 : decode cX8_end 21 = .ok (.ldc 67, 2) := by decide +kernel
theorem dX8_end_23 : decode cX8_end 23 = .ok (.invokevirtual 56, 3) := by decide +kernel
theorem dX8_end_26 : decode cX8_end 26 = .ok (.ireturn, 1) := by decide +kernel
theorem dX8_camp_0 : decode cX8_camp 0 = .ok (.iload_n 1, 1) := by decide +kernel
theorem dX8_camp_1 : decode cX8_camp 1 = .ok (.iconst 1, 1) := by decide +kernel
theorem dX8_camp_2 : decode cX8_camp 2 = .ok (.sipush 249, 3) := by decide +kernel
theorem dX8_camp_5 : decode cX8_camp 5 = .ok (.invokestatic 48, 3) := by decide +kernel
theorem dX8_camp_8 : decode cX8_camp 8 = .ok (.ifCond .ne 10, 3) := by decide +kernel
theorem dX8_camp_11 : decode cX8_camp 11 = .ok (.aload_n 0, 1) := by decide +kernel
theorem dX8_camp_12 : decode cX8_camp 12 = .ok (.ldc 67, 2) := by decide +kernel
theorem dX8_camp_14 : decode cX8_camp 14 = .ok (.invokevirtual 56, 3) := by decide +kernel
theorem dX8_camp_17 : decode cX8_camp 17 = .ok (.ireturn, 1) := by decide +kernel
theorem dX8_camp_18 : decode cX8_camp 18 = .ok (.aload_n 0, 1) := by decide +kernel
theorem dX8_camp_19 : decode cX8_camp 19 = .ok (.getfield 7, 3) := by decide +kernel
theorem dX8_camp_22 : decode cX8_camp 22 = .ok (.iconst 2, 1) := by decide +kernel
theorem dX8_camp_23 : decode cX8_camp 23 = .ok (.iaload, 1) := by decide +kernel
theorem dX8_camp_24 : decode cX8_camp 24 = .ok (.bipush 14, 2) := by decide +kernel
theorem dX8_camp_26 : decode cX8_camp 26 = .ok (.if_icmp .ne 10, 3) := by decide +kernel
theorem dX8_camp_29 : decode cX8_camp 29 = .ok (.aload_n 0, 1) := by decide +kernel
theorem dX8_camp_30 : decode cX8_camp 30 = .ok (.ldc 68, 2) := by decide +kernel
theorem dX8_camp_32 : decode cX8_camp 32 = .ok (.invokevirtual 56, 3) := by decide +kernel
theorem dX8_camp_35 : decode cX8_camp 35 = .ok (.ireturn, 1) := by decide +kernel
theorem dX8_camp_36 : decode cX8_camp 36 = .ok (.aload_n 0, 1) := by decide +kernel
theorem dX8_camp_37 : decode cX8_camp 37 = .ok (.iconst 2, 1) := by decide +kernel
theorem dX8_camp_38 : decode cX8_camp 38 = .ok (.aload_n 0, 1) := by decide +kernel
theorem dX8_camp_39 : decode cX8_camp 39 = .ok (.getfield 7, 3) := by decide +kernel
theorem dX8_camp_42 : decode cX8_camp 42 = .ok (.iconst 2, 1) := by decide +kernel
theorem dX8_camp_43 : decode cX8_camp 43 = .ok (.iaload, 1) := by decide +kernel
theorem dX8_camp_44 : decode cX8_camp 44 = .ok (.iconst 1, 1) := by decide +kernel
theorem dX8_camp_45 : decode cX8_camp 45 = .ok (.iadd, 1) := by decide +kernel
theorem dX8_camp_46 : decode cX8_camp 46 = .ok (.invokevirtual 63, 3) := by decide +kernel
theorem dX8_camp_49 : decode cX8_camp 49 = .ok (.istore_n 3, 1) := by decide +kernel
theorem dX8_camp_50 : decode cX8_camp 50 = .ok (.aload_n 0, 1) := by decide +kernel
theorem dX8_camp_51 : decode cX8_camp 51 = .ok (.getfield 7, 3) := by decide +kernel
theorem dX8_camp_54 : decode cX8_camp 54 = .ok (.bipush 8, 2) := by decide +kernel
theorem dX8_camp_56 : decode cX8_camp 56 = .ok (.iconst 2, 1) := by decide +kernel
theorem dX8_camp_57 : decode cX8_camp 57 = .ok (.iload_n 3, 1) := by decide +kernel
theorem dX8_camp_58 : decode cX8_camp 58 = .ok (.imul, 1) := by decide +kernel
theorem dX8_camp_59 : decode cX8_camp 59 = .ok (.iadd, 1) := by decide +kernel
theorem dX8_camp_60 : decode cX8_camp 60 = .ok (.iload_n 1, 1) := by decide +kernel
theorem dX8_camp_61 : decode cX8_camp 61 = .ok (.iastore, 1) := by decide +kernel
theorem dX8_camp_62 : decode cX8_camp 62 = .ok (.aload_n 0, 1) := by decide +kernel
theorem dX8_camp_63 : decode cX8_camp 63 = .ok (.getfield 7, 3) := by decide +kernel
theorem dX8_camp_66 : decode cX8_camp 66 = .ok (.bipush 8, 2) := by decide +kernel
theorem dX8_camp_68 : decode cX8_camp 68 = .ok (.iconst 2, 1) := by decide +kernel
theorem dX8_camp_69 : decode cX8_camp 69 = .ok (.iload_n 3, 1) := by decide +kernel
theorem dX8_camp_70 : decode cX8_camp 70 = .ok (.imul, 1) := by decide +kernel
theorem dX8_camp_71 : decode cX8_camp 71 = .ok (.iadd, 1) := by decide +kernel
theorem dX8_camp_72 : decode cX8_camp 72 = .ok (.iconst 1, 1) := by decide +kernel
theorem dX8_camp_73 : decode cX8_camp 73 = .ok (.iadd, 1) := by decide +kernel
theorem dX8_camp_74 : decode cX8_camp 74 = .ok (.iload_n 2, 1) := by decide +kernel
theorem dX8_camp_75 : decode cX8_camp 75 = .ok (.ifCond .eq 7, 3) := by decide +kernel
theorem dX8_camp_78 : decode cX8_camp 78 = .ok (.iconst 1, 1) := by decide +kernel
theorem dX8_camp_79 : decode cX8_camp 79 = .ok (.goto 4, 3) := by decide +kernel
theorem dX8_camp_82 : decode cX8_camp 82 = .ok (.iconst 0, 1) := by decide +kernel
theorem dX8_camp_83 : decode cX8_camp 83 = .ok (.iastore, 1) := by decide +kernel
theorem dX8_camp_84 : decode cX8_camp 84 = .ok (.iload_n 3, 1) := by decide +kernel
theorem dX8_camp_85 : decode cX8_camp 85 = .ok (.ireturn, 1) := by decide +kernel
theorem dX8_rapid_0 : decode cX8_rapid 0 = .ok (.iload_n 1, 1) := by decide +kernel
theorem dX8_rapid_1 : decode cX8_rapid 1 = .ok (.iconst 1, 1) := by decide +kernel
theorem dX8_rapid_2 : decode cX8_rapid 2 = .ok (.sipush 249, 3) := by decide +kernel
theorem dX8_rapid_5 : decode cX8_rapid 5 = .ok (.invokestatic 48, 3) := by decide +kernel
theorem dX8_rapid_8 : decode cX8_rapid 8 = .ok (.ifCond .eq 17, 3) := by decide +kernel
theorem dX8_rapid_11 : decode cX8_rapid 11 = .ok (.iload_n 2, 1) := by decide +kernel
theorem dX8_rapid_12 : decode cX8_rapid 12 = .ok (.invokestatic 69, 3) := by decide +kernel
theorem dX8_rapid_15 : decode cX8_rapid 15 = .ok (.ifCond .eq 10, 3) := by decide +kernel
theorem dX8_rapid_18 : decode cX8_rapid 18 = .ok (.iload_n 3, 1) := by decide +kernel
theorem dX8_rapid_19 : decode cX8_rapid 19 = .ok (.invokestatic 69, 3) := by decide +kernel
theorem dX8_rapid_22 : decode cX8_rapid 22 = .ok (.ifCond .ne 10, 3) := by decide +kernel
theorem dX8_rapid_25 : decode cX8_rapid 25 = .ok (.aload_n 0, 1) := by decide +kernel
theorem dX8_rapid_26 : decode cX8_rapid 26 = .ok (.ldc 67, 2) := by decide +kernel
theorem dX8_rapid_28 : decode cX8_rapid 28 = .ok (.invokevirtual 56, 3) := by decide +kernel
theorem dX8_rapid_31 : decode cX8_rapid 31 = .ok (.ireturn, 1) := by decide +kernel
theorem dX8_rapid_32 : decode cX8_rapid 32 = .ok (.iload_n 2, 1) := by decide +kernel
theorem dX8_rapid_33 : decode cX8_rapid 33 = .ok (.iload_n 3, 1) := by decide +kernel
theorem dX8_rapid_34 : decode cX8_rapid 34 = .ok (.if_icmp .le 10, 3) := by decide +kernel
theorem dX8_rapid_37 : decode cX8_rapid 37 = .ok (.aload_n 0, 1) := by decide +kernel
theorem dX8_rapid_38 : decode cX8_rapid 38 = .ok (.ldc 73, 2) := by decide +kernel
theorem dX8_rapid_40 : decode cX8_rapid 40 = .ok (.invokevirtual 56, 3) := by decide +kernel
theorem dX8_rapid_43 : decode cX8_rapid 43 = .ok (.ireturn, 1) := by decide +kernel
theorem dX8_rapid_44 : decode cX8_rapid 44 = .ok (.aload_n 0, 1) := by decide +kernel
theorem dX8_rapid_45 : decode cX8_rapid 45 = .ok (.getfield 7, 3) := by decide +kernel
theorem dX8_rapid_48 : decode cX8_rapid 48 = .ok (.iconst 3, 1) := by decide +kernel
theorem dX8_rapid_49 : decode cX8_rapid 49 = .ok (.iaload, 1) := by decide +kernel
theorem dX8_rapid_50 : decode cX8_rapid 50 = .ok (.bipush 10, 2) := by decide +kernel
theorem dX8_rapid_52 : decode cX8_rapid 52 = .ok (.if_icmp .ne 10, 3) := by decide +kernel
theorem dX8_rapid_55 : decode cX8_rapid 55 = .ok (.aload_n 0, 1) := by decide +kernel
theorem dX8_rapid_56 : decode cX8_rapid 56 = .ok (.ldc 68, 2) := by decide +kernel
theorem dX8_rapid_58 : decode cX8_rapid 58 = .ok (.invokevirtual 56, 3) := by decide +kernel
theorem dX8_rapid_61 : decode cX8_rapid 61 = .ok (.ireturn, 1) := by decide +kernel
theorem dX8_rapid_62 : decode cX8_rapid 62 = .ok (.aload_n 0, 1) := by decide +kernel
theorem dX8_rapid_63 : decode cX8_rapid 63 = .ok (.iconst 3, 1) := by decide +kernel
theorem dX8_rapid_64 : decode cX8_rapid 64 = .ok (.aload_n 0, 1) := by decide +kernel
theorem dX8_rapid_65 : decode cX8_rapid 65 = .ok (.getfield 7, 3) := by decide +kernel
theorem dX8_rapid_68 : decode cX8_rapid 68 = .ok (.iconst 3, 1) := by decide +kernel
theorem dX8_rapid_69 : decode cX8_rapid 69 = .ok (.iaload, 1) := by decide +kernel
theorem dX8_rapid_70 : decode cX8_rapid 70 = .ok (.iconst 1, 1) := by decide +kernel
theorem dX8_rapid_71 : decode cX8_rapid 71 = .ok (.iadd, 1) := by decide +kernel
theorem dX8_rapid_72 : decode cX8_rapid 72 = .ok (.invokevirtual 63, 3) := by decide +kernel
theorem dX8_rapid_75 : decode cX8_rapid 75 = .ok (.istore 4, 2) := by decide +kernel
theorem dX8_rapid_77 : decode cX8_rapid 77 = .ok (.aload_n 0, 1) := by decide +kernel
theorem dX8_rapid_78 : decode cX8_rapid 78 = .ok (.getfield 7, 3) := by decide +kernel
theorem dX8_rapid_81 : decode cX8_rapid 81 = .ok (.bipush 36, 2) := by decide +kernel
theorem dX8_rapid_83 : decode cX8_rapid 83 = .ok (.iconst 3, 1) := by decide +kernel
theorem dX8_rapid_84 : decode cX8_rapid 84 = .ok (.iload 4, 2) := by decide +kernel
theorem dX8_rapid_86 : decode cX8_rapid 86 = .ok (.imul, 1) := by decide +kernel
theorem dX8_rapid_87 : decode cX8_rapid 87 = .ok (.iadd, 1) := by decide +kernel
theorem dX8_rapid_88 : decode cX8_rapid 88 = .ok (.iload_n 1, 1) := by decide +kernel
theorem dX8_rapid_89 : decode cX8_rapid 89 = .ok (.iastore, 1) := by decide +kernel
theorem dX8_rapid_90 : decode cX8_rapid 90 = .ok (.aload_n 0, 1) := by decide +kernel
theorem dX8_rapid_91 : decode cX8_rapid 91 = .ok (.getfield 7, 3) := by decide +kernel
theorem dX8_rapid_94 : decode cX8_rapid 94 = .ok (.bipush 36, 2) := by decide +kernel
theorem dX8_rapid_96 : decode cX8_rapid 96 = .ok (.iconst 3, 1) := by decide +kernel
theorem dX8_rapid_97 : decode cX8_rapid 97 = .ok (.iload 4, 2) := by decide +kernel
theorem dX8_rapid_99 : decode cX8_rapid 99 = .ok (.imul, 1) := by decide +kernel
theorem dX8_rapid_100 : decode cX8_rapid 100 = .ok (.iadd, 1) := by decide +kernel
theorem dX8_rapid_101 : decode cX8_rapid 101 = .ok (.iconst 1, 1) := by decide +kernel
theorem dX8_rapid_102 : decode cX8_rapid 102 = .ok (.iadd, 1) := by decide +kernel
theorem dX8_rapid_103 : decode cX8_rapid 103 = .ok (.iload_n 2, 1) := by decide +kernel
theorem dX8_rapid_104 : decode cX8_rapid 104 = .ok (.iastore, 1) := by decide +kernel
theorem dX8_rapid_105 : decode cX8_rapid 105 = .ok (.aload_n 0, 1) := by decide +kernel
theorem dX8_rapid_106 : decode cX8_rapid 106 = .ok (.getfield 7, 3) := by decide +kernel
theorem dX8_rapid_109 : decode cX8_rapid 109 = .ok (.bipush 36, 2) := by decide +kernel
theorem dX8_rapid_111 : decode cX8_rapid 111 = .ok (.iconst 3, 1) := by decide +kernel
theorem dX8_rapid_112 : decode cX8_rapid 112 = .ok (.iload 4, 2) := by decide +kernel
theorem dX8_rapid_114 : decode cX8_rapid 114 = .ok (.imul, 1) := by decide +kernel
theorem dX8_rapid_115 : decode cX8_rapid 115 = .ok (.iadd, 1) := by decide +kernel
theorem dX8_rapid_116 : decode cX8_rapid 116 = .ok (.iconst 2, 1) := by decide +kernel
theorem dX8_rapid_117 : decode cX8_rapid 117 = .ok (.iadd, 1) := by decide +kernel
theorem dX8_rapid_118 : decode cX8_rapid 118 = .ok (.iload_n 3, 1) := by decide +kernel
theorem dX8_rapid_119 : decode cX8_rapid 119 = .ok (.iastore, 1) := by decide +kernel
theorem dX8_rapid_120 : decode cX8_rapid 120 = .ok (.iload 4, 2) := by decide +kernel
theorem dX8_rapid_122 : decode cX8_rapid 122 = .ok (.ireturn, 1) := by decide +kernel
theorem dX8_landing_0 : decode cX8_landing 0 = .ok (.iload_n 1, 1) := by decide +kernel
theorem dX8_landing_1 : decode cX8_landing 1 = .ok (.iconst 0, 1) := by decide +kernel
theorem dX8_landing_2 : decode cX8_landing 2 = .ok (.sipush 250, 3) := by decide +kernel
theorem dX8_landing_5 : decode cX8_landing 5 = .ok (.invokestatic 48, 3) := by decide +kernel
theorem dX8_landing_8 : decode cX8_landing 8 = .ok (.ifCond .ne 10, 3) := by decide +kernel
theorem dX8_landing_11 : decode cX8_landing 11 = .ok (.aload_n 0, 1) := by decide +kernel
theorem dX8_landing_12 : decode cX8_landing 12 = .ok (.ldc 67, 2) := by decide +kernel
theorem dX8_landing_14 : decode cX8_landing 14 = .ok (.invokevirtual 56, 3) := by decide +kernel
theorem dX8_landing_17 : decode cX8_landing 17 = .ok (.ireturn, 1) := by decide +kernel
theorem dX8_landing_18 : decode cX8_landing 18 = .ok (.aload_n 0, 1) := by decide +kernel
theorem dX8_landing_19 : decode cX8_landing 19 = .ok (.getfield 7, 3) := by decide +kernel
theorem dX8_landing_22 : decode cX8_landing 22 = .ok (.iconst 4, 1) := by decide +kernel
theorem dX8_landing_23 : decode cX8_landing 23 = .ok (.iaload, 1) := by decide +kernel
theorem dX8_landing_24 : decode cX8_landing 24 = .ok (.bipush 8, 2) := by decide +kernel
theorem dX8_landing_26 : decode cX8_landing 26 = .ok (.if_icmp .ne 10, 3) := by decide +kernel
theorem dX8_landing_29 : decode cX8_landing 29 = .ok (.aload_n 0, 1) := by decide +kernel
theorem dX8_landing_30 : decode cX8_landing 30 = .ok (.ldc 68, 2) := by decide +kernel
theorem dX8_landing_32 : decode cX8_landing 32 = .ok (.invokevirtual 56, 3) := by decide +kernel
theorem dX8_landing_35 : decode cX8_landing 35 = .ok (.ireturn, 1) := by decide +kernel
theorem dX8_landing_36 : decode cX8_landing 36 = .ok (.aload_n 0, 1) := by decide +kernel
theorem dX8_landing_37 : decode cX8_landing 37 = .ok (.iconst 4, 1) := by decide +kernel
theorem dX8_landing_38 : decode cX8_landing 38 = .ok (.aload_n 0, 1) := by decide +kernel
theorem dX8_landing_39 : decode cX8_landing 39 = .ok (.getfield 7, 3) := by decide +kernel
theorem dX8_landing_42 : decode cX8_landing 42 = .ok (.iconst 4, 1) := by decide +kernel
theorem dX8_landing_43 : decode cX8_landing 43 = .ok (.iaload, 1) := by decide +kernel
theorem dX8_landing_44 : decode cX8_landing 44 = .ok (.iconst 1, 1) := by decide +kernel
theorem dX8_landing_45 : decode cX8_landing 45 = .ok (.iadd, 1) := by decide +kernel
theorem dX8_landing_46 : decode cX8_landing 46 = .ok (.invokevirtual 63, 3) := by decide +kernel
theorem dX8_landing_49 : decode cX8_landing 49 = .ok (.istore_n 2, 1) := by decide +kernel
theorem dX8_landing_50 : decode cX8_landing 50 = .ok (.aload_n 0, 1) := by decide +kernel
theorem dX8_landing_51 : decode cX8_landing 51 = .ok (.getfield 7, 3) := by decide +kernel
theorem dX8_landing_54 : decode cX8_landing 54 = .ok (.bipush 66, 2) := by decide +kernel
theorem dX8_landing_56 : decode cX8_landing 56 = .ok (.iload_n 2, 1) := by decide +kernel
theorem dX8_landing_57 : decode cX8_landing 57 = .ok (.iadd, 1) := by decide +kernel
theorem dX8_landing_58 : decode cX8_landing 58 = .ok (.iload_n 1, 1) := by decide +kernel
theorem dX8_landing_59 : decode cX8_landing 59 = .ok (.iastore, 1) := by decide +kernel
theorem dX8_landing_60 : decode cX8_landing 60 = .ok (.iload_n 2, 1) := by decide +kernel
theorem dX8_landing_61 : decode cX8_landing 61 = .ok (.iconst 1, 1) := by decide +kernel
theorem dX8_landing_62 : decode cX8_landing 62 = .ok (.iadd, 1) := by decide +kernel
theorem dX8_landing_63 : decode cX8_landing 63 = .ok (.ireturn, 1) := by decide +kernel
theorem dX8_speed_0 : decode cX8_speed 0 = .ok (.iload_n 1, 1) := by decide +kernel
theorem dX8_speed_1 : decode cX8_speed 1 = .ok (.iconst 1, 1) := by decide +kernel
theorem dX8_speed_2 : decode cX8_speed 2 = .ok (.bipush 9, 2) := by decide +kernel
theorem dX8_speed_4 : decode cX8_speed 4 = .ok (.invokestatic 48, 3) := by decide +kernel
theorem dX8_speed_7 : decode cX8_speed 7 = .ok (.ifCond .eq 12, 3) := by decide +kernel
theorem dX8_speed_10 : decode cX8_speed 10 = .ok (.aload_n 0, 1) := by decide +kernel
theorem dX8_speed_11 : decode cX8_speed 11 = .ok (.iconst 1, 1) := by decide +kernel
theorem dX8_speed_12 : decode cX8_speed 12 = .ok (.iload_n 1, 1) := by decide +kernel
theorem dX8_speed_13 : decode cX8_speed 13 = .ok (.invokevirtual 63, 3) := by decide +kernel
theorem dX8_speed_16 : decode cX8_speed 16 = .ok (.goto 9, 3) := by decide +kernel
theorem dX8_speed_19 : decode cX8_speed 19 = .ok (.aload_n 0, 1) := by decide +kernel
theorem dX8_speed_20 : decode cX8_speed 20 = .ok (.ldc 67, 2) := by decide +kernel
theorem dX8_speed_22 : decode cX8_speed 22 = .ok (.invokevirtual 56, 3) := by decide +kernel
theorem dX8_speed_25 : decode cX8_speed 25 = .ok (.ireturn, 1) := by decide +kernel
theorem dX8_water_0 : decode cX8_water 0 = .ok (.iload_n 1, 1) := by decide +kernel
theorem dX8_water_1 : decode cX8_water 1 = .ok (.invokestatic 74, 3) := by decide +kernel
theorem dX8_water_4 : decode cX8_water 4 = .ok (.ifCond .eq 35, 3) := by decide +kernel
theorem dX8_water_7 : decode cX8_water 7 = .ok (.iload_n 2, 1) := by decide +kernel
theorem dX8_water_8 : decode cX8_water 8 = .ok (.iconst 0, 1) := by decide +kernel
theorem dX8_water_9 : decode cX8_water 9 = .ok (.iconst 3, 1) := by decide +kernel
theorem dX8_water_10 : decode cX8_water 10 = .ok (.invokestatic 48, 3) := by decide +kernel
theorem dX8_water_13 : decode cX8_water 13 = .ok (.ifCond .eq 26, 3) := by decide +kernel
theorem dX8_water_16 : decode cX8_water 16 = .ok (.iload_n 3, 1) := by decide +kernel
theorem dX8_water_17 : decode cX8_water 17 = .ok (.invokestatic 69, 3) := by decide +kernel
theorem dX8_water_20 : decode cX8_water 20 = .ok (.ifCond .eq 19, 3) := by decide +kernel
theorem dX8_water_23 : decode cX8_water 23 = .ok (.aload_n 0, 1) := by decide +kernel
theorem dX8_water_24 : decode cX8_water 24 = .ok (.bipush 74, 2) := by decide +kernel
theorem dX8_water_26 : decode cX8_water 26 = .ok (.iconst 4, 1) := by decide +kernel
theorem dX8_water_27 : decode cX8_water 27 = .ok (.iload_n 1, 1) := by decide +kernel
theorem dX8_water_28 : decode cX8_water 28 = .ok (.imul, 1) := by decide +kernel
theorem dX8_water_29 : decode cX8_water 29 = .ok (.iadd, 1) := by decide +kernel
theorem dX8_water_30 : decode cX8_water 30 = .ok (.iload_n 2, 1) := by decide +kernel
theorem dX8_water_31 : decode cX8_water 31 = .ok (.iadd, 1) := by decide +kernel
theorem dX8_water_32 : decode cX8_water 32 = .ok (.iload_n 3, 1) := by decide +kernel
theorem dX8_water_33 : decode cX8_water 33 = .ok (.invokevirtual 63, 3) := by decide +kernel
theorem dX8_water_36 : decode cX8_water 36 = .ok (.goto 9, 3) := by decide +kernel
theorem dX8_water_39 : decode cX8_water 39 = .ok (.aload_n 0, 1) := by decide +kernel
theorem dX8_water_40 : decode cX8_water 40 = .ok (.ldc 67, 2) := by decide +kernel
theorem dX8_water_42 : decode cX8_water 42 = .ok (.invokevirtual 56, 3) := by decide +kernel
theorem dX8_water_45 : decode cX8_water 45 = .ok (.ireturn, 1) := by decide +kernel
theorem dX8_waterOf_0 : decode cX8_waterOf 0 = .ok (.bipush 24, 2) := by decide +kernel
theorem dX8_waterOf_2 : decode cX8_waterOf 2 = .ok (.iload_n 2, 1) := by decide +kernel
theorem dX8_waterOf_3 : decode cX8_waterOf 3 = .ok (.imul, 1) := by decide +kernel
theorem dX8_waterOf_4 : decode cX8_waterOf 4 = .ok (.iload_n 3, 1) := by decide +kernel
theorem dX8_waterOf_5 : decode cX8_waterOf 5 = .ok (.iadd, 1) := by decide +kernel
theorem dX8_waterOf_6 : decode cX8_waterOf 6 = .ok (.iload_n 1, 1) := by decide +kernel
theorem dX8_waterOf_7 : decode cX8_waterOf 7 = .ok (.aload_n 0, 1) := by decide +kernel
theorem dX8_waterOf_8 : decode cX8_waterOf 8 = .ok (.getfield 7, 3) := by decide +kernel
theorem dX8_waterOf_11 : decode cX8_waterOf 11 = .ok (.iconst 1, 1) := by decide +kernel
theorem dX8_waterOf_12 : decode cX8_waterOf 12 = .ok (.iaload, 1) := by decide +kernel
theorem dX8_waterOf_13 : decode cX8_waterOf 13 = .ok (.idiv, 1) := by decide +kernel
theorem dX8_waterOf_14 : decode cX8_waterOf 14 = .ok (.isub, 1) := by decide +kernel
theorem dX8_waterOf_15 : decode cX8_waterOf 15 = .ok (.istore 4, 2) := by decide +kernel
theorem dX8_waterOf_17 : decode cX8_waterOf 17 = .ok (.aload_n 0, 1) := by decide +kernel
theorem dX8_waterOf_18 : decode cX8_waterOf 18 = .ok (.getfield 7, 3) := by decide +kernel
theorem dX8_waterOf_21 : decode cX8_waterOf 21 = .ok (.bipush 74, 2) := by decide +kernel
theorem dX8_waterOf_23 : decode cX8_waterOf 23 = .ok (.iload 4, 2) := by decide +kernel
theorem dX8_waterOf_25 : decode cX8_waterOf 25 = .ok (.ifCond .ge 7, 3) := by decide +kernel
theorem dX8_waterOf_28 : decode cX8_waterOf 28 = .ok (.iconst 0, 1) := by decide +kernel
theorem dX8_waterOf_29 : decode cX8_waterOf 29 = .ok (.goto 8, 3) := by decide +kernel
theorem dX8_waterOf_32 : decode cX8_waterOf 32 = .ok (.iload 4, 2) := by decide +kernel
theorem dX8_waterOf_34 : decode cX8_waterOf 34 = .ok (.bipush 6, 2) := by decide +kernel
theorem dX8_waterOf_36 : decode cX8_waterOf 36 = .ok (.idiv, 1) := by decide +kernel
theorem dX8_waterOf_37 : decode cX8_waterOf 37 = .ok (.iadd, 1) := by decide +kernel
theorem dX8_waterOf_38 : decode cX8_waterOf 38 = .ok (.iaload, 1) := by decide +kernel
theorem dX8_waterOf_39 : decode cX8_waterOf 39 = .ok (.ireturn, 1) := by decide +kernel
theorem dX8_waterAt_0 : decode cX8_waterAt 0 = .ok (.iload_n 1, 1) := by decide +kernel
theorem dX8_waterAt_1 : decode cX8_waterAt 1 = .ok (.iconst 0, 1) := by decide +kernel
theorem dX8_waterAt_2 : decode cX8_waterAt 2 = .ok (.sipush 250, 3) := by decide +kernel
theorem dX8_waterAt_5 : decode cX8_waterAt 5 = .ok (.invokestatic 48, 3) := by decide +kernel
theorem dX8_waterAt_8 : decode cX8_waterAt 8 = .ok (.ifCond .eq 30, 3) := by decide +kernel
theorem dX8_waterAt_11 : decode cX8_waterAt 11 = .ok (.iload_n 2, 1) := by decide +kernel
theorem dX8_waterAt_12 : decode cX8_waterAt 12 = .ok (.invokestatic 74, 3) := by decide +kernel
theorem dX8_waterAt_15 : decode cX8_waterAt 15 = .ok (.ifCond .eq 23, 3) := by decide +kernel
theorem dX8_waterAt_18 : decode cX8_waterAt 18 = .ok (.iload_n 3, 1) := by decide +kernel
theorem dX8_waterAt_19 : decode cX8_waterAt 19 = .ok (.iconst 0, 1) := by decide +kernel
theorem dX8_waterAt_20 : decode cX8_waterAt 20 = .ok (.bipush 23, 2) := by decide +kernel
theorem dX8_waterAt_22 : decode cX8_waterAt 22 = .ok (.invokestatic 48, 3) := by decide +kernel
theorem dX8_waterAt_25 : decode cX8_waterAt 25 = .ok (.ifCond .eq 13, 3) := by decide +kernel
theorem dX8_waterAt_28 : decode cX8_waterAt 28 = .ok (.aload_n 0, 1) := by decide +kernel
theorem dX8_waterAt_29 : decode cX8_waterAt 29 = .ok (.iload_n 1, 1) := by decide +kernel
theorem dX8_waterAt_30 : decode cX8_waterAt 30 = .ok (.iload_n 2, 1) := by decide +kernel
theorem dX8_waterAt_31 : decode cX8_waterAt 31 = .ok (.iload_n 3, 1) := by decide +kernel
theorem dX8_waterAt_32 : decode cX8_waterAt 32 = .ok (.invokevirtual 77, 3) := by decide +kernel
theorem dX8_waterAt_35 : decode cX8_waterAt 35 = .ok (.goto 9, 3) := by decide +kernel
theorem dX8_waterAt_38 : decode cX8_waterAt 38 = .ok (.aload_n 0, 1) := by decide +kernel
theorem dX8_waterAt_39 : decode cX8_waterAt 39 = .ok (.ldc 67, 2) := by decide +kernel
theorem dX8_waterAt_41 : decode cX8_waterAt 41 = .ok (.invokevirtual 56, 3) := by decide +kernel
theorem dX8_waterAt_44 : decode cX8_waterAt 44 = .ok (.ireturn, 1) := by decide +kernel
theorem dX8_hourOf_0 : decode cX8_hourOf 0 = .ok (.aload_n 0, 1) := by decide +kernel
theorem dX8_hourOf_1 : decode cX8_hourOf 1 = .ok (.getfield 7, 3) := by decide +kernel
theorem dX8_hourOf_4 : decode cX8_hourOf 4 = .ok (.bipush 36, 2) := by decide +kernel
theorem dX8_hourOf_6 : decode cX8_hourOf 6 = .ok (.iconst 3, 1) := by decide +kernel
theorem dX8_hourOf_7 : decode cX8_hourOf 7 = .ok (.iload_n 1, 1) := by decide +kernel
theorem dX8_hourOf_8 : decode cX8_hourOf 8 = .ok (.imul, 1) := by decide +kernel
theorem dX8_hourOf_9 : decode cX8_hourOf 9 = .ok (.iadd, 1) := by decide +kernel
theorem dX8_hourOf_10 : decode cX8_hourOf 10 = .ok (.iconst 1, 1) := by decide +kernel
theorem dX8_hourOf_11 : decode cX8_hourOf 11 = .ok (.iadd, 1) := by decide +kernel
theorem dX8_hourOf_12 : decode cX8_hourOf 12 = .ok (.iaload, 1) := by decide +kernel
theorem dX8_hourOf_13 : decode cX8_hourOf 13 = .ok (.iload_n 3, 1) := by decide +kernel
theorem dX8_hourOf_14 : decode cX8_hourOf 14 = .ok (.iconst 3, 1) := by decide +kernel
theorem dX8_hourOf_15 : decode cX8_hourOf 15 = .ok (.if_icmp .ne 8, 3) := by decide +kernel
theorem dX8_hourOf_18 : decode cX8_hourOf 18 = .ok (.bipush 50, 2) := by decide +kernel
theorem dX8_hourOf_20 : decode cX8_hourOf 20 = .ok (.goto 4, 3) := by decide +kernel
theorem dX8_hourOf_23 : decode cX8_hourOf 23 = .ok (.iconst 0, 1) := by decide +kernel
theorem dX8_hourOf_24 : decode cX8_hourOf 24 = .ok (.isub, 1) := by decide +kernel
theorem dX8_hourOf_25 : decode cX8_hourOf 25 = .ok (.istore 4, 2) := by decide +kernel
theorem dX8_hourOf_27 : decode cX8_hourOf 27 = .ok (.bipush 8, 2) := by decide +kernel
theorem dX8_hourOf_29 : decode cX8_hourOf 29 = .ok (.istore 5, 2) := by decide +kernel
theorem dX8_hourOf_31 : decode cX8_hourOf 31 = .ok (.iload 5, 2) := by decide +kernel
theorem dX8_hourOf_33 : decode cX8_hourOf 33 = .ok (.bipush 17, 2) := by decide +kernel
theorem dX8_hourOf_35 : decode cX8_hourOf 35 = .ok (.if_icmp .gt 51, 3) := by decide +kernel
theorem dX8_hourOf_38 : decode cX8_hourOf 38 = .ok (.aload_n 0, 1) := by decide +kernel
theorem dX8_hourOf_39 : decode cX8_hourOf 39 = .ok (.aload_n 0, 1) := by decide +kernel
theorem dX8_hourOf_40 : decode cX8_hourOf 40 = .ok (.getfield 7, 3) := by decide +kernel
theorem dX8_hourOf_43 : decode cX8_hourOf 43 = .ok (.bipush 36, 2) := by decide +kernel
theorem dX8_hourOf_45 : decode cX8_hourOf 45 = .ok (.iconst 3, 1) := by decide +kernel
theorem dX8_hourOf_46 : decode cX8_hourOf 46 = .ok (.iload_n 1, 1) := by decide +kernel
theorem dX8_hourOf_47 : decode cX8_hourOf 47 = .ok (.imul, 1) := by decide +kernel
theorem dX8_hourOf_48 : decode cX8_hourOf 48 = .ok (.iadd, 1) := by decide +kernel
theorem dX8_hourOf_49 : decode cX8_hourOf 49 = .ok (.iaload, 1) := by decide +kernel
theorem dX8_hourOf_50 : decode cX8_hourOf 50 = .ok (.iload_n 2, 1) := by decide +kernel
theorem dX8_hourOf_51 : decode cX8_hourOf 51 = .ok (.iload 5, 2) := by decide +kernel
theorem dX8_hourOf_53 : decode cX8_hourOf 53 = .ok (.invokevirtual 77, 3) := by decide +kernel
theorem dX8_hourOf_56 : decode cX8_hourOf 56 = .ok (.iload 4, 2) := by decide +kernel
theorem dX8_hourOf_58 : decode cX8_hourOf 58 = .ok (.aload_n 0, 1) := by decide +kernel
theorem dX8_hourOf_59 : decode cX8_hourOf 59 = .ok (.getfield 7, 3) := by decide +kernel
theorem dX8_hourOf_62 : decode cX8_hourOf 62 = .ok (.bipush 36, 2) := by decide +kernel
theorem dX8_hourOf_64 : decode cX8_hourOf 64 = .ok (.iconst 3, 1) := by decide +kernel
theorem dX8_hourOf_65 : decode cX8_hourOf 65 = .ok (.iload_n 1, 1) := by decide +kernel
theorem dX8_hourOf_66 : decode cX8_hourOf 66 = .ok (.imul, 1) := by decide +kernel
theorem dX8_hourOf_67 : decode cX8_hourOf 67 = .ok (.iadd, 1) := by decide +kernel
theorem dX8_hourOf_68 : decode cX8_hourOf 68 = .ok (.iconst 2, 1) := by decide +kernel
theorem dX8_hourOf_69 : decode cX8_hourOf 69 = .ok (.iadd, 1) := by decide +kernel
theorem dX8_hourOf_70 : decode cX8_hourOf 70 = .ok (.iaload, 1) := by decide +kernel
theorem dX8_hourOf_71 : decode cX8_hourOf 71 = .ok (.invokestatic 48, 3) := by decide +kernel
theorem dX8_hourOf_74 : decode cX8_hourOf 74 = .ok (.ifCond .eq 6, 3) := by decide +kernel
theorem dX8_hourOf_77 : decode cX8_hourOf 77 = .ok (.iload 5, 2) := by decide +kernel
theorem dX8_hourOf_79 : decode cX8_hourOf 79 = .ok (.ireturn, 1) := by decide +kernel
theorem dX8_hourOf_80 : decode cX8_hourOf 80 = .ok (.iinc 5 1, 3) := by decide +kernel
theorem dX8_hourOf_83 : decode cX8_hourOf 83 = .ok (.goto (-52), 3) := by decide +kernel
theorem dX8_hourOf_86 : decode cX8_hourOf 86 = .ok (.iconst (-1), 1) := by decide +kernel
theorem dX8_hourOf_87 : decode cX8_hourOf 87 = .ok (.ireturn, 1) := by decide +kernel
theorem dX8_runs_0 : decode cX8_runs 0 = .ok (.aload_n 0, 1) := by decide +kernel
theorem dX8_runs_1 : decode cX8_runs 1 = .ok (.iload_n 1, 1) := by decide +kernel
theorem dX8_runs_2 : decode cX8_runs 2 = .ok (.invokevirtual 81, 3) := by decide +kernel
theorem dX8_runs_5 : decode cX8_runs 5 = .ok (.ifCond .eq 29, 3) := by decide +kernel
theorem dX8_runs_8 : decode cX8_runs 8 = .ok (.iload_n 2, 1) := by decide +kernel
theorem dX8_runs_9 : decode cX8_runs 9 = .ok (.invokestatic 74, 3) := by decide +kernel
theorem dX8_runs_12 : decode cX8_runs 12 = .ok (.ifCond .eq 22, 3) := by decide +kernel
theorem dX8_runs_15 : decode cX8_runs 15 = .ok (.iload_n 3, 1) := by decide +kernel
theorem dX8_runs_16 : decode cX8_runs 16 = .ok (.iconst 0, 1) := by decide +kernel
theorem dX8_runs_17 : decode cX8_runs 17 = .ok (.iconst 3, 1) := by decide +kernel
theorem dX8_runs_18 : decode cX8_runs 18 = .ok (.invokestatic 48, 3) := by decide +kernel
theorem dX8_runs_21 : decode cX8_runs 21 = .ok (.ifCond .eq 13, 3) := by decide +kernel
theorem dX8_runs_24 : decode cX8_runs 24 = .ok (.aload_n 0, 1) := by decide +kernel
theorem dX8_runs_25 : decode cX8_runs 25 = .ok (.iload_n 1, 1) := by decide +kernel
theorem dX8_runs_26 : decode cX8_runs 26 = .ok (.iload_n 2, 1) := by decide +kernel
theorem dX8_runs_27 : decode cX8_runs 27 = .ok (.iload_n 3, 1) := by decide +kernel
theorem dX8_runs_28 : decode cX8_runs 28 = .ok (.invokevirtual 84, 3) := by decide +kernel
theorem dX8_runs_31 : decode cX8_runs 31 = .ok (.goto 9, 3) := by decide +kernel
theorem dX8_runs_34 : decode cX8_runs 34 = .ok (.aload_n 0, 1) := by decide +kernel
theorem dX8_runs_35 : decode cX8_runs 35 = .ok (.ldc 67, 2) := by decide +kernel
theorem dX8_runs_37 : decode cX8_runs 37 = .ok (.invokevirtual 56, 3) := by decide +kernel
theorem dX8_runs_40 : decode cX8_runs 40 = .ok (.ireturn, 1) := by decide +kernel
theorem dX8_trip_0 : decode cX8_trip 0 = .ok (.iload_n 1, 1) := by decide +kernel
theorem dX8_trip_1 : decode cX8_trip 1 = .ok (.iconst 0, 1) := by decide +kernel
theorem dX8_trip_2 : decode cX8_trip 2 = .ok (.iconst 3, 1) := by decide +kernel
theorem dX8_trip_3 : decode cX8_trip 3 = .ok (.invokestatic 48, 3) := by decide +kernel
theorem dX8_trip_6 : decode cX8_trip 6 = .ok (.ifCond .eq 41, 3) := by decide +kernel
theorem dX8_trip_9 : decode cX8_trip 9 = .ok (.iload_n 2, 1) := by decide +kernel
theorem dX8_trip_10 : decode cX8_trip 10 = .ok (.invokestatic 74, 3) := by decide +kernel
theorem dX8_trip_13 : decode cX8_trip 13 = .ok (.ifCond .eq 34, 3) := by decide +kernel
theorem dX8_trip_16 : decode cX8_trip 16 = .ok (.iload_n 3, 1) := by decide +kernel
theorem dX8_trip_17 : decode cX8_trip 17 = .ok (.iconst 1, 1) := by decide +kernel
theorem dX8_trip_18 : decode cX8_trip 18 = .ok (.bipush 60, 2) := by decide +kernel
theorem dX8_trip_20 : decode cX8_trip 20 = .ok (.invokestatic 48, 3) := by decide +kernel
theorem dX8_trip_23 : decode cX8_trip 23 = .ok (.ifCond .eq 24, 3) := by decide +kernel
theorem dX8_trip_26 : decode cX8_trip 26 = .ok (.iload 4, 2) := by decide +kernel
theorem dX8_trip_28 : decode cX8_trip 28 = .ok (.iconst 1, 1) := by decide +kernel
theorem dX8_trip_29 : decode cX8_trip 29 = .ok (.bipush 15, 2) := by decide +kernel
theorem dX8_trip_31 : decode cX8_trip 31 = .ok (.invokestatic 48, 3) := by decide +kernel
theorem dX8_trip_34 : decode cX8_trip 34 = .ok (.ifCond .eq 13, 3) := by decide +kernel
theorem dX8_trip_37 : decode cX8_trip 37 = .ok (.iload 5, 2) := by decide +kernel
theorem dX8_trip_39 : decode cX8_trip 39 = .ok (.iconst 0, 1) := by decide +kernel
theorem dX8_trip_40 : decode cX8_trip 40 = .ok (.iconst 2, 1) := by decide +kernel
theorem dX8_trip_41 : decode cX8_trip 41 = .ok (.invokestatic 48, 3) := by decide +kernel
theorem dX8_trip_44 : decode cX8_trip 44 = .ok (.ifCond .ne 10, 3) := by decide +kernel
theorem dX8_trip_47 : decode cX8_trip 47 = .ok (.aload_n 0, 1) := by decide +kernel
theorem dX8_trip_48 : decode cX8_trip 48 = .ok (.ldc 67, 2) := by decide +kernel
theorem dX8_trip_50 : decode cX8_trip 50 = .ok (.invokevirtual 56, 3) := by decide +kernel
theorem dX8_trip_53 : decode cX8_trip 53 = .ok (.ireturn, 1) := by decide +kernel
theorem dX8_trip_54 : decode cX8_trip 54 = .ok (.aload_n 0, 1) := by decide +kernel
theorem dX8_trip_55 : decode cX8_trip 55 = .ok (.getfield 7, 3) := by decide +kernel
theorem dX8_trip_58 : decode cX8_trip 58 = .ok (.iconst 5, 1) := by decide +kernel
theorem dX8_trip_59 : decode cX8_trip 59 = .ok (.iaload, 1) := by decide +kernel
theorem dX8_trip_60 : decode cX8_trip 60 = .ok (.bipush 10, 2) := by decide +kernel
theorem dX8_trip_62 : decode cX8_trip 62 = .ok (.if_icmp .ne 10, 3) := by decide +kernel
theorem dX8_trip_65 : decode cX8_trip 65 = .ok (.aload_n 0, 1) := by decide +kernel
theorem dX8_trip_66 : decode cX8_trip 66 = .ok (.ldc 68, 2) := by decide +kernel
theorem dX8_trip_68 : decode cX8_trip 68 = .ok (.invokevirtual 56, 3) := by decide +kernel
theorem dX8_trip_71 : decode cX8_trip 71 = .ok (.ireturn, 1) := by decide +kernel
theorem dX8_trip_72 : decode cX8_trip 72 = .ok (.aload_n 0, 1) := by decide +kernel
theorem dX8_trip_73 : decode cX8_trip 73 = .ok (.iconst 5, 1) := by decide +kernel
theorem dX8_trip_74 : decode cX8_trip 74 = .ok (.aload_n 0, 1) := by decide +kernel
theorem dX8_trip_75 : decode cX8_trip 75 = .ok (.getfield 7, 3) := by decide +kernel
theorem dX8_trip_78 : decode cX8_trip 78 = .ok (.iconst 5, 1) := by decide +kernel
theorem dX8_trip_79 : decode cX8_trip 79 = .ok (.iaload, 1) := by decide +kernel
theorem dX8_trip_80 : decode cX8_trip 80 = .ok (.iconst 1, 1) := by decide +kernel
theorem dX8_trip_81 : decode cX8_trip 81 = .ok (.iadd, 1) := by decide +kernel
theorem dX8_trip_82 : decode cX8_trip 82 = .ok (.invokevirtual 63, 3) := by decide +kernel
theorem dX8_trip_85 : decode cX8_trip 85 = .ok (.istore 6, 2) := by decide +kernel
theorem dX8_trip_87 : decode cX8_trip 87 = .ok (.aload_n 0, 1) := by decide +kernel
theorem dX8_trip_88 : decode cX8_trip 88 = .ok (.getfield 7, 3) := by decide +kernel
theorem dX8_trip_91 : decode cX8_trip 91 = .ok (.sipush 194, 3) := by decide +kernel
theorem dX8_trip_94 : decode cX8_trip 94 = .ok (.iconst 5, 1) := by decide +kernel
theorem dX8_trip_95 : decode cX8_trip 95 = .ok (.iload 6, 2) := by decide +kernel
theorem dX8_trip_97 : decode cX8_trip 97 = .ok (.imul, 1) := by decide +kernel
theorem dX8_trip_98 : decode cX8_trip 98 = .ok (.iadd, 1) := by decide +kernel
theorem dX8_trip_99 : decode cX8_trip 99 = .ok (.iconst 0, 1) := by decide +kernel
theorem dX8_trip_100 : decode cX8_trip 100 = .ok (.iadd, 1) := by decide +kernel
theorem dX8_trip_101 : decode cX8_trip 101 = .ok (.iload_n 1, 1) := by decide +kernel
theorem dX8_trip_102 : decode cX8_trip 102 = .ok (.iastore, 1) := by decide +kernel
theorem dX8_trip_103 : decode cX8_trip 103 = .ok (.aload_n 0, 1) := by decide +kernel
theorem dX8_trip_104 : decode cX8_trip 104 = .ok (.getfield 7, 3) := by decide +kernel
theorem dX8_trip_107 : decode cX8_trip 107 = .ok (.sipush 194, 3) := by decide +kernel
theorem dX8_trip_110 : decode cX8_trip 110 = .ok (.iconst 5, 1) := by decide +kernel
theorem dX8_trip_111 : decode cX8_trip 111 = .ok (.iload 6, 2) := by decide +kernel
theorem dX8_trip_113 : decode cX8_trip 113 = .ok (.imul, 1) := by decide +kernel
theorem dX8_trip_114 : decode cX8_trip 114 = .ok (.iadd, 1) := by decide +kernel
theorem dX8_trip_115 : decode cX8_trip 115 = .ok (.iconst 1, 1) := by decide +kernel
theorem dX8_trip_116 : decode cX8_trip 116 = .ok (.iadd, 1) := by decide +kernel
theorem dX8_trip_117 : decode cX8_trip 117 = .ok (.iload_n 2, 1) := by decide +kernel
theorem dX8_trip_118 : decode cX8_trip 118 = .ok (.iastore, 1) := by decide +kernel
theorem dX8_trip_119 : decode cX8_trip 119 = .ok (.aload_n 0, 1) := by decide +kernel
theorem dX8_trip_120 : decode cX8_trip 120 = .ok (.getfield 7, 3) := by decide +kernel
theorem dX8_trip_123 : decode cX8_trip 123 = .ok (.sipush 194, 3) := by decide +kernel
theorem dX8_trip_126 : decode cX8_trip 126 = .ok (.iconst 5, 1) := by decide +kernel
theorem dX8_trip_127 : decode cX8_trip 127 = .ok (.iload 6, 2) := by decide +kernel
theorem dX8_trip_129 : decode cX8_trip 129 = .ok (.imul, 1) := by decide +kernel
theorem dX8_trip_130 : decode cX8_trip 130 = .ok (.iadd, 1) := by decide +kernel
theorem dX8_trip_131 : decode cX8_trip 131 = .ok (.iconst 2, 1) := by decide +kernel
theorem dX8_trip_132 : decode cX8_trip 132 = .ok (.iadd, 1) := by decide +kernel
theorem dX8_trip_133 : decode cX8_trip 133 = .ok (.iload_n 3, 1) := by decide +kernel
theorem dX8_trip_134 : decode cX8_trip 134 = .ok (.iastore, 1) := by decide +kernel
theorem dX8_trip_135 : decode cX8_trip 135 = .ok (.aload_n 0, 1) := by decide +kernel
theorem dX8_trip_136 : decode cX8_trip 136 = .ok (.getfield 7, 3) := by decide +kernel
theorem dX8_trip_139 : decode cX8_trip 139 = .ok (.sipush 194, 3) := by decide +kernel
theorem dX8_trip_142 : decode cX8_trip 142 = .ok (.iconst 5, 1) := by decide +kernel
theorem dX8_trip_143 : decode cX8_trip 143 = .ok (.iload 6, 2) := by decide +kernel
theorem dX8_trip_145 : decode cX8_trip 145 = .ok (.imul, 1) := by decide +kernel
theorem dX8_trip_146 : decode cX8_trip 146 = .ok (.iadd, 1) := by decide +kernel
theorem dX8_trip_147 : decode cX8_trip 147 = .ok (.iconst 3, 1) := by decide +kernel
theorem dX8_trip_148 : decode cX8_trip 148 = .ok (.iadd, 1) := by decide +kernel
theorem dX8_trip_149 : decode cX8_trip 149 = .ok (.iload 4, 2) := by decide +kernel
theorem dX8_trip_151 : decode cX8_trip 151 = .ok (.iastore, 1) := by decide +kernel
theorem dX8_trip_152 : decode cX8_trip 152 = .ok (.aload_n 0, 1) := by decide +kernel
theorem dX8_trip_153 : decode cX8_trip 153 = .ok (.getfield 7, 3) := by decide +kernel
theorem dX8_trip_156 : decode cX8_trip 156 = .ok (.sipush 194, 3) := by decide +kernel
theorem dX8_trip_159 : decode cX8_trip 159 = .ok (.iconst 5, 1) := by decide +kernel
theorem dX8_trip_160 : decode cX8_trip 160 = .ok (.iload 6, 2) := by decide +kernel
theorem dX8_trip_162 : decode cX8_trip 162 = .ok (.imul, 1) := by decide +kernel
theorem dX8_trip_163 : decode cX8_trip 163 = .ok (.iadd, 1) := by decide +kernel
theorem dX8_trip_164 : decode cX8_trip 164 = .ok (.iconst 4, 1) := by decide +kernel
theorem dX8_trip_165 : decode cX8_trip 165 = .ok (.iadd, 1) := by decide +kernel
theorem dX8_trip_166 : decode cX8_trip 166 = .ok (.iload 5, 2) := by decide +kernel
theorem dX8_trip_168 : decode cX8_trip 168 = .ok (.iastore, 1) := by decide +kernel
theorem dX8_trip_169 : decode cX8_trip 169 = .ok (.aload_n 0, 1) := by decide +kernel
theorem dX8_trip_170 : decode cX8_trip 170 = .ok (.iload 6, 2) := by decide +kernel
theorem dX8_trip_172 : decode cX8_trip 172 = .ok (.invokevirtual 87, 3) := by decide +kernel
theorem dX8_trip_175 : decode cX8_trip 175 = .ok (.iload 6, 2) := by decide +kernel
theorem dX8_trip_177 : decode cX8_trip 177 = .ok (.ireturn, 1) := by decide +kernel
theorem dX8_noNights_0 : decode cX8_noNights 0 = .ok (.iconst 0, 1) := by decide +kernel
theorem dX8_noNights_1 : decode cX8_noNights 1 = .ok (.istore_n 2, 1) := by decide +kernel
theorem dX8_noNights_2 : decode cX8_noNights 2 = .ok (.iload_n 2, 1) := by decide +kernel
end
section
theorem dX8_noNights_3 : decode cX8_noNights 3 = .ok (.bipush 30, 2) := by decide +kernel
theorem dX8_noNights_5 : decode cX8_noNights 5 = .ok (.if_icmp .ge 25, 3) := by decide +kernel
theorem dX8_noNights_8 : decode cX8_noNights 8 = .ok (.aload_n 0, 1) := by decide +kernel
theorem dX8_noNights_9 : decode cX8_noNights 9 = .ok (.getfield 7, 3) := by decide +kernel
theorem dX8_noNights_12 : decode cX8_noNights 12 = .ok (.sipush 244, 3) := by decide +kernel
theorem dX8_noNights_15 : decode cX8_noNights 15 = .ok (.bipush 30, 2) := by decide +kernel
theorem dX8_noNights_17 : decode cX8_noNights 17 = .ok (.iload_n 1, 1) := by decide +kernel
theorem dX8_noNights_18 : decode cX8_noNights 18 = .ok (.imul, 1) := by decide +kernel
theorem dX8_noNights_19 : decode cX8_noNights 19 = .ok (.iadd, 1) := by decide +kernel
theorem dX8_noNights_20 : decode cX8_noNights 20 = .ok (.iload_n 2, 1) := by decide +kernel
theorem dX8_noNights_21 : decode cX8_noNights 21 = .ok (.iadd, 1) := by decide +kernel
theorem dX8_noNights_22 : decode cX8_noNights 22 = .ok (.iconst (-1), 1) := by decide +kernel
theorem dX8_noNights_23 : decode cX8_noNights 23 = .ok (.iastore, 1) := by decide +kernel
theorem dX8_noNights_24 : decode cX8_noNights 24 = .ok (.iinc 2 1, 3) := by decide +kernel
theorem dX8_noNights_27 : decode cX8_noNights 27 = .ok (.goto (-25), 3) := by decide +kernel
theorem dX8_noNights_30 : decode cX8_noNights 30 = .ok (.return_, 1) := by decide +kernel
theorem dX8_told_0 : decode cX8_told 0 = .ok (.aload_n 0, 1) := by decide +kernel
theorem dX8_told_1 : decode cX8_told 1 = .ok (.getfield 7, 3) := by decide +kernel
theorem dX8_told_4 : decode cX8_told 4 = .ok (.sipush 194, 3) := by decide +kernel
theorem dX8_told_7 : decode cX8_told 7 = .ok (.iconst 5, 1) := by decide +kernel
theorem dX8_told_8 : decode cX8_told 8 = .ok (.iload_n 1, 1) := by decide +kernel
theorem dX8_told_9 : decode cX8_told 9 = .ok (.imul, 1) := by decide +kernel
theorem dX8_told_10 : decode cX8_told 10 = .ok (.iadd, 1) := by decide +kernel
theorem dX8_told_11 : decode cX8_told 11 = .ok (.iload_n 2, 1) := by decide +kernel
theorem dX8_told_12 : decode cX8_told 12 = .ok (.iadd, 1) := by decide +kernel
theorem dX8_told_13 : decode cX8_told 13 = .ok (.iaload, 1) := by decide +kernel
theorem dX8_told_14 : decode cX8_told 14 = .ok (.ireturn, 1) := by decide +kernel
theorem dX8_as_0 : decode cX8_as 0 = .ok (.aload_n 0, 1) := by decide +kernel
theorem dX8_as_1 : decode cX8_as 1 = .ok (.iload_n 1, 1) := by decide +kernel
theorem dX8_as_2 : decode cX8_as 2 = .ok (.invokevirtual 91, 3) := by decide +kernel
theorem dX8_as_5 : decode cX8_as 5 = .ok (.ifCond .eq 12, 3) := by decide +kernel
theorem dX8_as_8 : decode cX8_as 8 = .ok (.iload_n 2, 1) := by decide +kernel
theorem dX8_as_9 : decode cX8_as 9 = .ok (.iconst 0, 1) := by decide +kernel
theorem dX8_as_10 : decode cX8_as 10 = .ok (.iconst 3, 1) := by decide +kernel
theorem dX8_as_11 : decode cX8_as 11 = .ok (.invokestatic 48, 3) := by decide +kernel
theorem dX8_as_14 : decode cX8_as 14 = .ok (.ifCond .ne 10, 3) := by decide +kernel
theorem dX8_as_17 : decode cX8_as 17 = .ok (.aload_n 0, 1) := by decide +kernel
theorem dX8_as_18 : decode cX8_as 18 = .ok (.ldc 67, 2) := by decide +kernel
theorem dX8_as_20 : decode cX8_as 20 = .ok (.invokevirtual 56, 3) := by decide +kernel
theorem dX8_as_23 : decode cX8_as 23 = .ok (.ireturn, 1) := by decide +kernel
theorem dX8_as_24 : decode cX8_as 24 = .ok (.aload_n 0, 1) := by decide +kernel
theorem dX8_as_25 : decode cX8_as 25 = .ok (.iload_n 1, 1) := by decide +kernel
theorem dX8_as_26 : decode cX8_as 26 = .ok (.iconst 0, 1) := by decide +kernel
theorem dX8_as_27 : decode cX8_as 27 = .ok (.invokevirtual 94, 3) := by decide +kernel
theorem dX8_as_30 : decode cX8_as 30 = .ok (.istore_n 3, 1) := by decide +kernel
theorem dX8_as_31 : decode cX8_as 31 = .ok (.iload_n 2, 1) := by decide +kernel
theorem dX8_as_32 : decode cX8_as 32 = .ok (.ifCond .eq 18, 3) := by decide +kernel
theorem dX8_as_35 : decode cX8_as 35 = .ok (.iload_n 2, 1) := by decide +kernel
theorem dX8_as_36 : decode cX8_as 36 = .ok (.iload_n 3, 1) := by decide +kernel
theorem dX8_as_37 : decode cX8_as 37 = .ok (.if_icmp .eq 13, 3) := by decide +kernel
theorem dX8_as_40 : decode cX8_as 40 = .ok (.iload_n 2, 1) := by decide +kernel
theorem dX8_as_41 : decode cX8_as 41 = .ok (.iconst 1, 1) := by decide +kernel
theorem dX8_as_42 : decode cX8_as 42 = .ok (.if_icmp .ne 12, 3) := by decide +kernel
theorem dX8_as_45 : decode cX8_as 45 = .ok (.iload_n 3, 1) := by decide +kernel
theorem dX8_as_46 : decode cX8_as 46 = .ok (.iconst 3, 1) := by decide +kernel
theorem dX8_as_47 : decode cX8_as 47 = .ok (.if_icmp .ne 7, 3) := by decide +kernel
theorem dX8_as_50 : decode cX8_as 50 = .ok (.iload_n 1, 1) := by decide +kernel
theorem dX8_as_51 : decode cX8_as 51 = .ok (.goto 9, 3) := by decide +kernel
theorem dX8_as_54 : decode cX8_as 54 = .ok (.aload_n 0, 1) := by decide +kernel
theorem dX8_as_55 : decode cX8_as 55 = .ok (.ldc 97, 2) := by decide +kernel
theorem dX8_as_57 : decode cX8_as 57 = .ok (.invokevirtual 56, 3) := by decide +kernel
theorem dX8_as_60 : decode cX8_as 60 = .ok (.ireturn, 1) := by decide +kernel
theorem dX8_of_0 : decode cX8_of 0 = .ok (.aload_n 0, 1) := by decide +kernel
theorem dX8_of_1 : decode cX8_of 1 = .ok (.iload_n 1, 1) := by decide +kernel
theorem dX8_of_2 : decode cX8_of 2 = .ok (.invokevirtual 91, 3) := by decide +kernel
theorem dX8_of_5 : decode cX8_of 5 = .ok (.ifCond .eq 12, 3) := by decide +kernel
theorem dX8_of_8 : decode cX8_of 8 = .ok (.iload_n 2, 1) := by decide +kernel
theorem dX8_of_9 : decode cX8_of 9 = .ok (.iconst 0, 1) := by decide +kernel
theorem dX8_of_10 : decode cX8_of 10 = .ok (.iconst 5, 1) := by decide +kernel
theorem dX8_of_11 : decode cX8_of 11 = .ok (.invokestatic 48, 3) := by decide +kernel
theorem dX8_of_14 : decode cX8_of 14 = .ok (.ifCond .ne 10, 3) := by decide +kernel
theorem dX8_of_17 : decode cX8_of 17 = .ok (.aload_n 0, 1) := by decide +kernel
theorem dX8_of_18 : decode cX8_of 18 = .ok (.ldc 67, 2) := by decide +kernel
theorem dX8_of_20 : decode cX8_of 20 = .ok (.invokevirtual 56, 3) := by decide +kernel
theorem dX8_of_23 : decode cX8_of 23 = .ok (.ireturn, 1) := by decide +kernel
theorem dX8_of_24 : decode cX8_of 24 = .ok (.iload_n 2, 1) := by decide +kernel
theorem dX8_of_25 : decode cX8_of 25 = .ok (.iconst 5, 1) := by decide +kernel
theorem dX8_of_26 : decode cX8_of 26 = .ok (.if_icmp .ge 10, 3) := by decide +kernel
theorem dX8_of_29 : decode cX8_of 29 = .ok (.aload_n 0, 1) := by decide +kernel
theorem dX8_of_30 : decode cX8_of 30 = .ok (.iload_n 1, 1) := by decide +kernel
theorem dX8_of_31 : decode cX8_of 31 = .ok (.iload_n 2, 1) := by decide +kernel
theorem dX8_of_32 : decode cX8_of 32 = .ok (.invokevirtual 94, 3) := by decide +kernel
theorem dX8_of_35 : decode cX8_of 35 = .ok (.ireturn, 1) := by decide +kernel
theorem dX8_of_36 : decode cX8_of 36 = .ok (.iconst 0, 1) := by decide +kernel
theorem dX8_of_37 : decode cX8_of 37 = .ok (.istore_n 3, 1) := by decide +kernel
theorem dX8_of_38 : decode cX8_of 38 = .ok (.iconst 0, 1) := by decide +kernel
theorem dX8_of_39 : decode cX8_of 39 = .ok (.istore 4, 2) := by decide +kernel
theorem dX8_of_41 : decode cX8_of 41 = .ok (.iload 4, 2) := by decide +kernel
theorem dX8_of_43 : decode cX8_of 43 = .ok (.bipush 30, 2) := by decide +kernel
theorem dX8_of_45 : decode cX8_of 45 = .ok (.if_icmp .ge 36, 3) := by decide +kernel
theorem dX8_of_48 : decode cX8_of 48 = .ok (.iload_n 3, 1) := by decide +kernel
theorem dX8_of_49 : decode cX8_of 49 = .ok (.aload_n 0, 1) := by decide +kernel
theorem dX8_of_50 : decode cX8_of 50 = .ok (.getfield 7, 3) := by decide +kernel
theorem dX8_of_53 : decode cX8_of 53 = .ok (.sipush 244, 3) := by decide +kernel
theorem dX8_of_56 : decode cX8_of 56 = .ok (.bipush 30, 2) := by decide +kernel
theorem dX8_of_58 : decode cX8_of 58 = .ok (.iload_n 1, 1) := by decide +kernel
theorem dX8_of_59 : decode cX8_of 59 = .ok (.imul, 1) := by decide +kernel
theorem dX8_of_60 : decode cX8_of 60 = .ok (.iadd, 1) := by decide +kernel
theorem dX8_of_61 : decode cX8_of 61 = .ok (.iload 4, 2) := by decide +kernel
theorem dX8_of_63 : decode cX8_of 63 = .ok (.iadd, 1) := by decide +kernel
theorem dX8_of_64 : decode cX8_of 64 = .ok (.iaload, 1) := by decide +kernel
theorem dX8_of_65 : decode cX8_of 65 = .ok (.ifCond .lt 7, 3) := by decide +kernel
theorem dX8_of_68 : decode cX8_of 68 = .ok (.iconst 1, 1) := by decide +kernel
theorem dX8_of_69 : decode cX8_of 69 = .ok (.goto 4, 3) := by decide +kernel
theorem dX8_of_72 : decode cX8_of 72 = .ok (.iconst 0, 1) := by decide +kernel
theorem dX8_of_73 : decode cX8_of 73 = .ok (.iadd, 1) := by decide +kernel
theorem dX8_of_74 : decode cX8_of 74 = .ok (.istore_n 3, 1) := by decide +kernel
theorem dX8_of_75 : decode cX8_of 75 = .ok (.iinc 4 1, 3) := by decide +kernel
theorem dX8_of_78 : decode cX8_of 78 = .ok (.goto (-37), 3) := by decide +kernel
theorem dX8_of_81 : decode cX8_of 81 = .ok (.iload_n 3, 1) := by decide +kernel
theorem dX8_of_82 : decode cX8_of 82 = .ok (.ireturn, 1) := by decide +kernel
theorem dX8_launch_0 : decode cX8_launch 0 = .ok (.aload_n 0, 1) := by decide +kernel
theorem dX8_launch_1 : decode cX8_launch 1 = .ok (.iload_n 1, 1) := by decide +kernel
theorem dX8_launch_2 : decode cX8_launch 2 = .ok (.invokevirtual 91, 3) := by decide +kernel
theorem dX8_launch_5 : decode cX8_launch 5 = .ok (.ifCond .eq 10, 3) := by decide +kernel
theorem dX8_launch_8 : decode cX8_launch 8 = .ok (.iload_n 2, 1) := by decide +kernel
theorem dX8_launch_9 : decode cX8_launch 9 = .ok (.invokestatic 74, 3) := by decide +kernel
theorem dX8_launch_12 : decode cX8_launch 12 = .ok (.ifCond .ne 10, 3) := by decide +kernel
theorem dX8_launch_15 : decode cX8_launch 15 = .ok (.aload_n 0, 1) := by decide +kernel
theorem dX8_launch_16 : decode cX8_launch 16 = .ok (.ldc 67, 2) := by decide +kernel
theorem dX8_launch_18 : decode cX8_launch 18 = .ok (.invokevirtual 56, 3) := by decide +kernel
theorem dX8_launch_21 : decode cX8_launch 21 = .ok (.ireturn, 1) := by decide +kernel
theorem dX8_launch_22 : decode cX8_launch 22 = .ok (.aload_n 0, 1) := by decide +kernel
theorem dX8_launch_23 : decode cX8_launch 23 = .ok (.sipush 194, 3) := by decide +kernel
theorem dX8_launch_26 : decode cX8_launch 26 = .ok (.iconst 5, 1) := by decide +kernel
theorem dX8_launch_27 : decode cX8_launch 27 = .ok (.iload_n 1, 1) := by decide +kernel
theorem dX8_launch_28 : decode cX8_launch 28 = .ok (.imul, 1) := by decide +kernel
theorem dX8_launch_29 : decode cX8_launch 29 = .ok (.iadd, 1) := by decide +kernel
theorem dX8_launch_30 : decode cX8_launch 30 = .ok (.iconst 1, 1) := by decide +kernel
theorem dX8_launch_31 : decode cX8_launch 31 = .ok (.iadd, 1) := by decide +kernel
theorem dX8_launch_32 : decode cX8_launch 32 = .ok (.iload_n 2, 1) := by decide +kernel
theorem dX8_launch_33 : decode cX8_launch 33 = .ok (.invokevirtual 63, 3) := by decide +kernel
theorem dX8_launch_36 : decode cX8_launch 36 = .ok (.istore_n 3, 1) := by decide +kernel
theorem dX8_launch_37 : decode cX8_launch 37 = .ok (.aload_n 0, 1) := by decide +kernel
theorem dX8_launch_38 : decode cX8_launch 38 = .ok (.iload_n 1, 1) := by decide +kernel
theorem dX8_launch_39 : decode cX8_launch 39 = .ok (.invokevirtual 87, 3) := by decide +kernel
theorem dX8_launch_42 : decode cX8_launch 42 = .ok (.iload_n 3, 1) := by decide +kernel
theorem dX8_launch_43 : decode cX8_launch 43 = .ok (.ireturn, 1) := by decide +kernel
theorem dX8_other_0 : decode cX8_other 0 = .ok (.iconst 0, 1) := by decide +kernel
theorem dX8_other_1 : decode cX8_other 1 = .ok (.istore 4, 2) := by decide +kernel
theorem dX8_other_3 : decode cX8_other 3 = .ok (.iload 4, 2) := by decide +kernel
theorem dX8_other_5 : decode cX8_other 5 = .ok (.aload_n 0, 1) := by decide +kernel
theorem dX8_other_6 : decode cX8_other 6 = .ok (.getfield 7, 3) := by decide +kernel
theorem dX8_other_9 : decode cX8_other 9 = .ok (.iconst 5, 1) := by decide +kernel
theorem dX8_other_10 : decode cX8_other 10 = .ok (.iaload, 1) := by decide +kernel
theorem dX8_other_11 : decode cX8_other 11 = .ok (.if_icmp .ge 38, 3) := by decide +kernel
theorem dX8_other_14 : decode cX8_other 14 = .ok (.iload 4, 2) := by decide +kernel
theorem dX8_other_16 : decode cX8_other 16 = .ok (.iload_n 3, 1) := by decide +kernel
theorem dX8_other_17 : decode cX8_other 17 = .ok (.if_icmp .eq 26, 3) := by decide +kernel
theorem dX8_other_20 : decode cX8_other 20 = .ok (.aload_n 0, 1) := by decide +kernel
theorem dX8_other_21 : decode cX8_other 21 = .ok (.getfield 7, 3) := by decide +kernel
theorem dX8_other_24 : decode cX8_other 24 = .ok (.sipush 244, 3) := by decide +kernel
theorem dX8_other_27 : decode cX8_other 27 = .ok (.bipush 30, 2) := by decide +kernel
theorem dX8_other_29 : decode cX8_other 29 = .ok (.iload 4, 2) := by decide +kernel
theorem dX8_other_31 : decode cX8_other 31 = .ok (.imul, 1) := by decide +kernel
theorem dX8_other_32 : decode cX8_other 32 = .ok (.iadd, 1) := by decide +kernel
theorem dX8_other_33 : decode cX8_other 33 = .ok (.iload_n 2, 1) := by decide +kernel
theorem dX8_other_34 : decode cX8_other 34 = .ok (.iadd, 1) := by decide +kernel
theorem dX8_other_35 : decode cX8_other 35 = .ok (.iaload, 1) := by decide +kernel
theorem dX8_other_36 : decode cX8_other 36 = .ok (.iload_n 1, 1) := by decide +kernel
theorem dX8_other_37 : decode cX8_other 37 = .ok (.if_icmp .ne 6, 3) := by decide +kernel
theorem dX8_other_40 : decode cX8_other 40 = .ok (.iload 4, 2) := by decide +kernel
theorem dX8_other_42 : decode cX8_other 42 = .ok (.ireturn, 1) := by decide +kernel
theorem dX8_other_43 : decode cX8_other 43 = .ok (.iinc 4 1, 3) := by decide +kernel
theorem dX8_other_46 : decode cX8_other 46 = .ok (.goto (-43), 3) := by decide +kernel
theorem dX8_other_49 : decode cX8_other 49 = .ok (.iconst (-1), 1) := by decide +kernel
theorem dX8_other_50 : decode cX8_other 50 = .ok (.ireturn, 1) := by decide +kernel
theorem dX8_mayCamp_0 : decode cX8_mayCamp 0 = .ok (.aload_n 0, 1) := by decide +kernel
theorem dX8_mayCamp_1 : decode cX8_mayCamp 1 = .ok (.iload_n 1, 1) := by decide +kernel
theorem dX8_mayCamp_2 : decode cX8_mayCamp 2 = .ok (.iconst 0, 1) := by decide +kernel
theorem dX8_mayCamp_3 : decode cX8_mayCamp 3 = .ok (.invokevirtual 94, 3) := by decide +kernel
theorem dX8_mayCamp_6 : decode cX8_mayCamp 6 = .ok (.iconst 2, 1) := by decide +kernel
theorem dX8_mayCamp_7 : decode cX8_mayCamp 7 = .ok (.if_icmp .ne 19, 3) := by decide +kernel
theorem dX8_mayCamp_10 : decode cX8_mayCamp 10 = .ok (.aload_n 0, 1) := by decide +kernel
theorem dX8_mayCamp_11 : decode cX8_mayCamp 11 = .ok (.getfield 7, 3) := by decide +kernel
theorem dX8_mayCamp_14 : decode cX8_mayCamp 14 = .ok (.bipush 8, 2) := by decide +kernel
theorem dX8_mayCamp_16 : decode cX8_mayCamp 16 = .ok (.iconst 2, 1) := by decide +kernel
theorem dX8_mayCamp_17 : decode cX8_mayCamp 17 = .ok (.iload_n 2, 1) := by decide +kernel
theorem dX8_mayCamp_18 : decode cX8_mayCamp 18 = .ok (.imul, 1) := by decide +kernel
theorem dX8_mayCamp_19 : decode cX8_mayCamp 19 = .ok (.iadd, 1) := by decide +kernel
theorem dX8_mayCamp_20 : decode cX8_mayCamp 20 = .ok (.iconst 1, 1) := by decide +kernel
theorem dX8_mayCamp_21 : decode cX8_mayCamp 21 = .ok (.iadd, 1) := by decide +kernel
theorem dX8_mayCamp_22 : decode cX8_mayCamp 22 = .ok (.iaload, 1) := by decide +kernel
theorem dX8_mayCamp_23 : decode cX8_mayCamp 23 = .ok (.ifCond .ne 7, 3) := by decide +kernel
theorem dX8_mayCamp_26 : decode cX8_mayCamp 26 = .ok (.iconst 1, 1) := by decide +kernel
theorem dX8_mayCamp_27 : decode cX8_mayCamp 27 = .ok (.goto 4, 3) := by decide +kernel
theorem dX8_mayCamp_30 : decode cX8_mayCamp 30 = .ok (.iconst 0, 1) := by decide +kernel
theorem dX8_mayCamp_31 : decode cX8_mayCamp 31 = .ok (.ireturn, 1) := by decide +kernel
theorem dX8_night_0 : decode cX8_night 0 = .ok (.aload_n 0, 1) := by decide +kernel
theorem dX8_night_1 : decode cX8_night 1 = .ok (.iload_n 1, 1) := by decide +kernel
theorem dX8_night_2 : decode cX8_night 2 = .ok (.invokevirtual 91, 3) := by decide +kernel
theorem dX8_night_5 : decode cX8_night 5 = .ok (.ifCond .eq 23, 3) := by decide +kernel
theorem dX8_night_8 : decode cX8_night 8 = .ok (.iload_n 2, 1) := by decide +kernel
theorem dX8_night_9 : decode cX8_night 9 = .ok (.invokestatic 74, 3) := by decide +kernel
theorem dX8_night_12 : decode cX8_night 12 = .ok (.ifCond .eq 16, 3) := by decide +kernel
theorem dX8_night_15 : decode cX8_night 15 = .ok (.iload_n 3, 1) := by decide +kernel
theorem dX8_night_16 : decode cX8_night 16 = .ok (.iconst (-1), 1) := by decide +kernel
theorem dX8_night_17 : decode cX8_night 17 = .ok (.if_icmp .eq 18, 3) := by decide +kernel
theorem dX8_night_20 : decode cX8_night 20 = .ok (.aload_n 0, 1) := by decide +kernel
theorem dX8_night_21 : decode cX8_night 21 = .ok (.iload_n 3, 1) := by decide +kernel
theorem dX8_night_22 : decode cX8_night 22 = .ok (.invokevirtual 98, 3) := by decide +kernel
theorem dX8_night_25 : decode cX8_night 25 = .ok (.ifCond .ne 10, 3) := by decide +kernel
theorem dX8_night_28 : decode cX8_night 28 = .ok (.aload_n 0, 1) := by decide +kernel
theorem dX8_night_29 : decode cX8_night 29 = .ok (.ldc 67, 2) := by decide +kernel
theorem dX8_night_31 : decode cX8_night 31 = .ok (.invokevirtual 56, 3) := by decide +kernel
theorem dX8_night_34 : decode cX8_night 34 = .ok (.ireturn, 1) := by decide +kernel
theorem dX8_night_35 : decode cX8_night 35 = .ok (.iload_n 3, 1) := by decide +kernel
theorem dX8_night_36 : decode cX8_night 36 = .ok (.ifCond .lt 20, 3) := by decide +kernel
theorem dX8_night_39 : decode cX8_night 39 = .ok (.aload_n 0, 1) := by decide +kernel
theorem dX8_night_40 : decode cX8_night 40 = .ok (.iload_n 3, 1) := by decide +kernel
theorem dX8_night_41 : decode cX8_night 41 = .ok (.iload_n 2, 1) := by decide +kernel
theorem dX8_night_42 : decode cX8_night 42 = .ok (.iload_n 1, 1) := by decide +kernel
theorem dX8_night_43 : decode cX8_night 43 = .ok (.invokevirtual 101, 3) := by decide +kernel
theorem dX8_night_46 : decode cX8_night 46 = .ok (.ifCond .lt 10, 3) := by decide +kernel
theorem dX8_night_49 : decode cX8_night 49 = .ok (.aload_n 0, 1) := by decide +kernel
theorem dX8_night_50 : decode cX8_night 50 = .ok (.ldc 104, 2) := by decide +kernel
theorem dX8_night_52 : decode cX8_night 52 = .ok (.invokevirtual 56, 3) := by decide +kernel
theorem dX8_night_55 : decode cX8_night 55 = .ok (.ireturn, 1) := by decide +kernel
theorem dX8_night_56 : decode cX8_night 56 = .ok (.iload_n 3, 1) := by decide +kernel
theorem dX8_night_57 : decode cX8_night 57 = .ok (.ifCond .lt 19, 3) := by decide +kernel
theorem dX8_night_60 : decode cX8_night 60 = .ok (.aload_n 0, 1) := by decide +kernel
theorem dX8_night_61 : decode cX8_night 61 = .ok (.iload_n 1, 1) := by decide +kernel
theorem dX8_night_62 : decode cX8_night 62 = .ok (.iload_n 3, 1) := by decide +kernel
theorem dX8_night_63 : decode cX8_night 63 = .ok (.invokevirtual 105, 3) := by decide +kernel
theorem dX8_night_66 : decode cX8_night 66 = .ok (.ifCond .ne 10, 3) := by decide +kernel
theorem dX8_night_69 : decode cX8_night 69 = .ok (.aload_n 0, 1) := by decide +kernel
theorem dX8_night_70 : decode cX8_night 70 = .ok (.ldc 97, 2) := by decide +kernel
theorem dX8_night_72 : decode cX8_night 72 = .ok (.invokevirtual 56, 3) := by decide +kernel
theorem dX8_night_75 : decode cX8_night 75 = .ok (.ireturn, 1) := by decide +kernel
theorem dX8_night_76 : decode cX8_night 76 = .ok (.aload_n 0, 1) := by decide +kernel
theorem dX8_night_77 : decode cX8_night 77 = .ok (.sipush 244, 3) := by decide +kernel
theorem dX8_night_80 : decode cX8_night 80 = .ok (.bipush 30, 2) := by decide +kernel
theorem dX8_night_82 : decode cX8_night 82 = .ok (.iload_n 1, 1) := by decide +kernel
theorem dX8_night_83 : decode cX8_night 83 = .ok (.imul, 1) := by decide +kernel
theorem dX8_night_84 : decode cX8_night 84 = .ok (.iadd, 1) := by decide +kernel
theorem dX8_night_85 : decode cX8_night 85 = .ok (.iload_n 2, 1) := by decide +kernel
theorem dX8_night_86 : decode cX8_night 86 = .ok (.iadd, 1) := by decide +kernel
theorem dX8_night_87 : decode cX8_night 87 = .ok (.iload_n 3, 1) := by decide +kernel
theorem dX8_night_88 : decode cX8_night 88 = .ok (.invokevirtual 63, 3) := by decide +kernel
theorem dX8_night_91 : decode cX8_night 91 = .ok (.ireturn, 1) := by decide +kernel
theorem dX8_at_0 : decode cX8_at 0 = .ok (.aload_n 0, 1) := by decide +kernel
theorem dX8_at_1 : decode cX8_at 1 = .ok (.iload_n 1, 1) := by decide +kernel
theorem dX8_at_2 : decode cX8_at 2 = .ok (.invokevirtual 91, 3) := by decide +kernel
theorem dX8_at_5 : decode cX8_at 5 = .ok (.ifCond .eq 10, 3) := by decide +kernel
theorem dX8_at_8 : decode cX8_at 8 = .ok (.iload_n 2, 1) := by decide +kernel
theorem dX8_at_9 : decode cX8_at 9 = .ok (.invokestatic 74, 3) := by decide +kernel
theorem dX8_at_12 : decode cX8_at 12 = .ok (.ifCond .ne 10, 3) := by decide +kernel
theorem dX8_at_15 : decode cX8_at 15 = .ok (.aload_n 0, 1) := by decide +kernel
theorem dX8_at_16 : decode cX8_at 16 = .ok (.ldc 67, 2) := by decide +kernel
theorem dX8_at_18 : decode cX8_at 18 = .ok (.invokevirtual 56, 3) := by decide +kernel
theorem dX8_at_21 : decode cX8_at 21 = .ok (.ireturn, 1) := by decide +kernel
theorem dX8_at_22 : decode cX8_at 22 = .ok (.aload_n 0, 1) := by decide +kernel
theorem dX8_at_23 : decode cX8_at 23 = .ok (.getfield 7, 3) := by decide +kernel
theorem dX8_at_26 : decode cX8_at 26 = .ok (.sipush 244, 3) := by decide +kernel
theorem dX8_at_29 : decode cX8_at 29 = .ok (.bipush 30, 2) := by decide +kernel
theorem dX8_at_31 : decode cX8_at 31 = .ok (.iload_n 1, 1) := by decide +kernel
theorem dX8_at_32 : decode cX8_at 32 = .ok (.imul, 1) := by decide +kernel
theorem dX8_at_33 : decode cX8_at 33 = .ok (.iadd, 1) := by decide +kernel
theorem dX8_at_34 : decode cX8_at 34 = .ok (.iload_n 2, 1) := by decide +kernel
theorem dX8_at_35 : decode cX8_at 35 = .ok (.iadd, 1) := by decide +kernel
theorem dX8_at_36 : decode cX8_at 36 = .ok (.iaload, 1) := by decide +kernel
theorem dX8_at_37 : decode cX8_at 37 = .ok (.istore_n 3, 1) := by decide +kernel
theorem dX8_at_38 : decode cX8_at 38 = .ok (.iload_n 3, 1) := by decide +kernel
theorem dX8_at_39 : decode cX8_at 39 = .ok (.ifCond .ge 12, 3) := by decide +kernel
theorem dX8_at_42 : decode cX8_at 42 = .ok (.aload_n 0, 1) := by decide +kernel
theorem dX8_at_43 : decode cX8_at 43 = .ok (.ldc 55, 2) := by decide +kernel
theorem dX8_at_45 : decode cX8_at 45 = .ok (.invokevirtual 56, 3) := by decide +kernel
theorem dX8_at_48 : decode cX8_at 48 = .ok (.goto 4, 3) := by decide +kernel
theorem dX8_at_51 : decode cX8_at 51 = .ok (.iload_n 3, 1) := by decide +kernel
theorem dX8_at_52 : decode cX8_at 52 = .ok (.ireturn, 1) := by decide +kernel
theorem dX8_who_0 : decode cX8_who 0 = .ok (.aload_n 0, 1) := by decide +kernel
theorem dX8_who_1 : decode cX8_who 1 = .ok (.iload_n 1, 1) := by decide +kernel
theorem dX8_who_2 : decode cX8_who 2 = .ok (.invokevirtual 98, 3) := by decide +kernel
theorem dX8_who_5 : decode cX8_who 5 = .ok (.ifCond .eq 10, 3) := by decide +kernel
theorem dX8_who_8 : decode cX8_who 8 = .ok (.iload_n 2, 1) := by decide +kernel
theorem dX8_who_9 : decode cX8_who 9 = .ok (.invokestatic 74, 3) := by decide +kernel
theorem dX8_who_12 : decode cX8_who 12 = .ok (.ifCond .ne 10, 3) := by decide +kernel
theorem dX8_who_15 : decode cX8_who 15 = .ok (.aload_n 0, 1) := by decide +kernel
theorem dX8_who_16 : decode cX8_who 16 = .ok (.ldc 67, 2) := by decide +kernel
theorem dX8_who_18 : decode cX8_who 18 = .ok (.invokevirtual 56, 3) := by decide +kernel
theorem dX8_who_21 : decode cX8_who 21 = .ok (.ireturn, 1) := by decide +kernel
theorem dX8_who_22 : decode cX8_who 22 = .ok (.aload_n 0, 1) := by decide +kernel
theorem dX8_who_23 : decode cX8_who 23 = .ok (.iload_n 1, 1) := by decide +kernel
theorem dX8_who_24 : decode cX8_who 24 = .ok (.iload_n 2, 1) := by decide +kernel
theorem dX8_who_25 : decode cX8_who 25 = .ok (.iconst (-1), 1) := by decide +kernel
theorem dX8_who_26 : decode cX8_who 26 = .ok (.invokevirtual 101, 3) := by decide +kernel
theorem dX8_who_29 : decode cX8_who 29 = .ok (.istore_n 3, 1) := by decide +kernel
theorem dX8_who_30 : decode cX8_who 30 = .ok (.iload_n 3, 1) := by decide +kernel
theorem dX8_who_31 : decode cX8_who 31 = .ok (.ifCond .ge 12, 3) := by decide +kernel
theorem dX8_who_34 : decode cX8_who 34 = .ok (.aload_n 0, 1) := by decide +kernel
theorem dX8_who_35 : decode cX8_who 35 = .ok (.ldc 55, 2) := by decide +kernel
theorem dX8_who_37 : decode cX8_who 37 = .ok (.invokevirtual 56, 3) := by decide +kernel
theorem dX8_who_40 : decode cX8_who 40 = .ok (.goto 4, 3) := by decide +kernel
theorem dX8_who_43 : decode cX8_who 43 = .ok (.iload_n 3, 1) := by decide +kernel
theorem dX8_who_44 : decode cX8_who 44 = .ok (.ireturn, 1) := by decide +kernel
theorem dX8_mileOf_0 : decode cX8_mileOf 0 = .ok (.iload_n 1, 1) := by decide +kernel
theorem dX8_mileOf_1 : decode cX8_mileOf 1 = .ok (.bipush 14, 2) := by decide +kernel
theorem dX8_mileOf_3 : decode cX8_mileOf 3 = .ok (.if_icmp .ne 7, 3) := by decide +kernel
theorem dX8_mileOf_6 : decode cX8_mileOf 6 = .ok (.iconst 0, 1) := by decide +kernel
theorem dX8_mileOf_7 : decode cX8_mileOf 7 = .ok (.goto 14, 3) := by decide +kernel
theorem dX8_mileOf_10 : decode cX8_mileOf 10 = .ok (.aload_n 0, 1) := by decide +kernel
theorem dX8_mileOf_11 : decode cX8_mileOf 11 = .ok (.getfield 7, 3) := by decide +kernel
theorem dX8_mileOf_14 : decode cX8_mileOf 14 = .ok (.bipush 8, 2) := by decide +kernel
theorem dX8_mileOf_16 : decode cX8_mileOf 16 = .ok (.iconst 2, 1) := by decide +kernel
theorem dX8_mileOf_17 : decode cX8_mileOf 17 = .ok (.iload_n 1, 1) := by decide +kernel
theorem dX8_mileOf_18 : decode cX8_mileOf 18 = .ok (.imul, 1) := by decide +kernel
theorem dX8_mileOf_19 : decode cX8_mileOf 19 = .ok (.iadd, 1) := by decide +kernel
theorem dX8_mileOf_20 : decode cX8_mileOf 20 = .ok (.iaload, 1) := by decide +kernel
theorem dX8_mileOf_21 : decode cX8_mileOf 21 = .ok (.ireturn, 1) := by decide +kernel
theorem dX8_isOpen_0 : decode cX8_isOpen 0 = .ok (.iconst 1, 1) := by decide +kernel
theorem dX8_isOpen_1 : decode cX8_isOpen 1 = .ok (.istore 5, 2) := by decide +kernel
theorem dX8_isOpen_3 : decode cX8_isOpen 3 = .ok (.iconst 0, 1) := by decide +kernel
theorem dX8_isOpen_4 : decode cX8_isOpen 4 = .ok (.istore 6, 2) := by decide +kernel
theorem dX8_isOpen_6 : decode cX8_isOpen 6 = .ok (.iload 6, 2) := by decide +kernel
theorem dX8_isOpen_8 : decode cX8_isOpen 8 = .ok (.aload_n 0, 1) := by decide +kernel
theorem dX8_isOpen_9 : decode cX8_isOpen 9 = .ok (.getfield 7, 3) := by decide +kernel
theorem dX8_isOpen_12 : decode cX8_isOpen 12 = .ok (.iconst 3, 1) := by decide +kernel
theorem dX8_isOpen_13 : decode cX8_isOpen 13 = .ok (.iaload, 1) := by decide +kernel
theorem dX8_isOpen_14 : decode cX8_isOpen 14 = .ok (.if_icmp .ge 62, 3) := by decide +kernel
theorem dX8_isOpen_17 : decode cX8_isOpen 17 = .ok (.aload_n 0, 1) := by decide +kernel
theorem dX8_isOpen_18 : decode cX8_isOpen 18 = .ok (.getfield 7, 3) := by decide +kernel
theorem dX8_isOpen_21 : decode cX8_isOpen 21 = .ok (.bipush 36, 2) := by decide +kernel
theorem dX8_isOpen_23 : decode cX8_isOpen 23 = .ok (.iconst 3, 1) := by decide +kernel
theorem dX8_isOpen_24 : decode cX8_isOpen 24 = .ok (.iload 6, 2) := by decide +kernel
theorem dX8_isOpen_26 : decode cX8_isOpen 26 = .ok (.imul, 1) := by decide +kernel
theorem dX8_isOpen_27 : decode cX8_isOpen 27 = .ok (.iadd, 1) := by decide +kernel
theorem dX8_isOpen_28 : decode cX8_isOpen 28 = .ok (.iaload, 1) := by decide +kernel
theorem dX8_isOpen_29 : decode cX8_isOpen 29 = .ok (.istore 7, 2) := by decide +kernel
theorem dX8_isOpen_31 : decode cX8_isOpen 31 = .ok (.iload 5, 2) := by decide +kernel
theorem dX8_isOpen_33 : decode cX8_isOpen 33 = .ok (.iload 7, 2) := by decide +kernel
theorem dX8_isOpen_35 : decode cX8_isOpen 35 = .ok (.iload_n 2, 1) := by decide +kernel
theorem dX8_isOpen_36 : decode cX8_isOpen 36 = .ok (.if_icmp .le 26, 3) := by decide +kernel
theorem dX8_isOpen_39 : decode cX8_isOpen 39 = .ok (.iload 7, 2) := by decide +kernel
theorem dX8_isOpen_41 : decode cX8_isOpen 41 = .ok (.iload_n 3, 1) := by decide +kernel
theorem dX8_isOpen_42 : decode cX8_isOpen 42 = .ok (.if_icmp .gt 20, 3) := by decide +kernel
theorem dX8_isOpen_45 : decode cX8_isOpen 45 = .ok (.aload_n 0, 1) := by decide +kernel
theorem dX8_isOpen_46 : decode cX8_isOpen 46 = .ok (.iload 6, 2) := by decide +kernel
theorem dX8_isOpen_48 : decode cX8_isOpen 48 = .ok (.iload 4, 2) := by decide +kernel
theorem dX8_isOpen_50 : decode cX8_isOpen 50 = .ok (.aload_n 0, 1) := by decide +kernel
theorem dX8_isOpen_51 : decode cX8_isOpen 51 = .ok (.iload_n 1, 1) := by decide +kernel
theorem dX8_isOpen_52 : decode cX8_isOpen 52 = .ok (.iconst 0, 1) := by decide +kernel
theorem dX8_isOpen_53 : decode cX8_isOpen 53 = .ok (.invokevirtual 94, 3) := by decide +kernel
theorem dX8_isOpen_56 : decode cX8_isOpen 56 = .ok (.invokevirtual 84, 3) := by decide +kernel
theorem dX8_isOpen_59 : decode cX8_isOpen 59 = .ok (.ifCond .lt 7, 3) := by decide +kernel
theorem dX8_isOpen_62 : decode cX8_isOpen 62 = .ok (.iconst 1, 1) := by decide +kernel
theorem dX8_isOpen_63 : decode cX8_isOpen 63 = .ok (.goto 4, 3) := by decide +kernel
theorem dX8_isOpen_66 : decode cX8_isOpen 66 = .ok (.iconst 0, 1) := by decide +kernel
theorem dX8_isOpen_67 : decode cX8_isOpen 67 = .ok (.iand, 1) := by decide +kernel
theorem dX8_isOpen_68 : decode cX8_isOpen 68 = .ok (.istore 5, 2) := by decide +kernel
theorem dX8_isOpen_70 : decode cX8_isOpen 70 = .ok (.iinc 6 1, 3) := by decide +kernel
theorem dX8_isOpen_73 : decode cX8_isOpen 73 = .ok (.goto (-67), 3) := by decide +kernel
theorem dX8_isOpen_76 : decode cX8_isOpen 76 = .ok (.iload 5, 2) := by decide +kernel
theorem dX8_isOpen_78 : decode cX8_isOpen 78 = .ok (.ireturn, 1) := by decide +kernel
theorem dX8_canGo_0 : decode cX8_canGo 0 = .ok (.aload_n 0, 1) := by decide +kernel
theorem dX8_canGo_1 : decode cX8_canGo 1 = .ok (.iload_n 2, 1) := by decide +kernel
theorem dX8_canGo_2 : decode cX8_canGo 2 = .ok (.invokevirtual 109, 3) := by decide +kernel
theorem dX8_canGo_5 : decode cX8_canGo 5 = .ok (.istore 5, 2) := by decide +kernel
theorem dX8_canGo_7 : decode cX8_canGo 7 = .ok (.aload_n 0, 1) := by decide +kernel
theorem dX8_canGo_8 : decode cX8_canGo 8 = .ok (.iload_n 3, 1) := by decide +kernel
theorem dX8_canGo_9 : decode cX8_canGo 9 = .ok (.invokevirtual 109, 3) := by decide +kernel
theorem dX8_canGo_12 : decode cX8_canGo 12 = .ok (.istore 6, 2) := by decide +kernel
theorem dX8_canGo_14 : decode cX8_canGo 14 = .ok (.iload_n 2, 1) := by decide +kernel
theorem dX8_canGo_15 : decode cX8_canGo 15 = .ok (.iload_n 3, 1) := by decide +kernel
theorem dX8_canGo_16 : decode cX8_canGo 16 = .ok (.if_icmp .eq 49, 3) := by decide +kernel
theorem dX8_canGo_19 : decode cX8_canGo 19 = .ok (.iload 6, 2) := by decide +kernel
theorem dX8_canGo_21 : decode cX8_canGo 21 = .ok (.iload 5, 2) := by decide +kernel
theorem dX8_canGo_23 : decode cX8_canGo 23 = .ok (.if_icmp .le 46, 3) := by decide +kernel
theorem dX8_canGo_26 : decode cX8_canGo 26 = .ok (.iload 6, 2) := by decide +kernel
theorem dX8_canGo_28 : decode cX8_canGo 28 = .ok (.iload 5, 2) := by decide +kernel
theorem dX8_canGo_30 : decode cX8_canGo 30 = .ok (.aload_n 0, 1) := by decide +kernel
theorem dX8_canGo_31 : decode cX8_canGo 31 = .ok (.iload_n 1, 1) := by decide +kernel
theorem dX8_canGo_32 : decode cX8_canGo 32 = .ok (.iconst 2, 1) := by decide +kernel
theorem dX8_canGo_33 : decode cX8_canGo 33 = .ok (.invokevirtual 94, 3) := by decide +kernel
theorem dX8_canGo_36 : decode cX8_canGo 36 = .ok (.iadd, 1) := by decide +kernel
theorem dX8_canGo_37 : decode cX8_canGo 37 = .ok (.if_icmp .gt 32, 3) := by decide +kernel
theorem dX8_canGo_40 : decode cX8_canGo 40 = .ok (.iload 6, 2) := by decide +kernel
theorem dX8_canGo_42 : decode cX8_canGo 42 = .ok (.aload_n 0, 1) := by decide +kernel
theorem dX8_canGo_43 : decode cX8_canGo 43 = .ok (.getfield 7, 3) := by decide +kernel
theorem dX8_canGo_46 : decode cX8_canGo 46 = .ok (.iconst 0, 1) := by decide +kernel
theorem dX8_canGo_47 : decode cX8_canGo 47 = .ok (.iaload, 1) := by decide +kernel
theorem dX8_canGo_48 : decode cX8_canGo 48 = .ok (.if_icmp .ge 21, 3) := by decide +kernel
theorem dX8_canGo_51 : decode cX8_canGo 51 = .ok (.aload_n 0, 1) := by decide +kernel
theorem dX8_canGo_52 : decode cX8_canGo 52 = .ok (.iload_n 1, 1) := by decide +kernel
theorem dX8_canGo_53 : decode cX8_canGo 53 = .ok (.iload 5, 2) := by decide +kernel
theorem dX8_canGo_55 : decode cX8_canGo 55 = .ok (.iload 6, 2) := by decide +kernel
theorem dX8_canGo_57 : decode cX8_canGo 57 = .ok (.iload 4, 2) := by decide +kernel
theorem dX8_canGo_59 : decode cX8_canGo 59 = .ok (.invokevirtual 112, 3) := by decide +kernel
theorem dX8_canGo_62 : decode cX8_canGo 62 = .ok (.ifCond .eq 7, 3) := by decide +kernel
theorem dX8_canGo_65 : decode cX8_canGo 65 = .ok (.iconst 1, 1) := by decide +kernel
theorem dX8_canGo_66 : decode cX8_canGo 66 = .ok (.goto 4, 3) := by decide +kernel
theorem dX8_canGo_69 : decode cX8_canGo 69 = .ok (.iconst 0, 1) := by decide +kernel
theorem dX8_canGo_70 : decode cX8_canGo 70 = .ok (.istore 7, 2) := by decide +kernel
theorem dX8_canGo_72 : decode cX8_canGo 72 = .ok (.iload 7, 2) := by decide +kernel
theorem dX8_canGo_74 : decode cX8_canGo 74 = .ok (.ifCond .eq 27, 3) := by decide +kernel
theorem dX8_canGo_77 : decode cX8_canGo 77 = .ok (.aload_n 0, 1) := by decide +kernel
theorem dX8_canGo_78 : decode cX8_canGo 78 = .ok (.iload_n 1, 1) := by decide +kernel
theorem dX8_canGo_79 : decode cX8_canGo 79 = .ok (.iload_n 3, 1) := by decide +kernel
theorem dX8_canGo_80 : decode cX8_canGo 80 = .ok (.invokevirtual 105, 3) := by decide +kernel
theorem dX8_canGo_83 : decode cX8_canGo 83 = .ok (.ifCond .eq 18, 3) := by decide +kernel
theorem dX8_canGo_86 : decode cX8_canGo 86 = .ok (.aload_n 0, 1) := by decide +kernel
theorem dX8_canGo_87 : decode cX8_canGo 87 = .ok (.iload_n 3, 1) := by decide +kernel
theorem dX8_canGo_88 : decode cX8_canGo 88 = .ok (.iload 4, 2) := by decide +kernel
theorem dX8_canGo_90 : decode cX8_canGo 90 = .ok (.iload_n 1, 1) := by decide +kernel
theorem dX8_canGo_91 : decode cX8_canGo 91 = .ok (.invokevirtual 101, 3) := by decide +kernel
theorem dX8_canGo_94 : decode cX8_canGo 94 = .ok (.ifCond .ge 7, 3) := by decide +kernel
theorem dX8_canGo_97 : decode cX8_canGo 97 = .ok (.iconst 1, 1) := by decide +kernel
theorem dX8_canGo_98 : decode cX8_canGo 98 = .ok (.goto 4, 3) := by decide +kernel
theorem dX8_canGo_101 : decode cX8_canGo 101 = .ok (.iconst 0, 1) := by decide +kernel
theorem dX8_canGo_102 : decode cX8_canGo 102 = .ok (.ireturn, 1) := by decide +kernel
theorem dX8_canEnd_0 : decode cX8_canEnd 0 = .ok (.aload_n 0, 1) := by decide +kernel
theorem dX8_canEnd_1 : decode cX8_canEnd 1 = .ok (.iload_n 2, 1) := by decide +kernel
theorem dX8_canEnd_2 : decode cX8_canEnd 2 = .ok (.invokevirtual 109, 3) := by decide +kernel
theorem dX8_canEnd_5 : decode cX8_canEnd 5 = .ok (.istore 4, 2) := by decide +kernel
theorem dX8_canEnd_7 : decode cX8_canEnd 7 = .ok (.aload_n 0, 1) := by decide +kernel
theorem dX8_canEnd_8 : decode cX8_canEnd 8 = .ok (.getfield 7, 3) := by decide +kernel
theorem dX8_canEnd_11 : decode cX8_canEnd 11 = .ok (.iconst 0, 1) := by decide +kernel
theorem dX8_canEnd_12 : decode cX8_canEnd 12 = .ok (.iaload, 1) := by decide +kernel
theorem dX8_canEnd_13 : decode cX8_canEnd 13 = .ok (.iload 4, 2) := by decide +kernel
theorem dX8_canEnd_15 : decode cX8_canEnd 15 = .ok (.aload_n 0, 1) := by decide +kernel
theorem dX8_canEnd_16 : decode cX8_canEnd 16 = .ok (.iload_n 1, 1) := by decide +kernel
theorem dX8_canEnd_17 : decode cX8_canEnd 17 = .ok (.iconst 2, 1) := by decide +kernel
theorem dX8_canEnd_18 : decode cX8_canEnd 18 = .ok (.invokevirtual 94, 3) := by decide +kernel
theorem dX8_canEnd_21 : decode cX8_canEnd 21 = .ok (.iadd, 1) := by decide +kernel
theorem dX8_canEnd_22 : decode cX8_canEnd 22 = .ok (.if_icmp .gt 26, 3) := by decide +kernel
theorem dX8_canEnd_25 : decode cX8_canEnd 25 = .ok (.aload_n 0, 1) := by decide +kernel
theorem dX8_canEnd_26 : decode cX8_canEnd 26 = .ok (.iload_n 1, 1) := by decide +kernel
theorem dX8_canEnd_27 : decode cX8_canEnd 27 = .ok (.iload 4, 2) := by decide +kernel
theorem dX8_canEnd_29 : decode cX8_canEnd 29 = .ok (.aload_n 0, 1) := by decide +kernel
theorem dX8_canEnd_30 : decode cX8_canEnd 30 = .ok (.getfield 7, 3) := by decide +kernel
theorem dX8_canEnd_33 : decode cX8_canEnd 33 = .ok (.iconst 0, 1) := by decide +kernel
theorem dX8_canEnd_34 : decode cX8_canEnd 34 = .ok (.iaload, 1) := by decide +kernel
theorem dX8_canEnd_35 : decode cX8_canEnd 35 = .ok (.iconst 1, 1) := by decide +kernel
theorem dX8_canEnd_36 : decode cX8_canEnd 36 = .ok (.isub, 1) := by decide +kernel
theorem dX8_canEnd_37 : decode cX8_canEnd 37 = .ok (.iload_n 3, 1) := by decide +kernel
theorem dX8_canEnd_38 : decode cX8_canEnd 38 = .ok (.invokevirtual 112, 3) := by decide +kernel
theorem dX8_canEnd_41 : decode cX8_canEnd 41 = .ok (.ifCond .eq 7, 3) := by decide +kernel
theorem dX8_canEnd_44 : decode cX8_canEnd 44 = .ok (.iconst 1, 1) := by decide +kernel
theorem dX8_canEnd_45 : decode cX8_canEnd 45 = .ok (.goto 4, 3) := by decide +kernel
theorem dX8_canEnd_48 : decode cX8_canEnd 48 = .ok (.iconst 0, 1) := by decide +kernel
theorem dX8_canEnd_49 : decode cX8_canEnd 49 = .ok (.ireturn, 1) := by decide +kernel
theorem dX8_leftAt_0 : decode cX8_leftAt 0 = .ok (.aload_n 0, 1) := by decide +kernel
theorem dX8_leftAt_1 : decode cX8_leftAt 1 = .ok (.getfield 25, 3) := by decide +kernel
theorem dX8_leftAt_4 : decode cX8_leftAt 4 = .ok (.bipush 45, 2) := by decide +kernel
theorem dX8_leftAt_6 : decode cX8_leftAt 6 = .ok (.iload_n 1, 1) := by decide +kernel
theorem dX8_leftAt_7 : decode cX8_leftAt 7 = .ok (.imul, 1) := by decide +kernel
theorem dX8_leftAt_8 : decode cX8_leftAt 8 = .ok (.iconst 3, 1) := by decide +kernel
theorem dX8_leftAt_9 : decode cX8_leftAt 9 = .ok (.iload_n 2, 1) := by decide +kernel
theorem dX8_leftAt_10 : decode cX8_leftAt 10 = .ok (.imul, 1) := by decide +kernel
theorem dX8_leftAt_11 : decode cX8_leftAt 11 = .ok (.iadd, 1) := by decide +kernel
theorem dX8_leftAt_12 : decode cX8_leftAt 12 = .ok (.iload_n 3, 1) := by decide +kernel
theorem dX8_leftAt_13 : decode cX8_leftAt 13 = .ok (.iadd, 1) := by decide +kernel
theorem dX8_leftAt_14 : decode cX8_leftAt 14 = .ok (.iaload, 1) := by decide +kernel
theorem dX8_leftAt_15 : decode cX8_leftAt 15 = .ok (.ireturn, 1) := by decide +kernel
theorem dX8_tell_0 : decode cX8_tell 0 = .ok (.aload_n 0, 1) := by decide +kernel
theorem dX8_tell_1 : decode cX8_tell 1 = .ok (.iload_n 1, 1) := by decide +kernel
theorem dX8_tell_2 : decode cX8_tell 2 = .ok (.iconst 1, 1) := by decide +kernel
theorem dX8_tell_3 : decode cX8_tell 3 = .ok (.invokevirtual 94, 3) := by decide +kernel
theorem dX8_tell_6 : decode cX8_tell 6 = .ok (.istore_n 2, 1) := by decide +kernel
theorem dX8_tell_7 : decode cX8_tell 7 = .ok (.aload_n 0, 1) := by decide +kernel
theorem dX8_tell_8 : decode cX8_tell 8 = .ok (.iload_n 1, 1) := by decide +kernel
theorem dX8_tell_9 : decode cX8_tell 9 = .ok (.iconst 3, 1) := by decide +kernel
theorem dX8_tell_10 : decode cX8_tell 10 = .ok (.invokevirtual 94, 3) := by decide +kernel
theorem dX8_tell_13 : decode cX8_tell 13 = .ok (.istore_n 3, 1) := by decide +kernel
theorem dX8_tell_14 : decode cX8_tell 14 = .ok (.iload_n 3, 1) := by decide +kernel
theorem dX8_tell_15 : decode cX8_tell 15 = .ok (.bipush 30, 2) := by decide +kernel
theorem dX8_tell_17 : decode cX8_tell 17 = .ok (.iload_n 2, 1) := by decide +kernel
theorem dX8_tell_18 : decode cX8_tell 18 = .ok (.isub, 1) := by decide +kernel
theorem dX8_tell_19 : decode cX8_tell 19 = .ok (.if_icmp .le 10, 3) := by decide +kernel
theorem dX8_tell_22 : decode cX8_tell 22 = .ok (.bipush 30, 2) := by decide +kernel
theorem dX8_tell_24 : decode cX8_tell 24 = .ok (.iload_n 2, 1) := by decide +kernel
theorem dX8_tell_25 : decode cX8_tell 25 = .ok (.isub, 1) := by decide +kernel
theorem dX8_tell_26 : decode cX8_tell 26 = .ok (.goto 4, 3) := by decide +kernel
theorem dX8_tell_29 : decode cX8_tell 29 = .ok (.iload_n 3, 1) := by decide +kernel
theorem dX8_tell_30 : decode cX8_tell 30 = .ok (.istore_n 3, 1) := by decide +kernel
theorem dX8_tell_31 : decode cX8_tell 31 = .ok (.iload_n 3, 1) := by decide +kernel
theorem dX8_tell_32 : decode cX8_tell 32 = .ok (.istore 4, 2) := by decide +kernel
theorem dX8_tell_34 : decode cX8_tell 34 = .ok (.iload 4, 2) := by decide +kernel
theorem dX8_tell_36 : decode cX8_tell 36 = .ok (.ifCond .lt 111, 3) := by decide +kernel
theorem dX8_tell_39 : decode cX8_tell 39 = .ok (.iconst 0, 1) := by decide +kernel
theorem dX8_tell_40 : decode cX8_tell 40 = .ok (.istore 5, 2) := by decide +kernel
theorem dX8_tell_42 : decode cX8_tell 42 = .ok (.iload 5, 2) := by decide +kernel
theorem dX8_tell_44 : decode cX8_tell 44 = .ok (.bipush 14, 2) := by decide +kernel
theorem dX8_tell_46 : decode cX8_tell 46 = .ok (.if_icmp .gt 95, 3) := by decide +kernel
theorem dX8_tell_49 : decode cX8_tell 49 = .ok (.iload 5, 2) := by decide +kernel
theorem dX8_tell_51 : decode cX8_tell 51 = .ok (.bipush 14, 2) := by decide +kernel
theorem dX8_tell_53 : decode cX8_tell 53 = .ok (.if_icmp .eq 14, 3) := by decide +kernel
theorem dX8_tell_56 : decode cX8_tell 56 = .ok (.iload 5, 2) := by decide +kernel
theorem dX8_tell_58 : decode cX8_tell 58 = .ok (.aload_n 0, 1) := by decide +kernel
theorem dX8_tell_59 : decode cX8_tell 59 = .ok (.getfield 7, 3) := by decide +kernel
theorem dX8_tell_62 : decode cX8_tell 62 = .ok (.iconst 2, 1) := by decide +kernel
theorem dX8_tell_63 : decode cX8_tell 63 = .ok (.iaload, 1) := by decide +kernel
theorem dX8_tell_64 : decode cX8_tell 64 = .ok (.if_icmp .ge 7, 3) := by decide +kernel
theorem dX8_tell_67 : decode cX8_tell 67 = .ok (.iconst 1, 1) := by decide +kernel
theorem dX8_tell_68 : decode cX8_tell 68 = .ok (.goto 4, 3) := by decide +kernel
theorem dX8_tell_71 : decode cX8_tell 71 = .ok (.iconst 0, 1) := by decide +kernel
theorem dX8_tell_72 : decode cX8_tell 72 = .ok (.istore 6, 2) := by decide +kernel
theorem dX8_tell_74 : decode cX8_tell 74 = .ok (.iconst 0, 1) := by decide +kernel
theorem dX8_tell_75 : decode cX8_tell 75 = .ok (.istore 7, 2) := by decide +kernel
theorem dX8_tell_77 : decode cX8_tell 77 = .ok (.iload 7, 2) := by decide +kernel
theorem dX8_tell_79 : decode cX8_tell 79 = .ok (.iconst 3, 1) := by decide +kernel
theorem dX8_tell_80 : decode cX8_tell 80 = .ok (.if_icmp .ge 55, 3) := by decide +kernel
theorem dX8_tell_83 : decode cX8_tell 83 = .ok (.aload_n 0, 1) := by decide +kernel
theorem dX8_tell_84 : decode cX8_tell 84 = .ok (.getfield 25, 3) := by decide +kernel
theorem dX8_tell_87 : decode cX8_tell 87 = .ok (.bipush 45, 2) := by decide +kernel
theorem dX8_tell_89 : decode cX8_tell 89 = .ok (.iload 4, 2) := by decide +kernel
theorem dX8_tell_91 : decode cX8_tell 91 = .ok (.imul, 1) := by decide +kernel
theorem dX8_tell_92 : decode cX8_tell 92 = .ok (.iconst 3, 1) := by decide +kernel
theorem dX8_tell_93 : decode cX8_tell 93 = .ok (.iload 5, 2) := by decide +kernel
theorem dX8_tell_95 : decode cX8_tell 95 = .ok (.imul, 1) := by decide +kernel
theorem dX8_tell_96 : decode cX8_tell 96 = .ok (.iadd, 1) := by decide +kernel
theorem dX8_tell_97 : decode cX8_tell 97 = .ok (.iload 7, 2) := by decide +kernel
theorem dX8_tell_99 : decode cX8_tell 99 = .ok (.iadd, 1) := by decide +kernel
theorem dX8_tell_100 : decode cX8_tell 100 = .ok (.iload 6, 2) := by decide +kernel
theorem dX8_tell_102 : decode cX8_tell 102 = .ok (.ifCond .eq 23, 3) := by decide +kernel
theorem dX8_tell_105 : decode cX8_tell 105 = .ok (.iload 4, 2) := by decide +kernel
theorem dX8_tell_107 : decode cX8_tell 107 = .ok (.iload_n 3, 1) := by decide +kernel
theorem dX8_tell_108 : decode cX8_tell 108 = .ok (.if_icmp .ge 17, 3) := by decide +kernel
theorem dX8_tell_111 : decode cX8_tell 111 = .ok (.aload_n 0, 1) := by decide +kernel
theorem dX8_tell_112 : decode cX8_tell 112 = .ok (.iload_n 1, 1) := by decide +kernel
theorem dX8_tell_113 : decode cX8_tell 113 = .ok (.iload 4, 2) := by decide +kernel
theorem dX8_tell_115 : decode cX8_tell 115 = .ok (.iload 5, 2) := by decide +kernel
theorem dX8_tell_117 : decode cX8_tell 117 = .ok (.iload 7, 2) := by decide +kernel
theorem dX8_tell_119 : decode cX8_tell 119 = .ok (.invokevirtual 116, 3) := by decide +kernel
theorem dX8_tell_122 : decode cX8_tell 122 = .ok (.goto 6, 3) := by decide +kernel
theorem dX8_tell_125 : decode cX8_tell 125 = .ok (.sipush 1000, 3) := by decide +kernel
theorem dX8_tell_128 : decode cX8_tell 128 = .ok (.iastore, 1) := by decide +kernel
theorem dX8_tell_129 : decode cX8_tell 129 = .ok (.iinc 7 1, 3) := by decide +kernel
theorem dX8_tell_132 : decode cX8_tell 132 = .ok (.goto (-55), 3) := by decide +kernel
theorem dX8_tell_135 : decode cX8_tell 135 = .ok (.iinc 5 1, 3) := by decide +kernel
theorem dX8_tell_138 : decode cX8_tell 138 = .ok (.goto (-96), 3) := by decide +kernel
theorem dX8_tell_141 : decode cX8_tell 141 = .ok (.iinc 4 (-1), 3) := by decide +kernel
theorem dX8_tell_144 : decode cX8_tell 144 = .ok (.goto (-110), 3) := by decide +kernel
theorem dX8_tell_147 : decode cX8_tell 147 = .ok (.aload_n 0, 1) := by decide +kernel
theorem dX8_tell_148 : decode cX8_tell 148 = .ok (.iconst 0, 1) := by decide +kernel
theorem dX8_tell_149 : decode cX8_tell 149 = .ok (.bipush 14, 2) := by decide +kernel
theorem dX8_tell_151 : decode cX8_tell 151 = .ok (.aload_n 0, 1) := by decide +kernel
theorem dX8_tell_152 : decode cX8_tell 152 = .ok (.iload_n 1, 1) := by decide +kernel
theorem dX8_tell_153 : decode cX8_tell 153 = .ok (.iconst 4, 1) := by decide +kernel
theorem dX8_tell_154 : decode cX8_tell 154 = .ok (.invokevirtual 94, 3) := by decide +kernel
theorem dX8_tell_157 : decode cX8_tell 157 = .ok (.invokevirtual 120, 3) := by decide +kernel
theorem dX8_tell_160 : decode cX8_tell 160 = .ok (.ireturn, 1) := by decide +kernel
theorem dX8_leftFrom_0 : decode cX8_leftFrom 0 = .ok (.aload_n 0, 1) := by decide +kernel
theorem dX8_leftFrom_1 : decode cX8_leftFrom 1 = .ok (.iload_n 1, 1) := by decide +kernel
theorem dX8_leftFrom_2 : decode cX8_leftFrom 2 = .ok (.iconst 1, 1) := by decide +kernel
theorem dX8_leftFrom_3 : decode cX8_leftFrom 3 = .ok (.invokevirtual 94, 3) := by decide +kernel
theorem dX8_leftFrom_6 : decode cX8_leftFrom 6 = .ok (.iload_n 2, 1) := by decide +kernel
theorem dX8_leftFrom_7 : decode cX8_leftFrom 7 = .ok (.iadd, 1) := by decide +kernel
theorem dX8_leftFrom_8 : decode cX8_leftFrom 8 = .ok (.istore 5, 2) := by decide +kernel
theorem dX8_leftFrom_10 : decode cX8_leftFrom 10 = .ok (.aload_n 0, 1) := by decide +kernel
theorem dX8_leftFrom_11 : decode cX8_leftFrom 11 = .ok (.iload_n 1, 1) := by decide +kernel
theorem dX8_leftFrom_12 : decode cX8_leftFrom 12 = .ok (.iload_n 3, 1) := by decide +kernel
theorem dX8_leftFrom_13 : decode cX8_leftFrom 13 = .ok (.iload 5, 2) := by decide +kernel
theorem dX8_leftFrom_15 : decode cX8_leftFrom 15 = .ok (.invokevirtual 123, 3) := by decide +kernel
theorem dX8_leftFrom_18 : decode cX8_leftFrom 18 = .ok (.ifCond .eq 7, 3) := by decide +kernel
theorem dX8_leftFrom_21 : decode cX8_leftFrom 21 = .ok (.iconst 1, 1) := by decide +kernel
theorem dX8_leftFrom_22 : decode cX8_leftFrom 22 = .ok (.goto 6, 3) := by decide +kernel
theorem dX8_leftFrom_25 : decode cX8_leftFrom 25 = .ok (.sipush 1000, 3) := by decide +kernel
theorem dX8_leftFrom_28 : decode cX8_leftFrom 28 = .ok (.istore 6, 2) := by decide +kernel
theorem dX8_leftFrom_30 : decode cX8_leftFrom 30 = .ok (.iconst 0, 1) := by decide +kernel
theorem dX8_leftFrom_31 : decode cX8_leftFrom 31 = .ok (.istore 7, 2) := by decide +kernel
theorem dX8_leftFrom_33 : decode cX8_leftFrom 33 = .ok (.iload 7, 2) := by decide +kernel
theorem dX8_leftFrom_35 : decode cX8_leftFrom 35 = .ok (.aload_n 0, 1) := by decide +kernel
theorem dX8_leftFrom_36 : decode cX8_leftFrom 36 = .ok (.getfield 7, 3) := by decide +kernel
theorem dX8_leftFrom_39 : decode cX8_leftFrom 39 = .ok (.iconst 2, 1) := by decide +kernel
theorem dX8_leftFrom_40 : decode cX8_leftFrom 40 = .ok (.iaload, 1) := by decide +kernel
theorem dX8_leftFrom_41 : decode cX8_leftFrom 41 = .ok (.if_icmp .ge 94, 3) := by decide +kernel
theorem dX8_leftFrom_44 : decode cX8_leftFrom 44 = .ok (.iload 7, 2) := by decide +kernel
theorem dX8_leftFrom_46 : decode cX8_leftFrom 46 = .ok (.iload_n 3, 1) := by decide +kernel
theorem dX8_leftFrom_47 : decode cX8_leftFrom 47 = .ok (.if_icmp .ne 10, 3) := by decide +kernel
theorem dX8_leftFrom_50 : decode cX8_leftFrom 50 = .ok (.iload 4, 2) := by decide +kernel
theorem dX8_leftFrom_52 : decode cX8_leftFrom 52 = .ok (.iconst 1, 1) := by decide +kernel
theorem dX8_leftFrom_53 : decode cX8_leftFrom 53 = .ok (.isub, 1) := by decide +kernel
theorem dX8_leftFrom_54 : decode cX8_leftFrom 54 = .ok (.goto 5, 3) := by decide +kernel
theorem dX8_leftFrom_57 : decode cX8_leftFrom 57 = .ok (.iload 4, 2) := by decide +kernel
theorem dX8_leftFrom_59 : decode cX8_leftFrom 59 = .ok (.istore 8, 2) := by decide +kernel
theorem dX8_leftFrom_61 : decode cX8_leftFrom 61 = .ok (.iload 8, 2) := by decide +kernel
theorem dX8_leftFrom_63 : decode cX8_leftFrom 63 = .ok (.ifCond .lt 66, 3) := by decide +kernel
theorem dX8_leftFrom_66 : decode cX8_leftFrom 66 = .ok (.aload_n 0, 1) := by decide +kernel
theorem dX8_leftFrom_67 : decode cX8_leftFrom 67 = .ok (.iload_n 2, 1) := by decide +kernel
theorem dX8_leftFrom_68 : decode cX8_leftFrom 68 = .ok (.iconst 1, 1) := by decide +kernel
theorem dX8_leftFrom_69 : decode cX8_leftFrom 69 = .ok (.iadd, 1) := by decide +kernel
theorem dX8_leftFrom_70 : decode cX8_leftFrom 70 = .ok (.iload 7, 2) := by decide +kernel
theorem dX8_leftFrom_72 : decode cX8_leftFrom 72 = .ok (.iload 8, 2) := by decide +kernel
theorem dX8_leftFrom_74 : decode cX8_leftFrom 74 = .ok (.invokevirtual 120, 3) := by decide +kernel
theorem dX8_leftFrom_77 : decode cX8_leftFrom 77 = .ok (.sipush 1000, 3) := by decide +kernel
theorem dX8_leftFrom_80 : decode cX8_leftFrom 80 = .ok (.if_icmp .ge 49, 3) := by decide +kernel
theorem dX8_leftFrom_83 : decode cX8_leftFrom 83 = .ok (.iconst 1, 1) := by decide +kernel
theorem dX8_leftFrom_84 : decode cX8_leftFrom 84 = .ok (.aload_n 0, 1) := by decide +kernel
theorem dX8_leftFrom_85 : decode cX8_leftFrom 85 = .ok (.iload_n 2, 1) := by decide +kernel
theorem dX8_leftFrom_86 : decode cX8_leftFrom 86 = .ok (.iconst 1, 1) := by decide +kernel
theorem dX8_leftFrom_87 : decode cX8_leftFrom 87 = .ok (.iadd, 1) := by decide +kernel
theorem dX8_leftFrom_88 : decode cX8_leftFrom 88 = .ok (.iload 7, 2) := by decide +kernel
theorem dX8_leftFrom_90 : decode cX8_leftFrom 90 = .ok (.iload 8, 2) := by decide +kernel
theorem dX8_leftFrom_92 : decode cX8_leftFrom 92 = .ok (.invokevirtual 120, 3) := by decide +kernel
theorem dX8_leftFrom_95 : decode cX8_leftFrom 95 = .ok (.iadd, 1) := by decide +kernel
theorem dX8_leftFrom_96 : decode cX8_leftFrom 96 = .ok (.iload 6, 2) := by decide +kernel
theorem dX8_leftFrom_98 : decode cX8_leftFrom 98 = .ok (.if_icmp .ge 31, 3) := by decide +kernel
theorem dX8_leftFrom_101 : decode cX8_leftFrom 101 = .ok (.aload_n 0, 1) := by decide +kernel
theorem dX8_leftFrom_102 : decode cX8_leftFrom 102 = .ok (.iload_n 1, 1) := by decide +kernel
theorem dX8_leftFrom_103 : decode cX8_leftFrom 103 = .ok (.iload_n 3, 1) := by decide +kernel
theorem dX8_leftFrom_104 : decode cX8_leftFrom 104 = .ok (.iload 7, 2) := by decide +kernel
theorem dX8_leftFrom_106 : decode cX8_leftFrom 106 = .ok (.iload 5, 2) := by decide +kernel
theorem dX8_leftFrom_108 : decode cX8_leftFrom 108 = .ok (.invokevirtual 126, 3) := by decide +kernel
theorem dX8_leftFrom_111 : decode cX8_leftFrom 111 = .ok (.ifCond .eq 18, 3) := by decide +kernel
theorem dX8_leftFrom_114 : decode cX8_leftFrom 114 = .ok (.iconst 1, 1) := by decide +kernel
theorem dX8_leftFrom_115 : decode cX8_leftFrom 115 = .ok (.aload_n 0, 1) := by decide +kernel
theorem dX8_leftFrom_116 : decode cX8_leftFrom 116 = .ok (.iload_n 2, 1) := by decide +kernel
theorem dX8_leftFrom_117 : decode cX8_leftFrom 117 = .ok (.iconst 1, 1) := by decide +kernel
theorem dX8_leftFrom_118 : decode cX8_leftFrom 118 = .ok (.iadd, 1) := by decide +kernel
theorem dX8_leftFrom_119 : decode cX8_leftFrom 119 = .ok (.iload 7, 2) := by decide +kernel
theorem dX8_leftFrom_121 : decode cX8_leftFrom 121 = .ok (.iload 8, 2) := by decide +kernel
theorem dX8_leftFrom_123 : decode cX8_leftFrom 123 = .ok (.invokevirtual 120, 3) := by decide +kernel
theorem dX8_leftFrom_126 : decode cX8_leftFrom 126 = .ok (.iadd, 1) := by decide +kernel
theorem dX8_leftFrom_127 : decode cX8_leftFrom 127 = .ok (.istore 6, 2) := by decide +kernel
theorem dX8_leftFrom_129 : decode cX8_leftFrom 129 = .ok (.iinc 7 1, 3) := by decide +kernel
theorem dX8_leftFrom_132 : decode cX8_leftFrom 132 = .ok (.goto (-99), 3) := by decide +kernel
theorem dX8_leftFrom_135 : decode cX8_leftFrom 135 = .ok (.iload 6, 2) := by decide +kernel
theorem dX8_leftFrom_137 : decode cX8_leftFrom 137 = .ok (.ireturn, 1) := by decide +kernel
theorem dX8_planOf_0 : decode cX8_planOf 0 = .ok (.aload_n 0, 1) := by decide +kernel
theorem dX8_planOf_1 : decode cX8_planOf 1 = .ok (.iload_n 1, 1) := by decide +kernel
theorem dX8_planOf_2 : decode cX8_planOf 2 = .ok (.invokevirtual 129, 3) := by decide +kernel
theorem dX8_planOf_5 : decode cX8_planOf 5 = .ok (.istore_n 2, 1) := by decide +kernel
theorem dX8_planOf_6 : decode cX8_planOf 6 = .ok (.iload_n 2, 1) := by decide +kernel
theorem dX8_planOf_7 : decode cX8_planOf 7 = .ok (.sipush 1000, 3) := by decide +kernel
theorem dX8_planOf_10 : decode cX8_planOf 10 = .ok (.if_icmp .ne 5, 3) := by decide +kernel
theorem dX8_planOf_13 : decode cX8_planOf 13 = .ok (.iload_n 2, 1) := by decide +kernel
theorem dX8_planOf_14 : decode cX8_planOf 14 = .ok (.ireturn, 1) := by decide +kernel
theorem dX8_planOf_15 : decode cX8_planOf 15 = .ok (.bipush 14, 2) := by decide +kernel
theorem dX8_planOf_17 : decode cX8_planOf 17 = .ok (.istore_n 3, 1) := by decide +kernel
theorem dX8_planOf_18 : decode cX8_planOf 18 = .ok (.aload_n 0, 1) := by decide +kernel
theorem dX8_planOf_19 : decode cX8_planOf 19 = .ok (.iload_n 1, 1) := by decide +kernel
theorem dX8_planOf_20 : decode cX8_planOf 20 = .ok (.iconst 4, 1) := by decide +kernel
theorem dX8_planOf_21 : decode cX8_planOf 21 = .ok (.invokevirtual 94, 3) := by decide +kernel
theorem dX8_planOf_24 : decode cX8_planOf 24 = .ok (.istore 4, 2) := by decide +kernel
theorem dX8_planOf_26 : decode cX8_planOf 26 = .ok (.iconst 0, 1) := by decide +kernel
theorem dX8_planOf_27 : decode cX8_planOf 27 = .ok (.istore 5, 2) := by decide +kernel
theorem dX8_planOf_29 : decode cX8_planOf 29 = .ok (.iload 5, 2) := by decide +kernel
theorem dX8_planOf_31 : decode cX8_planOf 31 = .ok (.iconst 1, 1) := by decide +kernel
theorem dX8_planOf_32 : decode cX8_planOf 32 = .ok (.iadd, 1) := by decide +kernel
theorem dX8_planOf_33 : decode cX8_planOf 33 = .ok (.iload_n 2, 1) := by decide +kernel
theorem dX8_planOf_34 : decode cX8_planOf 34 = .ok (.if_icmp .ge 125, 3) := by decide +kernel
theorem dX8_planOf_37 : decode cX8_planOf 37 = .ok (.aload_n 0, 1) := by decide +kernel
theorem dX8_planOf_38 : decode cX8_planOf 38 = .ok (.iload_n 1, 1) := by decide +kernel
theorem dX8_planOf_39 : decode cX8_planOf 39 = .ok (.iconst 1, 1) := by decide +kernel
theorem dX8_planOf_40 : decode cX8_planOf 40 = .ok (.invokevirtual 94, 3) := by decide +kernel
theorem dX8_planOf_43 : decode cX8_planOf 43 = .ok (.iload 5, 2) := by decide +kernel
theorem dX8_planOf_45 : decode cX8_planOf 45 = .ok (.iadd, 1) := by decide +kernel
theorem dX8_planOf_46 : decode cX8_planOf 46 = .ok (.istore 6, 2) := by decide +kernel
theorem dX8_planOf_48 : decode cX8_planOf 48 = .ok (.iconst 0, 1) := by decide +kernel
theorem dX8_planOf_49 : decode cX8_planOf 49 = .ok (.istore 7, 2) := by decide +kernel
theorem dX8_planOf_51 : decode cX8_planOf 51 = .ok (.iload 4, 2) := by decide +kernel
theorem dX8_planOf_53 : decode cX8_planOf 53 = .ok (.iload 7, 2) := by decide +kernel
theorem dX8_planOf_55 : decode cX8_planOf 55 = .ok (.iload_n 3, 1) := by decide +kernel
theorem dX8_planOf_56 : decode cX8_planOf 56 = .ok (.if_icmp .ne 7, 3) := by decide +kernel
theorem dX8_planOf_59 : decode cX8_planOf 59 = .ok (.iconst 1, 1) := by decide +kernel
theorem dX8_planOf_60 : decode cX8_planOf 60 = .ok (.goto 4, 3) := by decide +kernel
theorem dX8_planOf_63 : decode cX8_planOf 63 = .ok (.iconst 0, 1) := by decide +kernel
theorem dX8_planOf_64 : decode cX8_planOf 64 = .ok (.isub, 1) := by decide +kernel
theorem dX8_planOf_65 : decode cX8_planOf 65 = .ok (.ifCond .lt 54, 3) := by decide +kernel
theorem dX8_planOf_68 : decode cX8_planOf 68 = .ok (.iconst 1, 1) := by decide +kernel
theorem dX8_planOf_69 : decode cX8_planOf 69 = .ok (.aload_n 0, 1) := by decide +kernel
theorem dX8_planOf_70 : decode cX8_planOf 70 = .ok (.iload 5, 2) := by decide +kernel
theorem dX8_planOf_72 : decode cX8_planOf 72 = .ok (.iconst 1, 1) := by decide +kernel
theorem dX8_planOf_73 : decode cX8_planOf 73 = .ok (.iadd, 1) := by decide +kernel
theorem dX8_planOf_74 : decode cX8_planOf 74 = .ok (.iload 7, 2) := by decide +kernel
theorem dX8_planOf_76 : decode cX8_planOf 76 = .ok (.iload 4, 2) := by decide +kernel
theorem dX8_planOf_78 : decode cX8_planOf 78 = .ok (.iload 7, 2) := by decide +kernel
theorem dX8_planOf_80 : decode cX8_planOf 80 = .ok (.iload_n 3, 1) := by decide +kernel
theorem dX8_planOf_81 : decode cX8_planOf 81 = .ok (.if_icmp .ne 7, 3) := by decide +kernel
theorem dX8_planOf_84 : decode cX8_planOf 84 = .ok (.iconst 1, 1) := by decide +kernel
theorem dX8_planOf_85 : decode cX8_planOf 85 = .ok (.goto 4, 3) := by decide +kernel
theorem dX8_planOf_88 : decode cX8_planOf 88 = .ok (.iconst 0, 1) := by decide +kernel
theorem dX8_planOf_89 : decode cX8_planOf 89 = .ok (.isub, 1) := by decide +kernel
theorem dX8_planOf_90 : decode cX8_planOf 90 = .ok (.invokevirtual 120, 3) := by decide +kernel
theorem dX8_planOf_93 : decode cX8_planOf 93 = .ok (.iadd, 1) := by decide +kernel
theorem dX8_planOf_94 : decode cX8_planOf 94 = .ok (.aload_n 0, 1) := by decide +kernel
theorem dX8_planOf_95 : decode cX8_planOf 95 = .ok (.iload 5, 2) := by decide +kernel
theorem dX8_planOf_97 : decode cX8_planOf 97 = .ok (.iload_n 3, 1) := by decide +kernel
theorem dX8_planOf_98 : decode cX8_planOf 98 = .ok (.iload 4, 2) := by decide +kernel
theorem dX8_planOf_100 : decode cX8_planOf 100 = .ok (.invokevirtual 120, 3) := by decide +kernel
theorem dX8_planOf_103 : decode cX8_planOf 103 = .ok (.if_icmp .ne 16, 3) := by decide +kernel
theorem dX8_planOf_106 : decode cX8_planOf 106 = .ok (.aload_n 0, 1) := by decide +kernel
theorem dX8_planOf_107 : decode cX8_planOf 107 = .ok (.iload_n 1, 1) := by decide +kernel
theorem dX8_planOf_108 : decode cX8_planOf 108 = .ok (.iload_n 3, 1) := by decide +kernel
theorem dX8_planOf_109 : decode cX8_planOf 109 = .ok (.iload 7, 2) := by decide +kernel
theorem dX8_planOf_111 : decode cX8_planOf 111 = .ok (.iload 6, 2) := by decide +kernel
theorem dX8_planOf_113 : decode cX8_planOf 113 = .ok (.invokevirtual 126, 3) := by decide +kernel
theorem dX8_planOf_116 : decode cX8_planOf 116 = .ok (.ifCond .ne 9, 3) := by decide +kernel
theorem dX8_planOf_119 : decode cX8_planOf 119 = .ok (.iinc 7 1, 3) := by decide +kernel
theorem dX8_planOf_122 : decode cX8_planOf 122 = .ok (.goto (-71), 3) := by decide +kernel
theorem dX8_planOf_125 : decode cX8_planOf 125 = .ok (.iload 4, 2) := by decide +kernel
theorem dX8_planOf_127 : decode cX8_planOf 127 = .ok (.iload 7, 2) := by decide +kernel
theorem dX8_planOf_129 : decode cX8_planOf 129 = .ok (.iload_n 3, 1) := by decide +kernel
theorem dX8_planOf_130 : decode cX8_planOf 130 = .ok (.if_icmp .ne 7, 3) := by decide +kernel
theorem dX8_planOf_133 : decode cX8_planOf 133 = .ok (.iconst 1, 1) := by decide +kernel
theorem dX8_planOf_134 : decode cX8_planOf 134 = .ok (.goto 4, 3) := by decide +kernel
theorem dX8_planOf_137 : decode cX8_planOf 137 = .ok (.iconst 0, 1) := by decide +kernel
theorem dX8_planOf_138 : decode cX8_planOf 138 = .ok (.isub, 1) := by decide +kernel
theorem dX8_planOf_139 : decode cX8_planOf 139 = .ok (.istore 4, 2) := by decide +kernel
theorem dX8_planOf_141 : decode cX8_planOf 141 = .ok (.iload 7, 2) := by decide +kernel
theorem dX8_planOf_143 : decode cX8_planOf 143 = .ok (.istore_n 3, 1) := by decide +kernel
theorem dX8_planOf_144 : decode cX8_planOf 144 = .ok (.aload_n 0, 1) := by decide +kernel
theorem dX8_planOf_145 : decode cX8_planOf 145 = .ok (.getfield 28, 3) := by decide +kernel
theorem dX8_planOf_148 : decode cX8_planOf 148 = .ok (.iload 5, 2) := by decide +kernel
theorem dX8_planOf_150 : decode cX8_planOf 150 = .ok (.iload 7, 2) := by decide +kernel
theorem dX8_planOf_152 : decode cX8_planOf 152 = .ok (.iastore, 1) := by decide +kernel
theorem dX8_planOf_153 : decode cX8_planOf 153 = .ok (.iinc 5 1, 3) := by decide +kernel
theorem dX8_planOf_156 : decode cX8_planOf 156 = .ok (.goto (-127), 3) := by decide +kernel
theorem dX8_planOf_159 : decode cX8_planOf 159 = .ok (.iload_n 2, 1) := by decide +kernel
theorem dX8_planOf_160 : decode cX8_planOf 160 = .ok (.ireturn, 1) := by decide +kernel
theorem dX8_plan_0 : decode cX8_plan 0 = .ok (.aload_n 0, 1) := by decide +kernel
theorem dX8_plan_1 : decode cX8_plan 1 = .ok (.iload_n 1, 1) := by decide +kernel
theorem dX8_plan_2 : decode cX8_plan 2 = .ok (.invokevirtual 91, 3) := by decide +kernel
theorem dX8_plan_5 : decode cX8_plan 5 = .ok (.ifCond .ne 10, 3) := by decide +kernel
theorem dX8_plan_8 : decode cX8_plan 8 = .ok (.aload_n 0, 1) := by decide +kernel
theorem dX8_plan_9 : decode cX8_plan 9 = .ok (.ldc 67, 2) := by decide +kernel
theorem dX8_plan_11 : decode cX8_plan 11 = .ok (.invokevirtual 56, 3) := by decide +kernel
theorem dX8_plan_14 : decode cX8_plan 14 = .ok (.ireturn, 1) := by decide +kernel
theorem dX8_plan_15 : decode cX8_plan 15 = .ok (.aload_n 0, 1) := by decide +kernel
theorem dX8_plan_16 : decode cX8_plan 16 = .ok (.iload_n 1, 1) := by decide +kernel
theorem dX8_plan_17 : decode cX8_plan 17 = .ok (.invokevirtual 129, 3) := by decide +kernel
theorem dX8_plan_20 : decode cX8_plan 20 = .ok (.istore_n 2, 1) := by decide +kernel
theorem dX8_plan_21 : decode cX8_plan 21 = .ok (.iload_n 2, 1) := by decide +kernel
theorem dX8_plan_22 : decode cX8_plan 22 = .ok (.sipush 1000, 3) := by decide +kernel
theorem dX8_plan_25 : decode cX8_plan 25 = .ok (.if_icmp .ne 12, 3) := by decide +kernel
theorem dX8_plan_28 : decode cX8_plan 28 = .ok (.aload_n 0, 1) := by decide +kernel
theorem dX8_plan_29 : decode cX8_plan 29 = .ok (.ldc 55, 2) := by decide +kernel
theorem dX8_plan_31 : decode cX8_plan 31 = .ok (.invokevirtual 56, 3) := by decide +kernel
theorem dX8_plan_34 : decode cX8_plan 34 = .ok (.goto 4, 3) := by decide +kernel
theorem dX8_plan_37 : decode cX8_plan 37 = .ok (.iload_n 2, 1) := by decide +kernel
theorem dX8_plan_38 : decode cX8_plan 38 = .ok (.ireturn, 1) := by decide +kernel
theorem dX8_planned_0 : decode cX8_planned 0 = .ok (.aload_n 0, 1) := by decide +kernel
theorem dX8_planned_1 : decode cX8_planned 1 = .ok (.iload_n 1, 1) := by decide +kernel
theorem dX8_planned_2 : decode cX8_planned 2 = .ok (.invokevirtual 91, 3) := by decide +kernel
theorem dX8_planned_5 : decode cX8_planned 5 = .ok (.ifCond .ne 10, 3) := by decide +kernel
theorem dX8_planned_8 : decode cX8_planned 8 = .ok (.aload_n 0, 1) := by decide +kernel
theorem dX8_planned_9 : decode cX8_planned 9 = .ok (.ldc 67, 2) := by decide +kernel
theorem dX8_planned_11 : decode cX8_planned 11 = .ok (.invokevirtual 56, 3) := by decide +kernel
theorem dX8_planned_14 : decode cX8_planned 14 = .ok (.ireturn, 1) := by decide +kernel
theorem dX8_planned_15 : decode cX8_planned 15 = .ok (.aload_n 0, 1) := by decide +kernel
theorem dX8_planned_16 : decode cX8_planned 16 = .ok (.iload_n 1, 1) := by decide +kernel
theorem dX8_planned_17 : decode cX8_planned 17 = .ok (.invokevirtual 132, 3) := by decide +kernel
theorem dX8_planned_20 : decode cX8_planned 20 = .ok (.istore_n 3, 1) := by decide +kernel
theorem dX8_planned_21 : decode cX8_planned 21 = .ok (.iload_n 3, 1) := by decide +kernel
theorem dX8_planned_22 : decode cX8_planned 22 = .ok (.sipush 1000, 3) := by decide +kernel
theorem dX8_planned_25 : decode cX8_planned 25 = .ok (.if_icmp .ne 10, 3) := by decide +kernel
theorem dX8_planned_28 : decode cX8_planned 28 = .ok (.aload_n 0, 1) := by decide +kernel
theorem dX8_planned_29 : decode cX8_planned 29 = .ok (.ldc 55, 2) := by decide +kernel
theorem dX8_planned_31 : decode cX8_planned 31 = .ok (.invokevirtual 56, 3) := by decide +kernel
theorem dX8_planned_34 : decode cX8_planned 34 = .ok (.ireturn, 1) := by decide +kernel
theorem dX8_planned_35 : decode cX8_planned 35 = .ok (.iload_n 2, 1) := by decide +kernel
theorem dX8_planned_36 : decode cX8_planned 36 = .ok (.ifCond .lt 8, 3) := by decide +kernel
theorem dX8_planned_39 : decode cX8_planned 39 = .ok (.iload_n 2, 1) := by decide +kernel
theorem dX8_planned_40 : decode cX8_planned 40 = .ok (.iload_n 3, 1) := by decide +kernel
theorem dX8_planned_41 : decode cX8_planned 41 = .ok (.if_icmp .lt 10, 3) := by decide +kernel
theorem dX8_planned_44 : decode cX8_planned 44 = .ok (.aload_n 0, 1) := by decide +kernel
theorem dX8_planned_45 : decode cX8_planned 45 = .ok (.ldc 67, 2) := by decide +kernel
theorem dX8_planned_47 : decode cX8_planned 47 = .ok (.invokevirtual 56, 3) := by decide +kernel
theorem dX8_planned_50 : decode cX8_planned 50 = .ok (.ireturn, 1) := by decide +kernel
theorem dX8_planned_51 : decode cX8_planned 51 = .ok (.iload_n 2, 1) := by decide +kernel
theorem dX8_planned_52 : decode cX8_planned 52 = .ok (.iload_n 3, 1) := by decide +kernel
theorem dX8_planned_53 : decode cX8_planned 53 = .ok (.iconst 1, 1) := by decide +kernel
theorem dX8_planned_54 : decode cX8_planned 54 = .ok (.isub, 1) := by decide +kernel
theorem dX8_planned_55 : decode cX8_planned 55 = .ok (.if_icmp .ne 7, 3) := by decide +kernel
theorem dX8_planned_58 : decode cX8_planned 58 = .ok (.iconst (-1), 1) := by decide +kernel
theorem dX8_planned_59 : decode cX8_planned 59 = .ok (.goto 9, 3) := by decide +kernel
theorem dX8_planned_62 : decode cX8_planned 62 = .ok (.aload_n 0, 1) := by decide +kernel
theorem dX8_planned_63 : decode cX8_planned 63 = .ok (.getfield 28, 3) := by decide +kernel
theorem dX8_planned_66 : decode cX8_planned 66 = .ok (.iload_n 2, 1) := by decide +kernel
theorem dX8_planned_67 : decode cX8_planned 67 = .ok (.iaload, 1) := by decide +kernel
theorem dX8_planned_68 : decode cX8_planned 68 = .ok (.ireturn, 1) := by decide +kernel
theorem dX8_lay_0 : decode cX8_lay 0 = .ok (.aload_n 0, 1) := by decide +kernel
theorem dX8_lay_1 : decode cX8_lay 1 = .ok (.iload_n 1, 1) := by decide +kernel
theorem dX8_lay_2 : decode cX8_lay 2 = .ok (.invokevirtual 87, 3) := by decide +kernel
theorem dX8_lay_5 : decode cX8_lay 5 = .ok (.iconst 0, 1) := by decide +kernel
theorem dX8_lay_6 : decode cX8_lay 6 = .ok (.istore_n 3, 1) := by decide +kernel
theorem dX8_lay_7 : decode cX8_lay 7 = .ok (.iload_n 3, 1) := by decide +kernel
theorem dX8_lay_8 : decode cX8_lay 8 = .ok (.iconst 1, 1) := by decide +kernel
theorem dX8_lay_9 : decode cX8_lay 9 = .ok (.iadd, 1) := by decide +kernel
theorem dX8_lay_10 : decode cX8_lay 10 = .ok (.iload_n 2, 1) := by decide +kernel
theorem dX8_lay_11 : decode cX8_lay 11 = .ok (.if_icmp .ge 37, 3) := by decide +kernel
theorem dX8_lay_14 : decode cX8_lay 14 = .ok (.aload_n 0, 1) := by decide +kernel
theorem dX8_lay_15 : decode cX8_lay 15 = .ok (.getfield 7, 3) := by decide +kernel
theorem dX8_lay_18 : decode cX8_lay 18 = .ok (.sipush 244, 3) := by decide +kernel
theorem dX8_lay_21 : decode cX8_lay 21 = .ok (.bipush 30, 2) := by decide +kernel
theorem dX8_lay_23 : decode cX8_lay 23 = .ok (.iload_n 1, 1) := by decide +kernel
theorem dX8_lay_24 : decode cX8_lay 24 = .ok (.imul, 1) := by decide +kernel
theorem dX8_lay_25 : decode cX8_lay 25 = .ok (.iadd, 1) := by decide +kernel
theorem dX8_lay_26 : decode cX8_lay 26 = .ok (.aload_n 0, 1) := by decide +kernel
theorem dX8_lay_27 : decode cX8_lay 27 = .ok (.iload_n 1, 1) := by decide +kernel
theorem dX8_lay_28 : decode cX8_lay 28 = .ok (.iconst 1, 1) := by decide +kernel
theorem dX8_lay_29 : decode cX8_lay 29 = .ok (.invokevirtual 94, 3) := by decide +kernel
theorem dX8_lay_32 : decode cX8_lay 32 = .ok (.iadd, 1) := by decide +kernel
theorem dX8_lay_33 : decode cX8_lay 33 = .ok (.iload_n 3, 1) := by decide +kernel
theorem dX8_lay_34 : decode cX8_lay 34 = .ok (.iadd, 1) := by decide +kernel
theorem dX8_lay_35 : decode cX8_lay 35 = .ok (.aload_n 0, 1) := by decide +kernel
theorem dX8_lay_36 : decode cX8_lay 36 = .ok (.getfield 28, 3) := by decide +kernel
theorem dX8_lay_39 : decode cX8_lay 39 = .ok (.iload_n 3, 1) := by decide +kernel
theorem dX8_lay_40 : decode cX8_lay 40 = .ok (.iaload, 1) := by decide +kernel
theorem dX8_lay_41 : decode cX8_lay 41 = .ok (.iastore, 1) := by decide +kernel
theorem dX8_lay_42 : decode cX8_lay 42 = .ok (.iinc 3 1, 3) := by decide +kernel
theorem dX8_lay_45 : decode cX8_lay 45 = .ok (.goto (-38), 3) := by decide +kernel
theorem dX8_lay_48 : decode cX8_lay 48 = .ok (.return_, 1) := by decide +kernel
theorem dX8_take_0 : decode cX8_take 0 = .ok (.aload_n 0, 1) := by decide +kernel
theorem dX8_take_1 : decode cX8_take 1 = .ok (.iload_n 1, 1) := by decide +kernel
theorem dX8_take_2 : decode cX8_take 2 = .ok (.invokevirtual 91, 3) := by decide +kernel
theorem dX8_take_5 : decode cX8_take 5 = .ok (.ifCond .ne 10, 3) := by decide +kernel
theorem dX8_take_8 : decode cX8_take 8 = .ok (.aload_n 0, 1) := by decide +kernel
theorem dX8_take_9 : decode cX8_take 9 = .ok (.ldc 67, 2) := by decide +kernel
theorem dX8_take_11 : decode cX8_take 11 = .ok (.invokevirtual 56, 3) := by decide +kernel
theorem dX8_take_14 : decode cX8_take 14 = .ok (.ireturn, 1) := by decide +kernel
theorem dX8_take_15 : decode cX8_take 15 = .ok (.aload_n 0, 1) := by decide +kernel
theorem dX8_take_16 : decode cX8_take 16 = .ok (.iload_n 1, 1) := by decide +kernel
theorem dX8_take_17 : decode cX8_take 17 = .ok (.invokevirtual 132, 3) := by decide +kernel
theorem dX8_take_20 : decode cX8_take 20 = .ok (.istore_n 2, 1) := by decide +kernel
theorem dX8_take_21 : decode cX8_take 21 = .ok (.iload_n 2, 1) := by decide +kernel
theorem dX8_take_22 : decode cX8_take 22 = .ok (.sipush 1000, 3) := by decide +kernel
theorem dX8_take_25 : decode cX8_take 25 = .ok (.if_icmp .ne 10, 3) := by decide +kernel
theorem dX8_take_28 : decode cX8_take 28 = .ok (.aload_n 0, 1) := by decide +kernel
theorem dX8_take_29 : decode cX8_take 29 = .ok (.ldc 55, 2) := by decide +kernel
theorem dX8_take_31 : decode cX8_take 31 = .ok (.invokevirtual 56, 3) := by decide +kernel
theorem dX8_take_34 : decode cX8_take 34 = .ok (.ireturn, 1) := by decide +kernel
theorem dX8_take_35 : decode cX8_take 35 = .ok (.aload_n 0, 1) := by decide +kernel
theorem dX8_take_36 : decode cX8_take 36 = .ok (.invokevirtual 60, 3) := by decide +kernel
theorem dX8_take_39 : decode cX8_take 39 = .ok (.aload_n 0, 1) := by decide +kernel
theorem dX8_take_40 : decode cX8_take 40 = .ok (.iload_n 1, 1) := by decide +kernel
theorem dX8_take_41 : decode cX8_take 41 = .ok (.iload_n 2, 1) := by decide +kernel
theorem dX8_take_42 : decode cX8_take 42 = .ok (.invokevirtual 135, 3) := by decide +kernel
theorem dX8_take_45 : decode cX8_take 45 = .ok (.iload_n 2, 1) := by decide +kernel
theorem dX8_take_46 : decode cX8_take 46 = .ok (.iconst 1, 1) := by decide +kernel
theorem dX8_take_47 : decode cX8_take 47 = .ok (.isub, 1) := by decide +kernel
theorem dX8_take_48 : decode cX8_take 48 = .ok (.ireturn, 1) := by decide +kernel
theorem dX8_calendarOf_0 : decode cX8_calendarOf 0 = .ok (.iconst 0, 1) := by decide +kernel
theorem dX8_calendarOf_1 : decode cX8_calendarOf 1 = .ok (.istore_n 2, 1) := by decide +kernel
theorem dX8_calendarOf_2 : decode cX8_calendarOf 2 = .ok (.iload_n 2, 1) := by decide +kernel
theorem dX8_calendarOf_3 : decode cX8_calendarOf 3 = .ok (.aload_n 0, 1) := by decide +kernel
theorem dX8_calendarOf_4 : decode cX8_calendarOf 4 = .ok (.getfield 7, 3) := by decide +kernel
theorem dX8_calendarOf_7 : decode cX8_calendarOf 7 = .ok (.iconst 5, 1) := by decide +kernel
theorem dX8_calendarOf_8 : decode cX8_calendarOf 8 = .ok (.iaload, 1) := by decide +kernel
theorem dX8_calendarOf_9 : decode cX8_calendarOf 9 = .ok (.if_icmp .ge 23, 3) := by decide +kernel
theorem dX8_calendarOf_12 : decode cX8_calendarOf 12 = .ok (.iload_n 1, 1) := by decide +kernel
theorem dX8_calendarOf_13 : decode cX8_calendarOf 13 = .ok (.iload_n 2, 1) := by decide +kernel
theorem dX8_calendarOf_14 : decode cX8_calendarOf 14 = .ok (.ishr, 1) := by decide +kernel
theorem dX8_calendarOf_15 : decode cX8_calendarOf 15 = .ok (.iconst 1, 1) := by decide +kernel
theorem dX8_calendarOf_16 : decode cX8_calendarOf 16 = .ok (.iand, 1) := by decide +kernel
theorem dX8_calendarOf_17 : decode cX8_calendarOf 17 = .ok (.iconst 1, 1) := by decide +kernel
theorem dX8_calendarOf_18 : decode cX8_calendarOf 18 = .ok (.if_icmp .ne 8, 3) := by decide +kernel
theorem dX8_calendarOf_21 : decode cX8_calendarOf 21 = .ok (.aload_n 0, 1) := by decide +kernel
theorem dX8_calendarOf_22 : decode cX8_calendarOf 22 = .ok (.iload_n 2, 1) := by decide +kernel
theorem dX8_calendarOf_23 : decode cX8_calendarOf 23 = .ok (.invokevirtual 87, 3) := by decide +kernel
theorem dX8_calendarOf_26 : decode cX8_calendarOf 26 = .ok (.iinc 2 1, 3) := by decide +kernel
theorem dX8_calendarOf_29 : decode cX8_calendarOf 29 = .ok (.goto (-27), 3) := by decide +kernel
theorem dX8_calendarOf_32 : decode cX8_calendarOf 32 = .ok (.iconst 0, 1) := by decide +kernel
theorem dX8_calendarOf_33 : decode cX8_calendarOf 33 = .ok (.istore_n 2, 1) := by decide +kernel
theorem dX8_calendarOf_34 : decode cX8_calendarOf 34 = .ok (.iconst 0, 1) := by decide +kernel
theorem dX8_calendarOf_35 : decode cX8_calendarOf 35 = .ok (.istore_n 3, 1) := by decide +kernel
theorem dX8_calendarOf_36 : decode cX8_calendarOf 36 = .ok (.iload_n 3, 1) := by decide +kernel
theorem dX8_calendarOf_37 : decode cX8_calendarOf 37 = .ok (.aload_n 0, 1) := by decide +kernel
theorem dX8_calendarOf_38 : decode cX8_calendarOf 38 = .ok (.getfield 7, 3) := by decide +kernel
theorem dX8_calendarOf_41 : decode cX8_calendarOf 41 = .ok (.iconst 5, 1) := by decide +kernel
theorem dX8_calendarOf_42 : decode cX8_calendarOf 42 = .ok (.iaload, 1) := by decide +kernel
theorem dX8_calendarOf_43 : decode cX8_calendarOf 43 = .ok (.if_icmp .ge 60, 3) := by decide +kernel
theorem dX8_calendarOf_46 : decode cX8_calendarOf 46 = .ok (.iload_n 1, 1) := by decide +kernel
theorem dX8_calendarOf_47 : decode cX8_calendarOf 47 = .ok (.iload_n 3, 1) := by decide +kernel
theorem dX8_calendarOf_48 : decode cX8_calendarOf 48 = .ok (.ishr, 1) := by decide +kernel
theorem dX8_calendarOf_49 : decode cX8_calendarOf 49 = .ok (.iconst 1, 1) := by decide +kernel
theorem dX8_calendarOf_50 : decode cX8_calendarOf 50 = .ok (.iand, 1) := by decide +kernel
theorem dX8_calendarOf_51 : decode cX8_calendarOf 51 = .ok (.iconst 1, 1) := by decide +kernel
theorem dX8_calendarOf_52 : decode cX8_calendarOf 52 = .ok (.if_icmp .ne 45, 3) := by decide +kernel
theorem dX8_calendarOf_55 : decode cX8_calendarOf 55 = .ok (.aload_n 0, 1) := by decide +kernel
theorem dX8_calendarOf_56 : decode cX8_calendarOf 56 = .ok (.iload_n 3, 1) := by decide +kernel
theorem dX8_calendarOf_57 : decode cX8_calendarOf 57 = .ok (.invokevirtual 132, 3) := by decide +kernel
theorem dX8_calendarOf_60 : decode cX8_calendarOf 60 = .ok (.istore 4, 2) := by decide +kernel
theorem dX8_calendarOf_62 : decode cX8_calendarOf 62 = .ok (.iload_n 2, 1) := by decide +kernel
theorem dX8_calendarOf_63 : decode cX8_calendarOf 63 = .ok (.iload 4, 2) := by decide +kernel
theorem dX8_calendarOf_65 : decode cX8_calendarOf 65 = .ok (.sipush 1000, 3) := by decide +kernel
theorem dX8_calendarOf_68 : decode cX8_calendarOf 68 = .ok (.if_icmp .ge 7, 3) := by decide +kernel
theorem dX8_calendarOf_71 : decode cX8_calendarOf 71 = .ok (.iconst 1, 1) := by decide +kernel
theorem dX8_calendarOf_72 : decode cX8_calendarOf 72 = .ok (.goto 4, 3) := by decide +kernel
theorem dX8_calendarOf_75 : decode cX8_calendarOf 75 = .ok (.iconst 0, 1) := by decide +kernel
theorem dX8_calendarOf_76 : decode cX8_calendarOf 76 = .ok (.iadd, 1) := by decide +kernel
theorem dX8_calendarOf_77 : decode cX8_calendarOf 77 = .ok (.istore_n 2, 1) := by decide +kernel
theorem dX8_calendarOf_78 : decode cX8_calendarOf 78 = .ok (.aload_n 0, 1) := by decide +kernel
theorem dX8_calendarOf_79 : decode cX8_calendarOf 79 = .ok (.iload_n 3, 1) := by decide +kernel
theorem dX8_calendarOf_80 : decode cX8_calendarOf 80 = .ok (.iload 4, 2) := by decide +kernel
theorem dX8_calendarOf_82 : decode cX8_calendarOf 82 = .ok (.sipush 1000, 3) := by decide +kernel
theorem dX8_calendarOf_85 : decode cX8_calendarOf 85 = .ok (.if_icmp .ge 8, 3) := by decide +kernel
theorem dX8_calendarOf_88 : decode cX8_calendarOf 88 = .ok (.iload 4, 2) := by decide +kernel
theorem dX8_calendarOf_90 : decode cX8_calendarOf 90 = .ok (.goto 4, 3) := by decide +kernel
theorem dX8_calendarOf_93 : decode cX8_calendarOf 93 = .ok (.iconst 0, 1) := by decide +kernel
theorem dX8_calendarOf_94 : decode cX8_calendarOf 94 = .ok (.invokevirtual 135, 3) := by decide +kernel
theorem dX8_calendarOf_97 : decode cX8_calendarOf 97 = .ok (.iinc 3 1, 3) := by decide +kernel
theorem dX8_calendarOf_100 : decode cX8_calendarOf 100 = .ok (.goto (-64), 3) := by decide +kernel
theorem dX8_calendarOf_103 : decode cX8_calendarOf 103 = .ok (.iload_n 2, 1) := by decide +kernel
theorem dX8_calendarOf_104 : decode cX8_calendarOf 104 = .ok (.ireturn, 1) := by decide +kernel
theorem dX8_isSet_0 : decode cX8_isSet 0 = .ok (.iload_n 1, 1) := by decide +kernel
theorem dX8_isSet_1 : decode cX8_isSet 1 = .ok (.iconst 0, 1) := by decide +kernel
theorem dX8_isSet_2 : decode cX8_isSet 2 = .ok (.iconst 1, 1) := by decide +kernel
theorem dX8_isSet_3 : decode cX8_isSet 3 = .ok (.aload_n 0, 1) := by decide +kernel
theorem dX8_isSet_4 : decode cX8_isSet 4 = .ok (.getfield 7, 3) := by decide +kernel
end
section
theorem dX8_isSet_7 : decode cX8_isSet 7 = .ok (.iconst 5, 1) := by decide +kernel
theorem dX8_isSet_8 : decode cX8_isSet 8 = .ok (.iaload, 1) := by decide +kernel
theorem dX8_isSet_9 : decode cX8_isSet 9 = .ok (.ishl, 1) := by decide +kernel
theorem dX8_isSet_10 : decode cX8_isSet 10 = .ok (.iconst 1, 1) := by decide +kernel
theorem dX8_isSet_11 : decode cX8_isSet 11 = .ok (.isub, 1) := by decide +kernel
theorem dX8_isSet_12 : decode cX8_isSet 12 = .ok (.invokestatic 48, 3) := by decide +kernel
theorem dX8_isSet_15 : decode cX8_isSet 15 = .ok (.ireturn, 1) := by decide +kernel
theorem dX8_calendar_0 : decode cX8_calendar 0 = .ok (.aload_n 0, 1) := by decide +kernel
theorem dX8_calendar_1 : decode cX8_calendar 1 = .ok (.iload_n 1, 1) := by decide +kernel
theorem dX8_calendar_2 : decode cX8_calendar 2 = .ok (.invokevirtual 139, 3) := by decide +kernel
theorem dX8_calendar_5 : decode cX8_calendar 5 = .ok (.ifCond .ne 10, 3) := by decide +kernel
theorem dX8_calendar_8 : decode cX8_calendar 8 = .ok (.aload_n 0, 1) := by decide +kernel
theorem dX8_calendar_9 : decode cX8_calendar 9 = .ok (.ldc 67, 2) := by decide +kernel
theorem dX8_calendar_11 : decode cX8_calendar 11 = .ok (.invokevirtual 56, 3) := by decide +kernel
theorem dX8_calendar_14 : decode cX8_calendar 14 = .ok (.ireturn, 1) := by decide +kernel
theorem dX8_calendar_15 : decode cX8_calendar 15 = .ok (.iconst 0, 1) := by decide +kernel
theorem dX8_calendar_16 : decode cX8_calendar 16 = .ok (.istore_n 2, 1) := by decide +kernel
theorem dX8_calendar_17 : decode cX8_calendar 17 = .ok (.iload_n 2, 1) := by decide +kernel
theorem dX8_calendar_18 : decode cX8_calendar 18 = .ok (.sipush 300, 3) := by decide +kernel
theorem dX8_calendar_21 : decode cX8_calendar 21 = .ok (.if_icmp .ge 25, 3) := by decide +kernel
theorem dX8_calendar_24 : decode cX8_calendar 24 = .ok (.aload_n 0, 1) := by decide +kernel
theorem dX8_calendar_25 : decode cX8_calendar 25 = .ok (.getfield 31, 3) := by decide +kernel
theorem dX8_calendar_28 : decode cX8_calendar 28 = .ok (.iload_n 2, 1) := by decide +kernel
theorem dX8_calendar_29 : decode cX8_calendar 29 = .ok (.aload_n 0, 1) := by decide +kernel
theorem dX8_calendar_30 : decode cX8_calendar 30 = .ok (.getfield 7, 3) := by decide +kernel
theorem dX8_calendar_33 : decode cX8_calendar 33 = .ok (.sipush 244, 3) := by decide +kernel
theorem dX8_calendar_36 : decode cX8_calendar 36 = .ok (.iload_n 2, 1) := by decide +kernel
theorem dX8_calendar_37 : decode cX8_calendar 37 = .ok (.iadd, 1) := by decide +kernel
theorem dX8_calendar_38 : decode cX8_calendar 38 = .ok (.iaload, 1) := by decide +kernel
theorem dX8_calendar_39 : decode cX8_calendar 39 = .ok (.iastore, 1) := by decide +kernel
theorem dX8_calendar_40 : decode cX8_calendar 40 = .ok (.iinc 2 1, 3) := by decide +kernel
theorem dX8_calendar_43 : decode cX8_calendar 43 = .ok (.goto (-26), 3) := by decide +kernel
theorem dX8_calendar_46 : decode cX8_calendar 46 = .ok (.aload_n 0, 1) := by decide +kernel
theorem dX8_calendar_47 : decode cX8_calendar 47 = .ok (.iload_n 1, 1) := by decide +kernel
theorem dX8_calendar_48 : decode cX8_calendar 48 = .ok (.invokevirtual 142, 3) := by decide +kernel
theorem dX8_calendar_51 : decode cX8_calendar 51 = .ok (.istore_n 2, 1) := by decide +kernel
theorem dX8_calendar_52 : decode cX8_calendar 52 = .ok (.iconst 0, 1) := by decide +kernel
theorem dX8_calendar_53 : decode cX8_calendar 53 = .ok (.istore_n 3, 1) := by decide +kernel
theorem dX8_calendar_54 : decode cX8_calendar 54 = .ok (.iload_n 3, 1) := by decide +kernel
theorem dX8_calendar_55 : decode cX8_calendar 55 = .ok (.sipush 300, 3) := by decide +kernel
theorem dX8_calendar_58 : decode cX8_calendar 58 = .ok (.if_icmp .ge 25, 3) := by decide +kernel
theorem dX8_calendar_61 : decode cX8_calendar 61 = .ok (.aload_n 0, 1) := by decide +kernel
theorem dX8_calendar_62 : decode cX8_calendar 62 = .ok (.getfield 7, 3) := by decide +kernel
theorem dX8_calendar_65 : decode cX8_calendar 65 = .ok (.sipush 244, 3) := by decide +kernel
theorem dX8_calendar_68 : decode cX8_calendar 68 = .ok (.iload_n 3, 1) := by decide +kernel
theorem dX8_calendar_69 : decode cX8_calendar 69 = .ok (.iadd, 1) := by decide +kernel
theorem dX8_calendar_70 : decode cX8_calendar 70 = .ok (.aload_n 0, 1) := by decide +kernel
theorem dX8_calendar_71 : decode cX8_calendar 71 = .ok (.getfield 31, 3) := by decide +kernel
theorem dX8_calendar_74 : decode cX8_calendar 74 = .ok (.iload_n 3, 1) := by decide +kernel
theorem dX8_calendar_75 : decode cX8_calendar 75 = .ok (.iaload, 1) := by decide +kernel
theorem dX8_calendar_76 : decode cX8_calendar 76 = .ok (.iastore, 1) := by decide +kernel
theorem dX8_calendar_77 : decode cX8_calendar 77 = .ok (.iinc 3 1, 3) := by decide +kernel
theorem dX8_calendar_80 : decode cX8_calendar 80 = .ok (.goto (-26), 3) := by decide +kernel
theorem dX8_calendar_83 : decode cX8_calendar 83 = .ok (.iload_n 2, 1) := by decide +kernel
theorem dX8_calendar_84 : decode cX8_calendar 84 = .ok (.ireturn, 1) := by decide +kernel
theorem dX8_fill_0 : decode cX8_fill 0 = .ok (.aload_n 0, 1) := by decide +kernel
theorem dX8_fill_1 : decode cX8_fill 1 = .ok (.iload_n 1, 1) := by decide +kernel
theorem dX8_fill_2 : decode cX8_fill 2 = .ok (.invokevirtual 139, 3) := by decide +kernel
theorem dX8_fill_5 : decode cX8_fill 5 = .ok (.ifCond .ne 10, 3) := by decide +kernel
theorem dX8_fill_8 : decode cX8_fill 8 = .ok (.aload_n 0, 1) := by decide +kernel
theorem dX8_fill_9 : decode cX8_fill 9 = .ok (.ldc 67, 2) := by decide +kernel
theorem dX8_fill_11 : decode cX8_fill 11 = .ok (.invokevirtual 56, 3) := by decide +kernel
theorem dX8_fill_14 : decode cX8_fill 14 = .ok (.ireturn, 1) := by decide +kernel
theorem dX8_fill_15 : decode cX8_fill 15 = .ok (.aload_n 0, 1) := by decide +kernel
theorem dX8_fill_16 : decode cX8_fill 16 = .ok (.invokevirtual 60, 3) := by decide +kernel
theorem dX8_fill_19 : decode cX8_fill 19 = .ok (.aload_n 0, 1) := by decide +kernel
theorem dX8_fill_20 : decode cX8_fill 20 = .ok (.iload_n 1, 1) := by decide +kernel
theorem dX8_fill_21 : decode cX8_fill 21 = .ok (.invokevirtual 142, 3) := by decide +kernel
theorem dX8_fill_24 : decode cX8_fill 24 = .ok (.ireturn, 1) := by decide +kernel
theorem dX8_near_0 : decode cX8_near 0 = .ok (.aload_n 0, 1) := by decide +kernel
theorem dX8_near_1 : decode cX8_near 1 = .ok (.iload_n 1, 1) := by decide +kernel
theorem dX8_near_2 : decode cX8_near 2 = .ok (.invokevirtual 91, 3) := by decide +kernel
theorem dX8_near_5 : decode cX8_near 5 = .ok (.ifCond .eq 22, 3) := by decide +kernel
theorem dX8_near_8 : decode cX8_near 8 = .ok (.aload_n 0, 1) := by decide +kernel
theorem dX8_near_9 : decode cX8_near 9 = .ok (.iload_n 2, 1) := by decide +kernel
theorem dX8_near_10 : decode cX8_near 10 = .ok (.invokevirtual 91, 3) := by decide +kernel
theorem dX8_near_13 : decode cX8_near 13 = .ok (.ifCond .eq 14, 3) := by decide +kernel
theorem dX8_near_16 : decode cX8_near 16 = .ok (.iload_n 3, 1) := by decide +kernel
theorem dX8_near_17 : decode cX8_near 17 = .ok (.iconst 0, 1) := by decide +kernel
theorem dX8_near_18 : decode cX8_near 18 = .ok (.sipush 250, 3) := by decide +kernel
theorem dX8_near_21 : decode cX8_near 21 = .ok (.invokestatic 48, 3) := by decide +kernel
theorem dX8_near_24 : decode cX8_near 24 = .ok (.ifCond .ne 10, 3) := by decide +kernel
theorem dX8_near_27 : decode cX8_near 27 = .ok (.aload_n 0, 1) := by decide +kernel
theorem dX8_near_28 : decode cX8_near 28 = .ok (.ldc 67, 2) := by decide +kernel
theorem dX8_near_30 : decode cX8_near 30 = .ok (.invokevirtual 56, 3) := by decide +kernel
theorem dX8_near_33 : decode cX8_near 33 = .ok (.ireturn, 1) := by decide +kernel
theorem dX8_near_34 : decode cX8_near 34 = .ok (.iload_n 1, 1) := by decide +kernel
theorem dX8_near_35 : decode cX8_near 35 = .ok (.iload_n 2, 1) := by decide +kernel
theorem dX8_near_36 : decode cX8_near 36 = .ok (.if_icmp .ne 10, 3) := by decide +kernel
theorem dX8_near_39 : decode cX8_near 39 = .ok (.aload_n 0, 1) := by decide +kernel
theorem dX8_near_40 : decode cX8_near 40 = .ok (.ldc 73, 2) := by decide +kernel
theorem dX8_near_42 : decode cX8_near 42 = .ok (.invokevirtual 56, 3) := by decide +kernel
theorem dX8_near_45 : decode cX8_near 45 = .ok (.ireturn, 1) := by decide +kernel
theorem dX8_near_46 : decode cX8_near 46 = .ok (.iconst 0, 1) := by decide +kernel
theorem dX8_near_47 : decode cX8_near 47 = .ok (.istore 4, 2) := by decide +kernel
theorem dX8_near_49 : decode cX8_near 49 = .ok (.iconst 0, 1) := by decide +kernel
theorem dX8_near_50 : decode cX8_near 50 = .ok (.istore 5, 2) := by decide +kernel
theorem dX8_near_52 : decode cX8_near 52 = .ok (.iload 5, 2) := by decide +kernel
theorem dX8_near_54 : decode cX8_near 54 = .ok (.bipush 30, 2) := by decide +kernel
theorem dX8_near_56 : decode cX8_near 56 = .ok (.if_icmp .ge 91, 3) := by decide +kernel
theorem dX8_near_59 : decode cX8_near 59 = .ok (.aload_n 0, 1) := by decide +kernel
theorem dX8_near_60 : decode cX8_near 60 = .ok (.getfield 7, 3) := by decide +kernel
theorem dX8_near_63 : decode cX8_near 63 = .ok (.sipush 244, 3) := by decide +kernel
theorem dX8_near_66 : decode cX8_near 66 = .ok (.bipush 30, 2) := by decide +kernel
theorem dX8_near_68 : decode cX8_near 68 = .ok (.iload_n 1, 1) := by decide +kernel
theorem dX8_near_69 : decode cX8_near 69 = .ok (.imul, 1) := by decide +kernel
theorem dX8_near_70 : decode cX8_near 70 = .ok (.iadd, 1) := by decide +kernel
theorem dX8_near_71 : decode cX8_near 71 = .ok (.iload 5, 2) := by decide +kernel
theorem dX8_near_73 : decode cX8_near 73 = .ok (.iadd, 1) := by decide +kernel
theorem dX8_near_74 : decode cX8_near 74 = .ok (.iaload, 1) := by decide +kernel
theorem dX8_near_75 : decode cX8_near 75 = .ok (.istore 6, 2) := by decide +kernel
theorem dX8_near_77 : decode cX8_near 77 = .ok (.aload_n 0, 1) := by decide +kernel
theorem dX8_near_78 : decode cX8_near 78 = .ok (.getfield 7, 3) := by decide +kernel
theorem dX8_near_81 : decode cX8_near 81 = .ok (.sipush 244, 3) := by decide +kernel
theorem dX8_near_84 : decode cX8_near 84 = .ok (.bipush 30, 2) := by decide +kernel
theorem dX8_near_86 : decode cX8_near 86 = .ok (.iload_n 2, 1) := by decide +kernel
theorem dX8_near_87 : decode cX8_near 87 = .ok (.imul, 1) := by decide +kernel
theorem dX8_near_88 : decode cX8_near 88 = .ok (.iadd, 1) := by decide +kernel
theorem dX8_near_89 : decode cX8_near 89 = .ok (.iload 5, 2) := by decide +kernel
theorem dX8_near_91 : decode cX8_near 91 = .ok (.iadd, 1) := by decide +kernel
theorem dX8_near_92 : decode cX8_near 92 = .ok (.iaload, 1) := by decide +kernel
theorem dX8_near_93 : decode cX8_near 93 = .ok (.istore 7, 2) := by decide +kernel
theorem dX8_near_95 : decode cX8_near 95 = .ok (.iload 6, 2) := by decide +kernel
theorem dX8_near_97 : decode cX8_near 97 = .ok (.ifCond .lt 44, 3) := by decide +kernel
theorem dX8_near_100 : decode cX8_near 100 = .ok (.iload 7, 2) := by decide +kernel
theorem dX8_near_102 : decode cX8_near 102 = .ok (.ifCond .lt 39, 3) := by decide +kernel
theorem dX8_near_105 : decode cX8_near 105 = .ok (.aload_n 0, 1) := by decide +kernel
theorem dX8_near_106 : decode cX8_near 106 = .ok (.iload 6, 2) := by decide +kernel
theorem dX8_near_108 : decode cX8_near 108 = .ok (.invokevirtual 109, 3) := by decide +kernel
theorem dX8_near_111 : decode cX8_near 111 = .ok (.aload_n 0, 1) := by decide +kernel
theorem dX8_near_112 : decode cX8_near 112 = .ok (.iload 7, 2) := by decide +kernel
theorem dX8_near_114 : decode cX8_near 114 = .ok (.invokevirtual 109, 3) := by decide +kernel
theorem dX8_near_117 : decode cX8_near 117 = .ok (.isub, 1) := by decide +kernel
theorem dX8_near_118 : decode cX8_near 118 = .ok (.istore 8, 2) := by decide +kernel
theorem dX8_near_120 : decode cX8_near 120 = .ok (.iload 4, 2) := by decide +kernel
theorem dX8_near_122 : decode cX8_near 122 = .ok (.iload 8, 2) := by decide +kernel
theorem dX8_near_124 : decode cX8_near 124 = .ok (.iload_n 3, 1) := by decide +kernel
theorem dX8_near_125 : decode cX8_near 125 = .ok (.ineg, 1) := by decide +kernel
theorem dX8_near_126 : decode cX8_near 126 = .ok (.iload_n 3, 1) := by decide +kernel
theorem dX8_near_127 : decode cX8_near 127 = .ok (.invokestatic 48, 3) := by decide +kernel
theorem dX8_near_130 : decode cX8_near 130 = .ok (.ifCond .eq 7, 3) := by decide +kernel
theorem dX8_near_133 : decode cX8_near 133 = .ok (.iconst 1, 1) := by decide +kernel
theorem dX8_near_134 : decode cX8_near 134 = .ok (.goto 4, 3) := by decide +kernel
theorem dX8_near_137 : decode cX8_near 137 = .ok (.iconst 0, 1) := by decide +kernel
theorem dX8_near_138 : decode cX8_near 138 = .ok (.iadd, 1) := by decide +kernel
theorem dX8_near_139 : decode cX8_near 139 = .ok (.istore 4, 2) := by decide +kernel
theorem dX8_near_141 : decode cX8_near 141 = .ok (.iinc 5 1, 3) := by decide +kernel
theorem dX8_near_144 : decode cX8_near 144 = .ok (.goto (-92), 3) := by decide +kernel
theorem dX8_near_147 : decode cX8_near 147 = .ok (.iload 4, 2) := by decide +kernel
theorem dX8_near_149 : decode cX8_near 149 = .ok (.ireturn, 1) := by decide +kernel
theorem dX8_hurt_0 : decode cX8_hurt 0 = .ok (.aload_n 0, 1) := by decide +kernel
theorem dX8_hurt_1 : decode cX8_hurt 1 = .ok (.iload_n 1, 1) := by decide +kernel
theorem dX8_hurt_2 : decode cX8_hurt 2 = .ok (.invokevirtual 91, 3) := by decide +kernel
theorem dX8_hurt_5 : decode cX8_hurt 5 = .ok (.ifCond .eq 14, 3) := by decide +kernel
theorem dX8_hurt_8 : decode cX8_hurt 8 = .ok (.iload_n 2, 1) := by decide +kernel
theorem dX8_hurt_9 : decode cX8_hurt 9 = .ok (.iconst 0, 1) := by decide +kernel
theorem dX8_hurt_10 : decode cX8_hurt 10 = .ok (.sipush 250, 3) := by decide +kernel
theorem dX8_hurt_13 : decode cX8_hurt 13 = .ok (.invokestatic 48, 3) := by decide +kernel
theorem dX8_hurt_16 : decode cX8_hurt 16 = .ok (.ifCond .ne 10, 3) := by decide +kernel
theorem dX8_hurt_19 : decode cX8_hurt 19 = .ok (.aload_n 0, 1) := by decide +kernel
theorem dX8_hurt_20 : decode cX8_hurt 20 = .ok (.ldc 67, 2) := by decide +kernel
theorem dX8_hurt_22 : decode cX8_hurt 22 = .ok (.invokevirtual 56, 3) := by decide +kernel
theorem dX8_hurt_25 : decode cX8_hurt 25 = .ok (.ireturn, 1) := by decide +kernel
theorem dX8_hurt_26 : decode cX8_hurt 26 = .ok (.aload_n 0, 1) := by decide +kernel
theorem dX8_hurt_27 : decode cX8_hurt 27 = .ok (.iload_n 1, 1) := by decide +kernel
theorem dX8_hurt_28 : decode cX8_hurt 28 = .ok (.iconst 0, 1) := by decide +kernel
theorem dX8_hurt_29 : decode cX8_hurt 29 = .ok (.invokevirtual 94, 3) := by decide +kernel
theorem dX8_hurt_32 : decode cX8_hurt 32 = .ok (.istore_n 3, 1) := by decide +kernel
theorem dX8_hurt_33 : decode cX8_hurt 33 = .ok (.iload_n 3, 1) := by decide +kernel
theorem dX8_hurt_34 : decode cX8_hurt 34 = .ok (.iconst 1, 1) := by decide +kernel
theorem dX8_hurt_35 : decode cX8_hurt 35 = .ok (.if_icmp .eq 8, 3) := by decide +kernel
theorem dX8_hurt_38 : decode cX8_hurt 38 = .ok (.iload_n 3, 1) := by decide +kernel
theorem dX8_hurt_39 : decode cX8_hurt 39 = .ok (.iconst 3, 1) := by decide +kernel
theorem dX8_hurt_40 : decode cX8_hurt 40 = .ok (.if_icmp .ne 8, 3) := by decide +kernel
theorem dX8_hurt_43 : decode cX8_hurt 43 = .ok (.bipush 20, 2) := by decide +kernel
theorem dX8_hurt_45 : decode cX8_hurt 45 = .ok (.goto 5, 3) := by decide +kernel
theorem dX8_hurt_48 : decode cX8_hurt 48 = .ok (.bipush 60, 2) := by decide +kernel
theorem dX8_hurt_50 : decode cX8_hurt 50 = .ok (.istore 4, 2) := by decide +kernel
theorem dX8_hurt_52 : decode cX8_hurt 52 = .ok (.iconst (-1), 1) := by decide +kernel
theorem dX8_hurt_53 : decode cX8_hurt 53 = .ok (.istore 5, 2) := by decide +kernel
theorem dX8_hurt_55 : decode cX8_hurt 55 = .ok (.iconst 0, 1) := by decide +kernel
theorem dX8_hurt_56 : decode cX8_hurt 56 = .ok (.istore 6, 2) := by decide +kernel
theorem dX8_hurt_58 : decode cX8_hurt 58 = .ok (.iload 6, 2) := by decide +kernel
theorem dX8_hurt_60 : decode cX8_hurt 60 = .ok (.aload_n 0, 1) := by decide +kernel
theorem dX8_hurt_61 : decode cX8_hurt 61 = .ok (.getfield 7, 3) := by decide +kernel
theorem dX8_hurt_64 : decode cX8_hurt 64 = .ok (.iconst 4, 1) := by decide +kernel
theorem dX8_hurt_65 : decode cX8_hurt 65 = .ok (.iaload, 1) := by decide +kernel
theorem dX8_hurt_66 : decode cX8_hurt 66 = .ok (.if_icmp .ge 78, 3) := by decide +kernel
theorem dX8_hurt_69 : decode cX8_hurt 69 = .ok (.aload_n 0, 1) := by decide +kernel
theorem dX8_hurt_70 : decode cX8_hurt 70 = .ok (.getfield 7, 3) := by decide +kernel
theorem dX8_hurt_73 : decode cX8_hurt 73 = .ok (.bipush 66, 2) := by decide +kernel
theorem dX8_hurt_75 : decode cX8_hurt 75 = .ok (.iload 6, 2) := by decide +kernel
theorem dX8_hurt_77 : decode cX8_hurt 77 = .ok (.iadd, 1) := by decide +kernel
theorem dX8_hurt_78 : decode cX8_hurt 78 = .ok (.iaload, 1) := by decide +kernel
theorem dX8_hurt_79 : decode cX8_hurt 79 = .ok (.istore 7, 2) := by decide +kernel
theorem dX8_hurt_81 : decode cX8_hurt 81 = .ok (.iload 7, 2) := by decide +kernel
theorem dX8_hurt_83 : decode cX8_hurt 83 = .ok (.iload_n 2, 1) := by decide +kernel
theorem dX8_hurt_84 : decode cX8_hurt 84 = .ok (.if_icmp .lt 13, 3) := by decide +kernel
theorem dX8_hurt_87 : decode cX8_hurt 87 = .ok (.bipush 12, 2) := by decide +kernel
theorem dX8_hurt_89 : decode cX8_hurt 89 = .ok (.iload 7, 2) := by decide +kernel
theorem dX8_hurt_91 : decode cX8_hurt 91 = .ok (.iload_n 2, 1) := by decide +kernel
theorem dX8_hurt_92 : decode cX8_hurt 92 = .ok (.isub, 1) := by decide +kernel
theorem dX8_hurt_93 : decode cX8_hurt 93 = .ok (.imul, 1) := by decide +kernel
theorem dX8_hurt_94 : decode cX8_hurt 94 = .ok (.goto 10, 3) := by decide +kernel
theorem dX8_hurt_97 : decode cX8_hurt 97 = .ok (.iload 4, 2) := by decide +kernel
theorem dX8_hurt_99 : decode cX8_hurt 99 = .ok (.iload_n 2, 1) := by decide +kernel
theorem dX8_hurt_100 : decode cX8_hurt 100 = .ok (.iload 7, 2) := by decide +kernel
theorem dX8_hurt_102 : decode cX8_hurt 102 = .ok (.isub, 1) := by decide +kernel
theorem dX8_hurt_103 : decode cX8_hurt 103 = .ok (.imul, 1) := by decide +kernel
theorem dX8_hurt_104 : decode cX8_hurt 104 = .ok (.istore 8, 2) := by decide +kernel
theorem dX8_hurt_106 : decode cX8_hurt 106 = .ok (.iload 7, 2) := by decide +kernel
theorem dX8_hurt_108 : decode cX8_hurt 108 = .ok (.aload_n 0, 1) := by decide +kernel
theorem dX8_hurt_109 : decode cX8_hurt 109 = .ok (.getfield 7, 3) := by decide +kernel
theorem dX8_hurt_112 : decode cX8_hurt 112 = .ok (.iconst 0, 1) := by decide +kernel
theorem dX8_hurt_113 : decode cX8_hurt 113 = .ok (.iaload, 1) := by decide +kernel
theorem dX8_hurt_114 : decode cX8_hurt 114 = .ok (.if_icmp .ge 20, 3) := by decide +kernel
theorem dX8_hurt_117 : decode cX8_hurt 117 = .ok (.iload 5, 2) := by decide +kernel
theorem dX8_hurt_119 : decode cX8_hurt 119 = .ok (.ifCond .lt 10, 3) := by decide +kernel
theorem dX8_hurt_122 : decode cX8_hurt 122 = .ok (.iload 8, 2) := by decide +kernel
theorem dX8_hurt_124 : decode cX8_hurt 124 = .ok (.iload 5, 2) := by decide +kernel
theorem dX8_hurt_126 : decode cX8_hurt 126 = .ok (.if_icmp .ge 8, 3) := by decide +kernel
theorem dX8_hurt_129 : decode cX8_hurt 129 = .ok (.iload 8, 2) := by decide +kernel
theorem dX8_hurt_131 : decode cX8_hurt 131 = .ok (.goto 5, 3) := by decide +kernel
theorem dX8_hurt_134 : decode cX8_hurt 134 = .ok (.iload 5, 2) := by decide +kernel
theorem dX8_hurt_136 : decode cX8_hurt 136 = .ok (.istore 5, 2) := by decide +kernel
theorem dX8_hurt_138 : decode cX8_hurt 138 = .ok (.iinc 6 1, 3) := by decide +kernel
theorem dX8_hurt_141 : decode cX8_hurt 141 = .ok (.goto (-83), 3) := by decide +kernel
theorem dX8_hurt_144 : decode cX8_hurt 144 = .ok (.iload 5, 2) := by decide +kernel
theorem dX8_hurt_146 : decode cX8_hurt 146 = .ok (.ifCond .ge 12, 3) := by decide +kernel
theorem dX8_hurt_149 : decode cX8_hurt 149 = .ok (.aload_n 0, 1) := by decide +kernel
theorem dX8_hurt_150 : decode cX8_hurt 150 = .ok (.ldc 55, 2) := by decide +kernel
theorem dX8_hurt_152 : decode cX8_hurt 152 = .ok (.invokevirtual 56, 3) := by decide +kernel
theorem dX8_hurt_155 : decode cX8_hurt 155 = .ok (.goto 5, 3) := by decide +kernel
theorem dX8_hurt_158 : decode cX8_hurt 158 = .ok (.iload 5, 2) := by decide +kernel
theorem dX8_hurt_160 : decode cX8_hurt 160 = .ok (.ireturn, 1) := by decide +kernel
theorem dX8_applicant_0 : decode cX8_applicant 0 = .ok (.iload_n 1, 1) := by decide +kernel
theorem dX8_applicant_1 : decode cX8_applicant 1 = .ok (.iconst 1, 1) := by decide +kernel
theorem dX8_applicant_2 : decode cX8_applicant 2 = .ok (.bipush 99, 2) := by decide +kernel
theorem dX8_applicant_4 : decode cX8_applicant 4 = .ok (.invokestatic 48, 3) := by decide +kernel
theorem dX8_applicant_7 : decode cX8_applicant 7 = .ok (.ifCond .ne 10, 3) := by decide +kernel
theorem dX8_applicant_10 : decode cX8_applicant 10 = .ok (.aload_n 0, 1) := by decide +kernel
theorem dX8_applicant_11 : decode cX8_applicant 11 = .ok (.ldc 67, 2) := by decide +kernel
theorem dX8_applicant_13 : decode cX8_applicant 13 = .ok (.invokevirtual 56, 3) := by decide +kernel
theorem dX8_applicant_16 : decode cX8_applicant 16 = .ok (.ireturn, 1) := by decide +kernel
theorem dX8_applicant_17 : decode cX8_applicant 17 = .ok (.aload_n 0, 1) := by decide +kernel
theorem dX8_applicant_18 : decode cX8_applicant 18 = .ok (.getfield 7, 3) := by decide +kernel
theorem dX8_applicant_21 : decode cX8_applicant 21 = .ok (.bipush 6, 2) := by decide +kernel
theorem dX8_applicant_23 : decode cX8_applicant 23 = .ok (.iaload, 1) := by decide +kernel
theorem dX8_applicant_24 : decode cX8_applicant 24 = .ok (.bipush 12, 2) := by decide +kernel
theorem dX8_applicant_26 : decode cX8_applicant 26 = .ok (.if_icmp .ne 10, 3) := by decide +kernel
theorem dX8_applicant_29 : decode cX8_applicant 29 = .ok (.aload_n 0, 1) := by decide +kernel
theorem dX8_applicant_30 : decode cX8_applicant 30 = .ok (.ldc 68, 2) := by decide +kernel
theorem dX8_applicant_32 : decode cX8_applicant 32 = .ok (.invokevirtual 56, 3) := by decide +kernel
theorem dX8_applicant_35 : decode cX8_applicant 35 = .ok (.ireturn, 1) := by decide +kernel
theorem dX8_applicant_36 : decode cX8_applicant 36 = .ok (.aload_n 0, 1) := by decide +kernel
theorem dX8_applicant_37 : decode cX8_applicant 37 = .ok (.bipush 6, 2) := by decide +kernel
theorem dX8_applicant_39 : decode cX8_applicant 39 = .ok (.aload_n 0, 1) := by decide +kernel
theorem dX8_applicant_40 : decode cX8_applicant 40 = .ok (.getfield 7, 3) := by decide +kernel
theorem dX8_applicant_43 : decode cX8_applicant 43 = .ok (.bipush 6, 2) := by decide +kernel
theorem dX8_applicant_45 : decode cX8_applicant 45 = .ok (.iaload, 1) := by decide +kernel
theorem dX8_applicant_46 : decode cX8_applicant 46 = .ok (.iconst 1, 1) := by decide +kernel
theorem dX8_applicant_47 : decode cX8_applicant 47 = .ok (.iadd, 1) := by decide +kernel
theorem dX8_applicant_48 : decode cX8_applicant 48 = .ok (.invokevirtual 63, 3) := by decide +kernel
theorem dX8_applicant_51 : decode cX8_applicant 51 = .ok (.istore_n 2, 1) := by decide +kernel
theorem dX8_applicant_52 : decode cX8_applicant 52 = .ok (.aload_n 0, 1) := by decide +kernel
theorem dX8_applicant_53 : decode cX8_applicant 53 = .ok (.getfield 7, 3) := by decide +kernel
theorem dX8_applicant_56 : decode cX8_applicant 56 = .ok (.sipush 544, 3) := by decide +kernel
theorem dX8_applicant_59 : decode cX8_applicant 59 = .ok (.iload_n 2, 1) := by decide +kernel
theorem dX8_applicant_60 : decode cX8_applicant 60 = .ok (.iadd, 1) := by decide +kernel
theorem dX8_applicant_61 : decode cX8_applicant 61 = .ok (.iload_n 1, 1) := by decide +kernel
theorem dX8_applicant_62 : decode cX8_applicant 62 = .ok (.iastore, 1) := by decide +kernel
theorem dX8_applicant_63 : decode cX8_applicant 63 = .ok (.iload_n 2, 1) := by decide +kernel
theorem dX8_applicant_64 : decode cX8_applicant 64 = .ok (.ireturn, 1) := by decide +kernel
theorem dX8_weigh_0 : decode cX8_weigh 0 = .ok (.aload_n 0, 1) := by decide +kernel
theorem dX8_weigh_1 : decode cX8_weigh 1 = .ok (.iload_n 1, 1) := by decide +kernel
theorem dX8_weigh_2 : decode cX8_weigh 2 = .ok (.invokevirtual 145, 3) := by decide +kernel
theorem dX8_weigh_5 : decode cX8_weigh 5 = .ok (.ifCond .eq 26, 3) := by decide +kernel
theorem dX8_weigh_8 : decode cX8_weigh 8 = .ok (.iload_n 2, 1) := by decide +kernel
theorem dX8_weigh_9 : decode cX8_weigh 9 = .ok (.iconst 1, 1) := by decide +kernel
theorem dX8_weigh_10 : decode cX8_weigh 10 = .ok (.bipush 99, 2) := by decide +kernel
theorem dX8_weigh_12 : decode cX8_weigh 12 = .ok (.invokestatic 48, 3) := by decide +kernel
theorem dX8_weigh_15 : decode cX8_weigh 15 = .ok (.ifCond .eq 16, 3) := by decide +kernel
theorem dX8_weigh_18 : decode cX8_weigh 18 = .ok (.aload_n 0, 1) := by decide +kernel
theorem dX8_weigh_19 : decode cX8_weigh 19 = .ok (.sipush 544, 3) := by decide +kernel
theorem dX8_weigh_22 : decode cX8_weigh 22 = .ok (.iload_n 1, 1) := by decide +kernel
theorem dX8_weigh_23 : decode cX8_weigh 23 = .ok (.iadd, 1) := by decide +kernel
theorem dX8_weigh_24 : decode cX8_weigh 24 = .ok (.iload_n 2, 1) := by decide +kernel
theorem dX8_weigh_25 : decode cX8_weigh 25 = .ok (.invokevirtual 63, 3) := by decide +kernel
theorem dX8_weigh_28 : decode cX8_weigh 28 = .ok (.goto 9, 3) := by decide +kernel
theorem dX8_weigh_31 : decode cX8_weigh 31 = .ok (.aload_n 0, 1) := by decide +kernel
theorem dX8_weigh_32 : decode cX8_weigh 32 = .ok (.ldc 67, 2) := by decide +kernel
theorem dX8_weigh_34 : decode cX8_weigh 34 = .ok (.invokevirtual 56, 3) := by decide +kernel
theorem dX8_weigh_37 : decode cX8_weigh 37 = .ok (.ireturn, 1) := by decide +kernel
theorem dX8_weights_0 : decode cX8_weights 0 = .ok (.iconst 0, 1) := by decide +kernel
theorem dX8_weights_1 : decode cX8_weights 1 = .ok (.istore_n 1, 1) := by decide +kernel
theorem dX8_weights_2 : decode cX8_weights 2 = .ok (.iconst 0, 1) := by decide +kernel
theorem dX8_weights_3 : decode cX8_weights 3 = .ok (.istore_n 2, 1) := by decide +kernel
theorem dX8_weights_4 : decode cX8_weights 4 = .ok (.iload_n 2, 1) := by decide +kernel
theorem dX8_weights_5 : decode cX8_weights 5 = .ok (.aload_n 0, 1) := by decide +kernel
theorem dX8_weights_6 : decode cX8_weights 6 = .ok (.getfield 7, 3) := by decide +kernel
theorem dX8_weights_9 : decode cX8_weights 9 = .ok (.bipush 6, 2) := by decide +kernel
theorem dX8_weights_11 : decode cX8_weights 11 = .ok (.iaload, 1) := by decide +kernel
theorem dX8_weights_12 : decode cX8_weights 12 = .ok (.if_icmp .ge 22, 3) := by decide +kernel
theorem dX8_weights_15 : decode cX8_weights 15 = .ok (.iload_n 1, 1) := by decide +kernel
theorem dX8_weights_16 : decode cX8_weights 16 = .ok (.aload_n 0, 1) := by decide +kernel
theorem dX8_weights_17 : decode cX8_weights 17 = .ok (.getfield 7, 3) := by decide +kernel
theorem dX8_weights_20 : decode cX8_weights 20 = .ok (.sipush 544, 3) := by decide +kernel
theorem dX8_weights_23 : decode cX8_weights 23 = .ok (.iload_n 2, 1) := by decide +kernel
theorem dX8_weights_24 : decode cX8_weights 24 = .ok (.iadd, 1) := by decide +kernel
theorem dX8_weights_25 : decode cX8_weights 25 = .ok (.iaload, 1) := by decide +kernel
theorem dX8_weights_26 : decode cX8_weights 26 = .ok (.iadd, 1) := by decide +kernel
theorem dX8_weights_27 : decode cX8_weights 27 = .ok (.istore_n 1, 1) := by decide +kernel
theorem dX8_weights_28 : decode cX8_weights 28 = .ok (.iinc 2 1, 3) := by decide +kernel
theorem dX8_weights_31 : decode cX8_weights 31 = .ok (.goto (-27), 3) := by decide +kernel
theorem dX8_weights_34 : decode cX8_weights 34 = .ok (.iload_n 1, 1) := by decide +kernel
theorem dX8_weights_35 : decode cX8_weights 35 = .ok (.ireturn, 1) := by decide +kernel
theorem dX8_chance_0 : decode cX8_chance 0 = .ok (.aload_n 0, 1) := by decide +kernel
theorem dX8_chance_1 : decode cX8_chance 1 = .ok (.iload_n 1, 1) := by decide +kernel
theorem dX8_chance_2 : decode cX8_chance 2 = .ok (.invokevirtual 145, 3) := by decide +kernel
theorem dX8_chance_5 : decode cX8_chance 5 = .ok (.ifCond .ne 10, 3) := by decide +kernel
theorem dX8_chance_8 : decode cX8_chance 8 = .ok (.aload_n 0, 1) := by decide +kernel
theorem dX8_chance_9 : decode cX8_chance 9 = .ok (.ldc 67, 2) := by decide +kernel
theorem dX8_chance_11 : decode cX8_chance 11 = .ok (.invokevirtual 56, 3) := by decide +kernel
theorem dX8_chance_14 : decode cX8_chance 14 = .ok (.ireturn, 1) := by decide +kernel
theorem dX8_chance_15 : decode cX8_chance 15 = .ok (.aload_n 0, 1) := by decide +kernel
theorem dX8_chance_16 : decode cX8_chance 16 = .ok (.getfield 7, 3) := by decide +kernel
theorem dX8_chance_19 : decode cX8_chance 19 = .ok (.sipush 544, 3) := by decide +kernel
theorem dX8_chance_22 : decode cX8_chance 22 = .ok (.iload_n 1, 1) := by decide +kernel
theorem dX8_chance_23 : decode cX8_chance 23 = .ok (.iadd, 1) := by decide +kernel
theorem dX8_chance_24 : decode cX8_chance 24 = .ok (.iaload, 1) := by decide +kernel
theorem dX8_chance_25 : decode cX8_chance 25 = .ok (.istore_n 3, 1) := by decide +kernel
theorem dX8_chance_26 : decode cX8_chance 26 = .ok (.aload_n 0, 1) := by decide +kernel
theorem dX8_chance_27 : decode cX8_chance 27 = .ok (.invokevirtual 148, 3) := by decide +kernel
theorem dX8_chance_30 : decode cX8_chance 30 = .ok (.istore 4, 2) := by decide +kernel
theorem dX8_chance_32 : decode cX8_chance 32 = .ok (.iload 4, 2) := by decide +kernel
theorem dX8_chance_34 : decode cX8_chance 34 = .ok (.ifCond .eq 19, 3) := by decide +kernel
theorem dX8_chance_37 : decode cX8_chance 37 = .ok (.iload_n 3, 1) := by decide +kernel
theorem dX8_chance_38 : decode cX8_chance 38 = .ok (.iload 4, 2) := by decide +kernel
theorem dX8_chance_40 : decode cX8_chance 40 = .ok (.irem, 1) := by decide +kernel
theorem dX8_chance_41 : decode cX8_chance 41 = .ok (.istore 5, 2) := by decide +kernel
theorem dX8_chance_43 : decode cX8_chance 43 = .ok (.iload 4, 2) := by decide +kernel
theorem dX8_chance_45 : decode cX8_chance 45 = .ok (.istore_n 3, 1) := by decide +kernel
theorem dX8_chance_46 : decode cX8_chance 46 = .ok (.iload 5, 2) := by decide +kernel
theorem dX8_chance_48 : decode cX8_chance 48 = .ok (.istore 4, 2) := by decide +kernel
theorem dX8_chance_50 : decode cX8_chance 50 = .ok (.goto (-18), 3) := by decide +kernel
theorem dX8_chance_53 : decode cX8_chance 53 = .ok (.iload_n 2, 1) := by decide +kernel
theorem dX8_chance_54 : decode cX8_chance 54 = .ok (.ifCond .eq 12, 3) := by decide +kernel
theorem dX8_chance_57 : decode cX8_chance 57 = .ok (.aload_n 0, 1) := by decide +kernel
theorem dX8_chance_58 : decode cX8_chance 58 = .ok (.invokevirtual 148, 3) := by decide +kernel
theorem dX8_chance_61 : decode cX8_chance 61 = .ok (.iload_n 3, 1) := by decide +kernel
theorem dX8_chance_62 : decode cX8_chance 62 = .ok (.idiv, 1) := by decide +kernel
theorem dX8_chance_63 : decode cX8_chance 63 = .ok (.goto 15, 3) := by decide +kernel
theorem dX8_chance_66 : decode cX8_chance 66 = .ok (.aload_n 0, 1) := by decide +kernel
theorem dX8_chance_67 : decode cX8_chance 67 = .ok (.getfield 7, 3) := by decide +kernel
theorem dX8_chance_70 : decode cX8_chance 70 = .ok (.sipush 544, 3) := by decide +kernel
theorem dX8_chance_73 : decode cX8_chance 73 = .ok (.iload_n 1, 1) := by decide +kernel
theorem dX8_chance_74 : decode cX8_chance 74 = .ok (.iadd, 1) := by decide +kernel
theorem dX8_chance_75 : decode cX8_chance 75 = .ok (.iaload, 1) := by decide +kernel
theorem dX8_chance_76 : decode cX8_chance 76 = .ok (.iload_n 3, 1) := by decide +kernel
theorem dX8_chance_77 : decode cX8_chance 77 = .ok (.idiv, 1) := by decide +kernel
theorem dX8_chance_78 : decode cX8_chance 78 = .ok (.ireturn, 1) := by decide +kernel
theorem dX8_draw_0 : decode cX8_draw 0 = .ok (.iload_n 1, 1) := by decide +kernel
theorem dX8_draw_1 : decode cX8_draw 1 = .ok (.istore_n 2, 1) := by decide +kernel
theorem dX8_draw_2 : decode cX8_draw 2 = .ok (.aload_n 0, 1) := by decide +kernel
theorem dX8_draw_3 : decode cX8_draw 3 = .ok (.invokevirtual 148, 3) := by decide +kernel
theorem dX8_draw_6 : decode cX8_draw 6 = .ok (.istore_n 3, 1) := by decide +kernel
theorem dX8_draw_7 : decode cX8_draw 7 = .ok (.iconst 0, 1) := by decide +kernel
theorem dX8_draw_8 : decode cX8_draw 8 = .ok (.istore 4, 2) := by decide +kernel
theorem dX8_draw_10 : decode cX8_draw 10 = .ok (.iload 4, 2) := by decide +kernel
theorem dX8_draw_12 : decode cX8_draw 12 = .ok (.bipush 12, 2) := by decide +kernel
theorem dX8_draw_14 : decode cX8_draw 14 = .ok (.if_icmp .ge 17, 3) := by decide +kernel
theorem dX8_draw_17 : decode cX8_draw 17 = .ok (.aload_n 0, 1) := by decide +kernel
theorem dX8_draw_18 : decode cX8_draw 18 = .ok (.getfield 37, 3) := by decide +kernel
theorem dX8_draw_21 : decode cX8_draw 21 = .ok (.iload 4, 2) := by decide +kernel
theorem dX8_draw_23 : decode cX8_draw 23 = .ok (.iconst 0, 1) := by decide +kernel
theorem dX8_draw_24 : decode cX8_draw 24 = .ok (.bastore, 1) := by decide +kernel
theorem dX8_draw_25 : decode cX8_draw 25 = .ok (.iinc 4 1, 3) := by decide +kernel
theorem dX8_draw_28 : decode cX8_draw 28 = .ok (.goto (-18), 3) := by decide +kernel
theorem dX8_draw_31 : decode cX8_draw 31 = .ok (.iconst 0, 1) := by decide +kernel
theorem dX8_draw_32 : decode cX8_draw 32 = .ok (.istore 4, 2) := by decide +kernel
theorem dX8_draw_34 : decode cX8_draw 34 = .ok (.iload 4, 2) := by decide +kernel
theorem dX8_draw_36 : decode cX8_draw 36 = .ok (.aload_n 0, 1) := by decide +kernel
theorem dX8_draw_37 : decode cX8_draw 37 = .ok (.getfield 7, 3) := by decide +kernel
theorem dX8_draw_40 : decode cX8_draw 40 = .ok (.bipush 6, 2) := by decide +kernel
theorem dX8_draw_42 : decode cX8_draw 42 = .ok (.iaload, 1) := by decide +kernel
theorem dX8_draw_43 : decode cX8_draw 43 = .ok (.if_icmp .ge 122, 3) := by decide +kernel
theorem dX8_draw_46 : decode cX8_draw 46 = .ok (.ldc 152, 2) := by decide +kernel
theorem dX8_draw_48 : decode cX8_draw 48 = .ok (.iload_n 2, 1) := by decide +kernel
theorem dX8_draw_49 : decode cX8_draw 49 = .ok (.imul, 1) := by decide +kernel
theorem dX8_draw_50 : decode cX8_draw 50 = .ok (.sipush 12345, 3) := by decide +kernel
theorem dX8_draw_53 : decode cX8_draw 53 = .ok (.iadd, 1) := by decide +kernel
theorem dX8_draw_54 : decode cX8_draw 54 = .ok (.istore_n 2, 1) := by decide +kernel
theorem dX8_draw_55 : decode cX8_draw 55 = .ok (.iload_n 2, 1) := by decide +kernel
theorem dX8_draw_56 : decode cX8_draw 56 = .ok (.bipush 16, 2) := by decide +kernel
theorem dX8_draw_58 : decode cX8_draw 58 = .ok (.iushr, 1) := by decide +kernel
theorem dX8_draw_59 : decode cX8_draw 59 = .ok (.iload_n 3, 1) := by decide +kernel
theorem dX8_draw_60 : decode cX8_draw 60 = .ok (.irem, 1) := by decide +kernel
theorem dX8_draw_61 : decode cX8_draw 61 = .ok (.istore 5, 2) := by decide +kernel
theorem dX8_draw_63 : decode cX8_draw 63 = .ok (.iconst 0, 1) := by decide +kernel
theorem dX8_draw_64 : decode cX8_draw 64 = .ok (.istore 6, 2) := by decide +kernel
theorem dX8_draw_66 : decode cX8_draw 66 = .ok (.aload_n 0, 1) := by decide +kernel
theorem dX8_draw_67 : decode cX8_draw 67 = .ok (.getfield 37, 3) := by decide +kernel
theorem dX8_draw_70 : decode cX8_draw 70 = .ok (.iload 6, 2) := by decide +kernel
theorem dX8_draw_72 : decode cX8_draw 72 = .ok (.baload, 1) := by decide +kernel
theorem dX8_draw_73 : decode cX8_draw 73 = .ok (.ifCond .ne 19, 3) := by decide +kernel
theorem dX8_draw_76 : decode cX8_draw 76 = .ok (.iload 5, 2) := by decide +kernel
theorem dX8_draw_78 : decode cX8_draw 78 = .ok (.aload_n 0, 1) := by decide +kernel
theorem dX8_draw_79 : decode cX8_draw 79 = .ok (.getfield 7, 3) := by decide +kernel
theorem dX8_draw_82 : decode cX8_draw 82 = .ok (.sipush 544, 3) := by decide +kernel
theorem dX8_draw_85 : decode cX8_draw 85 = .ok (.iload 6, 2) := by decide +kernel
theorem dX8_draw_87 : decode cX8_draw 87 = .ok (.iadd, 1) := by decide +kernel
theorem dX8_draw_88 : decode cX8_draw 88 = .ok (.iaload, 1) := by decide +kernel
theorem dX8_draw_89 : decode cX8_draw 89 = .ok (.if_icmp .lt 39, 3) := by decide +kernel
theorem dX8_draw_92 : decode cX8_draw 92 = .ok (.iload 5, 2) := by decide +kernel
theorem dX8_draw_94 : decode cX8_draw 94 = .ok (.aload_n 0, 1) := by decide +kernel
theorem dX8_draw_95 : decode cX8_draw 95 = .ok (.getfield 37, 3) := by decide +kernel
theorem dX8_draw_98 : decode cX8_draw 98 = .ok (.iload 6, 2) := by decide +kernel
theorem dX8_draw_100 : decode cX8_draw 100 = .ok (.baload, 1) := by decide +kernel
theorem dX8_draw_101 : decode cX8_draw 101 = .ok (.ifCond .eq 7, 3) := by decide +kernel
theorem dX8_draw_104 : decode cX8_draw 104 = .ok (.iconst 0, 1) := by decide +kernel
theorem dX8_draw_105 : decode cX8_draw 105 = .ok (.goto 14, 3) := by decide +kernel
theorem dX8_draw_108 : decode cX8_draw 108 = .ok (.aload_n 0, 1) := by decide +kernel
theorem dX8_draw_109 : decode cX8_draw 109 = .ok (.getfield 7, 3) := by decide +kernel
theorem dX8_draw_112 : decode cX8_draw 112 = .ok (.sipush 544, 3) := by decide +kernel
theorem dX8_draw_115 : decode cX8_draw 115 = .ok (.iload 6, 2) := by decide +kernel
theorem dX8_draw_117 : decode cX8_draw 117 = .ok (.iadd, 1) := by decide +kernel
theorem dX8_draw_118 : decode cX8_draw 118 = .ok (.iaload, 1) := by decide +kernel
theorem dX8_draw_119 : decode cX8_draw 119 = .ok (.isub, 1) := by decide +kernel
theorem dX8_draw_120 : decode cX8_draw 120 = .ok (.istore 5, 2) := by decide +kernel
theorem dX8_draw_122 : decode cX8_draw 122 = .ok (.iinc 6 1, 3) := by decide +kernel
theorem dX8_draw_125 : decode cX8_draw 125 = .ok (.goto (-59), 3) := by decide +kernel
theorem dX8_draw_128 : decode cX8_draw 128 = .ok (.aload_n 0, 1) := by decide +kernel
theorem dX8_draw_129 : decode cX8_draw 129 = .ok (.getfield 34, 3) := by decide +kernel
theorem dX8_draw_132 : decode cX8_draw 132 = .ok (.iload 4, 2) := by decide +kernel
theorem dX8_draw_134 : decode cX8_draw 134 = .ok (.iload 6, 2) := by decide +kernel
theorem dX8_draw_136 : decode cX8_draw 136 = .ok (.iastore, 1) := by decide +kernel
theorem dX8_draw_137 : decode cX8_draw 137 = .ok (.aload_n 0, 1) := by decide +kernel
theorem dX8_draw_138 : decode cX8_draw 138 = .ok (.getfield 37, 3) := by decide +kernel
theorem dX8_draw_141 : decode cX8_draw 141 = .ok (.iload 6, 2) := by decide +kernel
theorem dX8_draw_143 : decode cX8_draw 143 = .ok (.iconst 1, 1) := by decide +kernel
theorem dX8_draw_144 : decode cX8_draw 144 = .ok (.bastore, 1) := by decide +kernel
theorem dX8_draw_145 : decode cX8_draw 145 = .ok (.iload_n 3, 1) := by decide +kernel
theorem dX8_draw_146 : decode cX8_draw 146 = .ok (.aload_n 0, 1) := by decide +kernel
theorem dX8_draw_147 : decode cX8_draw 147 = .ok (.getfield 7, 3) := by decide +kernel
theorem dX8_draw_150 : decode cX8_draw 150 = .ok (.sipush 544, 3) := by decide +kernel
theorem dX8_draw_153 : decode cX8_draw 153 = .ok (.iload 6, 2) := by decide +kernel
theorem dX8_draw_155 : decode cX8_draw 155 = .ok (.iadd, 1) := by decide +kernel
theorem dX8_draw_156 : decode cX8_draw 156 = .ok (.iaload, 1) := by decide +kernel
theorem dX8_draw_157 : decode cX8_draw 157 = .ok (.isub, 1) := by decide +kernel
theorem dX8_draw_158 : decode cX8_draw 158 = .ok (.istore_n 3, 1) := by decide +kernel
theorem dX8_draw_159 : decode cX8_draw 159 = .ok (.iinc 4 1, 3) := by decide +kernel
theorem dX8_draw_162 : decode cX8_draw 162 = .ok (.goto (-128), 3) := by decide +kernel
theorem dX8_draw_165 : decode cX8_draw 165 = .ok (.return_, 1) := by decide +kernel
theorem dX8_drawn_0 : decode cX8_drawn 0 = .ok (.iload_n 2, 1) := by decide +kernel
theorem dX8_drawn_1 : decode cX8_drawn 1 = .ok (.ifCond .lt 14, 3) := by decide +kernel
theorem dX8_drawn_4 : decode cX8_drawn 4 = .ok (.iload_n 2, 1) := by decide +kernel
theorem dX8_drawn_5 : decode cX8_drawn 5 = .ok (.aload_n 0, 1) := by decide +kernel
theorem dX8_drawn_6 : decode cX8_drawn 6 = .ok (.getfield 7, 3) := by decide +kernel
theorem dX8_drawn_9 : decode cX8_drawn 9 = .ok (.bipush 6, 2) := by decide +kernel
theorem dX8_drawn_11 : decode cX8_drawn 11 = .ok (.iaload, 1) := by decide +kernel
theorem dX8_drawn_12 : decode cX8_drawn 12 = .ok (.if_icmp .lt 10, 3) := by decide +kernel
theorem dX8_drawn_15 : decode cX8_drawn 15 = .ok (.aload_n 0, 1) := by decide +kernel
theorem dX8_drawn_16 : decode cX8_drawn 16 = .ok (.ldc 67, 2) := by decide +kernel
theorem dX8_drawn_18 : decode cX8_drawn 18 = .ok (.invokevirtual 56, 3) := by decide +kernel
theorem dX8_drawn_21 : decode cX8_drawn 21 = .ok (.ireturn, 1) := by decide +kernel
theorem dX8_drawn_22 : decode cX8_drawn 22 = .ok (.aload_n 0, 1) := by decide +kernel
theorem dX8_drawn_23 : decode cX8_drawn 23 = .ok (.iload_n 1, 1) := by decide +kernel
theorem dX8_drawn_24 : decode cX8_drawn 24 = .ok (.invokevirtual 153, 3) := by decide +kernel
theorem dX8_drawn_27 : decode cX8_drawn 27 = .ok (.aload_n 0, 1) := by decide +kernel
theorem dX8_drawn_28 : decode cX8_drawn 28 = .ok (.getfield 34, 3) := by decide +kernel
theorem dX8_drawn_31 : decode cX8_drawn 31 = .ok (.iload_n 2, 1) := by decide +kernel
theorem dX8_drawn_32 : decode cX8_drawn 32 = .ok (.iaload, 1) := by decide +kernel
theorem dX8_drawn_33 : decode cX8_drawn 33 = .ok (.ireturn, 1) := by decide +kernel
theorem dX8_turn_0 : decode cX8_turn 0 = .ok (.aload_n 0, 1) := by decide +kernel
theorem dX8_turn_1 : decode cX8_turn 1 = .ok (.iload_n 2, 1) := by decide +kernel
theorem dX8_turn_2 : decode cX8_turn 2 = .ok (.invokevirtual 145, 3) := by decide +kernel
theorem dX8_turn_5 : decode cX8_turn 5 = .ok (.ifCond .ne 10, 3) := by decide +kernel
theorem dX8_turn_8 : decode cX8_turn 8 = .ok (.aload_n 0, 1) := by decide +kernel
theorem dX8_turn_9 : decode cX8_turn 9 = .ok (.ldc 67, 2) := by decide +kernel
theorem dX8_turn_11 : decode cX8_turn 11 = .ok (.invokevirtual 56, 3) := by decide +kernel
theorem dX8_turn_14 : decode cX8_turn 14 = .ok (.ireturn, 1) := by decide +kernel
theorem dX8_turn_15 : decode cX8_turn 15 = .ok (.aload_n 0, 1) := by decide +kernel
theorem dX8_turn_16 : decode cX8_turn 16 = .ok (.iload_n 1, 1) := by decide +kernel
theorem dX8_turn_17 : decode cX8_turn 17 = .ok (.invokevirtual 153, 3) := by decide +kernel
theorem dX8_turn_20 : decode cX8_turn 20 = .ok (.iconst 0, 1) := by decide +kernel
theorem dX8_turn_21 : decode cX8_turn 21 = .ok (.istore_n 3, 1) := by decide +kernel
theorem dX8_turn_22 : decode cX8_turn 22 = .ok (.aload_n 0, 1) := by decide +kernel
theorem dX8_turn_23 : decode cX8_turn 23 = .ok (.getfield 34, 3) := by decide +kernel
theorem dX8_turn_26 : decode cX8_turn 26 = .ok (.iload_n 3, 1) := by decide +kernel
theorem dX8_turn_27 : decode cX8_turn 27 = .ok (.iaload, 1) := by decide +kernel
theorem dX8_turn_28 : decode cX8_turn 28 = .ok (.iload_n 2, 1) := by decide +kernel
theorem dX8_turn_29 : decode cX8_turn 29 = .ok (.if_icmp .eq 9, 3) := by decide +kernel
theorem dX8_turn_32 : decode cX8_turn 32 = .ok (.iinc 3 1, 3) := by decide +kernel
theorem dX8_turn_35 : decode cX8_turn 35 = .ok (.goto (-13), 3) := by decide +kernel
theorem dX8_turn_38 : decode cX8_turn 38 = .ok (.iload_n 3, 1) := by decide +kernel
theorem dX8_turn_39 : decode cX8_turn 39 = .ok (.ireturn, 1) := by decide +kernel
theorem dX8_isSheet_0 : decode cX8_isSheet 0 = .ok (.iload_n 0, 1) := by decide +kernel
theorem dX8_isSheet_1 : decode cX8_isSheet 1 = .ok (.iconst 0, 1) := by decide +kernel
theorem dX8_isSheet_2 : decode cX8_isSheet 2 = .ok (.iconst 3, 1) := by decide +kernel
theorem dX8_isSheet_3 : decode cX8_isSheet 3 = .ok (.invokestatic 48, 3) := by decide +kernel
theorem dX8_isSheet_6 : decode cX8_isSheet 6 = .ok (.ireturn, 1) := by decide +kernel
theorem dX8_sheet_0 : decode cX8_sheet 0 = .ok (.iload_n 1, 1) := by decide +kernel
theorem dX8_sheet_1 : decode cX8_sheet 1 = .ok (.invokestatic 156, 3) := by decide +kernel
theorem dX8_sheet_4 : decode cX8_sheet 4 = .ok (.ifCond .eq 25, 3) := by decide +kernel
theorem dX8_sheet_7 : decode cX8_sheet 7 = .ok (.iload_n 2, 1) := by decide +kernel
theorem dX8_sheet_8 : decode cX8_sheet 8 = .ok (.ifCond .eq 28, 3) := by decide +kernel
theorem dX8_sheet_11 : decode cX8_sheet 11 = .ok (.iload_n 2, 1) := by decide +kernel
theorem dX8_sheet_12 : decode cX8_sheet 12 = .ok (.bipush 8, 2) := by decide +kernel
theorem dX8_sheet_14 : decode cX8_sheet 14 = .ok (.if_icmp .eq 22, 3) := by decide +kernel
theorem dX8_sheet_17 : decode cX8_sheet 17 = .ok (.iload_n 2, 1) := by decide +kernel
theorem dX8_sheet_18 : decode cX8_sheet 18 = .ok (.bipush 16, 2) := by decide +kernel
theorem dX8_sheet_20 : decode cX8_sheet 20 = .ok (.if_icmp .eq 16, 3) := by decide +kernel
theorem dX8_sheet_23 : decode cX8_sheet 23 = .ok (.iload_n 2, 1) := by decide +kernel
theorem dX8_sheet_24 : decode cX8_sheet 24 = .ok (.bipush 32, 2) := by decide +kernel
theorem dX8_sheet_26 : decode cX8_sheet 26 = .ok (.if_icmp .eq 10, 3) := by decide +kernel
theorem dX8_sheet_29 : decode cX8_sheet 29 = .ok (.aload_n 0, 1) := by decide +kernel
theorem dX8_sheet_30 : decode cX8_sheet 30 = .ok (.ldc 67, 2) := by decide +kernel
theorem dX8_sheet_32 : decode cX8_sheet 32 = .ok (.invokevirtual 56, 3) := by decide +kernel
theorem dX8_sheet_35 : decode cX8_sheet 35 = .ok (.ireturn, 1) := by decide +kernel
theorem dX8_sheet_36 : decode cX8_sheet 36 = .ok (.iload_n 3, 1) := by decide +kernel
theorem dX8_sheet_37 : decode cX8_sheet 37 = .ok (.ifCond .ge 10, 3) := by decide +kernel
theorem dX8_sheet_40 : decode cX8_sheet 40 = .ok (.aload_n 0, 1) := by decide +kernel
theorem dX8_sheet_41 : decode cX8_sheet 41 = .ok (.ldc 73, 2) := by decide +kernel
theorem dX8_sheet_43 : decode cX8_sheet 43 = .ok (.invokevirtual 56, 3) := by decide +kernel
theorem dX8_sheet_46 : decode cX8_sheet 46 = .ok (.ireturn, 1) := by decide +kernel
theorem dX8_sheet_47 : decode cX8_sheet 47 = .ok (.iload_n 3, 1) := by decide +kernel
theorem dX8_sheet_48 : decode cX8_sheet 48 = .ok (.bipush 40, 2) := by decide +kernel
theorem dX8_sheet_50 : decode cX8_sheet 50 = .ok (.if_icmp .le 10, 3) := by decide +kernel
theorem dX8_sheet_53 : decode cX8_sheet 53 = .ok (.aload_n 0, 1) := by decide +kernel
theorem dX8_sheet_54 : decode cX8_sheet 54 = .ok (.ldc 67, 2) := by decide +kernel
theorem dX8_sheet_56 : decode cX8_sheet 56 = .ok (.invokevirtual 56, 3) := by decide +kernel
theorem dX8_sheet_59 : decode cX8_sheet 59 = .ok (.ireturn, 1) := by decide +kernel
theorem dX8_sheet_60 : decode cX8_sheet 60 = .ok (.aload_n 0, 1) := by decide +kernel
theorem dX8_sheet_61 : decode cX8_sheet 61 = .ok (.getfield 16, 3) := by decide +kernel
theorem dX8_sheet_64 : decode cX8_sheet 64 = .ok (.iload_n 1, 1) := by decide +kernel
theorem dX8_sheet_65 : decode cX8_sheet 65 = .ok (.iload_n 2, 1) := by decide +kernel
theorem dX8_sheet_66 : decode cX8_sheet 66 = .ok (.iastore, 1) := by decide +kernel
theorem dX8_sheet_67 : decode cX8_sheet 67 = .ok (.aload_n 0, 1) := by decide +kernel
theorem dX8_sheet_68 : decode cX8_sheet 68 = .ok (.getfield 19, 3) := by decide +kernel
theorem dX8_sheet_71 : decode cX8_sheet 71 = .ok (.iload_n 1, 1) := by decide +kernel
theorem dX8_sheet_72 : decode cX8_sheet 72 = .ok (.iload_n 2, 1) := by decide +kernel
theorem dX8_sheet_73 : decode cX8_sheet 73 = .ok (.ifCond .ne 7, 3) := by decide +kernel
theorem dX8_sheet_76 : decode cX8_sheet 76 = .ok (.iconst 0, 1) := by decide +kernel
theorem dX8_sheet_77 : decode cX8_sheet 77 = .ok (.goto 4, 3) := by decide +kernel
theorem dX8_sheet_80 : decode cX8_sheet 80 = .ok (.iload_n 3, 1) := by decide +kernel
theorem dX8_sheet_81 : decode cX8_sheet 81 = .ok (.iastore, 1) := by decide +kernel
theorem dX8_sheet_82 : decode cX8_sheet 82 = .ok (.iconst 0, 1) := by decide +kernel
theorem dX8_sheet_83 : decode cX8_sheet 83 = .ok (.istore 4, 2) := by decide +kernel
theorem dX8_sheet_85 : decode cX8_sheet 85 = .ok (.iload 4, 2) := by decide +kernel
theorem dX8_sheet_87 : decode cX8_sheet 87 = .ok (.bipush 40, 2) := by decide +kernel
theorem dX8_sheet_89 : decode cX8_sheet 89 = .ok (.if_icmp .ge 22, 3) := by decide +kernel
theorem dX8_sheet_92 : decode cX8_sheet 92 = .ok (.aload_n 0, 1) := by decide +kernel
theorem dX8_sheet_93 : decode cX8_sheet 93 = .ok (.getfield 22, 3) := by decide +kernel
theorem dX8_sheet_96 : decode cX8_sheet 96 = .ok (.bipush 40, 2) := by decide +kernel
theorem dX8_sheet_98 : decode cX8_sheet 98 = .ok (.iload_n 1, 1) := by decide +kernel
theorem dX8_sheet_99 : decode cX8_sheet 99 = .ok (.imul, 1) := by decide +kernel
theorem dX8_sheet_100 : decode cX8_sheet 100 = .ok (.iload 4, 2) := by decide +kernel
theorem dX8_sheet_102 : decode cX8_sheet 102 = .ok (.iadd, 1) := by decide +kernel
theorem dX8_sheet_103 : decode cX8_sheet 103 = .ok (.iconst 0, 1) := by decide +kernel
theorem dX8_sheet_104 : decode cX8_sheet 104 = .ok (.iastore, 1) := by decide +kernel
theorem dX8_sheet_105 : decode cX8_sheet 105 = .ok (.iinc 4 1, 3) := by decide +kernel
theorem dX8_sheet_108 : decode cX8_sheet 108 = .ok (.goto (-23), 3) := by decide +kernel
theorem dX8_sheet_111 : decode cX8_sheet 111 = .ok (.aload_n 0, 1) := by decide +kernel
theorem dX8_sheet_112 : decode cX8_sheet 112 = .ok (.getfield 19, 3) := by decide +kernel
theorem dX8_sheet_115 : decode cX8_sheet 115 = .ok (.iload_n 1, 1) := by decide +kernel
theorem dX8_sheet_116 : decode cX8_sheet 116 = .ok (.iaload, 1) := by decide +kernel
theorem dX8_sheet_117 : decode cX8_sheet 117 = .ok (.ireturn, 1) := by decide +kernel
theorem dX8_put_0 : decode cX8_put 0 = .ok (.iload_n 1, 1) := by decide +kernel
theorem dX8_put_1 : decode cX8_put 1 = .ok (.invokestatic 156, 3) := by decide +kernel
theorem dX8_put_4 : decode cX8_put 4 = .ok (.ifCond .ne 10, 3) := by decide +kernel
theorem dX8_put_7 : decode cX8_put 7 = .ok (.aload_n 0, 1) := by decide +kernel
theorem dX8_put_8 : decode cX8_put 8 = .ok (.ldc 67, 2) := by decide +kernel
theorem dX8_put_10 : decode cX8_put 10 = .ok (.invokevirtual 56, 3) := by decide +kernel
theorem dX8_put_13 : decode cX8_put 13 = .ok (.ireturn, 1) := by decide +kernel
theorem dX8_put_14 : decode cX8_put 14 = .ok (.aload_n 0, 1) := by decide +kernel
theorem dX8_put_15 : decode cX8_put 15 = .ok (.getfield 16, 3) := by decide +kernel
theorem dX8_put_18 : decode cX8_put 18 = .ok (.iload_n 1, 1) := by decide +kernel
theorem dX8_put_19 : decode cX8_put 19 = .ok (.iaload, 1) := by decide +kernel
theorem dX8_put_20 : decode cX8_put 20 = .ok (.ifCond .ne 10, 3) := by decide +kernel
theorem dX8_put_23 : decode cX8_put 23 = .ok (.aload_n 0, 1) := by decide +kernel
theorem dX8_put_24 : decode cX8_put 24 = .ok (.ldc 159, 2) := by decide +kernel
theorem dX8_put_26 : decode cX8_put 26 = .ok (.invokevirtual 56, 3) := by decide +kernel
theorem dX8_put_29 : decode cX8_put 29 = .ok (.ireturn, 1) := by decide +kernel
theorem dX8_put_30 : decode cX8_put 30 = .ok (.iload_n 2, 1) := by decide +kernel
theorem dX8_put_31 : decode cX8_put 31 = .ok (.ifCond .lt 13, 3) := by decide +kernel
theorem dX8_put_34 : decode cX8_put 34 = .ok (.iload_n 2, 1) := by decide +kernel
theorem dX8_put_35 : decode cX8_put 35 = .ok (.aload_n 0, 1) := by decide +kernel
theorem dX8_put_36 : decode cX8_put 36 = .ok (.getfield 19, 3) := by decide +kernel
theorem dX8_put_39 : decode cX8_put 39 = .ok (.iload_n 1, 1) := by decide +kernel
theorem dX8_put_40 : decode cX8_put 40 = .ok (.iaload, 1) := by decide +kernel
theorem dX8_put_41 : decode cX8_put 41 = .ok (.if_icmp .lt 10, 3) := by decide +kernel
theorem dX8_put_44 : decode cX8_put 44 = .ok (.aload_n 0, 1) := by decide +kernel
theorem dX8_put_45 : decode cX8_put 45 = .ok (.ldc 67, 2) := by decide +kernel
theorem dX8_put_47 : decode cX8_put 47 = .ok (.invokevirtual 56, 3) := by decide +kernel
theorem dX8_put_50 : decode cX8_put 50 = .ok (.ireturn, 1) := by decide +kernel
theorem dX8_put_51 : decode cX8_put 51 = .ok (.aload_n 0, 1) := by decide +kernel
theorem dX8_put_52 : decode cX8_put 52 = .ok (.getfield 22, 3) := by decide +kernel
theorem dX8_put_55 : decode cX8_put 55 = .ok (.bipush 40, 2) := by decide +kernel
theorem dX8_put_57 : decode cX8_put 57 = .ok (.iload_n 1, 1) := by decide +kernel
theorem dX8_put_58 : decode cX8_put 58 = .ok (.imul, 1) := by decide +kernel
theorem dX8_put_59 : decode cX8_put 59 = .ok (.iload_n 2, 1) := by decide +kernel
theorem dX8_put_60 : decode cX8_put 60 = .ok (.iadd, 1) := by decide +kernel
theorem dX8_put_61 : decode cX8_put 61 = .ok (.aload_n 0, 1) := by decide +kernel
theorem dX8_put_62 : decode cX8_put 62 = .ok (.getfield 16, 3) := by decide +kernel
theorem dX8_put_65 : decode cX8_put 65 = .ok (.iload_n 1, 1) := by decide +kernel
theorem dX8_put_66 : decode cX8_put 66 = .ok (.iaload, 1) := by decide +kernel
theorem dX8_put_67 : decode cX8_put 67 = .ok (.bipush 8, 2) := by decide +kernel
theorem dX8_put_69 : decode cX8_put 69 = .ok (.if_icmp .ne 8, 3) := by decide +kernel
theorem dX8_put_72 : decode cX8_put 72 = .ok (.iload_n 3, 1) := by decide +kernel
theorem dX8_put_73 : decode cX8_put 73 = .ok (.i2b, 1) := by decide +kernel
theorem dX8_put_74 : decode cX8_put 74 = .ok (.goto 20, 3) := by decide +kernel
theorem dX8_put_77 : decode cX8_put 77 = .ok (.aload_n 0, 1) := by decide +kernel
theorem dX8_put_78 : decode cX8_put 78 = .ok (.getfield 16, 3) := by decide +kernel
theorem dX8_put_81 : decode cX8_put 81 = .ok (.iload_n 1, 1) := by decide +kernel
theorem dX8_put_82 : decode cX8_put 82 = .ok (.iaload, 1) := by decide +kernel
theorem dX8_put_83 : decode cX8_put 83 = .ok (.bipush 16, 2) := by decide +kernel
theorem dX8_put_85 : decode cX8_put 85 = .ok (.if_icmp .ne 8, 3) := by decide +kernel
theorem dX8_put_88 : decode cX8_put 88 = .ok (.iload_n 3, 1) := by decide +kernel
theorem dX8_put_89 : decode cX8_put 89 = .ok (.i2s, 1) := by decide +kernel
theorem dX8_put_90 : decode cX8_put 90 = .ok (.goto 4, 3) := by decide +kernel
theorem dX8_put_93 : decode cX8_put 93 = .ok (.iload_n 3, 1) := by decide +kernel
theorem dX8_put_94 : decode cX8_put 94 = .ok (.iastore, 1) := by decide +kernel
theorem dX8_put_95 : decode cX8_put 95 = .ok (.iconst 0, 1) := by decide +kernel
theorem dX8_put_96 : decode cX8_put 96 = .ok (.ireturn, 1) := by decide +kernel
theorem dX8_hasPart_0 : decode cX8_hasPart 0 = .ok (.iload_n 2, 1) := by decide +kernel
theorem dX8_hasPart_1 : decode cX8_hasPart 1 = .ok (.ifCond .lt 33, 3) := by decide +kernel
theorem dX8_hasPart_4 : decode cX8_hasPart 4 = .ok (.iload_n 3, 1) := by decide +kernel
theorem dX8_hasPart_5 : decode cX8_hasPart 5 = .ok (.ifCond .lt 29, 3) := by decide +kernel
theorem dX8_hasPart_8 : decode cX8_hasPart 8 = .ok (.iload_n 3, 1) := by decide +kernel
theorem dX8_hasPart_9 : decode cX8_hasPart 9 = .ok (.aload_n 0, 1) := by decide +kernel
theorem dX8_hasPart_10 : decode cX8_hasPart 10 = .ok (.getfield 19, 3) := by decide +kernel
theorem dX8_hasPart_13 : decode cX8_hasPart 13 = .ok (.iload_n 1, 1) := by decide +kernel
theorem dX8_hasPart_14 : decode cX8_hasPart 14 = .ok (.iaload, 1) := by decide +kernel
theorem dX8_hasPart_15 : decode cX8_hasPart 15 = .ok (.if_icmp .gt 19, 3) := by decide +kernel
theorem dX8_hasPart_18 : decode cX8_hasPart 18 = .ok (.iload_n 2, 1) := by decide +kernel
theorem dX8_hasPart_19 : decode cX8_hasPart 19 = .ok (.aload_n 0, 1) := by decide +kernel
theorem dX8_hasPart_20 : decode cX8_hasPart 20 = .ok (.getfield 19, 3) := by decide +kernel
theorem dX8_hasPart_23 : decode cX8_hasPart 23 = .ok (.iload_n 1, 1) := by decide +kernel
theorem dX8_hasPart_24 : decode cX8_hasPart 24 = .ok (.iaload, 1) := by decide +kernel
theorem dX8_hasPart_25 : decode cX8_hasPart 25 = .ok (.iload_n 3, 1) := by decide +kernel
theorem dX8_hasPart_26 : decode cX8_hasPart 26 = .ok (.isub, 1) := by decide +kernel
theorem dX8_hasPart_27 : decode cX8_hasPart 27 = .ok (.if_icmp .gt 7, 3) := by decide +kernel
theorem dX8_hasPart_30 : decode cX8_hasPart 30 = .ok (.iconst 1, 1) := by decide +kernel
theorem dX8_hasPart_31 : decode cX8_hasPart 31 = .ok (.goto 4, 3) := by decide +kernel
theorem dX8_hasPart_34 : decode cX8_hasPart 34 = .ok (.iconst 0, 1) := by decide +kernel
theorem dX8_hasPart_35 : decode cX8_hasPart 35 = .ok (.ireturn, 1) := by decide +kernel
theorem dX8_copy_0 : decode cX8_copy 0 = .ok (.iload_n 1, 1) := by decide +kernel
theorem dX8_copy_1 : decode cX8_copy 1 = .ok (.invokestatic 156, 3) := by decide +kernel
theorem dX8_copy_4 : decode cX8_copy 4 = .ok (.ifCond .eq 10, 3) := by decide +kernel
theorem dX8_copy_7 : decode cX8_copy 7 = .ok (.iload_n 3, 1) := by decide +kernel
theorem dX8_copy_8 : decode cX8_copy 8 = .ok (.invokestatic 156, 3) := by decide +kernel
theorem dX8_copy_11 : decode cX8_copy 11 = .ok (.ifCond .ne 10, 3) := by decide +kernel
theorem dX8_copy_14 : decode cX8_copy 14 = .ok (.aload_n 0, 1) := by decide +kernel
theorem dX8_copy_15 : decode cX8_copy 15 = .ok (.ldc 67, 2) := by decide +kernel
theorem dX8_copy_17 : decode cX8_copy 17 = .ok (.invokevirtual 56, 3) := by decide +kernel
theorem dX8_copy_20 : decode cX8_copy 20 = .ok (.ireturn, 1) := by decide +kernel
theorem dX8_copy_21 : decode cX8_copy 21 = .ok (.aload_n 0, 1) := by decide +kernel
theorem dX8_copy_22 : decode cX8_copy 22 = .ok (.getfield 16, 3) := by decide +kernel
theorem dX8_copy_25 : decode cX8_copy 25 = .ok (.iload_n 1, 1) := by decide +kernel
theorem dX8_copy_26 : decode cX8_copy 26 = .ok (.iaload, 1) := by decide +kernel
theorem dX8_copy_27 : decode cX8_copy 27 = .ok (.ifCond .eq 12, 3) := by decide +kernel
theorem dX8_copy_30 : decode cX8_copy 30 = .ok (.aload_n 0, 1) := by decide +kernel
theorem dX8_copy_31 : decode cX8_copy 31 = .ok (.getfield 16, 3) := by decide +kernel
theorem dX8_copy_34 : decode cX8_copy 34 = .ok (.iload_n 3, 1) := by decide +kernel
theorem dX8_copy_35 : decode cX8_copy 35 = .ok (.iaload, 1) := by decide +kernel
theorem dX8_copy_36 : decode cX8_copy 36 = .ok (.ifCond .ne 10, 3) := by decide +kernel
theorem dX8_copy_39 : decode cX8_copy 39 = .ok (.aload_n 0, 1) := by decide +kernel
theorem dX8_copy_40 : decode cX8_copy 40 = .ok (.ldc 159, 2) := by decide +kernel
theorem dX8_copy_42 : decode cX8_copy 42 = .ok (.invokevirtual 56, 3) := by decide +kernel
theorem dX8_copy_45 : decode cX8_copy 45 = .ok (.ireturn, 1) := by decide +kernel
theorem dX8_copy_46 : decode cX8_copy 46 = .ok (.aload_n 0, 1) := by decide +kernel
theorem dX8_copy_47 : decode cX8_copy 47 = .ok (.getfield 16, 3) := by decide +kernel
theorem dX8_copy_50 : decode cX8_copy 50 = .ok (.iload_n 1, 1) := by decide +kernel
theorem dX8_copy_51 : decode cX8_copy 51 = .ok (.iaload, 1) := by decide +kernel
theorem dX8_copy_52 : decode cX8_copy 52 = .ok (.aload_n 0, 1) := by decide +kernel
theorem dX8_copy_53 : decode cX8_copy 53 = .ok (.getfield 16, 3) := by decide +kernel
theorem dX8_copy_56 : decode cX8_copy 56 = .ok (.iload_n 3, 1) := by decide +kernel
theorem dX8_copy_57 : decode cX8_copy 57 = .ok (.iaload, 1) := by decide +kernel
theorem dX8_copy_58 : decode cX8_copy 58 = .ok (.if_icmp .eq 10, 3) := by decide +kernel
theorem dX8_copy_61 : decode cX8_copy 61 = .ok (.aload_n 0, 1) := by decide +kernel
theorem dX8_copy_62 : decode cX8_copy 62 = .ok (.ldc 97, 2) := by decide +kernel
theorem dX8_copy_64 : decode cX8_copy 64 = .ok (.invokevirtual 56, 3) := by decide +kernel
theorem dX8_copy_67 : decode cX8_copy 67 = .ok (.ireturn, 1) := by decide +kernel
theorem dX8_copy_68 : decode cX8_copy 68 = .ok (.aload_n 0, 1) := by decide +kernel
theorem dX8_copy_69 : decode cX8_copy 69 = .ok (.iload_n 1, 1) := by decide +kernel
theorem dX8_copy_70 : decode cX8_copy 70 = .ok (.iload_n 2, 1) := by decide +kernel
theorem dX8_copy_71 : decode cX8_copy 71 = .ok (.iload 5, 2) := by decide +kernel
theorem dX8_copy_73 : decode cX8_copy 73 = .ok (.invokevirtual 160, 3) := by decide +kernel
theorem dX8_copy_76 : decode cX8_copy 76 = .ok (.ifCond .eq 15, 3) := by decide +kernel
theorem dX8_copy_79 : decode cX8_copy 79 = .ok (.aload_n 0, 1) := by decide +kernel
theorem dX8_copy_80 : decode cX8_copy 80 = .ok (.iload_n 3, 1) := by decide +kernel
theorem dX8_copy_81 : decode cX8_copy 81 = .ok (.iload 4, 2) := by decide +kernel
theorem dX8_copy_83 : decode cX8_copy 83 = .ok (.iload 5, 2) := by decide +kernel
theorem dX8_copy_85 : decode cX8_copy 85 = .ok (.invokevirtual 160, 3) := by decide +kernel
theorem dX8_copy_88 : decode cX8_copy 88 = .ok (.ifCond .ne 10, 3) := by decide +kernel
theorem dX8_copy_91 : decode cX8_copy 91 = .ok (.aload_n 0, 1) := by decide +kernel
theorem dX8_copy_92 : decode cX8_copy 92 = .ok (.ldc 67, 2) := by decide +kernel
theorem dX8_copy_94 : decode cX8_copy 94 = .ok (.invokevirtual 56, 3) := by decide +kernel
theorem dX8_copy_97 : decode cX8_copy 97 = .ok (.ireturn, 1) := by decide +kernel
theorem dX8_copy_98 : decode cX8_copy 98 = .ok (.iconst 0, 1) := by decide +kernel
theorem dX8_copy_99 : decode cX8_copy 99 = .ok (.istore 6, 2) := by decide +kernel
theorem dX8_copy_101 : decode cX8_copy 101 = .ok (.iload 6, 2) := by decide +kernel
theorem dX8_copy_103 : decode cX8_copy 103 = .ok (.iload 5, 2) := by decide +kernel
theorem dX8_copy_105 : decode cX8_copy 105 = .ok (.if_icmp .ge 30, 3) := by decide +kernel
theorem dX8_copy_108 : decode cX8_copy 108 = .ok (.aload_n 0, 1) := by decide +kernel
theorem dX8_copy_109 : decode cX8_copy 109 = .ok (.getfield 41, 3) := by decide +kernel
theorem dX8_copy_112 : decode cX8_copy 112 = .ok (.iload 6, 2) := by decide +kernel
theorem dX8_copy_114 : decode cX8_copy 114 = .ok (.aload_n 0, 1) := by decide +kernel
theorem dX8_copy_115 : decode cX8_copy 115 = .ok (.getfield 22, 3) := by decide +kernel
theorem dX8_copy_118 : decode cX8_copy 118 = .ok (.bipush 40, 2) := by decide +kernel
theorem dX8_copy_120 : decode cX8_copy 120 = .ok (.iload_n 1, 1) := by decide +kernel
theorem dX8_copy_121 : decode cX8_copy 121 = .ok (.imul, 1) := by decide +kernel
theorem dX8_copy_122 : decode cX8_copy 122 = .ok (.iload_n 2, 1) := by decide +kernel
theorem dX8_copy_123 : decode cX8_copy 123 = .ok (.iadd, 1) := by decide +kernel
theorem dX8_copy_124 : decode cX8_copy 124 = .ok (.iload 6, 2) := by decide +kernel
theorem dX8_copy_126 : decode cX8_copy 126 = .ok (.iadd, 1) := by decide +kernel
theorem dX8_copy_127 : decode cX8_copy 127 = .ok (.iaload, 1) := by decide +kernel
theorem dX8_copy_128 : decode cX8_copy 128 = .ok (.iastore, 1) := by decide +kernel
theorem dX8_copy_129 : decode cX8_copy 129 = .ok (.iinc 6 1, 3) := by decide +kernel
theorem dX8_copy_132 : decode cX8_copy 132 = .ok (.goto (-31), 3) := by decide +kernel
theorem dX8_copy_135 : decode cX8_copy 135 = .ok (.iconst 0, 1) := by decide +kernel
theorem dX8_copy_136 : decode cX8_copy 136 = .ok (.istore 6, 2) := by decide +kernel
theorem dX8_copy_138 : decode cX8_copy 138 = .ok (.iload 6, 2) := by decide +kernel
theorem dX8_copy_140 : decode cX8_copy 140 = .ok (.iload 5, 2) := by decide +kernel
theorem dX8_copy_142 : decode cX8_copy 142 = .ok (.if_icmp .ge 31, 3) := by decide +kernel
theorem dX8_copy_145 : decode cX8_copy 145 = .ok (.aload_n 0, 1) := by decide +kernel
theorem dX8_copy_146 : decode cX8_copy 146 = .ok (.getfield 22, 3) := by decide +kernel
theorem dX8_copy_149 : decode cX8_copy 149 = .ok (.bipush 40, 2) := by decide +kernel
theorem dX8_copy_151 : decode cX8_copy 151 = .ok (.iload_n 3, 1) := by decide +kernel
theorem dX8_copy_152 : decode cX8_copy 152 = .ok (.imul, 1) := by decide +kernel
theorem dX8_copy_153 : decode cX8_copy 153 = .ok (.iload 4, 2) := by decide +kernel
theorem dX8_copy_155 : decode cX8_copy 155 = .ok (.iadd, 1) := by decide +kernel
theorem dX8_copy_156 : decode cX8_copy 156 = .ok (.iload 6, 2) := by decide +kernel
theorem dX8_copy_158 : decode cX8_copy 158 = .ok (.iadd, 1) := by decide +kernel
theorem dX8_copy_159 : decode cX8_copy 159 = .ok (.aload_n 0, 1) := by decide +kernel
theorem dX8_copy_160 : decode cX8_copy 160 = .ok (.getfield 41, 3) := by decide +kernel
theorem dX8_copy_163 : decode cX8_copy 163 = .ok (.iload 6, 2) := by decide +kernel
theorem dX8_copy_165 : decode cX8_copy 165 = .ok (.iaload, 1) := by decide +kernel
theorem dX8_copy_166 : decode cX8_copy 166 = .ok (.iastore, 1) := by decide +kernel
theorem dX8_copy_167 : decode cX8_copy 167 = .ok (.iinc 6 1, 3) := by decide +kernel
theorem dX8_copy_170 : decode cX8_copy 170 = .ok (.goto (-32), 3) := by decide +kernel
theorem dX8_copy_173 : decode cX8_copy 173 = .ok (.iload 5, 2) := by decide +kernel
theorem dX8_copy_175 : decode cX8_copy 175 = .ok (.ireturn, 1) := by decide +kernel
theorem dX8_let_0 : decode cX8_let 0 = .ok (.iload_n 1, 1) := by decide +kernel
theorem dX8_let_1 : decode cX8_let 1 = .ok (.invokestatic 74, 3) := by decide +kernel
theorem dX8_let_4 : decode cX8_let 4 = .ok (.ifCond .eq 10, 3) := by decide +kernel
theorem dX8_let_7 : decode cX8_let 7 = .ok (.iload_n 2, 1) := by decide +kernel
theorem dX8_let_8 : decode cX8_let 8 = .ok (.invokestatic 156, 3) := by decide +kernel
theorem dX8_let_11 : decode cX8_let 11 = .ok (.ifCond .ne 10, 3) := by decide +kernel
theorem dX8_let_14 : decode cX8_let 14 = .ok (.aload_n 0, 1) := by decide +kernel
theorem dX8_let_15 : decode cX8_let 15 = .ok (.ldc 67, 2) := by decide +kernel
theorem dX8_let_17 : decode cX8_let 17 = .ok (.invokevirtual 56, 3) := by decide +kernel
theorem dX8_let_20 : decode cX8_let 20 = .ok (.ireturn, 1) := by decide +kernel
theorem dX8_let_21 : decode cX8_let 21 = .ok (.aload_n 0, 1) := by decide +kernel
theorem dX8_let_22 : decode cX8_let 22 = .ok (.getfield 16, 3) := by decide +kernel
theorem dX8_let_25 : decode cX8_let 25 = .ok (.iload_n 2, 1) := by decide +kernel
theorem dX8_let_26 : decode cX8_let 26 = .ok (.iaload, 1) := by decide +kernel
theorem dX8_let_27 : decode cX8_let 27 = .ok (.ifCond .ne 10, 3) := by decide +kernel
theorem dX8_let_30 : decode cX8_let 30 = .ok (.aload_n 0, 1) := by decide +kernel
theorem dX8_let_31 : decode cX8_let 31 = .ok (.ldc 159, 2) := by decide +kernel
theorem dX8_let_33 : decode cX8_let 33 = .ok (.invokevirtual 56, 3) := by decide +kernel
theorem dX8_let_36 : decode cX8_let 36 = .ok (.ireturn, 1) := by decide +kernel
theorem dX8_let_37 : decode cX8_let 37 = .ok (.iconst 4, 1) := by decide +kernel
theorem dX8_let_38 : decode cX8_let 38 = .ok (.iload_n 1, 1) := by decide +kernel
theorem dX8_let_39 : decode cX8_let 39 = .ok (.imul, 1) := by decide +kernel
theorem dX8_let_40 : decode cX8_let 40 = .ok (.aload_n 0, 1) := by decide +kernel
theorem dX8_let_41 : decode cX8_let 41 = .ok (.getfield 19, 3) := by decide +kernel
theorem dX8_let_44 : decode cX8_let 44 = .ok (.iload_n 2, 1) := by decide +kernel
theorem dX8_let_45 : decode cX8_let 45 = .ok (.iaload, 1) := by decide +kernel
theorem dX8_let_46 : decode cX8_let 46 = .ok (.iadd, 1) := by decide +kernel
theorem dX8_let_47 : decode cX8_let 47 = .ok (.bipush 120, 2) := by decide +kernel
theorem dX8_let_49 : decode cX8_let 49 = .ok (.if_icmp .le 10, 3) := by decide +kernel
theorem dX8_let_52 : decode cX8_let 52 = .ok (.aload_n 0, 1) := by decide +kernel
theorem dX8_let_53 : decode cX8_let 53 = .ok (.ldc 73, 2) := by decide +kernel
theorem dX8_let_55 : decode cX8_let 55 = .ok (.invokevirtual 56, 3) := by decide +kernel
theorem dX8_let_58 : decode cX8_let 58 = .ok (.ireturn, 1) := by decide +kernel
theorem dX8_let_59 : decode cX8_let 59 = .ok (.iconst 0, 1) := by decide +kernel
theorem dX8_let_60 : decode cX8_let 60 = .ok (.istore_n 3, 1) := by decide +kernel
theorem dX8_let_61 : decode cX8_let 61 = .ok (.iload_n 3, 1) := by decide +kernel
theorem dX8_let_62 : decode cX8_let 62 = .ok (.aload_n 0, 1) := by decide +kernel
theorem dX8_let_63 : decode cX8_let 63 = .ok (.getfield 19, 3) := by decide +kernel
theorem dX8_let_66 : decode cX8_let 66 = .ok (.iload_n 2, 1) := by decide +kernel
theorem dX8_let_67 : decode cX8_let 67 = .ok (.iaload, 1) := by decide +kernel
theorem dX8_let_68 : decode cX8_let 68 = .ok (.if_icmp .ge 33, 3) := by decide +kernel
theorem dX8_let_71 : decode cX8_let 71 = .ok (.aload_n 0, 1) := by decide +kernel
theorem dX8_let_72 : decode cX8_let 72 = .ok (.getfield 22, 3) := by decide +kernel
theorem dX8_let_75 : decode cX8_let 75 = .ok (.bipush 40, 2) := by decide +kernel
theorem dX8_let_77 : decode cX8_let 77 = .ok (.iload_n 2, 1) := by decide +kernel
theorem dX8_let_78 : decode cX8_let 78 = .ok (.imul, 1) := by decide +kernel
theorem dX8_let_79 : decode cX8_let 79 = .ok (.iload_n 3, 1) := by decide +kernel
theorem dX8_let_80 : decode cX8_let 80 = .ok (.iadd, 1) := by decide +kernel
theorem dX8_let_81 : decode cX8_let 81 = .ok (.iaload, 1) := by decide +kernel
theorem dX8_let_82 : decode cX8_let 82 = .ok (.invokestatic 69, 3) := by decide +kernel
theorem dX8_let_85 : decode cX8_let 85 = .ok (.ifCond .ne 10, 3) := by decide +kernel
theorem dX8_let_88 : decode cX8_let 88 = .ok (.aload_n 0, 1) := by decide +kernel
theorem dX8_let_89 : decode cX8_let 89 = .ok (.ldc 67, 2) := by decide +kernel
theorem dX8_let_91 : decode cX8_let 91 = .ok (.invokevirtual 56, 3) := by decide +kernel
theorem dX8_let_94 : decode cX8_let 94 = .ok (.ireturn, 1) := by decide +kernel
theorem dX8_let_95 : decode cX8_let 95 = .ok (.iinc 3 1, 3) := by decide +kernel
theorem dX8_let_98 : decode cX8_let 98 = .ok (.goto (-37), 3) := by decide +kernel
theorem dX8_let_101 : decode cX8_let 101 = .ok (.aload_n 0, 1) := by decide +kernel
theorem dX8_let_102 : decode cX8_let 102 = .ok (.invokevirtual 60, 3) := by decide +kernel
theorem dX8_let_105 : decode cX8_let 105 = .ok (.iconst 0, 1) := by decide +kernel
theorem dX8_let_106 : decode cX8_let 106 = .ok (.istore_n 3, 1) := by decide +kernel
theorem dX8_let_107 : decode cX8_let 107 = .ok (.iload_n 3, 1) := by decide +kernel
theorem dX8_let_108 : decode cX8_let 108 = .ok (.aload_n 0, 1) := by decide +kernel
theorem dX8_let_109 : decode cX8_let 109 = .ok (.getfield 19, 3) := by decide +kernel
theorem dX8_let_112 : decode cX8_let 112 = .ok (.iload_n 2, 1) := by decide +kernel
theorem dX8_let_113 : decode cX8_let 113 = .ok (.iaload, 1) := by decide +kernel
theorem dX8_let_114 : decode cX8_let 114 = .ok (.if_icmp .ge 33, 3) := by decide +kernel
theorem dX8_let_117 : decode cX8_let 117 = .ok (.aload_n 0, 1) := by decide +kernel
theorem dX8_let_118 : decode cX8_let 118 = .ok (.getfield 7, 3) := by decide +kernel
theorem dX8_let_121 : decode cX8_let 121 = .ok (.bipush 74, 2) := by decide +kernel
theorem dX8_let_123 : decode cX8_let 123 = .ok (.iconst 4, 1) := by decide +kernel
theorem dX8_let_124 : decode cX8_let 124 = .ok (.iload_n 1, 1) := by decide +kernel
theorem dX8_let_125 : decode cX8_let 125 = .ok (.imul, 1) := by decide +kernel
theorem dX8_let_126 : decode cX8_let 126 = .ok (.iadd, 1) := by decide +kernel
theorem dX8_let_127 : decode cX8_let 127 = .ok (.iload_n 3, 1) := by decide +kernel
theorem dX8_let_128 : decode cX8_let 128 = .ok (.iadd, 1) := by decide +kernel
theorem dX8_let_129 : decode cX8_let 129 = .ok (.aload_n 0, 1) := by decide +kernel
theorem dX8_let_130 : decode cX8_let 130 = .ok (.getfield 22, 3) := by decide +kernel
theorem dX8_let_133 : decode cX8_let 133 = .ok (.bipush 40, 2) := by decide +kernel
theorem dX8_let_135 : decode cX8_let 135 = .ok (.iload_n 2, 1) := by decide +kernel
theorem dX8_let_136 : decode cX8_let 136 = .ok (.imul, 1) := by decide +kernel
theorem dX8_let_137 : decode cX8_let 137 = .ok (.iload_n 3, 1) := by decide +kernel
theorem dX8_let_138 : decode cX8_let 138 = .ok (.iadd, 1) := by decide +kernel
theorem dX8_let_139 : decode cX8_let 139 = .ok (.iaload, 1) := by decide +kernel
theorem dX8_let_140 : decode cX8_let 140 = .ok (.iastore, 1) := by decide +kernel
theorem dX8_let_141 : decode cX8_let 141 = .ok (.iinc 3 1, 3) := by decide +kernel
theorem dX8_let_144 : decode cX8_let 144 = .ok (.goto (-37), 3) := by decide +kernel
theorem dX8_let_147 : decode cX8_let 147 = .ok (.aload_n 0, 1) := by decide +kernel
theorem dX8_let_148 : decode cX8_let 148 = .ok (.getfield 19, 3) := by decide +kernel
theorem dX8_let_151 : decode cX8_let 151 = .ok (.iload_n 2, 1) := by decide +kernel
theorem dX8_let_152 : decode cX8_let 152 = .ok (.iaload, 1) := by decide +kernel
theorem dX8_let_153 : decode cX8_let 153 = .ok (.ireturn, 1) := by decide +kernel
theorem dX8_all_0 : decode cX8_all 0 = .ok (.iload_n 1, 1) := by decide +kernel
theorem dX8_all_1 : decode cX8_all 1 = .ok (.tableswitch 80 0 5 #[39, 46, 53, 60, 67, 75], 39) := by decide +kernel
theorem dX8_all_40 : decode cX8_all 40 = .ok (.aload_n 0, 1) := by decide +kernel
theorem dX8_all_41 : decode cX8_all 41 = .ok (.getfield 7, 3) := by decide +kernel
theorem dX8_all_44 : decode cX8_all 44 = .ok (.iconst 2, 1) := by decide +kernel
theorem dX8_all_45 : decode cX8_all 45 = .ok (.iaload, 1) := by decide +kernel
theorem dX8_all_46 : decode cX8_all 46 = .ok (.ireturn, 1) := by decide +kernel
theorem dX8_all_47 : decode cX8_all 47 = .ok (.aload_n 0, 1) := by decide +kernel
theorem dX8_all_48 : decode cX8_all 48 = .ok (.getfield 7, 3) := by decide +kernel
theorem dX8_all_51 : decode cX8_all 51 = .ok (.iconst 3, 1) := by decide +kernel
theorem dX8_all_52 : decode cX8_all 52 = .ok (.iaload, 1) := by decide +kernel
theorem dX8_all_53 : decode cX8_all 53 = .ok (.ireturn, 1) := by decide +kernel
theorem dX8_all_54 : decode cX8_all 54 = .ok (.aload_n 0, 1) := by decide +kernel
theorem dX8_all_55 : decode cX8_all 55 = .ok (.getfield 7, 3) := by decide +kernel
theorem dX8_all_58 : decode cX8_all 58 = .ok (.iconst 4, 1) := by decide +kernel
theorem dX8_all_59 : decode cX8_all 59 = .ok (.iaload, 1) := by decide +kernel
theorem dX8_all_60 : decode cX8_all 60 = .ok (.ireturn, 1) := by decide +kernel
theorem dX8_all_61 : decode cX8_all 61 = .ok (.aload_n 0, 1) := by decide +kernel
theorem dX8_all_62 : decode cX8_all 62 = .ok (.getfield 7, 3) := by decide +kernel
theorem dX8_all_65 : decode cX8_all 65 = .ok (.iconst 5, 1) := by decide +kernel
theorem dX8_all_66 : decode cX8_all 66 = .ok (.iaload, 1) := by decide +kernel
theorem dX8_all_67 : decode cX8_all 67 = .ok (.ireturn, 1) := by decide +kernel
theorem dX8_all_68 : decode cX8_all 68 = .ok (.aload_n 0, 1) := by decide +kernel
theorem dX8_all_69 : decode cX8_all 69 = .ok (.getfield 7, 3) := by decide +kernel
theorem dX8_all_72 : decode cX8_all 72 = .ok (.bipush 6, 2) := by decide +kernel
theorem dX8_all_74 : decode cX8_all 74 = .ok (.iaload, 1) := by decide +kernel
theorem dX8_all_75 : decode cX8_all 75 = .ok (.ireturn, 1) := by decide +kernel
theorem dX8_all_76 : decode cX8_all 76 = .ok (.aload_n 0, 1) := by decide +kernel
theorem dX8_all_77 : decode cX8_all 77 = .ok (.getfield 44, 3) := by decide +kernel
theorem dX8_all_80 : decode cX8_all 80 = .ok (.ireturn, 1) := by decide +kernel
theorem dX8_all_81 : decode cX8_all 81 = .ok (.aload_n 0, 1) := by decide +kernel
theorem dX8_all_82 : decode cX8_all 82 = .ok (.ldc 67, 2) := by decide +kernel
theorem dX8_all_84 : decode cX8_all 84 = .ok (.invokevirtual 56, 3) := by decide +kernel
theorem dX8_all_87 : decode cX8_all 87 = .ok (.ireturn, 1) := by decide +kernel
end
section
/-! The abstract heap: cells 0 .. n-1 made since the law began, their shapes, their ints, their references. A judgement Xj over it, and a rule an instruction. -/
/-- the words of the tables that a callee may be given -/
def tb : List Cond := lw_tbl.filter goodWord
theorem in_tb {w : Cond} (i : Nat) (h : lw_tbl[i]? = some w) (hg : goodWord w = true) : w ∈ tb := List.mem_filter.mpr ⟨List.mem_of_getElem? h, hg⟩
abbrev vwCl : List vw_C := [(RX0, TX0, 3), (RX1, TX1, 3), (RX2, TX2, 4), (RX3, TX3, 5), (RX4, TX4, 9), (RX5, TX5, 3), (RX6, TX6, 3), (RX7, TX7, 7), (RX8, TX8, 13)]
abbrev AH : Type := Nat × Nat × (Nat → Nat × Nat) × (Nat → Nat → Int32) × (Nat → Nat → Option Nat)
def hn (h : AH) : Nat := h.1
def hs (h : AH) : Nat := h.2.1
def hS (h : AH) : Nat → Nat × Nat := h.2.2.1
def hI (h : AH) : Nat → Nat → Int32 := h.2.2.2.1
def hR (h : AH) : Nat → Nat → Option Nat := h.2.2.2.2
def sI (h : AH) (k : Nat) (f : Nat → Int32) : AH := (hn h, hs h, hS h, va_up (hI h) k f, hR h)
def sR (h : AH) (k : Nat) (f : Nat → Option Nat) : AH := (hn h, hs h, hS h, hI h, va_up (hR h) k f)
def nC (h : AH) (kind len : Nat) : AH := (hn h + 1, hs h + len, va_up (hS h) (hn h) (kind, len), va_up (hI h) (hn h) (fun _ => 0), va_up (hR h) (hn h) (fun _ => none))
abbrev MT : Type := MethodName × ByteArray × Nat × Option FieldType × Nat × Nat
def m_y (M : MT) : MethodName := M.1
def m_c (M : MT) : ByteArray := M.2.1
def m_l (M : MT) : Nat := M.2.2.1
def m_r (M : MT) : Option FieldType := M.2.2.2.1
def m_f (M : MT) : Nat := M.2.2.2.2.1
def m_o (M : MT) : Nat := M.2.2.2.2.2
abbrev GT : Type := Launch × va_G × (Nat → ClassId) × (Nat × Nat × Nat × Nat) × (Nat → Int32)
def g_l (g : GT) : Launch := g.1
def g_D (g : GT) : va_G := g.2.1
def g_A (g : GT) : Nat → ClassId := g.2.2.1
def g_z (g : GT) : Nat := g.2.2.2.1.1
def g_b (g : GT) : Nat := g.2.2.2.1.2.1
def g_a (g : GT) : Nat := g.2.2.2.1.2.2.1
def g_n (g : GT) : Nat := g.2.2.2.1.2.2.2
def g_x (g : GT) : Nat → Int32 := g.2.2.2.2
/-- an abstract value as the machine has it: references are counted from the base; retAddr 0 is the script, retAddr 1 the table ABOVE -/
def cv (g : GT) : Value → Value
  | .int x => .int x
  | .ref k => .ref (g_z g + k)
  | .retAddr 0 => .ref (g_b g)
  | .retAddr _ => .ref (g_a g)
  | _ => .null
def cr (g : GT) (r : Option Nat) : Option Nat := r.map (fun k => g_z g + k)
theorem cv_rf (g : GT) (r : Option Nat) : cv g (va_rf r) = va_rf (cr g r) := by cases r <;> rfl
theorem cv_int (g : GT) (x : Int32) : cv g (.int x) = .int x := rfl
theorem cv_cat (g : GT) (v : Value) : (cv g v).category = 1 := by
  cases v with
  | retAddr k => cases k <;> rfl
  | _ => rfl
def fR (q : vw_C) (j : Nat) : Bool := (q.2.1 j).2.2.1 != "I"
def cf (g : GT) (h : AH) (k : Nat) (q : vw_C) : List Value := (List.range q.2.2).map (fun j => if fR q j then va_rf (cr g (hR h k j)) else .int (hI h k j))
def ce (g : GT) (h : AH) (k : Nat) : va_E := match (hS h k).1 with
  | 0 => .inl (g_A g 0, (hS h k).2, .inl (hI h k))
  | 1 => .inl (g_A g 1, (hS h k).2, .inl (hI h k))
  | 2 => .inl (g_A g 2, (hS h k).2, .inr (.inr (.inr (.inr (fun i => cr g (hR h k i))))))
  | 3 => .inl (g_A g 3, (hS h k).2, .inr (.inr (.inr (.inr (fun i => cr g (hR h k i))))))
  | ci + 4 => .inr (ci, cf g h k (vwCl.getD ci (RX0, TX0, 3)))
def cw (g : GT) (h : AH) : va_W := (List.range (hn h)).map (fun k => (g_z g + k, ce g h k))
theorem cw_at {g : GT} {h : AH} {k : Nat} (hk : k < hn h) : (cw g h)[k]? = some (g_z g + k, ce g h k) := by
  simp [cw, hk]
theorem cw_lt {g : GT} {h : AH} {k : Nat} {q : Nat × va_E} (hk : (cw g h)[k]? = some q) : k < hn h ∧ q = (g_z g + k, ce g h k) := by
  have hl : k < hn h := by
    have := (List.getElem?_eq_some_iff.mp hk).1
    simpa [cw] using this
  exact ⟨hl, Option.some.inj (hk.symm.trans (cw_at hl))⟩
def wA (g : GT) : Nat → Prop := fun q => g_z g ≤ q
theorem cw_D (g : GT) (h : AH) : va_D (wA g) (cw g h) := by
  refine ⟨fun i j p q hi hj e => ?_, fun k q hk => ?_⟩
  · rw [(cw_lt hi).2, (cw_lt hj).2] at e
    exact Nat.add_left_cancel e
  · rw [(cw_lt hk).2]
    exact Nat.le_add_right _ _
def tys (g : GT) : List (ClassId × FieldType) := [(g_A g 0, .int), (g_A g 1, .boolean), (g_A g 2, .object RX5), (g_A g 3, .object RX2)]
def abv : Nat → Value := fun j => match j with
  | 0 => .int (-1)
  | 1 => .int 0
  | 2 => .int 0
  | _ => .int 1
/-- links to private members of nest mates -/
def nwL : List (String × Nat × MethodName × String) := [(RX7, 18, yX6_init, RX7), (RX7, 25, yX3_init, RX7), (RX7, 32, yX0_init, RX7), (RX7, 54, yX5_init, RX7), (RX0, 23, yX7_holds, RX7), (RX1, 22, yX2_init, RX7), (RX3, 86, yX7_holds, RX7), (RX4, 56, yX7_within, RX7), (RX4, 63, yX7_holds, RX7)]
def wN (U : State) : Prop := (∀ q ∈ nwL, va_Nw (.methodLinkNest q.1 q.2.1 q.2.2.1 q.2.2.2) U) ∧ va_AO RX5 U ∧ va_AO RX2 U
/-- the base, as a state has it at a method's beginning -/
def wB (g : GT) (U : State) : Prop := va_K (g_D g) vwCl (tys g) U ∧ va_Z "CanyonRafts" "ABOVE" "[I" (.ref (g_a g)) (wA g) U U.heap ∧ va_T .int (g_a g) 4 abv (wA g) U U.heap ∧ va_X (g_b g) (g_n g) (g_x g) U U.heap ∧ g_b g < g_z g ∧ g_z g ≤ U.heap.size ∧ wN U
theorem wB.moved {g : GT} {u U : State} (h : wB g u) (hW : u.WarmedH U.vm) {locs : List Loc} (hS : va_S (wA g) u.heap U.heap locs) : wB g U := by
  obtain ⟨h1, h2, h3, h4, h5, h6, h7, h8, h9⟩ := h
  have hvm := hW.alike
  have hq : ∀ a : Nat, a < u.heap.size → ¬ wA g a → U.heap[a]? = u.heap[a]? := hS.2.1
  exact ⟨h1.moved hvm, (h2.moved hvm).kept hq, (h3.moved hvm).kept hq, (h4.moved hvm).kept (hq _ (Nat.lt_of_lt_of_le h5 h6) (Nat.not_le.mpr h5)), h5, Nat.le_trans h6 hS.1, fun q hq => (h7 q hq).warmM hW, h8.moved hvm, h9.moved hvm⟩
/-- the heap holds the abstract one, and ends with it -/
def wH (g : GT) (h : AH) (H : Heap) : Prop := va_P (g_D g) vwCl (cw g h) H ∧ H.size = g_z g + hn h
def Cx (M : MT) (p : Program) (s : State) (m : MethodId) (args : Array Value) (meth : Method) (c : Code) (R : Room) : Prop :=
  p.tables.exec = Jvm.exec ∧ c.code = m_c M ∧ c.maxLocals = m_l M ∧ s.vm.findClass (m_y M).cls = some m.cls ∧ (∀ w ∈ tb, w.before args s = true) ∧ m_f M ≤ R.frames ∧ m_o M ≤ R.locals ∧ meth.name = (m_y M).name
/-- the locals -/
def lR (g : GT) (M : MT) (ls : List (Option Value)) (la : Array Slot) : Prop := la.size = m_l M ∧ lv_wf la ∧ ∀ (i : Nat) (v : Value), ls[i]? = some (some v) → la[i]? = some (.val (cv g v))
def okR (M : MT) (r : Option Value) : Prop := match r with
  | none => m_r M = none
  | some (.int v) => ∃ ty, m_r M = some ty ∧ narrow ty (.int v) = .int v
  | some _ => False
def rI (r : Option Value) : Instr × Nat := match r with
  | none => (.return_, 1)
  | some _ => (.ireturn, 1)
/-- from pc on, with these locals, this stack and the heap h, the method M comes to its end with the answer r and the heap h' -/
def Xj (g : GT) (M : MT) (h : AH) (pc : Nat) (ls : List (Option Value)) (st : List Value) (r : Option Value) (h' : AH) : Prop :=
  (hn h ≤ hn h' ∧ hs h ≤ hs h') ∧ okR M r ∧
  ∀ (p : Program) (e : Env) (R : Room) (s : State) (m : MethodId) (args : Array Value) (below : List Frame) (meth : Method) (c : Code) (H : Heap) (locs : List Loc) (n0 s0 cells slots : Nat) (Q : State → Prop) (la : Array Slot),
    Cx M p s m args meth c R → wB g s → wH g h H → va_S (wA g) s.heap H locs →
    cells + n0 = hn h → slots + s0 = hs h → hn h' ≤ R.cells + n0 → hs h' ≤ R.slots + s0 → lR g M ls la →
    (∀ (H' : Heap) (locs' : List Loc) (cells' slots' pc' : Nat) (la' : Array Slot), wH g h' H' → va_S (wA g) s.heap H' locs' → cells' + n0 = hn h' → slots' + s0 = hs h' → decode (m_c M) pc' = .ok (rI r) →
      W p (g_l g) e R s m args below meth c H' locs' cells' slots' Q (F0 m pc' la' (r.toList.map (cv g)))) →
    W p (g_l g) e R s m args below meth c H locs cells slots Q (F0 m pc la (st.map (cv g)))
section Rules
variable {g : GT} {M : MT} {h h' h1 : AH} {pc : Nat} {ls ls' : List (Option Value)} {st : List Value} {r : Option Value}
/-- a step that leaves heap and locals -/
theorem x_one {pc' : Nat} {st' : List Value} (k : Xj g M h pc' ls st' r h')
    (f : ∀ (p : Program) (e : Env) (R : Room) (s : State) (m : MethodId) (args : Array Value) (below : List Frame) (meth : Method) (c : Code) (H : Heap) (locs : List Loc) (cells slots : Nat) (Q : State → Prop) (la : Array Slot),
      Cx M p s m args meth c R → wB g s → wH g h H → va_S (wA g) s.heap H locs → cells ≤ R.cells → slots ≤ R.slots → lR g M ls la →
      W p (g_l g) e R s m args below meth c H locs cells slots Q (F0 m pc' la (st'.map (cv g))) → W p (g_l g) e R s m args below meth c H locs cells slots Q (F0 m pc la (st.map (cv g)))) : Xj g M h pc ls st r h' := by
  obtain ⟨⟨k1, k2⟩, k3, k4⟩ := k
  refine ⟨⟨k1, k2⟩, k3, fun p e R s m args below meth c H locs n0 s0 cells slots Q la C B P S e1 e2 e3 e4 L K => ?_⟩
  exact f p e R s m args below meth c H locs cells slots Q la C B P S (by omega) (by omega) L (k4 p e R s m args below meth c H locs n0 s0 cells slots Q la C B P S e1 e2 e3 e4 L K)
/-- a step that changes a local -/
theorem x_loc {pc' : Nat} {st' : List Value} (k : Xj g M h pc' ls' st' r h')
    (f : ∀ (p : Program) (e : Env) (R : Room) (s : State) (m : MethodId) (args : Array Value) (below : List Frame) (meth : Method) (c : Code) (H : Heap) (locs : List Loc) (cells slots : Nat) (Q : State → Prop) (la : Array Slot),
      Cx M p s m args meth c R → lR g M ls la →
      (∀ la', lR g M ls' la' → W p (g_l g) e R s m args below meth c H locs cells slots Q (F0 m pc' la' (st'.map (cv g)))) → W p (g_l g) e R s m args below meth c H locs cells slots Q (F0 m pc la (st.map (cv g)))) : Xj g M h pc ls st r h' := by
  obtain ⟨⟨k1, k2⟩, k3, k4⟩ := k
  refine ⟨⟨k1, k2⟩, k3, fun p e R s m args below meth c H locs n0 s0 cells slots Q la C B P S e1 e2 e3 e4 L K => ?_⟩
  exact f p e R s m args below meth c H locs cells slots Q la C L (fun la' L' => k4 p e R s m args below meth c H locs n0 s0 cells slots Q la' C B P S e1 e2 e3 e4 L' K)
/-- a step that changes the heap, makes nothing -/
theorem x_heap {pc' : Nat} {st' : List Value} (k : Xj g M h1 pc' ls st' r h') (hn1 : hn h1 = hn h) (hs1 : hs h1 = hs h)
    (f : ∀ (p : Program) (e : Env) (R : Room) (s : State) (m : MethodId) (args : Array Value) (below : List Frame) (meth : Method) (c : Code) (H : Heap) (locs : List Loc) (cells slots : Nat) (Q : State → Prop) (la : Array Slot),
      Cx M p s m args meth c R → wB g s → wH g h H → va_S (wA g) s.heap H locs → cells ≤ R.cells → slots ≤ R.slots → lR g M ls la →
      (∀ H1 locs1, wH g h1 H1 → va_S (wA g) s.heap H1 locs1 → W p (g_l g) e R s m args below meth c H1 locs1 cells slots Q (F0 m pc' la (st'.map (cv g)))) → W p (g_l g) e R s m args below meth c H locs cells slots Q (F0 m pc la (st.map (cv g)))) : Xj g M h pc ls st r h' := by
  obtain ⟨⟨k1, k2⟩, k3, k4⟩ := k
  refine ⟨⟨by omega, by omega⟩, k3, fun p e R s m args below meth c H locs n0 s0 cells slots Q la C B P S e1 e2 e3 e4 L K => ?_⟩
  exact f p e R s m args below meth c H locs cells slots Q la C B P S (by omega) (by omega) L (fun H1 locs1 P1 S1 => k4 p e R s m args below meth c H1 locs1 n0 s0 cells slots Q la C B P1 S1 (by omega) (by omega) e3 e4 L K)
/-- a step that makes one cell of len slots -/
theorem x_made {pc' len : Nat} {st' : List Value} (k : Xj g M h1 pc' ls st' r h') (hn1 : hn h1 = hn h + 1) (hs1 : hs h1 = hs h + len)
    (f : ∀ (p : Program) (e : Env) (R : Room) (s : State) (m : MethodId) (args : Array Value) (below : List Frame) (meth : Method) (c : Code) (H : Heap) (locs : List Loc) (cells slots : Nat) (Q : State → Prop) (la : Array Slot),
      Cx M p s m args meth c R → wB g s → wH g h H → va_S (wA g) s.heap H locs → cells + 1 ≤ R.cells → slots + len ≤ R.slots → lR g M ls la →
      (∀ H1 locs1, wH g h1 H1 → va_S (wA g) s.heap H1 locs1 → W p (g_l g) e R s m args below meth c H1 locs1 (cells + 1) (slots + len) Q (F0 m pc' la (st'.map (cv g)))) → W p (g_l g) e R s m args below meth c H locs cells slots Q (F0 m pc la (st.map (cv g)))) : Xj g M h pc ls st r h' := by
  obtain ⟨⟨k1, k2⟩, k3, k4⟩ := k
  refine ⟨⟨by omega, by omega⟩, k3, fun p e R s m args below meth c H locs n0 s0 cells slots Q la C B P S e1 e2 e3 e4 L K => ?_⟩
  exact f p e R s m args below meth c H locs cells slots Q la C B P S (by omega) (by omega) L (fun H1 locs1 P1 S1 => k4 p e R s m args below meth c H1 locs1 n0 s0 (cells + 1) (slots + len) Q la C B P1 S1 (by omega) (by omega) e3 e4 L K)
end Rules
end
section
section Rules1
variable {g : GT} {M : MT} {h h' : AH} {pc : Nat} {ls ls' : List (Option Value)} {st : List Value} {r : Option Value}
theorem x_iconst {n : Int} {v : Int32} (hd : decode (m_c M) pc = .ok (.iconst n, 1)) (hv : Int32.ofInt n = v) (k : Xj g M h (pc + 1) ls (.int v :: st) r h') : Xj g M h pc ls st r h' :=
  x_one k (fun p e R s m args below meth c H locs cells slots Q la C _ _ _ _ _ _ w => lv_iconst C.1 C.2.1 hd hv w)
theorem x_bipush {n : Int} {v : Int32} (hd : decode (m_c M) pc = .ok (.bipush n, 2)) (hv : (Int8.ofInt n).toInt32 = v) (k : Xj g M h (pc + 2) ls (.int v :: st) r h') : Xj g M h pc ls st r h' :=
  x_one k (fun p e R s m args below meth c H locs cells slots Q la C _ _ _ _ _ _ w => lv_bipush C.1 C.2.1 hd hv w)
theorem x_sipush {n : Int} {v : Int32} (hd : decode (m_c M) pc = .ok (.sipush n, 3)) (hv : (Int16.ofInt n).toInt32 = v) (k : Xj g M h (pc + 3) ls (.int v :: st) r h') : Xj g M h pc ls st r h' :=
  x_one k (fun p e R s m args below meth c H locs cells slots Q la C _ _ _ _ _ _ w => lv_sipush C.1 C.2.1 hd hv w)
theorem x_ldc {n : Nat} {v : Int32} (hd : decode (m_c M) pc = .ok (.ldc n, 2)) (hw : Jvm.Cond.constant (m_y M).cls n v ∈ tb) (k : Xj g M h (pc + 2) ls (.int v :: st) r h') : Xj g M h pc ls st r h' :=
  x_one k (fun p e R s m args below meth c H locs cells slots Q la C _ _ _ _ _ _ w => lv_ldc C.1 C.2.1 C.2.2.2.1 (C.2.2.2.2.1 _ hw) hd w)
theorem x_iload_n {i : Fin 4} {x : Int32} (hd : decode (m_c M) pc = .ok (.iload_n i, 1)) (hl : ls[i.val]? = some (some (.int x))) (k : Xj g M h (pc + 1) ls (.int x :: st) r h') : Xj g M h pc ls st r h' :=
  x_one k (fun p e R s m args below meth c H locs cells slots Q la C _ _ _ _ _ L w => lv_iload_n C.1 C.2.1 hd rfl (L.2.2 _ _ hl) w)
theorem x_iload {i : Nat} {x : Int32} (hd : decode (m_c M) pc = .ok (.iload i, 2)) (hl : ls[i]? = some (some (.int x))) (k : Xj g M h (pc + 2) ls (.int x :: st) r h') : Xj g M h pc ls st r h' :=
  x_one k (fun p e R s m args below meth c H locs cells slots Q la C _ _ _ _ _ L w => lv_iload C.1 C.2.1 hd (L.2.2 _ _ hl) w)
theorem x_aload_n {i : Fin 4} {a : Option Nat} (hd : decode (m_c M) pc = .ok (.aload_n i, 1)) (hl : ls[i.val]? = some (some (va_rf a))) (k : Xj g M h (pc + 1) ls (va_rf a :: st) r h') : Xj g M h pc ls st r h' :=
  x_one k (fun p e R s m args below meth c H locs cells slots Q la C _ _ _ _ _ L w => by
    cases a with
    | none => exact lv_aload_nN C.1 C.2.1 hd rfl (L.2.2 _ _ hl) w
    | some q => exact lv_aload_n C.1 C.2.1 hd rfl (L.2.2 _ _ hl) w)
theorem x_aload {i : Nat} {a : Option Nat} (hd : decode (m_c M) pc = .ok (.aload i, 2)) (hl : ls[i]? = some (some (va_rf a))) (k : Xj g M h (pc + 2) ls (va_rf a :: st) r h') : Xj g M h pc ls st r h' :=
  x_one k (fun p e R s m args below meth c H locs cells slots Q la C _ _ _ _ _ L w => by
    cases a with
    | none => exact lv_aloadN C.1 C.2.1 hd (L.2.2 _ _ hl) w
    | some q => exact lv_aload C.1 C.2.1 hd (L.2.2 _ _ hl) w)
theorem x_aloadS {i : Fin 4} (hd : decode (m_c M) pc = .ok (.aload_n i, 1)) (hl : ls[i.val]? = some (some (.retAddr 0))) (k : Xj g M h (pc + 1) ls (.retAddr 0 :: st) r h') : Xj g M h pc ls st r h' :=
  x_one k (fun p e R s m args below meth c H locs cells slots Q la C _ _ _ _ _ L w => lv_aload_n C.1 C.2.1 hd rfl (L.2.2 _ _ hl) w)
theorem x_null (hd : decode (m_c M) pc = .ok (.aconst_null, 1)) (k : Xj g M h (pc + 1) ls (va_rf none :: st) r h') : Xj g M h pc ls st r h' :=
  x_one k (fun p e R s m args below meth c H locs cells slots Q la C _ _ _ _ _ _ w => lv_null C.1 C.2.1 hd w)
theorem lR_set {la la' : Array Slot} {i : Nat} {v : Value} (L : lR g M ls la) (hi : i < m_l M) (hst : storeLocals la i (cv g v) = some la') (hw : lv_wf la') (hz : la'.size = la.size) (ho : ∀ j, j ≠ i → la'[j]? = la[j]?) (hv : la'[i]? = some (.val (cv g v))) : lR g M (ls.set i (some v)) la' := by
  refine ⟨hz.trans L.1, hw, fun j w hj => ?_⟩
  by_cases e : j = i
  · subst e
    rw [List.getElem?_set] at hj
    simp only [if_true] at hj
    split at hj
    · cases hj; exact hv
    · cases hj
  · rw [List.getElem?_set_ne (Ne.symm e)] at hj
    rw [ho j e]
    exact L.2.2 j w hj
/-- the listed locals, as the kit lists them -/
def lsA (g : GT) (ls : List (Option Value)) : List (Nat × Value) := (List.range ls.length).filterMap (fun i => match ls[i]? with
  | some (some v) => some (i, cv g v)
  | _ => none)
theorem lsA_mem {i : Nat} {v : Value} (hi : ls[i]? = some (some v)) : (i, cv g v) ∈ lsA g ls := by
  refine List.mem_filterMap.mpr ⟨i, List.mem_range.mpr (List.getElem?_eq_some_iff.mp hi).1, ?_⟩
  rw [hi]
theorem lsA_of {q : Nat × Value} (hq : q ∈ lsA g ls) : ∃ v, ls[q.1]? = some (some v) ∧ q.2 = cv g v := by
  obtain ⟨i, -, hi⟩ := List.mem_filterMap.mp hq
  split at hi
  · rename_i v hv
    cases hi
    exact ⟨v, hv, rfl⟩
  · cases hi
theorem lR_has {la : Array Slot} (L : lR g M ls la) : lv_has la (m_l M) (lsA g ls) := by
  refine ⟨L.1, L.2.1, fun q hq => ?_⟩
  obtain ⟨v, h1, h2⟩ := lsA_of hq
  rw [h2]
  exact L.2.2 _ _ h1
theorem lR_back {la' : Array Slot} {i : Nat} {v : Value} (hh : lv_has la' (m_l M) ((i, cv g v) :: (lsA g ls).filter (fun q => !(q.1 == i) && !(q.1 + 1 == i && q.2.category == 2)))) : lR g M (ls.set i (some v)) la' := by
  refine ⟨hh.1, hh.2.1, fun j w hj => ?_⟩
  by_cases e : j = i
  · subst e
    rw [List.getElem?_set] at hj
    simp only [if_true] at hj
    split at hj
    · cases hj
      exact hh.2.2 (j, cv g v) List.mem_cons_self
    · cases hj
  · rw [List.getElem?_set_ne (Ne.symm e)] at hj
    refine hh.2.2 (j, cv g w) (List.mem_cons_of_mem _ (List.mem_filter.mpr ⟨lsA_mem hj, ?_⟩))
    simp [e, cv_cat]
theorem x_istore_n {i : Fin 4} {x : Int32} (hd : decode (m_c M) pc = .ok (.istore_n i, 1)) (hi : i.val < m_l M) (hl : ls.set i.val (some (.int x)) = ls') (k : Xj g M h (pc + 1) ls' st r h') : Xj g M h pc ls (.int x :: st) r h' :=
  x_loc k (fun p e R s m args below meth c H locs cells slots Q la C L w => lv_istore_n C.1 C.2.1 hd rfl (lR_has L) hi rfl (fun la' hh => w la' (hl ▸ lR_back (v := .int x) hh)))
theorem x_istore {i : Nat} {x : Int32} (hd : decode (m_c M) pc = .ok (.istore i, 2)) (hi : i < m_l M) (hl : ls.set i (some (.int x)) = ls') (k : Xj g M h (pc + 2) ls' st r h') : Xj g M h pc ls (.int x :: st) r h' :=
  x_loc k (fun p e R s m args below meth c H locs cells slots Q la C L w => lv_istore C.1 C.2.1 hd (lR_has L) hi rfl (fun la' hh => w la' (hl ▸ lR_back (v := .int x) hh)))
theorem x_astore_n {i : Fin 4} {a : Option Nat} (hd : decode (m_c M) pc = .ok (.astore_n i, 1)) (hi : i.val < m_l M) (hl : ls.set i.val (some (va_rf a)) = ls') (k : Xj g M h (pc + 1) ls' st r h') : Xj g M h pc ls (va_rf a :: st) r h' :=
  x_loc k (fun p e R s m args below meth c H locs cells slots Q la C L w => by
    cases a with
    | none => exact lv_astore_nN C.1 C.2.1 hd rfl (lR_has L) hi rfl (fun la' hh => w la' (hl ▸ lR_back (v := va_rf none) hh))
    | some q => exact lv_astore_n C.1 C.2.1 hd rfl (lR_has L) hi rfl (fun la' hh => w la' (hl ▸ lR_back (v := va_rf (some q)) hh)))
theorem x_astore {i : Nat} {a : Option Nat} (hd : decode (m_c M) pc = .ok (.astore i, 2)) (hi : i < m_l M) (hl : ls.set i (some (va_rf a)) = ls') (k : Xj g M h (pc + 2) ls' st r h') : Xj g M h pc ls (va_rf a :: st) r h' :=
  x_loc k (fun p e R s m args below meth c H locs cells slots Q la C L w => by
    cases a with
    | none => exact lv_astoreN C.1 C.2.1 hd (lR_has L) hi rfl (fun la' hh => w la' (hl ▸ lR_back (v := va_rf none) hh))
    | some q => exact lv_astore C.1 C.2.1 hd (lR_has L) hi rfl (fun la' hh => w la' (hl ▸ lR_back (v := va_rf (some q)) hh)))
theorem x_iinc {i : Nat} {n : Int} {x v : Int32} (hd : decode (m_c M) pc = .ok (.iinc i n, 3)) (hg : ls[i]? = some (some (.int x))) (hv : x + Int32.ofInt n = v) (hi : i < m_l M) (hl : ls.set i (some (.int v)) = ls') (k : Xj g M h (pc + 3) ls' st r h') : Xj g M h pc ls st r h' :=
  x_loc k (fun p e R s m args below meth c H locs cells slots Q la C L w => by
    obtain ⟨q, hq⟩ := List.getElem?_of_mem (lsA_mem (g := g) hg)
    exact lv_iinc C.1 C.2.1 hd (lR_has L) (k := q) (x := x) hq hv hi rfl (fun la' hh => w la' (hl ▸ lR_back (v := .int v) hh)))

theorem x_iadd {x y : Int32} (hd : decode (m_c M) pc = .ok (.iadd, 1)) (k : Xj g M h (pc + 1) ls (.int (x + y) :: st) r h') : Xj g M h pc ls (.int y :: .int x :: st) r h' :=
  x_one k (fun p e R s m args below meth c H locs cells slots Q la C _ _ _ _ _ _ w => lv_iadd C.1 C.2.1 hd w)
theorem x_isub {x y : Int32} (hd : decode (m_c M) pc = .ok (.isub, 1)) (k : Xj g M h (pc + 1) ls (.int (x - y) :: st) r h') : Xj g M h pc ls (.int y :: .int x :: st) r h' :=
  x_one k (fun p e R s m args below meth c H locs cells slots Q la C _ _ _ _ _ _ w => lv_isub C.1 C.2.1 hd w)
theorem x_imul {x y : Int32} (hd : decode (m_c M) pc = .ok (.imul, 1)) (k : Xj g M h (pc + 1) ls (.int (x * y) :: st) r h') : Xj g M h pc ls (.int y :: .int x :: st) r h' :=
  x_one k (fun p e R s m args below meth c H locs cells slots Q la C _ _ _ _ _ _ w => lv_imul C.1 C.2.1 hd w)
theorem x_iand {x y : Int32} (hd : decode (m_c M) pc = .ok (.iand, 1)) (k : Xj g M h (pc + 1) ls (.int (x &&& y) :: st) r h') : Xj g M h pc ls (.int y :: .int x :: st) r h' :=
  x_one k (fun p e R s m args below meth c H locs cells slots Q la C _ _ _ _ _ _ w => lv_iand C.1 C.2.1 hd w)
theorem x_ior {x y : Int32} (hd : decode (m_c M) pc = .ok (.ior, 1)) (k : Xj g M h (pc + 1) ls (.int (x ||| y) :: st) r h') : Xj g M h pc ls (.int y :: .int x :: st) r h' :=
  x_one k (fun p e R s m args below meth c H locs cells slots Q la C _ _ _ _ _ _ w => lv_ior C.1 C.2.1 hd w)
theorem x_ixor {x y : Int32} (hd : decode (m_c M) pc = .ok (.ixor, 1)) (k : Xj g M h (pc + 1) ls (.int (x ^^^ y) :: st) r h') : Xj g M h pc ls (.int y :: .int x :: st) r h' :=
  x_one k (fun p e R s m args below meth c H locs cells slots Q la C _ _ _ _ _ _ w => lv_ixor C.1 C.2.1 hd w)
theorem x_ishl {x y : Int32} (hd : decode (m_c M) pc = .ok (.ishl, 1)) (k : Xj g M h (pc + 1) ls (.int (x <<< (y &&& 31)) :: st) r h') : Xj g M h pc ls (.int y :: .int x :: st) r h' :=
  x_one k (fun p e R s m args below meth c H locs cells slots Q la C _ _ _ _ _ _ w => lv_ishl C.1 C.2.1 hd w)
theorem x_ishr {x y : Int32} (hd : decode (m_c M) pc = .ok (.ishr, 1)) (k : Xj g M h (pc + 1) ls (.int (x >>> (y &&& 31)) :: st) r h') : Xj g M h pc ls (.int y :: .int x :: st) r h' :=
  x_one k (fun p e R s m args below meth c H locs cells slots Q la C _ _ _ _ _ _ w => lv_ishr C.1 C.2.1 hd w)
theorem x_iushr {x y : Int32} (hd : decode (m_c M) pc = .ok (.iushr, 1)) (k : Xj g M h (pc + 1) ls (.int ((x.toUInt32 >>> (y.toUInt32 &&& Int32.toUInt32 31)).toInt32) :: st) r h') : Xj g M h pc ls (.int y :: .int x :: st) r h' :=
  x_one k (fun p e R s m args below meth c H locs cells slots Q la C _ _ _ _ _ _ w => lv_iushr C.1 C.2.1 hd rfl w)
theorem x_idiv {x y : Int32} (hd : decode (m_c M) pc = .ok (.idiv, 1)) (hy : ¬ y = 0) (k : Xj g M h (pc + 1) ls (.int (x / y) :: st) r h') : Xj g M h pc ls (.int y :: .int x :: st) r h' :=
  x_one k (fun p e R s m args below meth c H locs cells slots Q la C _ _ _ _ _ _ w => lv_idiv C.1 C.2.1 hd hy w)
theorem x_irem {x y : Int32} (hd : decode (m_c M) pc = .ok (.irem, 1)) (hy : ¬ y = 0) (k : Xj g M h (pc + 1) ls (.int (x - x / y * y) :: st) r h') : Xj g M h pc ls (.int y :: .int x :: st) r h' :=
  x_one k (fun p e R s m args below meth c H locs cells slots Q la C _ _ _ _ _ _ w => lv_irem C.1 C.2.1 hd hy w)
theorem x_ineg {x : Int32} (hd : decode (m_c M) pc = .ok (.ineg, 1)) (k : Xj g M h (pc + 1) ls (.int (-x) :: st) r h') : Xj g M h pc ls (.int x :: st) r h' :=
  x_one k (fun p e R s m args below meth c H locs cells slots Q la C _ _ _ _ _ _ w => lv_ineg C.1 C.2.1 hd w)
theorem x_i2b {x : Int32} (hd : decode (m_c M) pc = .ok (.i2b, 1)) (k : Xj g M h (pc + 1) ls (.int x.toInt8.toInt32 :: st) r h') : Xj g M h pc ls (.int x :: st) r h' :=
  x_one k (fun p e R s m args below meth c H locs cells slots Q la C _ _ _ _ _ _ w => lv_i2b C.1 C.2.1 hd rfl w)
theorem x_i2s {x : Int32} (hd : decode (m_c M) pc = .ok (.i2s, 1)) (k : Xj g M h (pc + 1) ls (.int x.toInt16.toInt32 :: st) r h') : Xj g M h pc ls (.int x :: st) r h' :=
  x_one k (fun p e R s m args below meth c H locs cells slots Q la C _ _ _ _ _ _ w => lv_i2s C.1 C.2.1 hd rfl w)
theorem x_dup {v : Value} (hd : decode (m_c M) pc = .ok (.dup, 1)) (k : Xj g M h (pc + 1) ls (v :: v :: st) r h') : Xj g M h pc ls (v :: st) r h' :=
  x_one k (fun p e R s m args below meth c H locs cells slots Q la C _ _ _ _ _ _ w => lv_dup C.1 C.2.1 hd (cv_cat g v) w)
theorem x_dup2 {v u : Value} (hd : decode (m_c M) pc = .ok (.dup2, 1)) (k : Xj g M h (pc + 1) ls (v :: u :: v :: u :: st) r h') : Xj g M h pc ls (v :: u :: st) r h' :=
  x_one k (fun p e R s m args below meth c H locs cells slots Q la C _ _ _ _ _ _ w => lv_dup2_11 C.1 C.2.1 hd (cv_cat g v) (cv_cat g u) w)
theorem x_goto {off : Int} {tgt : Nat} (hd : decode (m_c M) pc = .ok (.goto off, 3)) (ht : (pc : Int) + off = (tgt : Int)) (k : Xj g M h tgt ls st r h') : Xj g M h pc ls st r h' :=
  x_one k (fun p e R s m args below meth c H locs cells slots Q la C _ _ _ _ _ _ w => lv_goto C.1 C.2.1 hd ht w)
theorem x_ifnull {off : Int} {a : Nat} (hd : decode (m_c M) pc = .ok (.ifnull off, 3)) (k : Xj g M h (pc + 3) ls st r h') : Xj g M h pc ls (va_rf (some a) :: st) r h' :=
  x_one k (fun p e R s m args below meth c H locs cells slots Q la C _ _ _ _ _ _ w => lv_ifnull C.1 C.2.1 hd w)
theorem x_ifnullN {off : Int} {tgt : Nat} (hd : decode (m_c M) pc = .ok (.ifnull off, 3)) (ht : (pc : Int) + off = (tgt : Int)) (k : Xj g M h tgt ls st r h') : Xj g M h pc ls (va_rf none :: st) r h' :=
  x_one k (fun p e R s m args below meth c H locs cells slots Q la C _ _ _ _ _ _ w => lv_ifnullN C.1 C.2.1 hd ht w)
theorem x_tabOut {dflt lo hi : Int} {offs : Array Int} {len tgt : Nat} {x : Int32} (hd : decode (m_c M) pc = .ok (.tableswitch dflt lo hi offs, len)) (hx : x.toInt < lo ∨ hi < x.toInt) (ht : (pc : Int) + dflt = (tgt : Int)) (k : Xj g M h tgt ls st r h') : Xj g M h pc ls (.int x :: st) r h' :=
  x_one k (fun p e R s m args below meth c H locs cells slots Q la C _ _ _ _ _ _ w => lv_tableOut C.1 C.2.1 hd hx ht w)
theorem x_tabIn {dflt lo hi : Int} {offs : Array Int} {len tgt : Nat} {x : Int32} {off : Int} (hd : decode (m_c M) pc = .ok (.tableswitch dflt lo hi offs, len)) (h1 : ¬ x.toInt < lo) (h2 : ¬ hi < x.toInt) (ho : offs[(x.toInt - lo).toNat]? = some off) (ht : (pc : Int) + off = (tgt : Int)) (k : Xj g M h tgt ls st r h') : Xj g M h pc ls (.int x :: st) r h' :=
  x_one k (fun p e R s m args below meth c H locs cells slots Q la C _ _ _ _ _ _ w => lv_tableIn C.1 C.2.1 hd h1 h2 ho ht w)
theorem x_lookup {dflt : Int} {ps : Array (Int × Int)} {len tgt : Nat} {x : Int32} {off : Int} (hd : decode (m_c M) pc = .ok (.lookupswitch dflt ps, len)) (hp : (ps.toList.zip (ps.toList.drop 1)).all (fun (a, next) => a.1 < next.1) = true) (ho : Op.lookupswitch.offset ps.toList dflt x.toInt = off) (ht : (pc : Int) + off = (tgt : Int)) (k : Xj g M h tgt ls st r h') : Xj g M h pc ls (.int x :: st) r h' :=
  x_one k (fun p e R s m args below meth c H locs cells slots Q la C _ _ _ _ _ _ w => lv_lookup C.1 C.2.1 hd hp ho ht w)
theorem x_ret {v : Int32} (hd : decode (m_c M) pc = .ok (.ireturn, 1)) (hr : okR M (some (.int v))) : Xj g M h pc ls [.int v] (some (.int v)) h :=
  ⟨⟨Nat.le_refl _, Nat.le_refl _⟩, hr, fun p e R s m args below meth c H locs n0 s0 cells slots Q la C B P S e1 e2 e3 e4 L K => K H locs cells slots pc la P S e1 e2 hd⟩
theorem x_vret (hd : decode (m_c M) pc = .ok (.return_, 1)) (hr : m_r M = none) : Xj g M h pc ls [] none h :=
  ⟨⟨Nat.le_refl _, Nat.le_refl _⟩, hr, fun p e R s m args below meth c H locs n0 s0 cells slots Q la C B P S e1 e2 e3 e4 L K => K H locs cells slots pc la P S e1 e2 hd⟩
theorem x_if_eq {x : Int32} {off : Int} {tgt : Nat} (hd : decode (m_c M) pc = .ok (.ifCond .eq off, 3)) (ht : (pc : Int) + off = (tgt : Int)) (kt : x = 0 → Xj g M h tgt ls st r h') (kf : ¬ (x = 0) → Xj g M h (pc + 3) ls st r h') : Xj g M h pc ls (.int x :: st) r h' := by
  by_cases hP : x = 0
  · exact x_one (kt hP) (fun p e R s m args below meth c H locs cells slots Q la C _ _ _ _ _ _ w => lv_if_eq C.1 C.2.1 hd ht (fun _ => w) (fun q => absurd hP q))
  · exact x_one (kf hP) (fun p e R s m args below meth c H locs cells slots Q la C _ _ _ _ _ _ w => lv_if_eq C.1 C.2.1 hd ht (fun q => absurd q hP) (fun _ => w))
theorem x_if_ne {x : Int32} {off : Int} {tgt : Nat} (hd : decode (m_c M) pc = .ok (.ifCond .ne off, 3)) (ht : (pc : Int) + off = (tgt : Int)) (kt : ¬ x = 0 → Xj g M h tgt ls st r h') (kf : x = 0 → Xj g M h (pc + 3) ls st r h') : Xj g M h pc ls (.int x :: st) r h' := by
  by_cases hP : ¬ x = 0
  · exact x_one (kt hP) (fun p e R s m args below meth c H locs cells slots Q la C _ _ _ _ _ _ w => lv_if_ne C.1 C.2.1 hd ht (fun _ => w) (fun q => absurd q hP))
  · exact x_one (kf (Decidable.not_not.mp hP)) (fun p e R s m args below meth c H locs cells slots Q la C _ _ _ _ _ _ w => lv_if_ne C.1 C.2.1 hd ht (fun q => absurd q hP) (fun _ => w))
theorem x_if_lt {x : Int32} {off : Int} {tgt : Nat} (hd : decode (m_c M) pc = .ok (.ifCond .lt off, 3)) (ht : (pc : Int) + off = (tgt : Int)) (kt : x < 0 → Xj g M h tgt ls st r h') (kf : ¬ (x < 0) → Xj g M h (pc + 3) ls st r h') : Xj g M h pc ls (.int x :: st) r h' := by
  by_cases hP : x < 0
  · exact x_one (kt hP) (fun p e R s m args below meth c H locs cells slots Q la C _ _ _ _ _ _ w => lv_if_lt C.1 C.2.1 hd ht (fun _ => w) (fun q => absurd hP q))
  · exact x_one (kf hP) (fun p e R s m args below meth c H locs cells slots Q la C _ _ _ _ _ _ w => lv_if_lt C.1 C.2.1 hd ht (fun q => absurd q hP) (fun _ => w))
theorem x_if_ge {x : Int32} {off : Int} {tgt : Nat} (hd : decode (m_c M) pc = .ok (.ifCond .ge off, 3)) (ht : (pc : Int) + off = (tgt : Int)) (kt : 0 ≤ x → Xj g M h tgt ls st r h') (kf : ¬ (0 ≤ x) → Xj g M h (pc + 3) ls st r h') : Xj g M h pc ls (.int x :: st) r h' := by
  by_cases hP : 0 ≤ x
  · exact x_one (kt hP) (fun p e R s m args below meth c H locs cells slots Q la C _ _ _ _ _ _ w => lv_if_ge C.1 C.2.1 hd ht (fun _ => w) (fun q => absurd hP q))
  · exact x_one (kf hP) (fun p e R s m args below meth c H locs cells slots Q la C _ _ _ _ _ _ w => lv_if_ge C.1 C.2.1 hd ht (fun q => absurd q hP) (fun _ => w))
theorem x_if_gt {x : Int32} {off : Int} {tgt : Nat} (hd : decode (m_c M) pc = .ok (.ifCond .gt off, 3)) (ht : (pc : Int) + off = (tgt : Int)) (kt : 0 < x → Xj g M h tgt ls st r h') (kf : ¬ (0 < x) → Xj g M h (pc + 3) ls st r h') : Xj g M h pc ls (.int x :: st) r h' := by
  by_cases hP : 0 < x
  · exact x_one (kt hP) (fun p e R s m args below meth c H locs cells slots Q la C _ _ _ _ _ _ w => lv_if_gt C.1 C.2.1 hd ht (fun _ => w) (fun q => absurd hP q))
  · exact x_one (kf hP) (fun p e R s m args below meth c H locs cells slots Q la C _ _ _ _ _ _ w => lv_if_gt C.1 C.2.1 hd ht (fun q => absurd q hP) (fun _ => w))
theorem x_if_le {x : Int32} {off : Int} {tgt : Nat} (hd : decode (m_c M) pc = .ok (.ifCond .le off, 3)) (ht : (pc : Int) + off = (tgt : Int)) (kt : x ≤ 0 → Xj g M h tgt ls st r h') (kf : ¬ (x ≤ 0) → Xj g M h (pc + 3) ls st r h') : Xj g M h pc ls (.int x :: st) r h' := by
  by_cases hP : x ≤ 0
  · exact x_one (kt hP) (fun p e R s m args below meth c H locs cells slots Q la C _ _ _ _ _ _ w => lv_if_le C.1 C.2.1 hd ht (fun _ => w) (fun q => absurd hP q))
  · exact x_one (kf hP) (fun p e R s m args below meth c H locs cells slots Q la C _ _ _ _ _ _ w => lv_if_le C.1 C.2.1 hd ht (fun q => absurd q hP) (fun _ => w))
theorem x_icmp_eq {x y : Int32} {off : Int} {tgt : Nat} (hd : decode (m_c M) pc = .ok (.if_icmp .eq off, 3)) (ht : (pc : Int) + off = (tgt : Int)) (kt : x = y → Xj g M h tgt ls st r h') (kf : ¬ (x = y) → Xj g M h (pc + 3) ls st r h') : Xj g M h pc ls (.int y :: .int x :: st) r h' := by
  by_cases hP : x = y
  · exact x_one (kt hP) (fun p e R s m args below meth c H locs cells slots Q la C _ _ _ _ _ _ w => lv_icmp_eq C.1 C.2.1 hd ht (fun _ => w) (fun q => absurd hP q))
  · exact x_one (kf hP) (fun p e R s m args below meth c H locs cells slots Q la C _ _ _ _ _ _ w => lv_icmp_eq C.1 C.2.1 hd ht (fun q => absurd q hP) (fun _ => w))
theorem x_icmp_ne {x y : Int32} {off : Int} {tgt : Nat} (hd : decode (m_c M) pc = .ok (.if_icmp .ne off, 3)) (ht : (pc : Int) + off = (tgt : Int)) (kt : ¬ x = y → Xj g M h tgt ls st r h') (kf : x = y → Xj g M h (pc + 3) ls st r h') : Xj g M h pc ls (.int y :: .int x :: st) r h' := by
  by_cases hP : ¬ x = y
  · exact x_one (kt hP) (fun p e R s m args below meth c H locs cells slots Q la C _ _ _ _ _ _ w => lv_icmp_ne C.1 C.2.1 hd ht (fun _ => w) (fun q => absurd q hP))
  · exact x_one (kf (Decidable.not_not.mp hP)) (fun p e R s m args below meth c H locs cells slots Q la C _ _ _ _ _ _ w => lv_icmp_ne C.1 C.2.1 hd ht (fun q => absurd q hP) (fun _ => w))
theorem x_icmp_lt {x y : Int32} {off : Int} {tgt : Nat} (hd : decode (m_c M) pc = .ok (.if_icmp .lt off, 3)) (ht : (pc : Int) + off = (tgt : Int)) (kt : x < y → Xj g M h tgt ls st r h') (kf : ¬ (x < y) → Xj g M h (pc + 3) ls st r h') : Xj g M h pc ls (.int y :: .int x :: st) r h' := by
  by_cases hP : x < y
  · exact x_one (kt hP) (fun p e R s m args below meth c H locs cells slots Q la C _ _ _ _ _ _ w => lv_icmp_lt C.1 C.2.1 hd ht (fun _ => w) (fun q => absurd hP q))
  · exact x_one (kf hP) (fun p e R s m args below meth c H locs cells slots Q la C _ _ _ _ _ _ w => lv_icmp_lt C.1 C.2.1 hd ht (fun q => absurd q hP) (fun _ => w))
theorem x_icmp_ge {x y : Int32} {off : Int} {tgt : Nat} (hd : decode (m_c M) pc = .ok (.if_icmp .ge off, 3)) (ht : (pc : Int) + off = (tgt : Int)) (kt : y ≤ x → Xj g M h tgt ls st r h') (kf : ¬ (y ≤ x) → Xj g M h (pc + 3) ls st r h') : Xj g M h pc ls (.int y :: .int x :: st) r h' := by
  by_cases hP : y ≤ x
  · exact x_one (kt hP) (fun p e R s m args below meth c H locs cells slots Q la C _ _ _ _ _ _ w => lv_icmp_ge C.1 C.2.1 hd ht (fun _ => w) (fun q => absurd hP q))
  · exact x_one (kf hP) (fun p e R s m args below meth c H locs cells slots Q la C _ _ _ _ _ _ w => lv_icmp_ge C.1 C.2.1 hd ht (fun q => absurd q hP) (fun _ => w))
theorem x_icmp_gt {x y : Int32} {off : Int} {tgt : Nat} (hd : decode (m_c M) pc = .ok (.if_icmp .gt off, 3)) (ht : (pc : Int) + off = (tgt : Int)) (kt : y < x → Xj g M h tgt ls st r h') (kf : ¬ (y < x) → Xj g M h (pc + 3) ls st r h') : Xj g M h pc ls (.int y :: .int x :: st) r h' := by
  by_cases hP : y < x
  · exact x_one (kt hP) (fun p e R s m args below meth c H locs cells slots Q la C _ _ _ _ _ _ w => lv_icmp_gt C.1 C.2.1 hd ht (fun _ => w) (fun q => absurd hP q))
  · exact x_one (kf hP) (fun p e R s m args below meth c H locs cells slots Q la C _ _ _ _ _ _ w => lv_icmp_gt C.1 C.2.1 hd ht (fun q => absurd q hP) (fun _ => w))
theorem x_icmp_le {x y : Int32} {off : Int} {tgt : Nat} (hd : decode (m_c M) pc = .ok (.if_icmp .le off, 3)) (ht : (pc : Int) + off = (tgt : Int)) (kt : x ≤ y → Xj g M h tgt ls st r h') (kf : ¬ (x ≤ y) → Xj g M h (pc + 3) ls st r h') : Xj g M h pc ls (.int y :: .int x :: st) r h' := by
  by_cases hP : x ≤ y
  · exact x_one (kt hP) (fun p e R s m args below meth c H locs cells slots Q la C _ _ _ _ _ _ w => lv_icmp_le C.1 C.2.1 hd ht (fun _ => w) (fun q => absurd hP q))
  · exact x_one (kf hP) (fun p e R s m args below meth c H locs cells slots Q la C _ _ _ _ _ _ w => lv_icmp_le C.1 C.2.1 hd ht (fun q => absurd q hP) (fun _ => w))
end Rules1
end
section
/-! fields and arrays -/
def cOk (ci : Nat) (q : vw_C) (ty : Nat → FieldType) : Prop := vwCl[ci]? = some q ∧ (∀ w ∈ u_ws q.1 q.2.1 q.2.2, w ∈ tb) ∧ (∀ k, k < q.2.2 → parseFieldDescriptor (q.2.1 k).2.2.1 = some (ty k)) ∧ (∀ a, a < q.2.2 → ∀ b, b < q.2.2 → a ≠ b → (q.2.1 a).2.1 ≠ (q.2.1 b).2.1)
/-- the field k of the class ci, read by own's pool entry idx; b: it holds a reference -/
def fL (own : String) (idx ci k : Nat) (b : Bool) : Prop := ∃ (q : vw_C) (ty : Nat → FieldType), cOk ci q ty ∧ k < q.2.2 ∧ fR q k = b ∧ Cond.fieldLink own idx (q.2.1 k).1 (q.2.1 k).2.1 (q.2.1 k).2.2.1 ∈ tb ∧ (b = false → ty k = .int) ∧ (b = true → (∃ t, ty k = .array t) ∨ ∃ t, ty k = .object t)
/-- it may be written: it isn't final, or the method is its own class's constructor -/
def fW (M : MT) (ci k : Nat) : Prop := ∀ (q : vw_C) (ty : Nat → FieldType), cOk ci q ty → (q.2.1 k).2.2.2 = false ∨ ((q.2.1 k).2.2.2 = true ∧ (m_y M).name = "<init>" ∧ (q.2.1 k).1 = (m_y M).cls)
def gI (h : AH) (a : Option Nat) (ci k : Nat) : Option Int32 := match a with
  | none => none
  | some q => if q < hn h ∧ (hS h q).1 = ci + 4 then some (hI h q k) else none
def gR (h : AH) (a : Option Nat) (ci k : Nat) : Option (Option Nat) := match a with
  | none => none
  | some q => if q < hn h ∧ (hS h q).1 = ci + 4 then some (hR h q k) else none
def pI (h : AH) (a : Option Nat) (ci k : Nat) (v : Int32) : Option AH := match a with
  | none => none
  | some q => if q < hn h ∧ (hS h q).1 = ci + 4 then some (sI h q (upd (hI h q) k v)) else none
def pR (h : AH) (a : Option Nat) (ci k : Nat) (v : Option Nat) : Option AH := match a with
  | none => none
  | some q => if q < hn h ∧ (hS h q).1 = ci + 4 then some (sR h q (va_up (hR h q) k v)) else none
def ldI (h : AH) (a : Option Nat) (i : Int32) : Option Int32 := match a with
  | none => none
  | some q => if q < hn h ∧ (hS h q).1 = 0 ∧ ¬ (i < 0 ∨ (hS h q).2 ≤ i.toNatClampNeg) then some (hI h q i.toNatClampNeg) else none
def stI (h : AH) (a : Option Nat) (i v : Int32) : Option AH := match a with
  | none => none
  | some q => if q < hn h ∧ (hS h q).1 = 0 ∧ ¬ (i < 0 ∨ (hS h q).2 ≤ i.toNatClampNeg) then some (sI h q (upd (hI h q) i.toNatClampNeg v)) else none
def ldZ (h : AH) (a : Option Nat) (i : Int32) : Option Int32 := match a with
  | none => none
  | some q => if q < hn h ∧ (hS h q).1 = 1 ∧ ¬ (i < 0 ∨ (hS h q).2 ≤ i.toNatClampNeg) then some (hI h q i.toNatClampNeg) else none
def stZ (h : AH) (a : Option Nat) (i v : Int32) : Option AH := match a with
  | none => none
  | some q => if (q < hn h ∧ (hS h q).1 = 1 ∧ ¬ (i < 0 ∨ (hS h q).2 ≤ i.toNatClampNeg)) ∧ (v = 0 ∨ v = 1) then some (sI h q (upd (hI h q) i.toNatClampNeg v)) else none
/-- arrays of references: t = 2 holds Sheets, t = 3 holds Pieces -/
def ldR (h : AH) (a : Option Nat) (t : Nat) (i : Int32) : Option (Option Nat) := match a with
  | none => none
  | some q => if q < hn h ∧ (hS h q).1 = t ∧ ¬ (i < 0 ∨ (hS h q).2 ≤ i.toNatClampNeg) then some (hR h q i.toNatClampNeg) else none
def stR (h : AH) (a : Option Nat) (t ci : Nat) (i : Int32) (v : Option Nat) : Option AH := match a, v with
  | some q, some w => if (q < hn h ∧ (hS h q).1 = t ∧ ¬ (i < 0 ∨ (hS h q).2 ≤ i.toNatClampNeg)) ∧ (w < hn h ∧ (hS h w).1 = ci + 4) then some (sR h q (va_up (hR h q) i.toNatClampNeg v)) else none
  | _, _ => none
def lenA (h : AH) (a : Option Nat) : Option Int32 := match a with
  | none => none
  | some q => if q < hn h ∧ (hS h q).1 = 0 then some (Int32.ofNat (hS h q).2) else none
/-- a new array of n places -/
def nA (h : AH) (kind : Nat) (n : Int32) : Option (Option Nat × AH) := if ¬ n < 0 ∧ n.toNatClampNeg ≤ 100000 then some (some (hn h), nC h kind n.toNatClampNeg) else none
def cpI (h : AH) (a : Option Nat) (sp : Int32) (b : Option Nat) (dp n : Int32) : Option AH := match a, b with
  | some q, some w => if (q < hn h ∧ (hS h q).1 = 0) ∧ (w < hn h ∧ (hS h w).1 = 0) ∧ (¬ sp < 0 ∧ ¬ dp < 0 ∧ ¬ n < 0) ∧ sp.toNatClampNeg + n.toNatClampNeg ≤ (hS h q).2 ∧ dp.toNatClampNeg + n.toNatClampNeg ≤ (hS h w).2 then some (sI h w (va_cpy (hI h q) (hI h w) sp.toNatClampNeg dp.toNatClampNeg n.toNatClampNeg)) else none
  | _, _ => none
theorem wH_set {g : GT} {h h2 : AH} {H H1 : Heap} {q : Nat} (P : wH g h H) (hn2 : hn h2 = hn h) (ho : ∀ j, j ≠ q → ce g h2 j = ce g h j) (hz : H1.size = H.size) (he : va_at (g_D g) vwCl (g_z g + q, ce g h2 q) H1) (oq : ∀ a : Nat, a ≠ g_z g + q → H1[a]? = H[a]?) : wH g h2 H1 := by
  refine ⟨fun k x hk => ?_, by rw [hz, P.2, hn2]⟩
  obtain ⟨hl, rfl⟩ := cw_lt hk
  by_cases e : k = q
  · subst e; exact he
  · have h0 := P.1 k _ (cw_at (hn2 ▸ hl))
    rw [ho k e]
    exact h0.kept (oq _ (fun z => e (Nat.add_left_cancel z)))
theorem ce_congr {g : GT} {h h2 : AH} {j : Nat} (h1 : hS h2 j = hS h j) (h3 : hI h2 j = hI h j) (h4 : hR h2 j = hR h j) : ce g h2 j = ce g h j := by
  unfold ce cf
  rw [h1, h3, h4]
theorem sI_ne {h : AH} {q j : Nat} {f : Nat → Int32} (e : j ≠ q) : hI (sI h q f) j = hI h j := by simp [sI, hI, va_up, e]
theorem sI_eq {h : AH} {q : Nat} {f : Nat → Int32} : hI (sI h q f) q = f := by simp [sI, hI, va_up]
theorem sR_ne {h : AH} {q j : Nat} {f : Nat → Option Nat} (e : j ≠ q) : hR (sR h q f) j = hR h j := by simp [sR, hR, va_up, e]
theorem sR_eq {h : AH} {q : Nat} {f : Nat → Option Nat} : hR (sR h q f) q = f := by simp [sR, hR, va_up]
theorem ce_sI {g : GT} {h : AH} {q : Nat} {f : Nat → Int32} (j : Nat) (e : j ≠ q) : ce g (sI h q f) j = ce g h j := ce_congr rfl (sI_ne e) rfl
theorem ce_sR {g : GT} {h : AH} {q : Nat} {f : Nat → Option Nat} (j : Nat) (e : j ≠ q) : ce g (sR h q f) j = ce g h j := ce_congr rfl rfl (sR_ne e)
theorem ce_obj {g : GT} {h : AH} {k ci : Nat} {q : vw_C} (hk : (hS h k).1 = ci + 4) (hq : vwCl[ci]? = some q) : ce g h k = .inr (ci, cf g h k q) := by
  unfold ce
  rw [hk]
  have : vwCl.getD ci (RX0, TX0, 3) = q := by rw [List.getD_eq_getElem?_getD, hq]; rfl
  show Sum.inr (ci, cf g h k (vwCl.getD ci (RX0, TX0, 3))) = _
  rw [this]
theorem ce_int {g : GT} {h : AH} {k : Nat} (hk : (hS h k).1 = 0) : ce g h k = .inl (g_A g 0, (hS h k).2, .inl (hI h k)) := by
  unfold ce; rw [hk]
theorem ce_bool {g : GT} {h : AH} {k : Nat} (hk : (hS h k).1 = 1) : ce g h k = .inl (g_A g 1, (hS h k).2, .inl (hI h k)) := by
  unfold ce; rw [hk]
theorem ce_ref {g : GT} {h : AH} {k t : Nat} (hk : (hS h k).1 = t) (ht : t = 2 ∨ t = 3) : ce g h k = .inl (g_A g t, (hS h k).2, .inr (.inr (.inr (.inr (fun i => cr g (hR h k i)))))) := by
  unfold ce; rw [hk]
  rcases ht with rfl | rfl <;> rfl
theorem cf_at {g : GT} {h : AH} {k j : Nat} {q : vw_C} (hj : j < q.2.2) : (cf g h k q)[j]? = some (if fR q j then va_rf (cr g (hR h k j)) else .int (hI h k j)) := by
  simp [cf, hj]
theorem cf_V {g : GT} {h : AH} {k j : Nat} {q : vw_C} (hj : j < q.2.2) : vp_V (cf g h k q) j = if fR q j then va_rf (cr g (hR h k j)) else .int (hI h k j) := by
  unfold vp_V
  rw [List.getD_eq_getElem?_getD, cf_at hj]
  rfl
theorem if_some {α : Type} {c : Prop} [Decidable c] {x y : α} (h : (if c then some x else none) = some y) : c ∧ x = y := by
  by_cases hc : c
  · rw [if_pos hc] at h; exact ⟨hc, Option.some.inj h⟩
  · rw [if_neg hc] at h; cases h
section Rules2
variable {g : GT} {M : MT} {h h' h1 : AH} {pc : Nat} {ls ls' : List (Option Value)} {st : List Value} {r : Option Value}
theorem x_getI {idx ci k : Nat} {a : Option Nat} {v : Int32} (hd : decode (m_c M) pc = .ok (.getfield idx, 3)) (hf : fL (m_y M).cls idx ci k false) (hg : gI h a ci k = some v) (kk : Xj g M h (pc + 3) ls (.int v :: st) r h') : Xj g M h pc ls (va_rf a :: st) r h' := by
  obtain ⟨q, ty, ⟨c1, c2, c3, c4⟩, hk, hb, hl, -, -⟩ := hf
  cases a with
  | none => cases hg
  | some w =>
    obtain ⟨hw, rfl⟩ := if_some hg
    · skip
      refine x_one kk (fun p e R s m args below meth c H locs cells slots Q la C B P S _ _ L w9 => ?_)
      refine va_get (D := g_D g) (cl := vwCl) (C := q.1) (T := q.2.1) (N := q.2.2) C.1 C.2.1 C.2.2.2.2.1 c2 C.2.2.2.1 B.1 P.1 w ((cw_at hw.1).trans (by rw [ce_obj hw.2 c1])) c1 k hk (C.2.2.2.2.1 _ hl) (fun _ z => z) (v := .int (hI h w k)) ?_ hd w9
      rw [cf_at hk, hb]; rfl
theorem x_getR {idx ci k : Nat} {a : Option Nat} {v : Option Nat} (hd : decode (m_c M) pc = .ok (.getfield idx, 3)) (hf : fL (m_y M).cls idx ci k true) (hg : gR h a ci k = some v) (kk : Xj g M h (pc + 3) ls (va_rf v :: st) r h') : Xj g M h pc ls (va_rf a :: st) r h' := by
  obtain ⟨q, ty, ⟨c1, c2, c3, c4⟩, hk, hb, hl, -, -⟩ := hf
  cases a with
  | none => cases hg
  | some w =>
    obtain ⟨hw, rfl⟩ := if_some hg
    · skip
      refine x_one kk (fun p e R s m args below meth c H locs cells slots Q la C B P S _ _ L w9 => ?_)
      refine va_get (D := g_D g) (cl := vwCl) (C := q.1) (T := q.2.1) (N := q.2.2) C.1 C.2.1 C.2.2.2.2.1 c2 C.2.2.2.1 B.1 P.1 w ((cw_at hw.1).trans (by rw [ce_obj hw.2 c1])) c1 k hk (C.2.2.2.2.1 _ hl) (fun _ z => z) (v := cv g (va_rf (hR h w k))) ?_ hd w9
      rw [cf_at hk, hb, cv_rf]; rfl
/-- a write to a field, with what it leaves -/
theorem w_put {p : Program} {e : Env} {R : Room} {s : State} {m : MethodId} {args : Array Value} {below : List Frame} {meth : Method} {c : Code} {H : Heap} {locs : List Loc} {cells slots : Nat} {Q : State → Prop} {la : Array Slot} {rest : List Value}
    {idx ci k w : Nat} {q : vw_C} {ty : Nat → FieldType} {v : Value} {h2 : AH} (C : Cx M p s m args meth c R) (B : wB g s) (P : wH g h H) (S : va_S (wA g) s.heap H locs)
    (hd : decode (m_c M) pc = .ok (.putfield idx, 3)) (hc : cOk ci q ty) (hk : k < q.2.2) (hl : Cond.fieldLink (m_y M).cls idx (q.2.1 k).1 (q.2.1 k).2.1 (q.2.1 k).2.2.1 ∈ tb)
    (hfin : (q.2.1 k).2.2.2 = false ∨ ((q.2.1 k).2.2.2 = true ∧ (m_y M).name = "<init>" ∧ (q.2.1 k).1 = (m_y M).cls)) (hnar : narrow (ty k) v = v) (hfit : fits (ty k) v = true)
    (hw : w < hn h) (hsh : (hS h w).1 = ci + 4) (hn2 : hn h2 = hn h) (ho : ∀ j, j ≠ w → ce g h2 j = ce g h j) (he : ce g h2 w = .inr (ci, cf g h2 w q)) (hV : ∀ j, j < q.2.2 → updV (vp_V (cf g h w q)) k v j = vp_V (cf g h2 w q) j)
    (kk : ∀ H1 locs1, wH g h2 H1 → va_S (wA g) s.heap H1 locs1 → W p (g_l g) e R s m args below meth c H1 locs1 cells slots Q (F0 m (pc + 3) la rest)) : W p (g_l g) e R s m args below meth c H locs cells slots Q (F0 m pc la (v :: .ref (g_z g + w) :: rest)) := by
  obtain ⟨c1, c2, c3, c4⟩ := hc
  obtain ⟨hx, hb, hml, hown, hts, -, -, hin⟩ := C
  have hP0 := P.1 w _ (cw_at hw)
  rw [ce_obj hsh c1] at hP0
  obtain ⟨r0, r1, cell, q1, q2, q3, q4⟩ := hP0
  cases (r1.symm.trans c1)
  have hap := va_apart (own := (m_y M).cls) hts c2 ty c3 c4 B.1 c1
  obtain ⟨hSl, hfc, kC, hkC, hkind⟩ := B.1.1 ci _ c1
  obtain ⟨cf0, kf, fi, f, hi, hsl⟩ := hSl k hk
  have hlay := hts _ (c2 _ (u_in_lay hk))
  have hst := (u_facts hfc hkC (u_lays hts c2 hk) hi).1
  have hA : wA g (g_z g + w) := Nat.le_add_right _ _
  have fin : ∀ H' : Heap, H'[g_z g + w]? = some (cell.setSlot f.slot v) → H'.size = H.size → (∀ x, x ≠ g_z g + w → H'[x]? = H[x]?) → wH g h2 H' := by
    intro H' e1 e2 e3
    refine wH_set (q := w) P hn2 ho e2 ?_ e3
    rw [he]
    rw [hsl] at e1
    exact ⟨_, c1, t_OB.to (V := updV (vp_V (cf g h w q)) k v) ⟨_, e1, q2, q3, t_set q4 hap hk v⟩ hV⟩
  rcases hfin with hfin | ⟨hfin, hin2, hdecl⟩
  · unfold u_lay at hlay
    rw [if_neg (by rw [hfin]; decide)] at hlay
    have h6 := u_store hfc hkC hkind hlay hi (c3 k hk) hnar hfit
    exact W.putK hx hb (f := f) ⟨hown, hts _ hl, ⟨_, _, _, hi⟩, hst⟩ (by rw [q2]; exact h6) q1 q3 (by rw [hsl]; exact k2_hasslot (q4 k hk)) rfl rfl hd fun H' e1 e2 e3 => kk H' _ (fin H' e1 e2 e3) (S.put e2 e3 hA)
  · unfold u_lay at hlay
    rw [if_pos hfin] at hlay
    have hcf : m.cls = cf0 := by
      obtain ⟨_, _, c', _, _, _, -, -, hf', -, -, -, hown2, -⟩ := Cond.laysFinal_spec hlay
      have e1 : c' = cf0 := by have := hi.symm.trans hf'; simp at this; exact this.1.symm
      rw [hdecl] at hown2
      rw [← e1]; exact Option.some.inj (hown.symm.trans hown2)
    have h6 := u_fits hfc hkC hkind (Or.inr hlay) hi (c3 k hk) hnar hfit
    exact W.putFinK hx hb hown (hts _ hl) hi hst hcf (hin.trans hin2) (by rw [q2]; exact h6) q1 q3 (by rw [hsl]; exact k2_hasslot (q4 k hk)) rfl rfl hd fun H' e1 e2 e3 => kk H' _ (fin H' e1 e2 e3) (S.put e2 e3 hA)
theorem x_putI {idx ci k : Nat} {a : Option Nat} {v : Int32} (hd : decode (m_c M) pc = .ok (.putfield idx, 3)) (hf : fL (m_y M).cls idx ci k false) (hW : fW M ci k) (hg : pI h a ci k v = some h1) (kk : Xj g M h1 (pc + 3) ls st r h') : Xj g M h pc ls (.int v :: va_rf a :: st) r h' := by
  obtain ⟨q, ty, hc, hk, hb, hl, hty, -⟩ := hf
  cases a with
  | none => cases hg
  | some w =>
    obtain ⟨hw, rfl⟩ := if_some hg
    · skip
      refine x_heap kk rfl rfl (fun p e R s m args below meth c H locs cells slots Q la C B P S _ _ L w9 => ?_)
      refine w_put C B P S hd hc hk hl (hW q ty hc) (h2 := sI h w (upd (hI h w) k v)) (v := .int v) (by rw [hty rfl]; rfl) (by rw [hty rfl]; rfl) hw.1 hw.2 rfl ce_sI (ce_obj hw.2 hc.1) (fun j hj => ?_) w9
      rw [cf_V hj, updV]
      by_cases ej : j = k
      · subst ej; simp [hb, sI_eq, upd]
      · rw [if_neg ej, cf_V hj, sI_eq]
        simp [upd, ej, sI, hR]
theorem x_putR {idx ci k : Nat} {a v : Option Nat} (hd : decode (m_c M) pc = .ok (.putfield idx, 3)) (hf : fL (m_y M).cls idx ci k true) (hW : fW M ci k) (hg : pR h a ci k v = some h1) (kk : Xj g M h1 (pc + 3) ls st r h') : Xj g M h pc ls (va_rf v :: va_rf a :: st) r h' := by
  obtain ⟨q, ty, hc, hk, hb, hl, -, hty⟩ := hf
  cases a with
  | none => cases hg
  | some w =>
    obtain ⟨hw, rfl⟩ := if_some hg
    · skip
      refine x_heap kk rfl rfl (fun p e R s m args below meth c H locs cells slots Q la C B P S _ _ L w9 => ?_)
      have hty := hty rfl
      refine w_put C B P S hd hc hk hl (hW q ty hc) (h2 := sR h w (va_up (hR h w) k v)) (v := cv g (va_rf v)) (by rcases hty with ⟨t, e⟩ | ⟨t, e⟩ <;> rw [e] <;> cases v <;> rfl) (by rcases hty with ⟨t, e⟩ | ⟨t, e⟩ <;> rw [e] <;> cases v <;> rfl) hw.1 hw.2 rfl ce_sR (ce_obj hw.2 hc.1) (fun j hj => ?_) w9
      rw [cf_V hj, updV]
      by_cases ej : j = k
      · subst ej; simp [hb, sR_eq, va_up, cv_rf]
      · rw [if_neg ej, cf_V hj, sR_eq]
        simp [va_up, ej, sR, hI]
end Rules2
end
section
/-! arrays, the script, the table ABOVE, new cells, arraycopy -/
section Rules3
variable {g : GT} {M : MT} {h h' h1 : AH} {pc : Nat} {ls ls' : List (Option Value)} {st : List Value} {r : Option Value}
theorem x_ldI {a : Option Nat} {i v : Int32} (hd : decode (m_c M) pc = .ok (.iaload, 1)) (hg : ldI h a i = some v) (kk : Xj g M h (pc + 1) ls (.int v :: st) r h') : Xj g M h pc ls (.int i :: va_rf a :: st) r h' := by
  cases a with
  | none => cases hg
  | some w =>
    obtain ⟨⟨hw1, hw2, hw3⟩, rfl⟩ := if_some hg
    exact x_one kk (fun p e R s m args below meth c H locs cells slots Q la C B P S _ _ L w9 => va_iald C.1 C.2.1 B.1 P.1 w 0 ((cw_at hw1).trans (by rw [ce_int hw2])) rfl hw3 hd w9)
theorem x_ldZ {a : Option Nat} {i v : Int32} (hd : decode (m_c M) pc = .ok (.baload, 1)) (hg : ldZ h a i = some v) (kk : Xj g M h (pc + 1) ls (.int v :: st) r h') : Xj g M h pc ls (.int i :: va_rf a :: st) r h' := by
  cases a with
  | none => cases hg
  | some w =>
    obtain ⟨⟨hw1, hw2, hw3⟩, rfl⟩ := if_some hg
    exact x_one kk (fun p e R s m args below meth c H locs cells slots Q la C B P S _ _ L w9 => va_zald C.1 C.2.1 B.1 P.1 w 1 ((cw_at hw1).trans (by rw [ce_bool hw2])) rfl hw3 hd w9)
theorem x_ldR {a v : Option Nat} {t : Nat} {i : Int32} (ht : t = 2 ∨ t = 3) (hd : decode (m_c M) pc = .ok (.aaload, 1)) (hg : ldR h a t i = some v) (kk : Xj g M h (pc + 1) ls (va_rf v :: st) r h') : Xj g M h pc ls (.int i :: va_rf a :: st) r h' := by
  cases a with
  | none => cases hg
  | some w =>
    obtain ⟨⟨hw1, hw2, hw3⟩, rfl⟩ := if_some hg
    refine x_one kk (fun p e R s m args below meth c H locs cells slots Q la C B P S _ _ L w9 => ?_)
    have he := (cw_at (g := g) hw1).trans (by rw [ce_ref hw2 ht])
    have w8 : W p (g_l g) e R s m args below meth c H locs cells slots Q (F0 m (pc + 1) la (va_rf (cr g (hR h w i.toNatClampNeg)) :: st.map (cv g))) := by
      have := w9; rw [List.map_cons, cv_rf] at this; exact this
    rcases ht with rfl | rfl
    · exact va_aldq C.1 C.2.1 B.1 P.1 w 2 he rfl hw3 hd w8
    · exact va_aldq C.1 C.2.1 B.1 P.1 w 3 he rfl hw3 hd w8
theorem x_len {a : Option Nat} {v : Int32} (hd : decode (m_c M) pc = .ok (.arraylength, 1)) (hg : lenA h a = some v) (kk : Xj g M h (pc + 1) ls (.int v :: st) r h') : Xj g M h pc ls (va_rf a :: st) r h' := by
  cases a with
  | none => cases hg
  | some w =>
    obtain ⟨⟨hw1, hw2⟩, rfl⟩ := if_some hg
    exact x_one kk (fun p e R s m args below meth c H locs cells slots Q la C B P S _ _ L w9 => va_alen (x := ((hS h w).2, .inl (hI h w))) C.1 C.2.1 B.1 P.1 w 0 ((cw_at hw1).trans (by rw [ce_int hw2])) rfl rfl hd w9)
theorem x_ldS {i : Int32} (hd : decode (m_c M) pc = .ok (.iaload, 1)) (hi : ¬ (i < 0 ∨ g_n g ≤ i.toNatClampNeg)) (kk : Xj g M h (pc + 1) ls (.int (g_x g i.toNatClampNeg) :: st) r h') : Xj g M h pc ls (.int i :: .retAddr 0 :: st) r h' :=
  x_one kk (fun p e R s m args below meth c H locs cells slots Q la C B P S _ _ L w9 => va_sld C.1 C.2.1 B.2.2.2.1 (Nat.lt_of_lt_of_le B.2.2.2.2.1 B.2.2.2.2.2.1) (Nat.not_le.mpr B.2.2.2.2.1) S hi hd w9)
theorem x_lenS (hd : decode (m_c M) pc = .ok (.arraylength, 1)) (kk : Xj g M h (pc + 1) ls (.int (Int32.ofNat (g_n g)) :: st) r h') : Xj g M h pc ls (.retAddr 0 :: st) r h' :=
  x_one kk (fun p e R s m args below meth c H locs cells slots Q la C B P S _ _ L w9 => va_slen C.1 C.2.1 B.2.2.2.1 (Nat.lt_of_lt_of_le B.2.2.2.2.1 B.2.2.2.2.2.1) (Nat.not_le.mpr B.2.2.2.2.1) S hd w9)
theorem x_getT {idx : Nat} (hd : decode (m_c M) pc = .ok (.getstatic idx, 3)) (hl : Cond.fieldLink (m_y M).cls idx "CanyonRafts" "ABOVE" "[I" ∈ tb) (kk : Xj g M h (pc + 3) ls (.retAddr 1 :: st) r h') : Xj g M h pc ls st r h' :=
  x_one kk (fun p e R s m args below meth c H locs cells slots Q la C B P S _ _ L w9 => va_gets C.1 C.2.1 B.2.1 S C.2.2.2.1 (C.2.2.2.2.1 _ hl) (fun _ z => z) hd w9)
def aT (i : Int32) : Int32 := if i = 0 then -1 else if i = 1 then 0 else if i = 2 then 0 else 1
theorem x_ldT {i v : Int32} (hd : decode (m_c M) pc = .ok (.iaload, 1)) (hi : ¬ (i < 0 ∨ 4 ≤ i.toNatClampNeg)) (hv : abv i.toNatClampNeg = .int v) (kk : Xj g M h (pc + 1) ls (.int v :: st) r h') : Xj g M h pc ls (.int i :: .retAddr 1 :: st) r h' :=
  x_one kk (fun p e R s m args below meth c H locs cells slots Q la C B P S _ _ L w9 => va_ti C.1 C.2.1 B.2.2.1 S hi hv hd w9)
/-- a write to an array of ints, at the machine -/
theorem w_arr {s : State} {H H1 : Heap} {locs : List Loc} {w j : Nat} {x : Int32} {n : Nat} {t : Nat} {L : List Loc} (P : wH g h H) (S : va_S (wA g) s.heap H locs) (hw : w < hn h) (he : ∀ f, ce g (sI h w f) w = .inl (g_A g t, n, .inl f)) 
    (e : H1[g_z g + w]? = some ((vp_cell (g_A g t) (n, .inl (hI h w))).setSlot j (.int x))) (z : H1.size = H.size) (oq : ∀ q, q ≠ g_z g + w → H1[q]? = H[q]?) : wH g (sI h w (upd (hI h w) j x)) H1 := by
  refine wH_set (q := w) P rfl ce_sI z ?_ oq
  rw [he]
  show H1[g_z g + w]? = some (vp_cell _ _)
  rw [e, vp_cell_i, vp_cell_i, arrV_store]
  congr 2
  funext q
  by_cases hq : q = j
  · subst hq; simp [updV, upd]
  · simp [updV, upd, hq]
theorem x_stI {a : Option Nat} {i v : Int32} (hd : decode (m_c M) pc = .ok (.iastore, 1)) (hg : stI h a i v = some h1) (kk : Xj g M h1 (pc + 1) ls st r h') : Xj g M h pc ls (.int v :: .int i :: va_rf a :: st) r h' := by
  cases a with
  | none => cases hg
  | some w =>
    obtain ⟨⟨hw1, hw2, hw3⟩, rfl⟩ := if_some hg
    refine x_heap kk rfl rfl (fun p e R s m args below meth c H locs cells slots Q la C B P S _ _ L w9 => ?_)
    have hc := P.1 w _ (cw_at hw1)
    rw [ce_int hw2] at hc
    refine W.iast C.1 C.2.1 hc ((B.1.2 0 _ rfl).1 _ _) (fun q => by cases q) (by show ¬ (i < 0 ∨ (arrV _ _ _).slots.size ≤ _); rw [arrV_size]; exact hw3) rfl rfl hd fun H1 e z oq => ?_
    exact w9 H1 _ (w_arr (L := []) (s := s) P S hw1 (fun f => by rw [ce_int (show (hS (sI h w f) w).1 = 0 from hw2), sI_eq]; rfl) e z oq) (S.put z oq (Nat.le_add_right _ _))
theorem x_stZ {a : Option Nat} {i v : Int32} (hd : decode (m_c M) pc = .ok (.bastore, 1)) (hg : stZ h a i v = some h1) (kk : Xj g M h1 (pc + 1) ls st r h') : Xj g M h pc ls (.int v :: .int i :: va_rf a :: st) r h' := by
  cases a with
  | none => cases hg
  | some w =>
    obtain ⟨⟨⟨hw1, hw2, hw3⟩, hv⟩, rfl⟩ := if_some hg
    refine x_heap kk rfl rfl (fun p e R s m args below meth c H locs cells slots Q la C B P S _ _ L w9 => ?_)
    have hc := P.1 w _ (cw_at hw1)
    rw [ce_bool hw2] at hc
    have hnv : narrow .boolean (.int v) = .int v := by rcases hv with rfl | rfl <;> rfl
    refine W.zast C.1 C.2.1 hc ((B.1.2 1 _ rfl).1 _ _) (fun q => by cases q) (by show ¬ (i < 0 ∨ (arrV _ _ _).slots.size ≤ _); rw [arrV_size]; exact hw3) rfl rfl hd fun H1 e z oq => ?_
    rw [hnv] at e
    exact w9 H1 _ (w_arr (L := []) (s := s) P S hw1 (fun f => by rw [ce_bool (show (hS (sI h w f) w).1 = 1 from hw2), sI_eq]; rfl) e z oq) (S.put z oq (Nat.le_add_right _ _))
theorem x_stR {a v : Option Nat} {t ci : Nat} {i : Int32} (ht : (t = 2 ∧ ci = 5) ∨ (t = 3 ∧ ci = 2)) (hd : decode (m_c M) pc = .ok (.aastore, 1)) (hg : stR h a t ci i v = some h1) (kk : Xj g M h1 (pc + 1) ls st r h') : Xj g M h pc ls (va_rf v :: .int i :: va_rf a :: st) r h' := by
  cases a with
  | none => cases hg
  | some w =>
    cases v with
    | none => cases hg
    | some u =>
      obtain ⟨⟨⟨hw1, hw2, hw3⟩, hu1, hu2⟩, rfl⟩ := if_some hg
      refine x_heap kk rfl rfl (fun p e R s m args below meth c H locs cells slots Q la C B P S _ _ L w9 => ?_)
      have ht2 : t = 2 ∨ t = 3 := by rcases ht with ⟨h1, -⟩ | ⟨h1, -⟩ <;> simp [h1]
      have hc := P.1 w _ (cw_at hw1)
      rw [ce_ref hw2 ht2] at hc
      obtain ⟨q, hq, hty⟩ : ∃ q : vw_C, vwCl[ci]? = some q ∧ (tys g)[t]? = some (g_A g t, .object q.1) := by
        rcases ht with ⟨rfl, rfl⟩ | ⟨rfl, rfl⟩ <;> exact ⟨_, rfl, rfl⟩
      have hv := P.1 u _ (cw_at hu1)
      rw [ce_obj hu2 hq] at hv
      obtain ⟨r', hr', cellV, g1, g2, g3, -⟩ := hv
      cases hr'.symm.trans hq
      have hcls := (B.1.1 ci q hq).2
      obtain ⟨kA, comp, k1, k2, k3, -⟩ := (B.1.2 t _ hty).2
      have hcomp : comp = (g_D g).1 ci := Option.some.inj (k3.symm.trans hcls.1)
      subst hcomp
      obtain ⟨kC, hkC, -⟩ := hcls.2
      have h0 : ¬ i < 0 := fun z => hw3 (Or.inl z)
      have hlt : i.toNatClampNeg < (hS h w).2 := Nat.not_le.mp fun z => hw3 (Or.inr z)
      refine W.aast C.1 C.2.1 hc (fun q h => by cases h) (fun h => by cases h) k1 k2 rfl hkC ⟨h0, by show _ < (arrV _ _ _).slots.size; rw [arrV_size]; exact hlt⟩ g1 (fun q h => by rw [g3] at h; cases h) (by rw [g2]; exact hkC) (by rw [g2]; exact va_assign hcls) rfl rfl hd fun H1 e z oq => ?_
      refine w9 H1 _ (wH_set (q := w) P rfl ce_sR z ?_ oq) (S.put z oq (Nat.le_add_right _ _))
      rw [ce_ref (show (hS (sR h w _) w).1 = t from hw2) ht2, sR_eq]
      show H1[g_z g + w]? = some (vp_cell _ _)
      rw [e, vp_cell_q, vp_cell_q, arrV_store]
      congr 2
      funext x
      by_cases hx : x = i.toNatClampNeg
      · subst hx; simp [updV, va_up, va_rf, cr]
      · simp [updV, va_up, hx]
end Rules3
end
section
/-! new cells, the JDK's methods, calls -/
theorem nC_ne {h : AH} {k t n : Nat} (hk : k < hn h) : hS (nC h t n) k = hS h k ∧ hI (nC h t n) k = hI h k ∧ hR (nC h t n) k = hR h k := by
  have e : k ≠ hn h := Nat.ne_of_lt hk
  simp [nC, hS, hI, hR, va_up, e]
theorem nC_eq {h : AH} {t n : Nat} : hS (nC h t n) (hn h) = (t, n) ∧ hI (nC h t n) (hn h) = (fun _ => 0) ∧ hR (nC h t n) (hn h) = (fun _ => none) := by
  simp [nC, hS, hI, hR, va_up]
theorem wH_new {g : GT} {h : AH} {H H1 : Heap} {t n : Nat} (P : wH g h H) (hz : H1.size = H.size + 1) (o1 : ∀ q : Nat, q < H.size → H1[q]? = H[q]?) (he : va_at (g_D g) vwCl (g_z g + hn h, ce g (nC h t n) (hn h)) H1) : wH g (nC h t n) H1 := by
  refine ⟨fun k x hk => ?_, by rw [hz, P.2]; rfl⟩
  obtain ⟨hl, rfl⟩ := cw_lt hk
  by_cases e : k = hn h
  · subst e; exact he
  · have hk' : k < hn h := by
      have : k < hn h + 1 := hl
      omega
    have h0 := P.1 k _ (cw_at hk')
    obtain ⟨a1, a2, a3⟩ := nC_ne (t := t) (n := n) hk'
    rw [ce_congr a1 a2 a3]
    exact h0.kept (o1 _ (by rw [P.2]; exact Nat.add_lt_add_left hk' _))
theorem S_new {A : Nat → Prop} {H0 H H1 : Heap} {locs : List Loc} (S : va_S A H0 H locs) (hz : H1.size = H.size + 1) (o1 : ∀ q : Nat, q < H.size → H1[q]? = H[q]?) : va_S A H0 H1 locs :=
  ⟨Nat.le_trans S.1 (by omega), fun x h1 h2 => (o1 x (Nat.lt_of_lt_of_le h1 S.1)).trans (S.2.1 x h1 h2), S.2.2⟩
theorem cat_sum (g : GT) (st : List Value) : ((st.map (cv g)).map fun v => v.category).sum = st.length := by
  induction st with
  | nil => rfl
  | cons v t ih => simp only [List.map_cons, List.sum_cons, List.length_cons, cv_cat, ih]; omega
def nL (own : String) (idx ci N : Nat) : Prop := ∃ (q : vw_C) (ty : Nat → FieldType), cOk ci q ty ∧ q.2.2 = N ∧ (∀ k, k < q.2.2 → defaultValue (ty k) = if fR q k then .null else .int 0) ∧ Cond.classLink own idx q.1 ∈ tb ∧ Cond.instantiable q.1 q.2.2 ∈ tb ∧ Cond.initialized q.1 ∈ tb
section Rules4
variable {g : GT} {M M' : MT} {h h' h1 : AH} {pc : Nat} {ls ls' : List (Option Value)} {st : List Value} {r r1 : Option Value}
theorem x_new {idx ci N : Nat} (hd : decode (m_c M) pc = .ok (.new idx, 3)) (hl : nL (m_y M).cls idx ci N) (kk : Xj g M (nC h (ci + 4) N) (pc + 3) ls (va_rf (some (hn h)) :: st) r h') : Xj g M h pc ls st r h' := by
  obtain ⟨q, ty, ⟨c1, c2, c3, c4⟩, rfl, hdv, l1, l2, l3⟩ := hl
  refine x_made kk rfl rfl (fun p e R s m args below meth c H locs cells slots Q la C B P S k1 k2 L w9 => ?_)
  have hKn := B.1.1 ci _ c1
  refine W.newcK C.1 C.2.1 C.2.2.2.1 (C.2.2.2.2.1 _ l1) (C.2.2.2.2.1 _ l2) (C.2.2.2.2.1 _ l3) rfl hd k1 k2 hKn.2.1 P.2 fun H1 kC hkC e1 z1 o1 => ?_
  have z1' : H1.size = H.size + 1 := by rw [z1, P.2]
  have o1' : ∀ q : Nat, q < H.size → H1[q]? = H[q]? := fun q hq => o1 q (P.2 ▸ hq)
  refine w9 H1 locs (wH_new P z1' o1' ?_) (S_new S z1' o1')
  rw [ce_obj (ci := ci) (q := q) (by rw [nC_eq.1]) c1]
  refine ⟨_, c1, (u_born ty C.2.2.2.2.1 c2 hKn hkC e1 c3).to (fun j hj => ?_)⟩
  rw [cf_V hj, hdv j hj, nC_eq.2.1, nC_eq.2.2]
  cases fR q j <;> rfl
theorem x_nI {n : Int32} {a : Option Nat} (hd : decode (m_c M) pc = .ok (.newarray .int, 2)) (hl : Cond.arrayClass .int ∈ tb) (hg : nA h 0 n = some (a, h1)) (kk : Xj g M h1 (pc + 2) ls (va_rf a :: st) r h') : Xj g M h pc ls (.int n :: st) r h' := by
  obtain ⟨⟨n1, n2⟩, e⟩ := if_some hg
  cases e
  refine x_made kk rfl rfl (fun p e R s m args below meth c H locs cells slots Q la C B P S k1 k2 L w9 => ?_)
  refine va_newaK C.1 C.2.1 (atype := .int) (C.2.2.2.2.1 _ hl) rfl hd rfl n1 rfl (by show _ * 4 ≤ _; omega) k1 k2 P.2 fun H1 cA e1 z1 o1 hAr hNm => ?_
  have z1' : H1.size = H.size + 1 := by rw [z1, P.2]
  have o1' : ∀ q : Nat, q < H.size → H1[q]? = H[q]? := fun q hq => o1 q (P.2 ▸ hq)
  refine w9 H1 locs (wH_new P z1' o1' ?_) (S_new S z1' o1')
  rw [ce_int (by rw [nC_eq.1]), nC_eq.1, nC_eq.2.1]
  have hcA : cA = g_A g 0 := Option.some.inj (hNm.symm.trans (B.1.2 0 _ rfl).2)
  rw [← hcA]
  exact e1
theorem x_nZ {n : Int32} {a : Option Nat} (hd : decode (m_c M) pc = .ok (.newarray .boolean, 2)) (hl : Cond.arrayClass .boolean ∈ tb) (hg : nA h 1 n = some (a, h1)) (kk : Xj g M h1 (pc + 2) ls (va_rf a :: st) r h') : Xj g M h pc ls (.int n :: st) r h' := by
  obtain ⟨⟨n1, n2⟩, e⟩ := if_some hg
  cases e
  refine x_made kk rfl rfl (fun p e R s m args below meth c H locs cells slots Q la C B P S k1 k2 L w9 => ?_)
  refine va_newaK C.1 C.2.1 (atype := .boolean) (C.2.2.2.2.1 _ hl) rfl hd rfl n1 rfl (by show _ * 1 ≤ _; omega) k1 k2 P.2 fun H1 cA e1 z1 o1 hAr hNm => ?_
  have z1' : H1.size = H.size + 1 := by rw [z1, P.2]
  have o1' : ∀ q : Nat, q < H.size → H1[q]? = H[q]? := fun q hq => o1 q (P.2 ▸ hq)
  refine w9 H1 locs (wH_new P z1' o1' ?_) (S_new S z1' o1')
  rw [ce_bool (by rw [nC_eq.1]), nC_eq.1, nC_eq.2.1]
  have hcA : cA = g_A g 1 := Option.some.inj (hNm.symm.trans (B.1.2 1 _ rfl).2)
  rw [← hcA]
  exact e1
theorem x_nR {idx t ci : Nat} {n : Int32} {a : Option Nat} {q : vw_C} (ht : (t = 2 ∧ q.1 = RX5) ∨ (t = 3 ∧ q.1 = RX2)) (hd : decode (m_c M) pc = .ok (.anewarray idx, 3)) (hl : Cond.classLink (m_y M).cls idx q.1 ∈ tb) (hg : nA h t n = some (a, h1)) (kk : Xj g M h1 (pc + 3) ls (va_rf a :: st) r h') : Xj g M h pc ls (.int n :: st) r h' := by
  obtain ⟨⟨n1, n2⟩, e⟩ := if_some hg
  cases e
  refine x_made kk rfl rfl (fun p e R s m args below meth c H locs cells slots Q la C B P S k1 k2 L w9 => ?_)
  refine W.anew C.1 C.2.1 C.2.2.2.1 (C.2.2.2.2.1 _ hl) (va_AO.use (by rcases ht with ⟨-, e⟩ | ⟨-, e⟩ <;> rw [e]; exact B.2.2.2.2.2.2.2.1; exact B.2.2.2.2.2.2.2.2)) rfl hd rfl n1 (by omega) k1 k2 fun cA kA comp f1 f2 f3 f4 => ?_
  generalize hH1 : H.push ({ cls := cA, slots := Array.replicate n.toNatClampNeg .null, vm := .none } : Cell) = H1
  have z1 : H1.size = H.size + 1 := by rw [← hH1, Array.size_push]
  have e1 : H1[H.size]? = some (arrV cA n.toNatClampNeg (fun _ => .null)) := by rw [← hH1, Array.getElem?_push_size, ← arrV_new]
  have o1 : ∀ q : Nat, q < H.size → H1[q]? = H[q]? := fun q hq => by rw [← hH1, Array.getElem?_push, if_neg (Nat.ne_of_lt hq)]
  have ht2 : t = 2 ∨ t = 3 := by rcases ht with ⟨x, -⟩ | ⟨x, -⟩ <;> simp [x]
  have hty : (tys g)[t]? = some (g_A g t, .object q.1) := by
    rcases ht with ⟨rfl, e⟩ | ⟨rfl, e⟩ <;> rw [e] <;> rfl
  have hcA : cA = g_A g t := by
    obtain ⟨_, _, -, -, -, f5⟩ := (B.1.2 t _ hty).2
    exact Option.some.inj (f1.symm.trans f5)
  have w8 := w9 H1 locs (wH_new P z1 o1 (by
    rw [ce_ref (by rw [nC_eq.1]) ht2, nC_eq.1, nC_eq.2.2]
    show H1[g_z g + hn h]? = some (vp_cell _ _)
    rw [← P.2, e1, ← hcA, vp_cell_q]
    rfl)) (S_new S z1 o1)
  have e9 : (va_rf (some (hn h)) :: st).map (cv g) = .ref H.size :: st.map (cv g) := by rw [P.2]; rfl
  rw [e9] at w8
  exact w8
theorem x_objInit {idx : Nat} {a : Nat} (hd : decode (m_c M) pc = .ok (.invokespecial idx, 3)) (l1 : Cond.methodLink (m_y M).cls idx Lib.objectInit ∈ tb) (l2 : Cond.instanceMethod Lib.objectInit ∈ tb) (l3 : Cond.code Lib.objectInit ⟨#[0xb1]⟩ 1 none ∈ tb) (hf : 1 ≤ m_f M) (ho : st.length + 12 ≤ m_o M) (kk : Xj g M h (pc + 3) ls st r h') : Xj g M h pc ls (va_rf (some a) :: st) r h' :=
  x_one kk (fun p e R s m args below meth c H locs cells slots Q la C B P S _ _ L w9 => W.objInit C.1 C.2.1 C.2.2.2.1 (C.2.2.2.2.1 _ l1) (C.2.2.2.2.1 _ l2) (C.2.2.2.2.1 _ l3) rfl (L.1.trans C.2.2.1.symm) rfl hd (Nat.le_trans hf C.2.2.2.2.2.1) (by show 2 * 0 + _ + 12 ≤ _; rw [cat_sum]; have := C.2.2.2.2.2.2.1; omega) w9)
theorem x_max {idx : Nat} {x y : Int32} (hd : decode (m_c M) pc = .ok (.invokestatic idx, 3)) (l1 : Cond.methodLink (m_y M).cls idx Lib.Math.max.name ∈ tb) (l2 : Cond.static Lib.Math.max.name ∈ tb) (l3 : Cond.initialized "java/lang/Math" ∈ tb) (l4 : Cond.code Lib.Math.max.name Lib.Math.max.code 2 (some .int) ∈ tb) (hf : 1 ≤ m_f M) (ho : st.length + 13 ≤ m_o M) (kk : Xj g M h (pc + 3) ls (.int (if x < y then y else x) :: st) r h') : Xj g M h pc ls (.int y :: .int x :: st) r h' :=
  x_one kk (fun p e R s m args below meth c H locs cells slots Q la C B P S k1 k2 L w9 => va_mmax C.1 C.2.1 (C.2.2.1.trans L.1.symm) C.2.2.2.1 (C.2.2.2.2.1 _ l1) (C.2.2.2.2.1 _ l2) (C.2.2.2.2.1 _ l3) (C.2.2.2.2.1 _ l4) (Nat.le_trans hf C.2.2.2.2.2.1) (by rw [cat_sum]; have := C.2.2.2.2.2.2.1; omega) k1 k2 hd w9)
theorem x_min {idx : Nat} {x y : Int32} (hd : decode (m_c M) pc = .ok (.invokestatic idx, 3)) (l1 : Cond.methodLink (m_y M).cls idx Lib.Math.min.name ∈ tb) (l2 : Cond.static Lib.Math.min.name ∈ tb) (l3 : Cond.initialized "java/lang/Math" ∈ tb) (l4 : Cond.code Lib.Math.min.name Lib.Math.min.code 2 (some .int) ∈ tb) (hf : 1 ≤ m_f M) (ho : st.length + 13 ≤ m_o M) (kk : Xj g M h (pc + 3) ls (.int (if y < x then y else x) :: st) r h') : Xj g M h pc ls (.int y :: .int x :: st) r h' :=
  x_one kk (fun p e R s m args below meth c H locs cells slots Q la C B P S k1 k2 L w9 => va_mmin C.1 C.2.1 (C.2.2.1.trans L.1.symm) C.2.2.2.1 (C.2.2.2.2.1 _ l1) (C.2.2.2.2.1 _ l2) (C.2.2.2.2.1 _ l3) (C.2.2.2.2.1 _ l4) (Nat.le_trans hf C.2.2.2.2.2.1) (by rw [cat_sum]; have := C.2.2.2.2.2.2.1; omega) k1 k2 hd w9)
theorem x_abs {idx : Nat} {x : Int32} (hd : decode (m_c M) pc = .ok (.invokestatic idx, 3)) (l1 : Cond.methodLink (m_y M).cls idx Lib.Math.abs.name ∈ tb) (l2 : Cond.static Lib.Math.abs.name ∈ tb) (l3 : Cond.initialized "java/lang/Math" ∈ tb) (l4 : Cond.code Lib.Math.abs.name Lib.Math.abs.code 1 (some .int) ∈ tb) (hf : 1 ≤ m_f M) (ho : st.length + 13 ≤ m_o M) (kk : Xj g M h (pc + 3) ls (.int (if 0 ≤ x then x else 0 - x) :: st) r h') : Xj g M h pc ls (.int x :: st) r h' :=
  x_one kk (fun p e R s m args below meth c H locs cells slots Q la C B P S k1 k2 L w9 => va_mabs C.1 C.2.1 (C.2.2.1.trans L.1.symm) C.2.2.2.1 (C.2.2.2.2.1 _ l1) (C.2.2.2.2.1 _ l2) (C.2.2.2.2.1 _ l3) (C.2.2.2.2.1 _ l4) (Nat.le_trans hf C.2.2.2.2.2.1) (by rw [cat_sum]; have := C.2.2.2.2.2.2.1; omega) k1 k2 hd w9)
theorem nn32 {z : Int32} (hz : ¬ z < 0) : z.toInt = (z.toNatClampNeg : Int) := by
  have hz0 : (0 : Int) ≤ z.toInt := by
    have := Int32.not_lt.mp hz
    simpa using Int32.le_iff_toInt_le.mp this
  show z.toInt = ((z.toInt.toNat : Nat) : Int)
  omega
theorem x_copy {idx : Nat} {a b : Option Nat} {sp dp n : Int32} (hd : decode (m_c M) pc = .ok (.invokestatic idx, 3)) (l1 : Cond.methodLink (m_y M).cls idx arraycopyName ∈ tb) (l2 : Cond.native arraycopyName ∈ tb) (l3 : Cond.static arraycopyName ∈ tb) (l4 : Cond.initialized "java/lang/System" ∈ tb) (hf : 1 ≤ m_f M) (ho : st.length + 18 ≤ m_o M) (hg : cpI h a sp b dp n = some h1) (kk : Xj g M h1 (pc + 3) ls st r h') : Xj g M h pc ls (.int n :: .int dp :: va_rf b :: .int sp :: va_rf a :: st) r h' := by
  cases a with
  | none => cases b <;> cases hg
  | some q =>
    cases b with
    | none => cases hg
    | some w =>
      obtain ⟨⟨⟨q1, q2⟩, ⟨w1, w2⟩, ⟨n1, n2, n3⟩, n4, n5⟩, rfl⟩ := if_some hg
      refine x_heap kk rfl rfl (fun p e R s m args below meth c H locs cells slots Q la C B P S _ _ L w9 => ?_)
      intro T hT X
      have hc0 := P.1 q _ (cw_at q1)
      rw [ce_int q2] at hc0
      have hc1 := P.1 w _ (cw_at w1)
      rw [ce_int w2] at hc1
      have hc0' : H[g_z g + q]? = some (vp_cell (g_A g 0) ((hS h q).2, .inl (hI h q))) := hc0
      have hc1' : H[g_z g + w]? = some (vp_cell (g_A g 0) ((hS h w).2, .inl (hI h w))) := hc1
      obtain ⟨-, k0, hk0, cm0, hkk0⟩ := (B.1.2 0 _ rfl).1 (hS h q).2 (fun j => .int (hI h q j))
      obtain ⟨-, k1, hk1, cm1, hkk1⟩ := (B.1.2 0 _ rfl).1 (hS h w).2 (fun j => .int (hI h w j))
      obtain ⟨vm', X', step⟩ := X.arraycopy C.1 C.2.2.2.1 (C.2.2.2.2.1 _ l1) (C.2.2.2.2.1 _ l2) (C.2.2.2.2.1 _ l3) (C.2.2.2.2.1 _ l4) (src := g_z g + q) (dst := g_z g + w) (cs := vp_cell (g_A g 0) ((hS h q).2, .inl (hI h q))) (cd := vp_cell (g_A g 0) ((hS h w).2, .inl (hI h w))) (sType := .int) (dType := .int) (srcPos := sp) (destPos := dp) (n := n) (by rw [hT]; exact hc0') (by rw [hT]; exact hc1')
        (fun _ h => by cases h) (fun _ h => by cases h) (fun h => by cases h) (fun h => by cases h) hk0 hk1 hkk0 hkk1 (by rfl) n1 n2 n3
        (by rw [nn32 n1, nn32 n3]; show ¬ _ > ((arrV _ _ _).slots.size : Int); rw [arrV_size]; omega)
        (by rw [nn32 n2, nn32 n3]; show ¬ _ > ((arrV _ _ _).slots.size : Int); rw [arrV_size]; omega)
        (fun vm₁ _ i hi => by
          have e : (vp_cell (g_A g 0) ((hS h q).2, .inl (hI h q))).slots.getD (sp.toNatClampNeg + i) .null = .int (hI h q (sp.toNatClampNeg + i)) := by
            show (arrV _ _ _).slots.getD _ _ = _
            rw [Array.getD_eq_getD_getElem?, arrV_read _ _ (by omega)]
            rfl
          rw [e]
          exact ⟨rfl, trivial⟩)
        (g := F0 m pc la ((.int n :: .int dp :: va_rf (some w) :: .int sp :: va_rf (some q) :: st).map (cv g))) rfl (L.1.trans C.2.2.1.symm) (rest := st.map (cv g)) rfl (by rw [C.2.1]; exact hd) (Nat.le_trans hf C.2.2.2.2.2.1) (by
          show 2 * 0 + _ + (7 + 11) ≤ _
          rw [cat_sum]; have := C.2.2.2.2.2.2.1; omega)
      have e1 : copied (vp_cell (g_A g 0) ((hS h q).2, .inl (hI h q))) (vp_cell (g_A g 0) ((hS h w).2, .inl (hI h w))) sp dp n = vp_cell (g_A g 0) ((hS h w).2, .inl (va_cpy (hI h q) (hI h w) sp.toNatClampNeg dp.toNatClampNeg n.toNatClampNeg)) := va_copied (fun z => .int z) _ _ _ _ n4
      rw [e1] at X' step
      generalize hnew : vp_cell (g_A g 0) ((hS h w).2, .inl (va_cpy (hI h q) (hI h w) sp.toNatClampNeg dp.toNatClampNeg n.toNatClampNeg)) = newc at X' step
      have hl : g_z g + w < H.size := (Array.getElem?_eq_some_iff.mp hc1').1
      have oq : ∀ x : Nat, x ≠ g_z g + w → (H.setIfInBounds (g_z g + w) newc)[x]? = H[x]? := fun x hx => by simp [Array.getElem?_setIfInBounds, Ne.symm hx]
      obtain ⟨t, a1, b1⟩ := w9 (H.setIfInBounds (g_z g + w) newc) _ (wH_set (q := w) P rfl ce_sI (by simp) (by
          rw [ce_int (show (hS (sI h w _) w).1 = 0 from w2), sI_eq]
          show (H.setIfInBounds (g_z g + w) newc)[g_z g + w]? = some (vp_cell _ _)
          rw [← hnew]
          simp [Array.getElem?_setIfInBounds, hl]
          rfl) oq) ⟨by simp; exact S.1, fun x g1 g2 => by
          rw [oq x (fun e => g2 (by rw [e]; exact Nat.le_add_right _ _))]
          exact S.2.1 x g1 g2, fun x hx => by
          rcases List.mem_append.mp hx with h | h
          · exact S.2.2 x h
          · obtain ⟨z, -, hz⟩ := List.mem_map.mp h
            rw [← hz]
            exact Nat.le_add_right _ _⟩ _ (by rw [← hT]; rfl) X'
      exact ⟨t, step t a1, b1⟩
end Rules4
end
section
/-! a method's contract out of the judgement, and calls -/
def wsM (M : MT) : List Cond := Cond.code (m_y M) (m_c M) (m_l M) (m_r M) :: tb
theorem tblGood {w : Cond} (h : w ∈ tb) : (w.onTables && w.keeps) = true ∨ ∃ ty, w = .arrayClass ty := good_of_word (List.mem_filter.mp h).2
/-- what the tables say of a method: its code, its class -/
def mOk (M : MT) (n : Nat) : Prop := Cond.code (m_y M) (m_c M) (m_l M) (m_r M) ∈ tb ∧ Cond.initialized (m_y M).cls ∈ tb ∧ ((m_y M).cls ≠ "java/lang/invoke/MethodHandle" ∧ (m_y M).cls ≠ "java/lang/invoke/VarHandle" ∧ (parseMethodDescriptor (m_y M).desc).map (fun d => d.parameters.length) = some n) ∧ plainName (m_y M).cls = true
theorem wsM_good {M : MT} {n : Nat} (h : mOk M n) : GoodIn tb (wsM M) := by
  intro w hw
  rcases List.mem_cons.mp hw with rfl | hw
  · exact ⟨h.1, tblGood h.1⟩
  · exact ⟨hw, tblGood hw⟩
def Xm (g : GT) (M : MT) (as : List Value) (h : AH) (r : Option Value) (h1 : AH) : Prop :=
  (hn h ≤ hn h1 ∧ hs h ≤ hs h1) ∧
  Met (g_l g) (m_y M) (wsM M) { frames := m_f M, cells := hn h1 - hn h, slots := hs h1 - hs h, locals := m_o M } (va_Pc (as.map (cv g)) (fun U => wB g U ∧ wH g h U.heap))
    (fun _ st o t => o = .returned (r.map (cv g)) ∧ wH g h1 t.heap ∧ va_F (wA g) st t) (hn h1 - hn h) (hs h1 - hs h) (wA g)
theorem lv_wf_entry (g : GT) (as : List Value) (n : Nat) : lv_wf (((as.map (cv g)).map Slot.val ++ List.replicate n Slot.unset).toArray) := by
  have key : ∀ (i : Nat) (x : Slot), (((as.map (cv g)).map Slot.val ++ List.replicate n Slot.unset).toArray)[i]? = some x → x = .unset ∨ ∃ v, x = .val (cv g v) := by
    intro i x hx
    rw [List.getElem?_toArray] at hx
    rcases List.mem_append.mp (List.mem_of_getElem? hx) with hm | hm
    · obtain ⟨v, hv, rfl⟩ := List.mem_map.mp hm
      obtain ⟨u, -, rfl⟩ := List.mem_map.mp hv
      exact Or.inr ⟨u, rfl⟩
    · exact Or.inl (List.mem_replicate.mp hm).2
  refine ⟨fun i v hv hc => ?_, fun i hi => ?_⟩
  · rcases key i _ hv with h | ⟨u, h⟩
    · cases h
    · cases h
      rw [cv_cat] at hc
      cases hc
  · rcases key i _ hi with h | ⟨u, h⟩ <;> cases h
theorem xm_of {g : GT} {M : MT} {as : List Value} {h h1 : AH} {r : Option Value} {ls : List (Option Value)} {n : Nat} (hm : mOk M n) (hlen : as.length ≤ m_l M) (hls : as.map some ++ List.replicate (m_l M - as.length) none = ls) (k : Xj g M h 0 ls [] r h1) : Xm g M as h r h1 := by
  obtain ⟨k1, k2, k3⟩ := k
  refine ⟨k1, Met.ofW (cc := m_c M) (maxL := m_l M) (ret := m_r M) hm.2.2.2 rfl ?_⟩
  intro p e s m args below meth c s₁ B hml hv
  obtain ⟨rfl, hB, hH⟩ := hv
  have hts : ∀ w ∈ wsM M, w.before _ s = true := atoms_spec (ws := wsM M) B.pre
  have hlocks := B.notSynchronized
  have hr := B.returns
  rw [entry_eq m (as.map (cv g)) (fun v hv => by obtain ⟨u, -, rfl⟩ := List.mem_map.mp hv; exact cv_cat g u)]
  refine k3 p e _ s m _ below meth c s.heap [] (hn h) (hs h) 0 0 _ _ ⟨B.exec, B.bytes, hml, findClass_of_methodNamed B.named, fun w hw => hts w (List.mem_cons_of_mem _ hw), Nat.le_refl _, Nat.le_refl _, (name_of_methodNamed B.named B.method).1⟩ hB hH va_S.rf (Nat.zero_add _) (Nat.zero_add _) ?_ ?_ ?_ ?_
  · show hn h1 ≤ (hn h1 - hn h) + hn h
    omega
  · show hs h1 ≤ (hs h1 - hs h) + hs h
    omega
  · refine ⟨by simp; omega, lv_wf_entry g as _, fun i v hi => ?_⟩
    rw [← hls] at hi
    rw [List.getElem?_toArray]
    by_cases hl : i < as.length
    · rw [List.getElem?_append_left (by simpa using hl)] at hi
      rw [List.getElem?_append_left (by simpa using hl)]
      rw [List.getElem?_map] at hi
      simp only [List.getElem?_map]
      cases ha : as[i]? with
      | none => rw [ha] at hi; cases hi
      | some u => rw [ha] at hi; cases hi; rfl
    · rw [List.getElem?_append_right (by simpa using Nat.not_lt.mp hl)] at hi
      have := List.mem_of_getElem? hi
      simp at this
  · intro H' locs' cells' slots' pc' la' P' S' e1 e2 hd
    have ec : cells' = hn h1 - hn h := by omega
    have es : slots' = hs h1 - hs h := by omega
    subst ec; subst es
    cases r with
    | none =>
      exact W.vret B.exec B.bytes (hr.trans k2) (fun t ht hW => ⟨rfl, by rw [ht]; exact P', S'.F ht⟩) S'.2.2 hd
    | some v =>
      cases v with
      | int v =>
        obtain ⟨ty, hty, hnar⟩ := k2
        exact W.zret (ty := ty) B.exec B.bytes (hr.trans hty) hnar (fun t ht hW => ⟨rfl, by rw [ht]; exact P', S'.F ht⟩) S'.2.2 hd
      | _ => exact k2.elim
section Calls
variable {g : GT} {M M' : MT} {h h' h1 : AH} {pc : Nat} {ls ls' : List (Option Value)} {st st0 as : List Value} {r r1 : Option Value}
theorem x_callG (hm : Xm g M' as h r1 h1) (kk : Xj g M h1 (pc + 3) ls (r1.toList ++ st) r h')
    (f : ∀ (p : Program) (e : Env) (R : Room) (s : State) (m : MethodId) (args : Array Value) (below : List Frame) (meth : Method) (c : Code) (H : Heap) (locs : List Loc) (cells slots : Nat) (la : Array Slot),
      Cx M p s m args meth c R → wB g s → wH g h H → va_S (wA g) s.heap H locs → lR g M ls la → (cells + (hn h1 - hn h) ≤ R.cells ∧ slots + (hs h1 - hs h) ≤ R.slots) →
      va_Run p (g_l g) e R s m args below meth c H locs cells slots (hn h1 - hn h) (hs h1 - hs h) (F0 m pc la (st0.map (cv g))) (st.map (cv g)) (fun st1 o t => o = .returned (r1.map (cv g)) ∧ wH g h1 t.heap ∧ va_F (wA g) st1 t) (wA g)) : Xj g M h pc ls st0 r h' := by
  obtain ⟨⟨k1, k2⟩, k3, k4⟩ := kk
  obtain ⟨⟨m1, m2⟩, -⟩ := hm
  refine ⟨⟨by omega, by omega⟩, k3, fun p e R s m args below meth c H locs n0 s0 cells slots Q la C B P S e1 e2 e3 e4 L K => ?_⟩
  intro T hT X
  obtain ⟨v, st1, t, T', L1, h0, X', hL, ee1, ee2, ⟨hv, hw1, hF⟩, go⟩ := f p e R s m args below meth c H locs cells slots la C B P S L ⟨by omega, by omega⟩ T hT X
  cases hv
  obtain ⟨hz, hq⟩ := hF
  rw [h0] at hz hq
  have S1 : va_S (wA g) s.heap t.heap (locs ++ L1) := ⟨Nat.le_trans S.1 hz, fun q g1 g2 => by rw [hq q (Nat.lt_of_lt_of_le g1 S.1) g2]; exact S.2.1 q g1 g2, fun q hx => by
    rcases List.mem_append.mp hx with z | z
    · exact S.2.2 q z
    · exact hL q z⟩
  obtain ⟨t2, a1, b1⟩ := k4 p e R s m args below meth c t.heap (locs ++ L1) n0 s0 (cells + (hn h1 - hn h)) (slots + (hs h1 - hs h)) Q la C B hw1 S1 (by omega) (by omega) e3 e4 L K T' ee1 X'
  refine ⟨t2, go t2 ?_, b1⟩
  have es : (r1.toList ++ st).map (cv g) = (r1.map (cv g)).toList ++ st.map (cv g) := by cases r1 <;> rfl
  rw [es] at a1
  exact a1
theorem blind (Q : State → Prop) (hQ : ∀ (U : State) (gg : JFrame) (mk : MethodId) (a : Array Value), Q U → Q (U.calling gg mk a)) (av : List Value) : FrameBlind (va_Pc av Q) := fun a U gg mk q => ⟨q.1, hQ U gg mk a q.2⟩
theorem blindB (h : AH) (av : List Value) : FrameBlind (va_Pc av (fun U => wB g U ∧ wH g h U.heap)) := blind _ (fun U gg mk a q => ⟨q.1.moved (State.WarmedH.refl U) (locs := []) ⟨Nat.le_refl _, fun _ _ _ => rfl, fun _ z => by cases z⟩, q.2⟩) av
/-- what a caller's pool entry says of a call: direct, or to a nest mate -/
def lkD (own : String) (idx : Nat) (M' : MT) : Prop := Cond.methodLink own idx (m_y M') ∈ tb
def lkN (own : String) (idx : Nat) (M' : MT) : Prop := (own, idx, m_y M', RX7) ∈ nwL
def rmOk (M M' : MT) : Prop := m_f M' + 1 ≤ m_f M ∧ 8 + (m_l M' + 11) + m_o M' ≤ m_o M
theorem x_callS {idx n : Nat} (hd : decode (m_c M) pc = .ok (.invokestatic idx, 3)) (ho : mOk M' n) (hl : lkD (m_y M).cls idx M') (hst : Cond.static (m_y M') ∈ tb) (hr : rmOk M M') (hn1 : as.length = n) (hw : st.length ≤ 8) (hs0 : as.reverse ++ st = st0) (hm : Xm g M' as h r1 h1) (kk : Xj g M h1 (pc + 3) ls (r1.toList ++ st) r h') : Xj g M h pc ls st0 r h' := by
  refine x_callG hm kk (fun p e R s m args below meth c H locs cells slots la C B P S L hfit => ?_)
  have hts := C.2.2.2.2.1
  refine va_runS (As := as.map (cv g)) (n := n) ⟨C.1, C.2.1, C.2.2.1, C.2.2.2.1, hts⟩ hm.2 ⟨callB_of n hts (wsM_good ho) rfl rfl rfl (hts _ ho.2.1) (hts _ hl) ho.2.2.1 ⟨Nat.le_trans hr.1 C.2.2.2.2.2.1, Nat.le_trans hr.2 C.2.2.2.2.2.2.1⟩, hts _ hst⟩ ⟨blindB h _, fun U hU hW => ⟨rfl, B.moved hW (hU ▸ S), hU ▸ P⟩⟩ rfl (by simpa using hn1) L.1 ?_ (by show 2 * 0 + _ ≤ 8; rw [cat_sum]; omega) hd hfit
  rw [← hs0]; simp
theorem x_callSN {idx n : Nat} (hd : decode (m_c M) pc = .ok (.invokestatic idx, 3)) (ho : mOk M' n) (hl : lkN (m_y M).cls idx M') (hst : Cond.static (m_y M') ∈ tb) (hr : rmOk M M') (hn1 : as.length = n) (hw : st.length ≤ 8) (hs0 : as.reverse ++ st = st0) (hm : Xm g M' as h r1 h1) (kk : Xj g M h1 (pc + 3) ls (r1.toList ++ st) r h') : Xj g M h pc ls st0 r h' := by
  refine x_callG hm kk (fun p e R s m args below meth c H locs cells slots la C B P S L hfit => ?_)
  have hts := C.2.2.2.2.1
  refine va_runSN (As := as.map (cv g)) (n := n) ⟨C.1, C.2.1, C.2.2.1, C.2.2.2.1, hts⟩ hm.2 ⟨va_cnB n hts (wsM_good ho) rfl rfl rfl (B.2.2.2.2.2.2.1 _ hl) (hts _ ho.2.1) ho.2.2.1 ⟨Nat.le_trans hr.1 C.2.2.2.2.2.1, Nat.le_trans hr.2 C.2.2.2.2.2.2.1⟩, hts _ hst, trivial⟩ ⟨blindB h _, fun U hU hW => ⟨rfl, B.moved hW (hU ▸ S), hU ▸ P⟩⟩ rfl (by simpa using hn1) L.1 ?_ (by show 2 * 0 + _ ≤ 8; rw [cat_sum]; omega) hd hfit
  rw [← hs0]; simp
theorem x_callI {idx n a : Nat} (hd : decode (m_c M) pc = .ok (.invokespecial idx, 3)) (ho : mOk M' n) (hl : lkD (m_y M).cls idx M') (hin : Cond.instanceMethod (m_y M') ∈ tb) (hini : (m_y M').name = "<init>") (hvd : m_r M' = none) (hr : rmOk M M') (hn1 : as.length = n) (hw : st.length ≤ 8) (hs0 : as.reverse ++ va_rf (some a) :: st = st0) (hm : Xm g M' (va_rf (some a) :: as) h r1 h1) (kk : Xj g M h1 (pc + 3) ls (r1.toList ++ st) r h') : Xj g M h pc ls st0 r h' := by
  refine x_callG hm kk (fun p e R s m args below meth c H locs cells slots la C B P S L hfit => ?_)
  have hts := C.2.2.2.2.1
  have hcb := callB_of (R := R) (own := (m_y M).cls) (index := idx) (rm := { frames := m_f M', cells := hn h1 - hn h, slots := hs h1 - hs h, locals := m_o M' }) n hts (wsM_good ho) rfl rfl rfl (hts _ ho.2.1) (hts _ hl) ho.2.2.1 ⟨Nat.le_trans hr.1 C.2.2.2.2.2.1, Nat.le_trans hr.2 C.2.2.2.2.2.2.1⟩
  rw [hvd] at hcb
  refine va_runI (As := as.map (cv g)) (b := g_z g + a) (n := n) ⟨C.1, C.2.1, C.2.2.1, C.2.2.2.1, hts⟩ hm.2 ⟨hcb, hini, hts _ hin⟩ ⟨blindB h _, fun U hU hW => ⟨rfl, B.moved hW (hU ▸ S), hU ▸ P⟩⟩ rfl (by simpa using hn1) L.1 ?_ (by show 2 * 0 + _ ≤ 8; rw [cat_sum]; omega) hd hfit
  rw [← hs0]; simp [va_rf, cv]
theorem x_callIN {idx n a : Nat} (hd : decode (m_c M) pc = .ok (.invokespecial idx, 3)) (ho : mOk M' n) (hl : lkN (m_y M).cls idx M') (hin : Cond.instanceMethod (m_y M') ∈ tb) (hini : (m_y M').name = "<init>") (hvd : m_r M' = none) (hr : rmOk M M') (hn1 : as.length = n) (hw : st.length ≤ 8) (hs0 : as.reverse ++ va_rf (some a) :: st = st0) (hm : Xm g M' (va_rf (some a) :: as) h r1 h1) (kk : Xj g M h1 (pc + 3) ls (r1.toList ++ st) r h') : Xj g M h pc ls st0 r h' := by
  refine x_callG hm kk (fun p e R s m args below meth c H locs cells slots la C B P S L hfit => ?_)
  have hts := C.2.2.2.2.1
  have hcb := va_cnB (R := R) (own := (m_y M).cls) (index := idx) (host := RX7) (rm := { frames := m_f M', cells := hn h1 - hn h, slots := hs h1 - hs h, locals := m_o M' }) n hts (wsM_good ho) rfl rfl rfl (B.2.2.2.2.2.2.1 _ hl) (hts _ ho.2.1) ho.2.2.1 ⟨Nat.le_trans hr.1 C.2.2.2.2.2.1, Nat.le_trans hr.2 C.2.2.2.2.2.2.1⟩
  rw [hvd] at hcb
  refine va_runIN (As := as.map (cv g)) (b := g_z g + a) (n := n) ⟨C.1, C.2.1, C.2.2.1, C.2.2.2.1, hts⟩ hm.2 ⟨hcb, hini, hts _ hin⟩ ⟨blindB h _, fun U hU hW => ⟨rfl, B.moved hW (hU ▸ S), hU ▸ P⟩⟩ rfl (by simpa using hn1) L.1 ?_ (by show 2 * 0 + _ ≤ 8; rw [cat_sum]; omega) hd hfit
  rw [← hs0]; simp [va_rf, cv]
/-- the receiver is an object of the class ci -/
def isO (h : AH) (a : Option Nat) (ci : Nat) : Option Unit := match a with
  | none => none
  | some q => if q < hn h ∧ (hS h q).1 = ci + 4 then some () else none
theorem x_callV {idx n ci : Nat} {a : Option Nat} {u : Unit} (hd : decode (m_c M) pc = .ok (.invokevirtual idx, 3)) (ho : mOk M' n) (hl : lkD (m_y M).cls idx M') (hin : Cond.instanceMethod (m_y M') ∈ tb) (hsel : Cond.selects (m_y M').cls (m_y M') (m_y M') ∈ tb) (hci : (vwCl[ci]?).map (fun q => q.1) = some (m_y M').cls) (hr : rmOk M M') (hn1 : as.length = n) (hw : st.length ≤ 8) (hs0 : as.reverse ++ va_rf a :: st = st0) (hi : isO h a ci = some u) (hm : Xm g M' (va_rf a :: as) h r1 h1) (kk : Xj g M h1 (pc + 3) ls (r1.toList ++ st) r h') : Xj g M h pc ls st0 r h' := by
  cases a with
  | none => cases hi
  | some b =>
    obtain ⟨⟨b1, b2⟩, -⟩ := if_some hi
    refine x_callG hm kk (fun p e R s m args below meth c H locs cells slots la C B P S L hfit => ?_)
    have hts := C.2.2.2.2.1
    cases hq : vwCl[ci]? with
    | none => rw [hq] at hci; cases hci
    | some q =>
      rw [hq] at hci
      have hC : q.1 = (m_y M').cls := Option.some.inj hci
      refine va_runV (As := as.map (cv g)) (b := g_z g + b) (C := (m_y M').cls) (n := n) ⟨C.1, C.2.1, C.2.2.1, C.2.2.2.1, hts⟩ hm.2 ⟨callB_of n hts (wsM_good ho) rfl rfl rfl (hts _ ho.2.1) (hts _ hl) ho.2.2.1 ⟨Nat.le_trans hr.1 C.2.2.2.2.2.1, Nat.le_trans hr.2 C.2.2.2.2.2.2.1⟩, hts _ hin, hts _ hsel⟩ ⟨blindB h _, ?_, fun U hU hW => ⟨rfl, B.moved hW (hU ▸ S), hU ▸ P⟩⟩ rfl (by simpa using hn1) L.1 ?_ (by show 2 * 0 + _ ≤ 8; rw [cat_sum]; omega) hd hfit
      · rw [← hC]
        exact va_recv B.1 P.1 hq ((cw_at b1).trans (by rw [ce_obj b2 hq]))
      · rw [← hs0]; simp [va_rf, cv]
end Calls
def maskL (ls : List (Option Value)) (b : List Bool) : List (Option Value) := ls.zipWith (fun o b => match b with
  | true => o
  | false => none) b
def bd {α γ : Type} (x : Option α) (f : α → Option γ) : Option γ := match x with
  | none => none
  | some a => f a
def bd2 {α β γ : Type} (x : Option (α × β)) (f : α → β → Option γ) : Option γ := match x with
  | none => none
  | some a => f a.1 a.2
theorem bd_s {α γ : Type} {x : Option α} {f : α → Option γ} {y : γ} (h : bd x f = some y) : ∃ a, x = some a ∧ f a = some y := by
  cases x with
  | none => cases h
  | some a => exact ⟨a, rfl, h⟩
theorem bd2_s {α β γ : Type} {x : Option (α × β)} {f : α → β → Option γ} {y : γ} (h : bd2 x f = some y) : ∃ a b, x = some (a, b) ∧ f a b = some y := by
  cases x with
  | none => cases h
  | some a => exact ⟨a.1, a.2, rfl, h⟩
theorem it_t {α : Type} {c : Prop} [Decidable c] {a b : Option α} {s : Option α} (hc : c) (h : (if c then a else b) = s) : a = s := by rw [if_pos hc] at h; exact h
theorem it_f {α : Type} {c : Prop} [Decidable c] {a b : Option α} {s : Option α} (hc : ¬ c) (h : (if c then a else b) = s) : b = s := by rw [if_neg hc] at h; exact h
theorem it_n {α : Type} {c : Prop} [Decidable c] {a b : Option α} {s : Option α} (hc : c) (h : (if ¬ c then a else b) = s) : b = s := by rw [if_neg (fun q => q hc)] at h; exact h
def dv (x y : Int32) : Option Int32 := if ¬ y = 0 then some (x / y) else none
def rm (x y : Int32) : Option Int32 := if ¬ y = 0 then some (x - x / y * y) else none
def bl (x : Int32) : Option Int32 := if x = 0 ∨ x = 1 then some x else none
def nO (h : AH) (ci N : Nat) : Option AH := some (nC h (ci + 4) N)
section More
variable {g : GT} {M M' : MT} {h h' h1 : AH} {pc : Nat} {ls ls' : List (Option Value)} {st st0 as : List Value} {r r1 : Option Value}
theorem x_mask (b : List Bool) (hm : maskL ls b = ls') (k : Xj g M h pc ls' st r h') : Xj g M h pc ls st r h' := by
  obtain ⟨k1, k2, k3⟩ := k
  refine ⟨k1, k2, fun p e R s m args below meth c H locs n0 s0 cells slots Q la C B P S e1 e2 e3 e4 L K => ?_⟩
  refine k3 p e R s m args below meth c H locs n0 s0 cells slots Q la C B P S e1 e2 e3 e4 ⟨L.1, L.2.1, fun i v hv => L.2.2 i v ?_⟩ K
  rw [← hm, maskL, List.getElem?_zipWith] at hv
  split at hv
  · rename_i o b' ho hb
    cases b' with
    | true => cases hv; exact ho
    | false => cases hv
  · cases hv
theorem x_dv {x y v : Int32} (hd : decode (m_c M) pc = .ok (.idiv, 1)) (hg : dv x y = some v) (k : Xj g M h (pc + 1) ls (.int v :: st) r h') : Xj g M h pc ls (.int y :: .int x :: st) r h' := by
  obtain ⟨hy, rfl⟩ := if_some hg
  exact x_idiv hd hy k
theorem x_rm {x y v : Int32} (hd : decode (m_c M) pc = .ok (.irem, 1)) (hg : rm x y = some v) (k : Xj g M h (pc + 1) ls (.int v :: st) r h') : Xj g M h pc ls (.int y :: .int x :: st) r h' := by
  obtain ⟨hy, rfl⟩ := if_some hg
  exact x_irem hd hy k
theorem x_nO {idx ci N : Nat} (hd : decode (m_c M) pc = .ok (.new idx, 3)) (hl : nL (m_y M).cls idx ci N) (hg : nO h ci N = some h1) (kk : Xj g M h1 (pc + 3) ls (va_rf (some (hn h)) :: st) r h') : Xj g M h pc ls st r h' := by
  cases hg
  exact x_new hd hl kk
theorem x_reti {v : Int32} (hd : decode (m_c M) pc = .ok (.ireturn, 1)) (hr : m_r M = some .int) : Xj g M h pc ls [.int v] (some (.int v)) h := x_ret hd ⟨.int, hr, rfl⟩
theorem x_retz {v : Int32} (hd : decode (m_c M) pc = .ok (.ireturn, 1)) (hr : m_r M = some .boolean) (hv : v = 0 ∨ v = 1) : Xj g M h pc ls [.int v] (some (.int v)) h := x_ret hd ⟨.boolean, hr, by rcases hv with rfl | rfl <;> rfl⟩
theorem bl_s {x v : Int32} (hg : bl x = some v) : (v = 0 ∨ v = 1) ∧ x = v := by
  obtain ⟨hy, rfl⟩ := if_some hg
  exact ⟨hy, rfl⟩
theorem x_cSi {idx n : Nat} {v : Int32} (hd : decode (m_c M) pc = .ok (.invokestatic idx, 3)) (ho : mOk M' n) (hl : lkD (m_y M).cls idx M') (hst : Cond.static (m_y M') ∈ tb) (hr : rmOk M M') (hn1 : as.length = n) (hw : st.length ≤ 8) (hs0 : as.reverse ++ st = st0) (hm : Xm g M' as h (some (.int v)) h1) (kk : Xj g M h1 (pc + 3) ls (.int v :: st) r h') : Xj g M h pc ls st0 r h' := x_callS hd ho hl hst hr hn1 hw hs0 hm kk
theorem x_cSv {idx n : Nat} (hd : decode (m_c M) pc = .ok (.invokestatic idx, 3)) (ho : mOk M' n) (hl : lkD (m_y M).cls idx M') (hst : Cond.static (m_y M') ∈ tb) (hr : rmOk M M') (hn1 : as.length = n) (hw : st.length ≤ 8) (hs0 : as.reverse ++ st = st0) (hm : Xm g M' as h none h1) (kk : Xj g M h1 (pc + 3) ls st r h') : Xj g M h pc ls st0 r h' := x_callS hd ho hl hst hr hn1 hw hs0 hm kk
theorem x_cNi {idx n : Nat} {v : Int32} (hd : decode (m_c M) pc = .ok (.invokestatic idx, 3)) (ho : mOk M' n) (hl : lkN (m_y M).cls idx M') (hst : Cond.static (m_y M') ∈ tb) (hr : rmOk M M') (hn1 : as.length = n) (hw : st.length ≤ 8) (hs0 : as.reverse ++ st = st0) (hm : Xm g M' as h (some (.int v)) h1) (kk : Xj g M h1 (pc + 3) ls (.int v :: st) r h') : Xj g M h pc ls st0 r h' := x_callSN hd ho hl hst hr hn1 hw hs0 hm kk
theorem x_cI {idx n a : Nat} (hd : decode (m_c M) pc = .ok (.invokespecial idx, 3)) (ho : mOk M' n) (hl : lkD (m_y M).cls idx M') (hin : Cond.instanceMethod (m_y M') ∈ tb) (hini : (m_y M').name = "<init>") (hvd : m_r M' = none) (hr : rmOk M M') (hn1 : as.length = n) (hw : st.length ≤ 8) (hs0 : as.reverse ++ va_rf (some a) :: st = st0) (hm : Xm g M' (va_rf (some a) :: as) h none h1) (kk : Xj g M h1 (pc + 3) ls st r h') : Xj g M h pc ls st0 r h' := x_callI hd ho hl hin hini hvd hr hn1 hw hs0 hm kk
theorem x_cIN {idx n a : Nat} (hd : decode (m_c M) pc = .ok (.invokespecial idx, 3)) (ho : mOk M' n) (hl : lkN (m_y M).cls idx M') (hin : Cond.instanceMethod (m_y M') ∈ tb) (hini : (m_y M').name = "<init>") (hvd : m_r M' = none) (hr : rmOk M M') (hn1 : as.length = n) (hw : st.length ≤ 8) (hs0 : as.reverse ++ va_rf (some a) :: st = st0) (hm : Xm g M' (va_rf (some a) :: as) h none h1) (kk : Xj g M h1 (pc + 3) ls st r h') : Xj g M h pc ls st0 r h' := x_callIN hd ho hl hin hini hvd hr hn1 hw hs0 hm kk
theorem x_cVi {idx n ci : Nat} {a : Option Nat} {u : Unit} {v : Int32} (hd : decode (m_c M) pc = .ok (.invokevirtual idx, 3)) (ho : mOk M' n) (hl : lkD (m_y M).cls idx M') (hin : Cond.instanceMethod (m_y M') ∈ tb) (hsel : Cond.selects (m_y M').cls (m_y M') (m_y M') ∈ tb) (hci : (vwCl[ci]?).map (fun q => q.1) = some (m_y M').cls) (hr : rmOk M M') (hn1 : as.length = n) (hw : st.length ≤ 8) (hs0 : as.reverse ++ va_rf a :: st = st0) (hi : isO h a ci = some u) (hm : Xm g M' (va_rf a :: as) h (some (.int v)) h1) (kk : Xj g M h1 (pc + 3) ls (.int v :: st) r h') : Xj g M h pc ls st0 r h' := x_callV hd ho hl hin hsel hci hr hn1 hw hs0 hi hm kk
theorem x_cVv {idx n ci : Nat} {a : Option Nat} {u : Unit} (hd : decode (m_c M) pc = .ok (.invokevirtual idx, 3)) (ho : mOk M' n) (hl : lkD (m_y M).cls idx M') (hin : Cond.instanceMethod (m_y M') ∈ tb) (hsel : Cond.selects (m_y M').cls (m_y M') (m_y M') ∈ tb) (hci : (vwCl[ci]?).map (fun q => q.1) = some (m_y M').cls) (hr : rmOk M M') (hn1 : as.length = n) (hw : st.length ≤ 8) (hs0 : as.reverse ++ va_rf a :: st = st0) (hi : isO h a ci = some u) (hm : Xm g M' (va_rf a :: as) h none h1) (kk : Xj g M h1 (pc + 3) ls st r h') : Xj g M h pc ls st0 r h' := x_callV hd ho hl hin hsel hci hr hn1 hw hs0 hi hm kk
/-- a switch over 0 .. n-1 -/
theorem x_tabK {dflt hi : Int} {offs : Array Int} {len tgt : Nat} {x k : Int32} {off : Int} (hd : decode (m_c M) pc = .ok (.tableswitch dflt 0 hi offs, len)) (hx : x = k) (h1 : ¬ k.toInt < 0) (h2 : ¬ hi < k.toInt) (ho : offs[(k.toInt - 0).toNat]? = some off) (ht : (pc : Int) + off = (tgt : Int)) (kk : Xj g M h tgt ls st r h') : Xj g M h pc ls (.int x :: st) r h' := by
  subst hx
  exact x_tabIn hd h1 h2 ho ht kk
theorem x_tabD {dflt : Int} {offs : Array Int} {len tgt n : Nat} {x : Int32} (hd : decode (m_c M) pc = .ok (.tableswitch dflt 0 (n : Int) offs, len)) (hx : ∀ k : Nat, k ≤ n → ¬ x = Int32.ofNat k) (hn1 : n < 1000) (ht : (pc : Int) + dflt = (tgt : Int)) (kk : Xj g M h tgt ls st r h') : Xj g M h pc ls (.int x :: st) r h' := by
  refine x_tabOut hd ?_ ht kk
  by_cases h0 : x.toInt < 0
  · exact Or.inl h0
  · refine Or.inr (Int.not_le.mp fun hle => ?_)
    have hk : x = Int32.ofNat x.toInt.toNat := by
      apply Int32.toInt_inj.mp
      rw [Int32.toInt_ofNat_of_lt (by omega)]
      omega
    exact hx x.toInt.toNat (by omega) hk
theorem x_lkK {dflt : Int} {ps : Array (Int × Int)} {len tgt : Nat} {x k : Int32} {off : Int} (hd : decode (m_c M) pc = .ok (.lookupswitch dflt ps, len)) (hx : x = k) (hp : (ps.toList.zip (ps.toList.drop 1)).all (fun (a, next) => a.1 < next.1) = true) (ho : Op.lookupswitch.offset ps.toList dflt k.toInt = off) (ht : (pc : Int) + off = (tgt : Int)) (kk : Xj g M h tgt ls st r h') : Xj g M h pc ls (.int x :: st) r h' := by
  subst hx
  exact x_lookup hd hp ho ht kk
end More
/-- more rounds than any loop takes -/
def NN : Nat := 20000
end
section
/-! what the tables say, by program: classes, fields, links, methods -/
set_option maxRecDepth 100000 in
theorem cO0 : cOk 0 (RX0, TX0, 3) tyX0 := ⟨rfl, by decide +kernel, tyX0_ok, nmX0⟩
set_option maxRecDepth 100000 in
theorem cO1 : cOk 1 (RX1, TX1, 3) tyX1 := ⟨rfl, by decide +kernel, tyX1_ok, nmX1⟩
set_option maxRecDepth 100000 in
theorem cO2 : cOk 2 (RX2, TX2, 4) tyX2 := ⟨rfl, by decide +kernel, tyX2_ok, nmX2⟩
set_option maxRecDepth 100000 in
theorem cO3 : cOk 3 (RX3, TX3, 5) tyX3 := ⟨rfl, by decide +kernel, tyX3_ok, nmX3⟩
set_option maxRecDepth 100000 in
theorem cO4 : cOk 4 (RX4, TX4, 9) tyX4 := ⟨rfl, by decide +kernel, tyX4_ok, nmX4⟩
set_option maxRecDepth 100000 in
theorem cO5 : cOk 5 (RX5, TX5, 3) tyX5 := ⟨rfl, by decide +kernel, tyX5_ok, nmX5⟩
set_option maxRecDepth 100000 in
theorem cO6 : cOk 6 (RX6, TX6, 3) tyX6 := ⟨rfl, by decide +kernel, tyX6_ok, nmX6⟩
set_option maxRecDepth 100000 in
theorem cO7 : cOk 7 (RX7, TX7, 7) tyX7 := ⟨rfl, by decide +kernel, tyX7_ok, nmX7⟩
set_option maxRecDepth 100000 in
theorem cO8 : cOk 8 (RX8, TX8, 13) tyX8 := ⟨rfl, by decide +kernel, tyX8_ok, nmX8⟩
theorem fl_4_11 : fL RX4 11 4 0 true := ⟨(RX4, TX4, 9), tyX4, cO4, by decide, by decide +kernel, (in_tb 75 (by decide +kernel) (by decide +kernel)), fun z => absurd z (by decide), fun _ => Or.inl ⟨_, rfl⟩⟩
theorem fl_7_64 : fL RX7 64 4 0 true := ⟨(RX4, TX4, 9), tyX4, cO4, by decide, by decide +kernel, (in_tb 76 (by decide +kernel) (by decide +kernel)), fun z => absurd z (by decide), fun _ => Or.inl ⟨_, rfl⟩⟩
theorem fl_4_15 : fL RX4 15 4 1 true := ⟨(RX4, TX4, 9), tyX4, cO4, by decide, by decide +kernel, (in_tb 77 (by decide +kernel) (by decide +kernel)), fun z => absurd z (by decide), fun _ => Or.inl ⟨_, rfl⟩⟩
theorem fl_7_72 : fL RX7 72 4 1 true := ⟨(RX4, TX4, 9), tyX4, cO4, by decide, by decide +kernel, (in_tb 78 (by decide +kernel) (by decide +kernel)), fun z => absurd z (by decide), fun _ => Or.inl ⟨_, rfl⟩⟩
theorem fl_4_18 : fL RX4 18 4 2 true := ⟨(RX4, TX4, 9), tyX4, cO4, by decide, by decide +kernel, (in_tb 79 (by decide +kernel) (by decide +kernel)), fun z => absurd z (by decide), fun _ => Or.inl ⟨_, rfl⟩⟩
theorem fl_7_106 : fL RX7 106 4 2 true := ⟨(RX4, TX4, 9), tyX4, cO4, by decide, by decide +kernel, (in_tb 80 (by decide +kernel) (by decide +kernel)), fun z => absurd z (by decide), fun _ => Or.inl ⟨_, rfl⟩⟩
theorem fl_4_21 : fL RX4 21 4 3 true := ⟨(RX4, TX4, 9), tyX4, cO4, by decide, by decide +kernel, (in_tb 81 (by decide +kernel) (by decide +kernel)), fun z => absurd z (by decide), fun _ => Or.inl ⟨_, rfl⟩⟩
theorem fl_7_76 : fL RX7 76 4 3 true := ⟨(RX4, TX4, 9), tyX4, cO4, by decide, by decide +kernel, (in_tb 82 (by decide +kernel) (by decide +kernel)), fun z => absurd z (by decide), fun _ => Or.inl ⟨_, rfl⟩⟩
theorem fl_4_24 : fL RX4 24 4 4 true := ⟨(RX4, TX4, 9), tyX4, cO4, by decide, by decide +kernel, (in_tb 83 (by decide +kernel) (by decide +kernel)), fun z => absurd z (by decide), fun _ => Or.inl ⟨_, rfl⟩⟩
theorem fl_7_79 : fL RX7 79 4 4 true := ⟨(RX4, TX4, 9), tyX4, cO4, by decide, by decide +kernel, (in_tb 84 (by decide +kernel) (by decide +kernel)), fun z => absurd z (by decide), fun _ => Or.inl ⟨_, rfl⟩⟩
theorem fl_4_28 : fL RX4 28 4 5 true := ⟨(RX4, TX4, 9), tyX4, cO4, by decide, by decide +kernel, (in_tb 85 (by decide +kernel) (by decide +kernel)), fun z => absurd z (by decide), fun _ => Or.inl ⟨_, rfl⟩⟩
theorem fl_7_88 : fL RX7 88 4 5 true := ⟨(RX4, TX4, 9), tyX4, cO4, by decide, by decide +kernel, (in_tb 86 (by decide +kernel) (by decide +kernel)), fun z => absurd z (by decide), fun _ => Or.inl ⟨_, rfl⟩⟩
theorem fl_4_31 : fL RX4 31 4 6 true := ⟨(RX4, TX4, 9), tyX4, cO4, by decide, by decide +kernel, (in_tb 87 (by decide +kernel) (by decide +kernel)), fun z => absurd z (by decide), fun _ => Or.inl ⟨_, rfl⟩⟩
theorem fl_7_91 : fL RX7 91 4 6 true := ⟨(RX4, TX4, 9), tyX4, cO4, by decide, by decide +kernel, (in_tb 88 (by decide +kernel) (by decide +kernel)), fun z => absurd z (by decide), fun _ => Or.inl ⟨_, rfl⟩⟩
theorem fl_4_34 : fL RX4 34 4 7 true := ⟨(RX4, TX4, 9), tyX4, cO4, by decide, by decide +kernel, (in_tb 89 (by decide +kernel) (by decide +kernel)), fun z => absurd z (by decide), fun _ => Or.inl ⟨_, rfl⟩⟩
theorem fl_7_94 : fL RX7 94 4 7 true := ⟨(RX4, TX4, 9), tyX4, cO4, by decide, by decide +kernel, (in_tb 90 (by decide +kernel) (by decide +kernel)), fun z => absurd z (by decide), fun _ => Or.inl ⟨_, rfl⟩⟩
theorem fl_4_37 : fL RX4 37 4 8 true := ⟨(RX4, TX4, 9), tyX4, cO4, by decide, by decide +kernel, (in_tb 91 (by decide +kernel) (by decide +kernel)), fun z => absurd z (by decide), fun _ => Or.inl ⟨_, rfl⟩⟩
theorem fl_7_100 : fL RX7 100 4 8 true := ⟨(RX4, TX4, 9), tyX4, cO4, by decide, by decide +kernel, (in_tb 92 (by decide +kernel) (by decide +kernel)), fun z => absurd z (by decide), fun _ => Or.inl ⟨_, rfl⟩⟩
theorem fl_6_11 : fL RX6 11 6 0 true := ⟨(RX6, TX6, 3), tyX6, cO6, by decide, by decide +kernel, (in_tb 120 (by decide +kernel) (by decide +kernel)), fun z => absurd z (by decide), fun _ => Or.inl ⟨_, rfl⟩⟩
theorem fl_7_131 : fL RX7 131 6 0 true := ⟨(RX6, TX6, 3), tyX6, cO6, by decide, by decide +kernel, (in_tb 121 (by decide +kernel) (by decide +kernel)), fun z => absurd z (by decide), fun _ => Or.inl ⟨_, rfl⟩⟩
theorem fl_6_15 : fL RX6 15 6 1 true := ⟨(RX6, TX6, 3), tyX6, cO6, by decide, by decide +kernel, (in_tb 122 (by decide +kernel) (by decide +kernel)), fun z => absurd z (by decide), fun _ => Or.inl ⟨_, rfl⟩⟩
theorem fl_7_159 : fL RX7 159 6 1 true := ⟨(RX6, TX6, 3), tyX6, cO6, by decide, by decide +kernel, (in_tb 123 (by decide +kernel) (by decide +kernel)), fun z => absurd z (by decide), fun _ => Or.inl ⟨_, rfl⟩⟩
theorem fl_6_18 : fL RX6 18 6 2 true := ⟨(RX6, TX6, 3), tyX6, cO6, by decide, by decide +kernel, (in_tb 124 (by decide +kernel) (by decide +kernel)), fun z => absurd z (by decide), fun _ => Or.inl ⟨_, rfl⟩⟩
theorem fl_3_13 : fL RX3 13 3 0 false := ⟨(RX3, TX3, 5), tyX3, cO3, by decide, by decide +kernel, (in_tb 138 (by decide +kernel) (by decide +kernel)), fun _ => rfl, fun z => absurd z (by decide)⟩
theorem fl_7_170 : fL RX7 170 3 0 false := ⟨(RX3, TX3, 5), tyX3, cO3, by decide, by decide +kernel, (in_tb 139 (by decide +kernel) (by decide +kernel)), fun _ => rfl, fun z => absurd z (by decide)⟩
theorem fl_3_17 : fL RX3 17 3 1 true := ⟨(RX3, TX3, 5), tyX3, cO3, by decide, by decide +kernel, (in_tb 140 (by decide +kernel) (by decide +kernel)), fun z => absurd z (by decide), fun _ => Or.inl ⟨_, rfl⟩⟩
theorem fl_7_173 : fL RX7 173 3 1 true := ⟨(RX3, TX3, 5), tyX3, cO3, by decide, by decide +kernel, (in_tb 141 (by decide +kernel) (by decide +kernel)), fun z => absurd z (by decide), fun _ => Or.inl ⟨_, rfl⟩⟩
theorem fl_3_21 : fL RX3 21 3 2 true := ⟨(RX3, TX3, 5), tyX3, cO3, by decide, by decide +kernel, (in_tb 142 (by decide +kernel) (by decide +kernel)), fun z => absurd z (by decide), fun _ => Or.inl ⟨_, rfl⟩⟩
theorem fl_3_24 : fL RX3 24 3 3 true := ⟨(RX3, TX3, 5), tyX3, cO3, by decide, by decide +kernel, (in_tb 143 (by decide +kernel) (by decide +kernel)), fun z => absurd z (by decide), fun _ => Or.inl ⟨_, rfl⟩⟩
theorem fl_3_27 : fL RX3 27 3 4 false := ⟨(RX3, TX3, 5), tyX3, cO3, by decide, by decide +kernel, (in_tb 144 (by decide +kernel) (by decide +kernel)), fun _ => rfl, fun z => absurd z (by decide)⟩
theorem fl_0_7 : fL RX0 7 0 0 true := ⟨(RX0, TX0, 3), tyX0, cO0, by decide, by decide +kernel, (in_tb 162 (by decide +kernel) (by decide +kernel)), fun z => absurd z (by decide), fun _ => Or.inl ⟨_, rfl⟩⟩
theorem fl_7_206 : fL RX7 206 0 0 true := ⟨(RX0, TX0, 3), tyX0, cO0, by decide, by decide +kernel, (in_tb 163 (by decide +kernel) (by decide +kernel)), fun z => absurd z (by decide), fun _ => Or.inl ⟨_, rfl⟩⟩
theorem fl_0_13 : fL RX0 13 0 1 true := ⟨(RX0, TX0, 3), tyX0, cO0, by decide, by decide +kernel, (in_tb 164 (by decide +kernel) (by decide +kernel)), fun z => absurd z (by decide), fun _ => Or.inl ⟨_, rfl⟩⟩
theorem fl_7_203 : fL RX7 203 0 1 true := ⟨(RX0, TX0, 3), tyX0, cO0, by decide, by decide +kernel, (in_tb 165 (by decide +kernel) (by decide +kernel)), fun z => absurd z (by decide), fun _ => Or.inl ⟨_, rfl⟩⟩
theorem fl_0_16 : fL RX0 16 0 2 true := ⟨(RX0, TX0, 3), tyX0, cO0, by decide, by decide +kernel, (in_tb 166 (by decide +kernel) (by decide +kernel)), fun z => absurd z (by decide), fun _ => Or.inl ⟨_, rfl⟩⟩
theorem fl_7_222 : fL RX7 222 0 2 true := ⟨(RX0, TX0, 3), tyX0, cO0, by decide, by decide +kernel, (in_tb 167 (by decide +kernel) (by decide +kernel)), fun z => absurd z (by decide), fun _ => Or.inl ⟨_, rfl⟩⟩
theorem fl_2_7 : fL RX2 7 2 0 true := ⟨(RX2, TX2, 4), tyX2, cO2, by decide, by decide +kernel, (in_tb 188 (by decide +kernel) (by decide +kernel)), fun z => absurd z (by decide), fun _ => Or.inl ⟨_, rfl⟩⟩
theorem fl_2_13 : fL RX2 13 2 1 false := ⟨(RX2, TX2, 4), tyX2, cO2, by decide, by decide +kernel, (in_tb 189 (by decide +kernel) (by decide +kernel)), fun _ => rfl, fun z => absurd z (by decide)⟩
theorem fl_2_17 : fL RX2 17 2 2 false := ⟨(RX2, TX2, 4), tyX2, cO2, by decide, by decide +kernel, (in_tb 190 (by decide +kernel) (by decide +kernel)), fun _ => rfl, fun z => absurd z (by decide)⟩
theorem fl_2_20 : fL RX2 20 2 3 true := ⟨(RX2, TX2, 4), tyX2, cO2, by decide, by decide +kernel, (in_tb 191 (by decide +kernel) (by decide +kernel)), fun z => absurd z (by decide), fun _ => Or.inl ⟨_, rfl⟩⟩
theorem fl_1_11 : fL RX1 11 1 0 true := ⟨(RX1, TX1, 3), tyX1, cO1, by decide, by decide +kernel, (in_tb 201 (by decide +kernel) (by decide +kernel)), fun z => absurd z (by decide), fun _ => Or.inl ⟨_, rfl⟩⟩
theorem fl_1_15 : fL RX1 15 1 1 false := ⟨(RX1, TX1, 3), tyX1, cO1, by decide, by decide +kernel, (in_tb 202 (by decide +kernel) (by decide +kernel)), fun _ => rfl, fun z => absurd z (by decide)⟩
theorem fl_1_19 : fL RX1 19 1 2 false := ⟨(RX1, TX1, 3), tyX1, cO1, by decide, by decide +kernel, (in_tb 203 (by decide +kernel) (by decide +kernel)), fun _ => rfl, fun z => absurd z (by decide)⟩
theorem fl_7_267 : fL RX7 267 1 2 false := ⟨(RX1, TX1, 3), tyX1, cO1, by decide, by decide +kernel, (in_tb 204 (by decide +kernel) (by decide +kernel)), fun _ => rfl, fun z => absurd z (by decide)⟩
theorem fl_5_7 : fL RX5 7 5 0 false := ⟨(RX5, TX5, 3), tyX5, cO5, by decide, by decide +kernel, (in_tb 219 (by decide +kernel) (by decide +kernel)), fun _ => rfl, fun z => absurd z (by decide)⟩
theorem fl_7_247 : fL RX7 247 5 0 false := ⟨(RX5, TX5, 3), tyX5, cO5, by decide, by decide +kernel, (in_tb 220 (by decide +kernel) (by decide +kernel)), fun _ => rfl, fun z => absurd z (by decide)⟩
theorem fl_5_13 : fL RX5 13 5 1 false := ⟨(RX5, TX5, 3), tyX5, cO5, by decide, by decide +kernel, (in_tb 221 (by decide +kernel) (by decide +kernel)), fun _ => rfl, fun z => absurd z (by decide)⟩
theorem fl_7_239 : fL RX7 239 5 1 false := ⟨(RX5, TX5, 3), tyX5, cO5, by decide, by decide +kernel, (in_tb 222 (by decide +kernel) (by decide +kernel)), fun _ => rfl, fun z => absurd z (by decide)⟩
theorem fl_5_16 : fL RX5 16 5 2 true := ⟨(RX5, TX5, 3), tyX5, cO5, by decide, by decide +kernel, (in_tb 223 (by decide +kernel) (by decide +kernel)), fun z => absurd z (by decide), fun _ => Or.inl ⟨_, rfl⟩⟩
theorem fl_7_241 : fL RX7 241 5 2 true := ⟨(RX5, TX5, 3), tyX5, cO5, by decide, by decide +kernel, (in_tb 224 (by decide +kernel) (by decide +kernel)), fun z => absurd z (by decide), fun _ => Or.inl ⟨_, rfl⟩⟩
theorem fl_7_10 : fL RX7 10 7 0 true := ⟨(RX7, TX7, 7), tyX7, cO7, by decide, by decide +kernel, (in_tb 232 (by decide +kernel) (by decide +kernel)), fun z => absurd z (by decide), fun _ => Or.inr ⟨_, rfl⟩⟩
theorem fl_7_19 : fL RX7 19 7 1 true := ⟨(RX7, TX7, 7), tyX7, cO7, by decide, by decide +kernel, (in_tb 233 (by decide +kernel) (by decide +kernel)), fun z => absurd z (by decide), fun _ => Or.inr ⟨_, rfl⟩⟩
theorem fl_7_26 : fL RX7 26 7 2 true := ⟨(RX7, TX7, 7), tyX7, cO7, by decide, by decide +kernel, (in_tb 234 (by decide +kernel) (by decide +kernel)), fun z => absurd z (by decide), fun _ => Or.inr ⟨_, rfl⟩⟩
theorem fl_7_33 : fL RX7 33 7 3 true := ⟨(RX7, TX7, 7), tyX7, cO7, by decide, by decide +kernel, (in_tb 235 (by decide +kernel) (by decide +kernel)), fun z => absurd z (by decide), fun _ => Or.inr ⟨_, rfl⟩⟩
theorem fl_7_40 : fL RX7 40 7 4 true := ⟨(RX7, TX7, 7), tyX7, cO7, by decide, by decide +kernel, (in_tb 236 (by decide +kernel) (by decide +kernel)), fun z => absurd z (by decide), fun _ => Or.inr ⟨_, rfl⟩⟩
theorem fl_7_46 : fL RX7 46 7 5 true := ⟨(RX7, TX7, 7), tyX7, cO7, by decide, by decide +kernel, (in_tb 237 (by decide +kernel) (by decide +kernel)), fun z => absurd z (by decide), fun _ => Or.inl ⟨_, rfl⟩⟩
theorem fl_7_50 : fL RX7 50 7 6 false := ⟨(RX7, TX7, 7), tyX7, cO7, by decide, by decide +kernel, (in_tb 238 (by decide +kernel) (by decide +kernel)), fun _ => rfl, fun z => absurd z (by decide)⟩
theorem fl_8_7 : fL RX8 7 8 0 true := ⟨(RX8, TX8, 13), tyX8, cO8, by decide, by decide +kernel, (in_tb 679 (by decide +kernel) (by decide +kernel)), fun z => absurd z (by decide), fun _ => Or.inl ⟨_, rfl⟩⟩
theorem fl_8_13 : fL RX8 13 8 1 true := ⟨(RX8, TX8, 13), tyX8, cO8, by decide, by decide +kernel, (in_tb 680 (by decide +kernel) (by decide +kernel)), fun z => absurd z (by decide), fun _ => Or.inl ⟨_, rfl⟩⟩
theorem fl_8_52 : fL RX8 52 8 2 false := ⟨(RX8, TX8, 13), tyX8, cO8, by decide, by decide +kernel, (in_tb 681 (by decide +kernel) (by decide +kernel)), fun _ => rfl, fun z => absurd z (by decide)⟩
theorem fl_8_16 : fL RX8 16 8 3 true := ⟨(RX8, TX8, 13), tyX8, cO8, by decide, by decide +kernel, (in_tb 682 (by decide +kernel) (by decide +kernel)), fun z => absurd z (by decide), fun _ => Or.inl ⟨_, rfl⟩⟩
theorem fl_8_19 : fL RX8 19 8 4 true := ⟨(RX8, TX8, 13), tyX8, cO8, by decide, by decide +kernel, (in_tb 683 (by decide +kernel) (by decide +kernel)), fun z => absurd z (by decide), fun _ => Or.inl ⟨_, rfl⟩⟩
theorem fl_8_22 : fL RX8 22 8 5 true := ⟨(RX8, TX8, 13), tyX8, cO8, by decide, by decide +kernel, (in_tb 684 (by decide +kernel) (by decide +kernel)), fun z => absurd z (by decide), fun _ => Or.inl ⟨_, rfl⟩⟩
theorem fl_8_44 : fL RX8 44 8 6 false := ⟨(RX8, TX8, 13), tyX8, cO8, by decide, by decide +kernel, (in_tb 685 (by decide +kernel) (by decide +kernel)), fun _ => rfl, fun z => absurd z (by decide)⟩
theorem fl_8_25 : fL RX8 25 8 7 true := ⟨(RX8, TX8, 13), tyX8, cO8, by decide, by decide +kernel, (in_tb 686 (by decide +kernel) (by decide +kernel)), fun z => absurd z (by decide), fun _ => Or.inl ⟨_, rfl⟩⟩
theorem fl_8_28 : fL RX8 28 8 8 true := ⟨(RX8, TX8, 13), tyX8, cO8, by decide, by decide +kernel, (in_tb 687 (by decide +kernel) (by decide +kernel)), fun z => absurd z (by decide), fun _ => Or.inl ⟨_, rfl⟩⟩
theorem fl_8_31 : fL RX8 31 8 9 true := ⟨(RX8, TX8, 13), tyX8, cO8, by decide, by decide +kernel, (in_tb 688 (by decide +kernel) (by decide +kernel)), fun z => absurd z (by decide), fun _ => Or.inl ⟨_, rfl⟩⟩
theorem fl_8_34 : fL RX8 34 8 10 true := ⟨(RX8, TX8, 13), tyX8, cO8, by decide, by decide +kernel, (in_tb 689 (by decide +kernel) (by decide +kernel)), fun z => absurd z (by decide), fun _ => Or.inl ⟨_, rfl⟩⟩
theorem fl_8_37 : fL RX8 37 8 11 true := ⟨(RX8, TX8, 13), tyX8, cO8, by decide, by decide +kernel, (in_tb 690 (by decide +kernel) (by decide +kernel)), fun z => absurd z (by decide), fun _ => Or.inl ⟨_, rfl⟩⟩
theorem fl_8_41 : fL RX8 41 8 12 true := ⟨(RX8, TX8, 13), tyX8, cO8, by decide, by decide +kernel, (in_tb 691 (by decide +kernel) (by decide +kernel)), fun z => absurd z (by decide), fun _ => Or.inl ⟨_, rfl⟩⟩
theorem ab_link : Cond.fieldLink RX7 141 "CanyonRafts" "ABOVE" "[I" ∈ tb := (in_tb 372 (by decide +kernel) (by decide +kernel))
theorem fW_no {M : MT} {ci k : Nat} (h : (vwCl[ci]?).map (fun q => (q.2.1 k).2.2.2) = some false) : fW M ci k := by
  intro q ty hq
  rw [hq.1] at h
  exact Or.inl (Option.some.inj h)
theorem fW_in {M : MT} {ci k : Nat} (h : (vwCl[ci]?).map (fun q => ((q.2.1 k).2.2.2, (q.2.1 k).1)) = some (true, (m_y M).cls)) (hi : (m_y M).name = "<init>") : fW M ci k := by
  intro q ty hq
  rw [hq.1] at h
  have h2 := Option.some.inj h
  exact Or.inr ⟨congrArg Prod.fst h2, hi, congrArg Prod.snd h2⟩
theorem nl_L_7 : nL RL 7 7 7 := ⟨(RX7, TX7, 7), tyX7, cO7, rfl, by decide +kernel, (in_tb 58 (by decide +kernel) (by decide +kernel)), (in_tb 59 (by decide +kernel) (by decide +kernel)), (in_tb 46 (by decide +kernel) (by decide +kernel))⟩
theorem nl_7_7 : nL RX7 7 4 9 := ⟨(RX4, TX4, 9), tyX4, cO4, rfl, by decide +kernel, (in_tb 66 (by decide +kernel) (by decide +kernel)), (in_tb 67 (by decide +kernel) (by decide +kernel)), (in_tb 47 (by decide +kernel) (by decide +kernel))⟩
theorem nl_7_16 : nL RX7 16 6 3 := ⟨(RX6, TX6, 3), tyX6, cO6, rfl, by decide +kernel, (in_tb 114 (by decide +kernel) (by decide +kernel)), (in_tb 115 (by decide +kernel) (by decide +kernel)), (in_tb 49 (by decide +kernel) (by decide +kernel))⟩
theorem nl_7_23 : nL RX7 23 3 5 := ⟨(RX3, TX3, 5), tyX3, cO3, rfl, by decide +kernel, (in_tb 132 (by decide +kernel) (by decide +kernel)), (in_tb 133 (by decide +kernel) (by decide +kernel)), (in_tb 50 (by decide +kernel) (by decide +kernel))⟩
theorem nl_7_30 : nL RX7 30 0 3 := ⟨(RX0, TX0, 3), tyX0, cO0, rfl, by decide +kernel, (in_tb 156 (by decide +kernel) (by decide +kernel)), (in_tb 157 (by decide +kernel) (by decide +kernel)), (in_tb 51 (by decide +kernel) (by decide +kernel))⟩
theorem nl_7_37 : nL RX7 37 1 3 := ⟨(RX1, TX1, 3), tyX1, cO1, rfl, by decide +kernel, (in_tb 175 (by decide +kernel) (by decide +kernel)), (in_tb 176 (by decide +kernel) (by decide +kernel)), (in_tb 52 (by decide +kernel) (by decide +kernel))⟩
theorem nl_1_9 : nL RX1 9 2 4 := ⟨(RX2, TX2, 4), tyX2, cO2, rfl, by decide +kernel, (in_tb 181 (by decide +kernel) (by decide +kernel)), (in_tb 183 (by decide +kernel) (by decide +kernel)), (in_tb 53 (by decide +kernel) (by decide +kernel))⟩
theorem nl_7_44 : nL RX7 44 5 3 := ⟨(RX5, TX5, 3), tyX5, cO5, rfl, by decide +kernel, (in_tb 212 (by decide +kernel) (by decide +kernel)), (in_tb 214 (by decide +kernel) (by decide +kernel)), (in_tb 54 (by decide +kernel) (by decide +kernel))⟩
theorem kc_7_59 : Jvm.Cond.constant RX7 59 (-100001) ∈ tb := (in_tb 261 (by decide +kernel) (by decide +kernel))
theorem kc_7_75 : Jvm.Cond.constant RX7 75 (-100005) ∈ tb := (in_tb 288 (by decide +kernel) (by decide +kernel))
theorem kc_7_87 : Jvm.Cond.constant RX7 87 (-100003) ∈ tb := (in_tb 296 (by decide +kernel) (by decide +kernel))
theorem kc_7_144 : Jvm.Cond.constant RX7 144 (-100004) ∈ tb := (in_tb 374 (by decide +kernel) (by decide +kernel))
theorem kc_7_158 : Jvm.Cond.constant RX7 158 (-100007) ∈ tb := (in_tb 406 (by decide +kernel) (by decide +kernel))
theorem kc_7_165 : Jvm.Cond.constant RX7 165 (-100006) ∈ tb := (in_tb 411 (by decide +kernel) (by decide +kernel))
theorem kc_0_32 : Jvm.Cond.constant RX0 32 (1103515245) ∈ tb := (in_tb 603 (by decide +kernel) (by decide +kernel))
theorem kc_7_238 : Jvm.Cond.constant RX7 238 (-100002) ∈ tb := (in_tb 639 (by decide +kernel) (by decide +kernel))
theorem nl_L_10 : nL RL 10 8 13 := ⟨(RX8, TX8, 13), tyX8, cO8, rfl, by decide +kernel, (in_tb 673 (by decide +kernel) (by decide +kernel)), (in_tb 674 (by decide +kernel) (by decide +kernel)), (in_tb 55 (by decide +kernel) (by decide +kernel))⟩
theorem kc_8_55 : Jvm.Cond.constant RX8 55 (-100006) ∈ tb := (in_tb 723 (by decide +kernel) (by decide +kernel))
theorem kc_8_67 : Jvm.Cond.constant RX8 67 (-100001) ∈ tb := (in_tb 743 (by decide +kernel) (by decide +kernel))
theorem kc_8_68 : Jvm.Cond.constant RX8 68 (-100005) ∈ tb := (in_tb 748 (by decide +kernel) (by decide +kernel))
theorem kc_8_73 : Jvm.Cond.constant RX8 73 (-100003) ∈ tb := (in_tb 756 (by decide +kernel) (by decide +kernel))
theorem kc_8_97 : Jvm.Cond.constant RX8 97 (-100004) ∈ tb := (in_tb 812 (by decide +kernel) (by decide +kernel))
theorem kc_8_104 : Jvm.Cond.constant RX8 104 (-100007) ∈ tb := (in_tb 833 (by decide +kernel) (by decide +kernel))
theorem kc_8_152 : Jvm.Cond.constant RX8 152 (1103515245) ∈ tb := (in_tb 946 (by decide +kernel) (by decide +kernel))
theorem kc_8_159 : Jvm.Cond.constant RX8 159 (-100002) ∈ tb := (in_tb 962 (by decide +kernel) (by decide +kernel))
theorem ac_int : Cond.arrayClass .int ∈ tb := (in_tb 112 (by decide +kernel) (by decide +kernel))
theorem ac_boolean : Cond.arrayClass .boolean ∈ tb := (in_tb 113 (by decide +kernel) (by decide +kernel))
theorem oi_1 : Cond.instanceMethod Lib.objectInit ∈ tb := (in_tb 64 (by decide +kernel) (by decide +kernel))
theorem oi_2 : Cond.code Lib.objectInit ⟨#[0xb1]⟩ 1 none ∈ tb := (in_tb 65 (by decide +kernel) (by decide +kernel))
theorem ma_min_1 : Cond.static Lib.Math.min.name ∈ tb := (in_tb 282 (by decide +kernel) (by decide +kernel))
theorem ma_min_2 : Cond.code Lib.Math.min.name Lib.Math.min.code 2 (some .int) ∈ tb := (in_tb 283 (by decide +kernel) (by decide +kernel))
theorem ma_max_1 : Cond.static Lib.Math.max.name ∈ tb := (in_tb 324 (by decide +kernel) (by decide +kernel))
theorem ma_max_2 : Cond.code Lib.Math.max.name Lib.Math.max.code 2 (some .int) ∈ tb := (in_tb 325 (by decide +kernel) (by decide +kernel))
theorem ma_abs_1 : Cond.static Lib.Math.abs.name ∈ tb := (in_tb 551 (by decide +kernel) (by decide +kernel))
theorem ma_abs_2 : Cond.code Lib.Math.abs.name Lib.Math.abs.code 1 (some .int) ∈ tb := (in_tb 552 (by decide +kernel) (by decide +kernel))
theorem ma_0 : Cond.initialized "java/lang/Math" ∈ tb := (in_tb 57 (by decide +kernel) (by decide +kernel))
theorem cp_1 : Cond.native arraycopyName ∈ tb := (in_tb 280 (by decide +kernel) (by decide +kernel))
theorem cp_2 : Cond.static arraycopyName ∈ tb := (in_tb 279 (by decide +kernel) (by decide +kernel))
theorem cp_3 : Cond.initialized "java/lang/System" ∈ tb := (in_tb 56 (by decide +kernel) (by decide +kernel))
def yJ_fill : MethodName := ⟨"java/util/Arrays", "fill", "([II)V"⟩
abbrev cJ_fill : ByteArray := prog_13_method_103_code
theorem dJ_fill_0 : decode cJ_fill 0 = .ok (.iconst 0, 1) := by decide +kernel
theorem dJ_fill_1 : decode cJ_fill 1 = .ok (.istore_n 2, 1) := by decide +kernel
theorem dJ_fill_2 : decode cJ_fill 2 = .ok (.aload_n 0, 1) := by decide +kernel
theorem dJ_fill_3 : decode cJ_fill 3 = .ok (.arraylength, 1) := by decide +kernel
theorem dJ_fill_4 : decode cJ_fill 4 = .ok (.istore_n 3, 1) := by decide +kernel
theorem dJ_fill_5 : decode cJ_fill 5 = .ok (.iload_n 2, 1) := by decide +kernel
theorem dJ_fill_6 : decode cJ_fill 6 = .ok (.iload_n 3, 1) := by decide +kernel
theorem dJ_fill_7 : decode cJ_fill 7 = .ok (.if_icmp .ge 13, 3) := by decide +kernel
theorem dJ_fill_10 : decode cJ_fill 10 = .ok (.aload_n 0, 1) := by decide +kernel
theorem dJ_fill_11 : decode cJ_fill 11 = .ok (.iload_n 2, 1) := by decide +kernel
theorem dJ_fill_12 : decode cJ_fill 12 = .ok (.iload_n 1, 1) := by decide +kernel
theorem dJ_fill_13 : decode cJ_fill 13 = .ok (.iastore, 1) := by decide +kernel
theorem dJ_fill_14 : decode cJ_fill 14 = .ok (.iinc 2 1, 3) := by decide +kernel
theorem dJ_fill_17 : decode cJ_fill 17 = .ok (.goto (-12), 3) := by decide +kernel
theorem dJ_fill_20 : decode cJ_fill 20 = .ok (.return_, 1) := by decide +kernel
def mJ_fill : MT := (yJ_fill, cJ_fill, 4, none, 0, 0)
theorem mo_J_fill : mOk mJ_fill 2 := ⟨(in_tb 74 (by decide +kernel) (by decide +kernel)), (in_tb 48 (by decide +kernel) (by decide +kernel)), by decide +kernel, by decide +kernel⟩
theorem sm_J_fill : Cond.static (m_y mJ_fill) ∈ tb := (in_tb 73 (by decide +kernel) (by decide +kernel))
def mL_law : MT := (yL_law, cL_law, 4, some .boolean, 9, 232)
def mX0_draw : MT := (yX0_draw, cX0_draw, 7, none, 2, 45)
theorem mo_X0_draw : mOk mX0_draw 1 := ⟨(in_tb 601 (by decide +kernel) (by decide +kernel)), (in_tb 51 (by decide +kernel) (by decide +kernel)), by decide +kernel, by decide +kernel⟩
theorem im_X0_draw : Cond.instanceMethod (m_y mX0_draw) ∈ tb := (in_tb 599 (by decide +kernel) (by decide +kernel))
theorem se_X0_draw : Cond.selects (m_y mX0_draw).cls (m_y mX0_draw) (m_y mX0_draw) ∈ tb := (in_tb 600 (by decide +kernel) (by decide +kernel))
def mX0_everybody : MT := (yX0_everybody, cX0_everybody, 1, some .int, 1, 20)
theorem mo_X0_everybody : mOk mX0_everybody 0 := ⟨(in_tb 584 (by decide +kernel) (by decide +kernel)), (in_tb 51 (by decide +kernel) (by decide +kernel)), by decide +kernel, by decide +kernel⟩
theorem im_X0_everybody : Cond.instanceMethod (m_y mX0_everybody) ∈ tb := (in_tb 582 (by decide +kernel) (by decide +kernel))
theorem se_X0_everybody : Cond.selects (m_y mX0_everybody).cls (m_y mX0_everybody) (m_y mX0_everybody) ∈ tb := (in_tb 583 (by decide +kernel) (by decide +kernel))
def mX0_init : MT := (yX0_init, cX0_init, 1, none, 1, 20)
theorem mo_X0_init : mOk mX0_init 0 := ⟨(in_tb 160 (by decide +kernel) (by decide +kernel)), (in_tb 51 (by decide +kernel) (by decide +kernel)), by decide +kernel, by decide +kernel⟩
theorem im_X0_init : Cond.instanceMethod (m_y mX0_init) ∈ tb := (in_tb 159 (by decide +kernel) (by decide +kernel))
def mX0_owner : MT := (yX0_owner, cX0_owner, 5, some .int, 1, 21)
theorem mo_X0_owner : mOk mX0_owner 2 := ⟨(in_tb 609 (by decide +kernel) (by decide +kernel)), (in_tb 51 (by decide +kernel) (by decide +kernel)), by decide +kernel, by decide +kernel⟩
theorem im_X0_owner : Cond.instanceMethod (m_y mX0_owner) ∈ tb := (in_tb 608 (by decide +kernel) (by decide +kernel))
theorem se_X0_owner : Cond.selects (m_y mX0_owner).cls (m_y mX0_owner) (m_y mX0_owner) ∈ tb := (in_tb 17 (by decide +kernel) (by decide +kernel))
def mX0_placeOf : MT := (yX0_placeOf, cX0_placeOf, 4, some .int, 1, 20)
theorem mo_X0_placeOf : mOk mX0_placeOf 1 := ⟨(in_tb 617 (by decide +kernel) (by decide +kernel)), (in_tb 51 (by decide +kernel) (by decide +kernel)), by decide +kernel, by decide +kernel⟩
theorem im_X0_placeOf : Cond.instanceMethod (m_y mX0_placeOf) ∈ tb := (in_tb 615 (by decide +kernel) (by decide +kernel))
theorem se_X0_placeOf : Cond.selects (m_y mX0_placeOf).cls (m_y mX0_placeOf) (m_y mX0_placeOf) ∈ tb := (in_tb 616 (by decide +kernel) (by decide +kernel))
def mX0_size : MT := (yX0_size, cX0_size, 1, some .int, 0, 0)
theorem mo_X0_size : mOk mX0_size 0 := ⟨(in_tb 568 (by decide +kernel) (by decide +kernel)), (in_tb 51 (by decide +kernel) (by decide +kernel)), by decide +kernel, by decide +kernel⟩
theorem im_X0_size : Cond.instanceMethod (m_y mX0_size) ∈ tb := (in_tb 566 (by decide +kernel) (by decide +kernel))
theorem se_X0_size : Cond.selects (m_y mX0_size).cls (m_y mX0_size) (m_y mX0_size) ∈ tb := (in_tb 567 (by decide +kernel) (by decide +kernel))
def mX0_together : MT := (yX0_together, cX0_together, 4, some .int, 1, 21)
theorem mo_X0_together : mOk mX0_together 1 := ⟨(in_tb 589 (by decide +kernel) (by decide +kernel)), (in_tb 51 (by decide +kernel) (by decide +kernel)), by decide +kernel, by decide +kernel⟩
theorem im_X0_together : Cond.instanceMethod (m_y mX0_together) ∈ tb := (in_tb 587 (by decide +kernel) (by decide +kernel))
theorem se_X0_together : Cond.selects (m_y mX0_together).cls (m_y mX0_together) (m_y mX0_together) ∈ tb := (in_tb 588 (by decide +kernel) (by decide +kernel))
def mX1_bringBack : MT := (yX1_bringBack, cX1_bringBack, 1, some .boolean, 2, 46)
theorem mo_X1_bringBack : mOk mX1_bringBack 0 := ⟨(in_tb 664 (by decide +kernel) (by decide +kernel)), (in_tb 52 (by decide +kernel) (by decide +kernel)), by decide +kernel, by decide +kernel⟩
theorem im_X1_bringBack : Cond.instanceMethod (m_y mX1_bringBack) ∈ tb := (in_tb 662 (by decide +kernel) (by decide +kernel))
theorem se_X1_bringBack : Cond.selects (m_y mX1_bringBack).cls (m_y mX1_bringBack) (m_y mX1_bringBack) ∈ tb := (in_tb 663 (by decide +kernel) (by decide +kernel))
def mX1_init : MT := (yX1_init, cX1_init, 2, none, 2, 40)
theorem mo_X1_init : mOk mX1_init 0 := ⟨(in_tb 179 (by decide +kernel) (by decide +kernel)), (in_tb 52 (by decide +kernel) (by decide +kernel)), by decide +kernel, by decide +kernel⟩
theorem im_X1_init : Cond.instanceMethod (m_y mX1_init) ∈ tb := (in_tb 178 (by decide +kernel) (by decide +kernel))
def mX1_keep : MT := (yX1_keep, cX1_keep, 4, none, 2, 49)
theorem mo_X1_keep : mOk mX1_keep 3 := ⟨(in_tb 273 (by decide +kernel) (by decide +kernel)), (in_tb 52 (by decide +kernel) (by decide +kernel)), by decide +kernel, by decide +kernel⟩
theorem im_X1_keep : Cond.instanceMethod (m_y mX1_keep) ∈ tb := (in_tb 271 (by decide +kernel) (by decide +kernel))
theorem se_X1_keep : Cond.selects (m_y mX1_keep).cls (m_y mX1_keep) (m_y mX1_keep) ∈ tb := (in_tb 272 (by decide +kernel) (by decide +kernel))
def mX2_bringBack : MT := (yX2_bringBack, cX2_bringBack, 1, none, 1, 26)
theorem mo_X2_bringBack : mOk mX2_bringBack 0 := ⟨(in_tb 668 (by decide +kernel) (by decide +kernel)), (in_tb 53 (by decide +kernel) (by decide +kernel)), by decide +kernel, by decide +kernel⟩
theorem im_X2_bringBack : Cond.instanceMethod (m_y mX2_bringBack) ∈ tb := (in_tb 666 (by decide +kernel) (by decide +kernel))
theorem se_X2_bringBack : Cond.selects (m_y mX2_bringBack).cls (m_y mX2_bringBack) (m_y mX2_bringBack) ∈ tb := (in_tb 667 (by decide +kernel) (by decide +kernel))
def mX2_init : MT := (yX2_init, cX2_init, 1, none, 1, 20)
theorem mo_X2_init : mOk mX2_init 0 := ⟨(in_tb 186 (by decide +kernel) (by decide +kernel)), (in_tb 53 (by decide +kernel) (by decide +kernel)), by decide +kernel, by decide +kernel⟩
theorem im_X2_init : Cond.instanceMethod (m_y mX2_init) ∈ tb := (in_tb 185 (by decide +kernel) (by decide +kernel))
def mX2_keep : MT := (yX2_keep, cX2_keep, 4, none, 1, 26)
theorem mo_X2_keep : mOk mX2_keep 3 := ⟨(in_tb 277 (by decide +kernel) (by decide +kernel)), (in_tb 53 (by decide +kernel) (by decide +kernel)), by decide +kernel, by decide +kernel⟩
theorem im_X2_keep : Cond.instanceMethod (m_y mX2_keep) ∈ tb := (in_tb 275 (by decide +kernel) (by decide +kernel))
theorem se_X2_keep : Cond.selects (m_y mX2_keep).cls (m_y mX2_keep) (m_y mX2_keep) ∈ tb := (in_tb 276 (by decide +kernel) (by decide +kernel))
def mX3_chooseCamps : MT := (yX3_chooseCamps, cX3_chooseCamps, 5, none, 2, 44)
theorem mo_X3_chooseCamps : mOk mX3_chooseCamps 0 := ⟨(in_tb 500 (by decide +kernel) (by decide +kernel)), (in_tb 50 (by decide +kernel) (by decide +kernel)), by decide +kernel, by decide +kernel⟩
theorem im_X3_chooseCamps : Cond.instanceMethod (m_y mX3_chooseCamps) ∈ tb := (in_tb 499 (by decide +kernel) (by decide +kernel))
theorem se_X3_chooseCamps : Cond.selects (m_y mX3_chooseCamps).cls (m_y mX3_chooseCamps) (m_y mX3_chooseCamps) ∈ tb := (in_tb 14 (by decide +kernel) (by decide +kernel))
def mX3_dropDeadEnds : MT := (yX3_dropDeadEnds, cX3_dropDeadEnds, 5, none, 3, 67)
theorem mo_X3_dropDeadEnds : mOk mX3_dropDeadEnds 0 := ⟨(in_tb 484 (by decide +kernel) (by decide +kernel)), (in_tb 50 (by decide +kernel) (by decide +kernel)), by decide +kernel, by decide +kernel⟩
theorem im_X3_dropDeadEnds : Cond.instanceMethod (m_y mX3_dropDeadEnds) ∈ tb := (in_tb 483 (by decide +kernel) (by decide +kernel))
theorem se_X3_dropDeadEnds : Cond.selects (m_y mX3_dropDeadEnds).cls (m_y mX3_dropDeadEnds) (m_y mX3_dropDeadEnds) ∈ tb := (in_tb 10 (by decide +kernel) (by decide +kernel))
def mX3_findEnders : MT := (yX3_findEnders, cX3_findEnders, 7, none, 3, 69)
theorem mo_X3_findEnders : mOk mX3_findEnders 4 := ⟨(in_tb 447 (by decide +kernel) (by decide +kernel)), (in_tb 50 (by decide +kernel) (by decide +kernel)), by decide +kernel, by decide +kernel⟩
theorem im_X3_findEnders : Cond.instanceMethod (m_y mX3_findEnders) ∈ tb := (in_tb 446 (by decide +kernel) (by decide +kernel))
theorem se_X3_findEnders : Cond.selects (m_y mX3_findEnders).cls (m_y mX3_findEnders) (m_y mX3_findEnders) ∈ tb := (in_tb 7 (by decide +kernel) (by decide +kernel))
def mX3_findLeads : MT := (yX3_findLeads, cX3_findLeads, 8, none, 3, 72)
theorem mo_X3_findLeads : mOk mX3_findLeads 5 := ⟨(in_tb 472 (by decide +kernel) (by decide +kernel)), (in_tb 50 (by decide +kernel) (by decide +kernel)), by decide +kernel, by decide +kernel⟩
theorem im_X3_findLeads : Cond.instanceMethod (m_y mX3_findLeads) ∈ tb := (in_tb 471 (by decide +kernel) (by decide +kernel))
theorem se_X3_findLeads : Cond.selects (m_y mX3_findLeads).cls (m_y mX3_findLeads) (m_y mX3_findLeads) ∈ tb := (in_tb 8 (by decide +kernel) (by decide +kernel))
def mX3_goers : MT := (yX3_goers, cX3_goers, 4, some .int, 0, 0)
theorem mo_X3_goers : mOk mX3_goers 3 := ⟨(in_tb 492 (by decide +kernel) (by decide +kernel)), (in_tb 50 (by decide +kernel) (by decide +kernel)), by decide +kernel, by decide +kernel⟩
theorem im_X3_goers : Cond.instanceMethod (m_y mX3_goers) ∈ tb := (in_tb 491 (by decide +kernel) (by decide +kernel))
theorem se_X3_goers : Cond.selects (m_y mX3_goers).cls (m_y mX3_goers) (m_y mX3_goers) ∈ tb := (in_tb 12 (by decide +kernel) (by decide +kernel))
def mX3_goesOn : MT := (yX3_goesOn, cX3_goesOn, 4, some .boolean, 2, 44)
theorem mo_X3_goesOn : mOk mX3_goesOn 3 := ⟨(in_tb 488 (by decide +kernel) (by decide +kernel)), (in_tb 50 (by decide +kernel) (by decide +kernel)), by decide +kernel, by decide +kernel⟩
theorem im_X3_goesOn : Cond.instanceMethod (m_y mX3_goesOn) ∈ tb := (in_tb 487 (by decide +kernel) (by decide +kernel))
theorem se_X3_goesOn : Cond.selects (m_y mX3_goesOn).cls (m_y mX3_goesOn) (m_y mX3_goesOn) ∈ tb := (in_tb 11 (by decide +kernel) (by decide +kernel))
def mX3_init : MT := (yX3_init, cX3_init, 1, none, 1, 20)
theorem mo_X3_init : mOk mX3_init 0 := ⟨(in_tb 136 (by decide +kernel) (by decide +kernel)), (in_tb 50 (by decide +kernel) (by decide +kernel)), by decide +kernel, by decide +kernel⟩
theorem im_X3_init : Cond.instanceMethod (m_y mX3_init) ∈ tb := (in_tb 135 (by decide +kernel) (by decide +kernel))
def mX3_lowest : MT := (yX3_lowest, cX3_lowest, 2, some .int, 1, 21)
theorem mo_X3_lowest : mOk mX3_lowest 1 := ⟨(in_tb 503 (by decide +kernel) (by decide +kernel)), (in_tb 50 (by decide +kernel) (by decide +kernel)), by decide +kernel, by decide +kernel⟩
theorem sm_X3_lowest : Cond.static (m_y mX3_lowest) ∈ tb := (in_tb 502 (by decide +kernel) (by decide +kernel))
def mX3_mayStay : MT := (yX3_mayStay, cX3_mayStay, 4, some .boolean, 1, 21)
theorem mo_X3_mayStay : mOk mX3_mayStay 3 := ⟨(in_tb 496 (by decide +kernel) (by decide +kernel)), (in_tb 50 (by decide +kernel) (by decide +kernel)), by decide +kernel, by decide +kernel⟩
theorem im_X3_mayStay : Cond.instanceMethod (m_y mX3_mayStay) ∈ tb := (in_tb 495 (by decide +kernel) (by decide +kernel))
theorem se_X3_mayStay : Cond.selects (m_y mX3_mayStay).cls (m_y mX3_mayStay) (m_y mX3_mayStay) ∈ tb := (in_tb 13 (by decide +kernel) (by decide +kernel))
def mX3_placesAhead : MT := (yX3_placesAhead, cX3_placesAhead, 4, some .int, 0, 0)
theorem mo_X3_placesAhead : mOk mX3_placesAhead 1 := ⟨(in_tb 438 (by decide +kernel) (by decide +kernel)), (in_tb 50 (by decide +kernel) (by decide +kernel)), by decide +kernel, by decide +kernel⟩
theorem im_X3_placesAhead : Cond.instanceMethod (m_y mX3_placesAhead) ∈ tb := (in_tb 437 (by decide +kernel) (by decide +kernel))
theorem se_X3_placesAhead : Cond.selects (m_y mX3_placesAhead).cls (m_y mX3_placesAhead) (m_y mX3_placesAhead) ∈ tb := (in_tb 6 (by decide +kernel) (by decide +kernel))
def mX3_schedule : MT := (yX3_schedule, cX3_schedule, 6, some .int, 5, 130)
theorem mo_X3_schedule : mOk mX3_schedule 3 := ⟨(in_tb 534 (by decide +kernel) (by decide +kernel)), (in_tb 50 (by decide +kernel) (by decide +kernel)), by decide +kernel, by decide +kernel⟩
theorem im_X3_schedule : Cond.instanceMethod (m_y mX3_schedule) ∈ tb := (in_tb 532 (by decide +kernel) (by decide +kernel))
theorem se_X3_schedule : Cond.selects (m_y mX3_schedule).cls (m_y mX3_schedule) (m_y mX3_schedule) ∈ tb := (in_tb 533 (by decide +kernel) (by decide +kernel))
def mX3_search : MT := (yX3_search, cX3_search, 12, some .boolean, 4, 99)
theorem mo_X3_search : mOk mX3_search 3 := ⟨(in_tb 423 (by decide +kernel) (by decide +kernel)), (in_tb 50 (by decide +kernel) (by decide +kernel)), by decide +kernel, by decide +kernel⟩
theorem im_X3_search : Cond.instanceMethod (m_y mX3_search) ∈ tb := (in_tb 421 (by decide +kernel) (by decide +kernel))
theorem se_X3_search : Cond.selects (m_y mX3_search).cls (m_y mX3_search) (m_y mX3_search) ∈ tb := (in_tb 422 (by decide +kernel) (by decide +kernel))
def mX3_spread : MT := (yX3_spread, cX3_spread, 8, none, 1, 21)
theorem mo_X3_spread : mOk mX3_spread 3 := ⟨(in_tb 480 (by decide +kernel) (by decide +kernel)), (in_tb 50 (by decide +kernel) (by decide +kernel)), by decide +kernel, by decide +kernel⟩
theorem im_X3_spread : Cond.instanceMethod (m_y mX3_spread) ∈ tb := (in_tb 479 (by decide +kernel) (by decide +kernel))
theorem se_X3_spread : Cond.selects (m_y mX3_spread).cls (m_y mX3_spread) (m_y mX3_spread) ∈ tb := (in_tb 9 (by decide +kernel) (by decide +kernel))
def mX3_startAhead : MT := (yX3_startAhead, cX3_startAhead, 1, none, 1, 23)
theorem mo_X3_startAhead : mOk mX3_startAhead 0 := ⟨(in_tb 433 (by decide +kernel) (by decide +kernel)), (in_tb 50 (by decide +kernel) (by decide +kernel)), by decide +kernel, by decide +kernel⟩
theorem im_X3_startAhead : Cond.instanceMethod (m_y mX3_startAhead) ∈ tb := (in_tb 432 (by decide +kernel) (by decide +kernel))
theorem se_X3_startAhead : Cond.selects (m_y mX3_startAhead).cls (m_y mX3_startAhead) (m_y mX3_startAhead) ∈ tb := (in_tb 5 (by decide +kernel) (by decide +kernel))
def mX3_writeNights : MT := (yX3_writeNights, cX3_writeNights, 5, none, 3, 67)
theorem mo_X3_writeNights : mOk mX3_writeNights 2 := ⟨(in_tb 515 (by decide +kernel) (by decide +kernel)), (in_tb 50 (by decide +kernel) (by decide +kernel)), by decide +kernel, by decide +kernel⟩
theorem im_X3_writeNights : Cond.instanceMethod (m_y mX3_writeNights) ∈ tb := (in_tb 513 (by decide +kernel) (by decide +kernel))
theorem se_X3_writeNights : Cond.selects (m_y mX3_writeNights).cls (m_y mX3_writeNights) (m_y mX3_writeNights) ∈ tb := (in_tb 514 (by decide +kernel) (by decide +kernel))
def mX4_arriving : MT := (yX4_arriving, cX4_arriving, 6, some .int, 1, 21)
theorem mo_X4_arriving : mOk mX4_arriving 3 := ⟨(in_tb 322 (by decide +kernel) (by decide +kernel)), (in_tb 47 (by decide +kernel) (by decide +kernel)), by decide +kernel, by decide +kernel⟩
theorem im_X4_arriving : Cond.instanceMethod (m_y mX4_arriving) ∈ tb := (in_tb 320 (by decide +kernel) (by decide +kernel))
theorem se_X4_arriving : Cond.selects (m_y mX4_arriving).cls (m_y mX4_arriving) (m_y mX4_arriving) ∈ tb := (in_tb 321 (by decide +kernel) (by decide +kernel))
def mX4_campsAhead : MT := (yX4_campsAhead, cX4_campsAhead, 8, some .int, 2, 45)
theorem mo_X4_campsAhead : mOk mX4_campsAhead 3 := ⟨(in_tb 476 (by decide +kernel) (by decide +kernel)), (in_tb 47 (by decide +kernel) (by decide +kernel)), by decide +kernel, by decide +kernel⟩
theorem im_X4_campsAhead : Cond.instanceMethod (m_y mX4_campsAhead) ∈ tb := (in_tb 474 (by decide +kernel) (by decide +kernel))
theorem se_X4_campsAhead : Cond.selects (m_y mX4_campsAhead).cls (m_y mX4_campsAhead) (m_y mX4_campsAhead) ∈ tb := (in_tb 475 (by decide +kernel) (by decide +kernel))
def mX4_campsFor : MT := (yX4_campsFor, cX4_campsFor, 4, some .int, 0, 0)
theorem mo_X4_campsFor : mOk mX4_campsFor 1 := ⟨(in_tb 429 (by decide +kernel) (by decide +kernel)), (in_tb 47 (by decide +kernel) (by decide +kernel)), by decide +kernel, by decide +kernel⟩
theorem im_X4_campsFor : Cond.instanceMethod (m_y mX4_campsFor) ∈ tb := (in_tb 427 (by decide +kernel) (by decide +kernel))
theorem se_X4_campsFor : Cond.selects (m_y mX4_campsFor).cls (m_y mX4_campsFor) (m_y mX4_campsFor) ∈ tb := (in_tb 428 (by decide +kernel) (by decide +kernel))
def mX4_closedRapids : MT := (yX4_closedRapids, cX4_closedRapids, 5, some .int, 3, 71)
theorem mo_X4_closedRapids : mOk mX4_closedRapids 2 := ⟨(in_tb 442 (by decide +kernel) (by decide +kernel)), (in_tb 47 (by decide +kernel) (by decide +kernel)), by decide +kernel, by decide +kernel⟩
theorem im_X4_closedRapids : Cond.instanceMethod (m_y mX4_closedRapids) ∈ tb := (in_tb 440 (by decide +kernel) (by decide +kernel))
theorem se_X4_closedRapids : Cond.selects (m_y mX4_closedRapids).cls (m_y mX4_closedRapids) (m_y mX4_closedRapids) ∈ tb := (in_tb 441 (by decide +kernel) (by decide +kernel))
def mX4_firstHour : MT := (yX4_firstHour, cX4_firstHour, 6, some .int, 2, 46)
theorem mo_X4_firstHour : mOk mX4_firstHour 3 := ⟨(in_tb 336 (by decide +kernel) (by decide +kernel)), (in_tb 47 (by decide +kernel) (by decide +kernel)), by decide +kernel, by decide +kernel⟩
theorem im_X4_firstHour : Cond.instanceMethod (m_y mX4_firstHour) ∈ tb := (in_tb 334 (by decide +kernel) (by decide +kernel))
theorem se_X4_firstHour : Cond.selects (m_y mX4_firstHour).cls (m_y mX4_firstHour) (m_y mX4_firstHour) ∈ tb := (in_tb 335 (by decide +kernel) (by decide +kernel))
def mX4_init : MT := (yX4_init, cX4_init, 1, none, 1, 23)
theorem mo_X4_init : mOk mX4_init 0 := ⟨(in_tb 70 (by decide +kernel) (by decide +kernel)), (in_tb 47 (by decide +kernel) (by decide +kernel)), by decide +kernel, by decide +kernel⟩
theorem im_X4_init : Cond.instanceMethod (m_y mX4_init) ∈ tb := (in_tb 69 (by decide +kernel) (by decide +kernel))
def mX4_leadsToEnd : MT := (yX4_leadsToEnd, cX4_leadsToEnd, 5, some .boolean, 2, 45)
theorem mo_X4_leadsToEnd : mOk mX4_leadsToEnd 3 := ⟨(in_tb 454 (by decide +kernel) (by decide +kernel)), (in_tb 47 (by decide +kernel) (by decide +kernel)), by decide +kernel, by decide +kernel⟩
theorem im_X4_leadsToEnd : Cond.instanceMethod (m_y mX4_leadsToEnd) ∈ tb := (in_tb 452 (by decide +kernel) (by decide +kernel))
theorem se_X4_leadsToEnd : Cond.selects (m_y mX4_leadsToEnd).cls (m_y mX4_leadsToEnd) (m_y mX4_leadsToEnd) ∈ tb := (in_tb 453 (by decide +kernel) (by decide +kernel))
def mX4_mileOf : MT := (yX4_mileOf, cX4_mileOf, 2, some .int, 0, 0)
theorem mo_X4_mileOf : mOk mX4_mileOf 1 := ⟨(in_tb 458 (by decide +kernel) (by decide +kernel)), (in_tb 47 (by decide +kernel) (by decide +kernel)), by decide +kernel, by decide +kernel⟩
theorem im_X4_mileOf : Cond.instanceMethod (m_y mX4_mileOf) ∈ tb := (in_tb 456 (by decide +kernel) (by decide +kernel))
theorem se_X4_mileOf : Cond.selects (m_y mX4_mileOf).cls (m_y mX4_mileOf) (m_y mX4_mileOf) ∈ tb := (in_tb 457 (by decide +kernel) (by decide +kernel))
def mX4_minutesOut : MT := (yX4_minutesOut, cX4_minutesOut, 7, some .int, 1, 21)
theorem mo_X4_minutesOut : mOk mX4_minutesOut 2 := ⟨(in_tb 560 (by decide +kernel) (by decide +kernel)), (in_tb 47 (by decide +kernel) (by decide +kernel)), by decide +kernel, by decide +kernel⟩
theorem im_X4_minutesOut : Cond.instanceMethod (m_y mX4_minutesOut) ∈ tb := (in_tb 558 (by decide +kernel) (by decide +kernel))
theorem se_X4_minutesOut : Cond.selects (m_y mX4_minutesOut).cls (m_y mX4_minutesOut) (m_y mX4_minutesOut) ∈ tb := (in_tb 559 (by decide +kernel) (by decide +kernel))
def mX4_nextClosed : MT := (yX4_nextClosed, cX4_nextClosed, 5, some .int, 1, 21)
theorem mo_X4_nextClosed : mOk mX4_nextClosed 2 := ⟨(in_tb 462 (by decide +kernel) (by decide +kernel)), (in_tb 47 (by decide +kernel) (by decide +kernel)), by decide +kernel, by decide +kernel⟩
theorem im_X4_nextClosed : Cond.instanceMethod (m_y mX4_nextClosed) ∈ tb := (in_tb 460 (by decide +kernel) (by decide +kernel))
theorem se_X4_nextClosed : Cond.selects (m_y mX4_nextClosed).cls (m_y mX4_nextClosed) (m_y mX4_nextClosed) ∈ tb := (in_tb 461 (by decide +kernel) (by decide +kernel))
def mX5_has : MT := (yX5_has, cX5_has, 3, some .boolean, 0, 0)
theorem mo_X5_has : mOk mX5_has 2 := ⟨(in_tb 651 (by decide +kernel) (by decide +kernel)), (in_tb 54 (by decide +kernel) (by decide +kernel)), by decide +kernel, by decide +kernel⟩
theorem im_X5_has : Cond.instanceMethod (m_y mX5_has) ∈ tb := (in_tb 649 (by decide +kernel) (by decide +kernel))
theorem se_X5_has : Cond.selects (m_y mX5_has).cls (m_y mX5_has) (m_y mX5_has) ∈ tb := (in_tb 650 (by decide +kernel) (by decide +kernel))
def mX5_init : MT := (yX5_init, cX5_init, 1, none, 1, 20)
theorem mo_X5_init : mOk mX5_init 0 := ⟨(in_tb 217 (by decide +kernel) (by decide +kernel)), (in_tb 54 (by decide +kernel) (by decide +kernel)), by decide +kernel, by decide +kernel⟩
theorem im_X5_init : Cond.instanceMethod (m_y mX5_init) ∈ tb := (in_tb 216 (by decide +kernel) (by decide +kernel))
def mX5_isMissing : MT := (yX5_isMissing, cX5_isMissing, 1, some .boolean, 0, 0)
theorem mo_X5_isMissing : mOk mX5_isMissing 0 := ⟨(in_tb 632 (by decide +kernel) (by decide +kernel)), (in_tb 54 (by decide +kernel) (by decide +kernel)), by decide +kernel, by decide +kernel⟩
theorem im_X5_isMissing : Cond.instanceMethod (m_y mX5_isMissing) ∈ tb := (in_tb 630 (by decide +kernel) (by decide +kernel))
theorem se_X5_isMissing : Cond.selects (m_y mX5_isMissing).cls (m_y mX5_isMissing) (m_y mX5_isMissing) ∈ tb := (in_tb 631 (by decide +kernel) (by decide +kernel))
def mX5_lowest : MT := (yX5_lowest, cX5_lowest, 2, some .int, 0, 0)
theorem mo_X5_lowest : mOk mX5_lowest 1 := ⟨(in_tb 643 (by decide +kernel) (by decide +kernel)), (in_tb 54 (by decide +kernel) (by decide +kernel)), by decide +kernel, by decide +kernel⟩
theorem im_X5_lowest : Cond.instanceMethod (m_y mX5_lowest) ∈ tb := (in_tb 641 (by decide +kernel) (by decide +kernel))
theorem se_X5_lowest : Cond.selects (m_y mX5_lowest).cls (m_y mX5_lowest) (m_y mX5_lowest) ∈ tb := (in_tb 642 (by decide +kernel) (by decide +kernel))
def mX5_renew : MT := (yX5_renew, cX5_renew, 3, some .int, 1, 23)
theorem mo_X5_renew : mOk mX5_renew 2 := ⟨(in_tb 628 (by decide +kernel) (by decide +kernel)), (in_tb 54 (by decide +kernel) (by decide +kernel)), by decide +kernel, by decide +kernel⟩
theorem im_X5_renew : Cond.instanceMethod (m_y mX5_renew) ∈ tb := (in_tb 626 (by decide +kernel) (by decide +kernel))
theorem se_X5_renew : Cond.selects (m_y mX5_renew).cls (m_y mX5_renew) (m_y mX5_renew) ∈ tb := (in_tb 627 (by decide +kernel) (by decide +kernel))
def mX6_bringRowsBack : MT := (yX6_bringRowsBack, cX6_bringRowsBack, 1, none, 1, 26)
theorem mo_X6_bringRowsBack : mOk mX6_bringRowsBack 0 := ⟨(in_tb 541 (by decide +kernel) (by decide +kernel)), (in_tb 49 (by decide +kernel) (by decide +kernel)), by decide +kernel, by decide +kernel⟩
theorem im_X6_bringRowsBack : Cond.instanceMethod (m_y mX6_bringRowsBack) ∈ tb := (in_tb 539 (by decide +kernel) (by decide +kernel))
theorem se_X6_bringRowsBack : Cond.selects (m_y mX6_bringRowsBack).cls (m_y mX6_bringRowsBack) (m_y mX6_bringRowsBack) ∈ tb := (in_tb 540 (by decide +kernel) (by decide +kernel))
def mX6_clearNights : MT := (yX6_clearNights, cX6_clearNights, 3, none, 2, 45)
theorem mo_X6_clearNights : mOk mX6_clearNights 1 := ⟨(in_tb 358 (by decide +kernel) (by decide +kernel)), (in_tb 49 (by decide +kernel) (by decide +kernel)), by decide +kernel, by decide +kernel⟩
theorem im_X6_clearNights : Cond.instanceMethod (m_y mX6_clearNights) ∈ tb := (in_tb 356 (by decide +kernel) (by decide +kernel))
theorem se_X6_clearNights : Cond.selects (m_y mX6_clearNights).cls (m_y mX6_clearNights) (m_y mX6_clearNights) ∈ tb := (in_tb 357 (by decide +kernel) (by decide +kernel))
def mX6_guest : MT := (yX6_guest, cX6_guest, 4, some .int, 2, 44)
theorem mo_X6_guest : mOk mX6_guest 2 := ⟨(in_tb 404 (by decide +kernel) (by decide +kernel)), (in_tb 49 (by decide +kernel) (by decide +kernel)), by decide +kernel, by decide +kernel⟩
theorem im_X6_guest : Cond.instanceMethod (m_y mX6_guest) ∈ tb := (in_tb 402 (by decide +kernel) (by decide +kernel))
theorem se_X6_guest : Cond.selects (m_y mX6_guest).cls (m_y mX6_guest) (m_y mX6_guest) ∈ tb := (in_tb 403 (by decide +kernel) (by decide +kernel))
def mX6_index : MT := (yX6_index, cX6_index, 3, some .int, 0, 0)
theorem mo_X6_index : mOk mX6_index 2 := ⟨(in_tb 354 (by decide +kernel) (by decide +kernel)), (in_tb 49 (by decide +kernel) (by decide +kernel)), by decide +kernel, by decide +kernel⟩
theorem im_X6_index : Cond.instanceMethod (m_y mX6_index) ∈ tb := (in_tb 352 (by decide +kernel) (by decide +kernel))
theorem se_X6_index : Cond.selects (m_y mX6_index).cls (m_y mX6_index) (m_y mX6_index) ∈ tb := (in_tb 353 (by decide +kernel) (by decide +kernel))
def mX6_init : MT := (yX6_init, cX6_init, 1, none, 1, 20)
theorem mo_X6_init : mOk mX6_init 0 := ⟨(in_tb 118 (by decide +kernel) (by decide +kernel)), (in_tb 49 (by decide +kernel) (by decide +kernel)), by decide +kernel, by decide +kernel⟩
theorem im_X6_init : Cond.instanceMethod (m_y mX6_init) ∈ tb := (in_tb 117 (by decide +kernel) (by decide +kernel))
def mX6_nightsOf : MT := (yX6_nightsOf, cX6_nightsOf, 4, some .int, 2, 44)
theorem mo_X6_nightsOf : mOk mX6_nightsOf 1 := ⟨(in_tb 382 (by decide +kernel) (by decide +kernel)), (in_tb 49 (by decide +kernel) (by decide +kernel)), by decide +kernel, by decide +kernel⟩
theorem im_X6_nightsOf : Cond.instanceMethod (m_y mX6_nightsOf) ∈ tb := (in_tb 380 (by decide +kernel) (by decide +kernel))
theorem se_X6_nightsOf : Cond.selects (m_y mX6_nightsOf).cls (m_y mX6_nightsOf) (m_y mX6_nightsOf) ∈ tb := (in_tb 381 (by decide +kernel) (by decide +kernel))
def mX6_read : MT := (yX6_read, cX6_read, 3, some .int, 1, 22)
theorem mo_X6_read : mOk mX6_read 2 := ⟨(in_tb 371 (by decide +kernel) (by decide +kernel)), (in_tb 49 (by decide +kernel) (by decide +kernel)), by decide +kernel, by decide +kernel⟩
theorem im_X6_read : Cond.instanceMethod (m_y mX6_read) ∈ tb := (in_tb 369 (by decide +kernel) (by decide +kernel))
theorem se_X6_read : Cond.selects (m_y mX6_read).cls (m_y mX6_read) (m_y mX6_read) ∈ tb := (in_tb 370 (by decide +kernel) (by decide +kernel))
def mX6_saveRows : MT := (yX6_saveRows, cX6_saveRows, 1, none, 1, 26)
theorem mo_X6_saveRows : mOk mX6_saveRows 0 := ⟨(in_tb 529 (by decide +kernel) (by decide +kernel)), (in_tb 49 (by decide +kernel) (by decide +kernel)), by decide +kernel, by decide +kernel⟩
theorem im_X6_saveRows : Cond.instanceMethod (m_y mX6_saveRows) ∈ tb := (in_tb 527 (by decide +kernel) (by decide +kernel))
theorem se_X6_saveRows : Cond.selects (m_y mX6_saveRows).cls (m_y mX6_saveRows) (m_y mX6_saveRows) ∈ tb := (in_tb 528 (by decide +kernel) (by decide +kernel))
def mX6_size : MT := (yX6_size, cX6_size, 1, some .int, 0, 0)
theorem mo_X6_size : mOk mX6_size 0 := ⟨(in_tb 346 (by decide +kernel) (by decide +kernel)), (in_tb 49 (by decide +kernel) (by decide +kernel)), by decide +kernel, by decide +kernel⟩
theorem im_X6_size : Cond.instanceMethod (m_y mX6_size) ∈ tb := (in_tb 344 (by decide +kernel) (by decide +kernel))
theorem se_X6_size : Cond.selects (m_y mX6_size).cls (m_y mX6_size) (m_y mX6_size) ∈ tb := (in_tb 345 (by decide +kernel) (by decide +kernel))
def mX6_takenFrom : MT := (yX6_takenFrom, cX6_takenFrom, 6, some .int, 2, 44)
theorem mo_X6_takenFrom : mOk mX6_takenFrom 2 := ⟨(in_tb 468 (by decide +kernel) (by decide +kernel)), (in_tb 49 (by decide +kernel) (by decide +kernel)), by decide +kernel, by decide +kernel⟩
theorem im_X6_takenFrom : Cond.instanceMethod (m_y mX6_takenFrom) ∈ tb := (in_tb 466 (by decide +kernel) (by decide +kernel))
theorem se_X6_takenFrom : Cond.selects (m_y mX6_takenFrom).cls (m_y mX6_takenFrom) (m_y mX6_takenFrom) ∈ tb := (in_tb 467 (by decide +kernel) (by decide +kernel))
def mX6_write : MT := (yX6_write, cX6_write, 4, none, 1, 22)
theorem mo_X6_write : mOk mX6_write 3 := ⟨(in_tb 350 (by decide +kernel) (by decide +kernel)), (in_tb 49 (by decide +kernel) (by decide +kernel)), by decide +kernel, by decide +kernel⟩
theorem im_X6_write : Cond.instanceMethod (m_y mX6_write) ∈ tb := (in_tb 348 (by decide +kernel) (by decide +kernel))
theorem se_X6_write : Cond.selects (m_y mX6_write).cls (m_y mX6_write) (m_y mX6_write) ∈ tb := (in_tb 349 (by decide +kernel) (by decide +kernel))
def mX7_all : MT := (yX7_all, cX7_all, 2, some .int, 1, 21)
theorem mo_X7_all : mOk mX7_all 1 := ⟨(in_tb 672 (by decide +kernel) (by decide +kernel)), (in_tb 46 (by decide +kernel) (by decide +kernel)), by decide +kernel, by decide +kernel⟩
theorem im_X7_all : Cond.instanceMethod (m_y mX7_all) ∈ tb := (in_tb 670 (by decide +kernel) (by decide +kernel))
theorem se_X7_all : Cond.selects (m_y mX7_all).cls (m_y mX7_all) (m_y mX7_all) ∈ tb := (in_tb 671 (by decide +kernel) (by decide +kernel))
def mX7_applicant : MT := (yX7_applicant, cX7_applicant, 3, some .int, 4, 96)
theorem mo_X7_applicant : mOk mX7_applicant 1 := ⟨(in_tb 564 (by decide +kernel) (by decide +kernel)), (in_tb 46 (by decide +kernel) (by decide +kernel)), by decide +kernel, by decide +kernel⟩
theorem im_X7_applicant : Cond.instanceMethod (m_y mX7_applicant) ∈ tb := (in_tb 562 (by decide +kernel) (by decide +kernel))
theorem se_X7_applicant : Cond.selects (m_y mX7_applicant).cls (m_y mX7_applicant) (m_y mX7_applicant) ∈ tb := (in_tb 563 (by decide +kernel) (by decide +kernel))
def mX7_as : MT := (yX7_as, cX7_as, 5, some .int, 2, 44)
theorem mo_X7_as : mOk mX7_as 2 := ⟨(in_tb 363 (by decide +kernel) (by decide +kernel)), (in_tb 46 (by decide +kernel) (by decide +kernel)), by decide +kernel, by decide +kernel⟩
theorem im_X7_as : Cond.instanceMethod (m_y mX7_as) ∈ tb := (in_tb 361 (by decide +kernel) (by decide +kernel))
theorem se_X7_as : Cond.selects (m_y mX7_as).cls (m_y mX7_as) (m_y mX7_as) ∈ tb := (in_tb 362 (by decide +kernel) (by decide +kernel))
def mX7_at : MT := (yX7_at, cX7_at, 4, some .int, 2, 44)
theorem mo_X7_at : mOk mX7_at 2 := ⟨(in_tb 410 (by decide +kernel) (by decide +kernel)), (in_tb 46 (by decide +kernel) (by decide +kernel)), by decide +kernel, by decide +kernel⟩
theorem im_X7_at : Cond.instanceMethod (m_y mX7_at) ∈ tb := (in_tb 408 (by decide +kernel) (by decide +kernel))
theorem se_X7_at : Cond.selects (m_y mX7_at).cls (m_y mX7_at) (m_y mX7_at) ∈ tb := (in_tb 409 (by decide +kernel) (by decide +kernel))
def mX7_calendar : MT := (yX7_calendar, cX7_calendar, 3, some .int, 6, 155)
theorem mo_X7_calendar : mOk mX7_calendar 1 := ⟨(in_tb 521 (by decide +kernel) (by decide +kernel)), (in_tb 46 (by decide +kernel) (by decide +kernel)), by decide +kernel, by decide +kernel⟩
theorem im_X7_calendar : Cond.instanceMethod (m_y mX7_calendar) ∈ tb := (in_tb 519 (by decide +kernel) (by decide +kernel))
theorem se_X7_calendar : Cond.selects (m_y mX7_calendar).cls (m_y mX7_calendar) (m_y mX7_calendar) ∈ tb := (in_tb 520 (by decide +kernel) (by decide +kernel))
def mX7_camp : MT := (yX7_camp, cX7_camp, 4, some .int, 4, 96)
theorem mo_X7_camp : mOk mX7_camp 2 := ⟨(in_tb 287 (by decide +kernel) (by decide +kernel)), (in_tb 46 (by decide +kernel) (by decide +kernel)), by decide +kernel, by decide +kernel⟩
theorem im_X7_camp : Cond.instanceMethod (m_y mX7_camp) ∈ tb := (in_tb 285 (by decide +kernel) (by decide +kernel))
theorem se_X7_camp : Cond.selects (m_y mX7_camp).cls (m_y mX7_camp) (m_y mX7_camp) ∈ tb := (in_tb 286 (by decide +kernel) (by decide +kernel))
def mX7_chance : MT := (yX7_chance, cX7_chance, 6, some .int, 2, 44)
theorem mo_X7_chance : mOk mX7_chance 2 := ⟨(in_tb 580 (by decide +kernel) (by decide +kernel)), (in_tb 46 (by decide +kernel) (by decide +kernel)), by decide +kernel, by decide +kernel⟩
theorem im_X7_chance : Cond.instanceMethod (m_y mX7_chance) ∈ tb := (in_tb 578 (by decide +kernel) (by decide +kernel))
theorem se_X7_chance : Cond.selects (m_y mX7_chance).cls (m_y mX7_chance) (m_y mX7_chance) ∈ tb := (in_tb 579 (by decide +kernel) (by decide +kernel))
def mX7_change : MT := (yX7_change, cX7_change, 5, some .int, 3, 72)
theorem mo_X7_change : mOk mX7_change 3 := ⟨(in_tb 269 (by decide +kernel) (by decide +kernel)), (in_tb 46 (by decide +kernel) (by decide +kernel)), by decide +kernel, by decide +kernel⟩
theorem im_X7_change : Cond.instanceMethod (m_y mX7_change) ∈ tb := (in_tb 268 (by decide +kernel) (by decide +kernel))
theorem se_X7_change : Cond.selects (m_y mX7_change).cls (m_y mX7_change) (m_y mX7_change) ∈ tb := (in_tb 1 (by decide +kernel) (by decide +kernel))
def mX7_copy : MT := (yX7_copy, cX7_copy, 8, some .int, 2, 42)
theorem mo_X7_copy : mOk mX7_copy 5 := ⟨(in_tb 647 (by decide +kernel) (by decide +kernel)), (in_tb 46 (by decide +kernel) (by decide +kernel)), by decide +kernel, by decide +kernel⟩
theorem im_X7_copy : Cond.instanceMethod (m_y mX7_copy) ∈ tb := (in_tb 645 (by decide +kernel) (by decide +kernel))
theorem se_X7_copy : Cond.selects (m_y mX7_copy).cls (m_y mX7_copy) (m_y mX7_copy) ∈ tb := (in_tb 646 (by decide +kernel) (by decide +kernel))
def mX7_drawn : MT := (yX7_drawn, cX7_drawn, 3, some .int, 3, 71)
theorem mo_X7_drawn : mOk mX7_drawn 2 := ⟨(in_tb 597 (by decide +kernel) (by decide +kernel)), (in_tb 46 (by decide +kernel) (by decide +kernel)), by decide +kernel, by decide +kernel⟩
theorem im_X7_drawn : Cond.instanceMethod (m_y mX7_drawn) ∈ tb := (in_tb 595 (by decide +kernel) (by decide +kernel))
theorem se_X7_drawn : Cond.selects (m_y mX7_drawn).cls (m_y mX7_drawn) (m_y mX7_drawn) ∈ tb := (in_tb 596 (by decide +kernel) (by decide +kernel))
def mX7_end : MT := (yX7_end, cX7_end, 2, some .int, 4, 96)
theorem mo_X7_end : mOk mX7_end 1 := ⟨(in_tb 257 (by decide +kernel) (by decide +kernel)), (in_tb 46 (by decide +kernel) (by decide +kernel)), by decide +kernel, by decide +kernel⟩
theorem im_X7_end : Cond.instanceMethod (m_y mX7_end) ∈ tb := (in_tb 255 (by decide +kernel) (by decide +kernel))
theorem se_X7_end : Cond.selects (m_y mX7_end).cls (m_y mX7_end) (m_y mX7_end) ∈ tb := (in_tb 256 (by decide +kernel) (by decide +kernel))
def mX7_fill : MT := (yX7_fill, cX7_fill, 2, some .int, 6, 155)
theorem mo_X7_fill : mOk mX7_fill 1 := ⟨(in_tb 545 (by decide +kernel) (by decide +kernel)), (in_tb 46 (by decide +kernel) (by decide +kernel)), by decide +kernel, by decide +kernel⟩
theorem im_X7_fill : Cond.instanceMethod (m_y mX7_fill) ∈ tb := (in_tb 543 (by decide +kernel) (by decide +kernel))
theorem se_X7_fill : Cond.selects (m_y mX7_fill).cls (m_y mX7_fill) (m_y mX7_fill) ∈ tb := (in_tb 544 (by decide +kernel) (by decide +kernel))
def mX7_finding : MT := (yX7_finding, cX7_finding, 2, some .int, 0, 0)
theorem mo_X7_finding : mOk mX7_finding 1 := ⟨(in_tb 265 (by decide +kernel) (by decide +kernel)), (in_tb 46 (by decide +kernel) (by decide +kernel)), by decide +kernel, by decide +kernel⟩
theorem im_X7_finding : Cond.instanceMethod (m_y mX7_finding) ∈ tb := (in_tb 264 (by decide +kernel) (by decide +kernel))
theorem se_X7_finding : Cond.selects (m_y mX7_finding).cls (m_y mX7_finding) (m_y mX7_finding) ∈ tb := (in_tb 0 (by decide +kernel) (by decide +kernel))
def mX7_greatestDivisor : MT := (yX7_greatestDivisor, cX7_greatestDivisor, 3, some .int, 0, 0)
theorem mo_X7_greatestDivisor : mOk mX7_greatestDivisor 2 := ⟨(in_tb 593 (by decide +kernel) (by decide +kernel)), (in_tb 46 (by decide +kernel) (by decide +kernel)), by decide +kernel, by decide +kernel⟩
theorem sm_X7_greatestDivisor : Cond.static (m_y mX7_greatestDivisor) ∈ tb := (in_tb 592 (by decide +kernel) (by decide +kernel))
def mX7_holds : MT := (yX7_holds, cX7_holds, 2, some .boolean, 0, 0)
theorem mo_X7_holds : mOk mX7_holds 2 := ⟨(in_tb 450 (by decide +kernel) (by decide +kernel)), (in_tb 46 (by decide +kernel) (by decide +kernel)), by decide +kernel, by decide +kernel⟩
theorem sm_X7_holds : Cond.static (m_y mX7_holds) ∈ tb := (in_tb 449 (by decide +kernel) (by decide +kernel))
def mX7_hurt : MT := (yX7_hurt, cX7_hurt, 5, some .int, 2, 47)
theorem mo_X7_hurt : mOk mX7_hurt 2 := ⟨(in_tb 556 (by decide +kernel) (by decide +kernel)), (in_tb 46 (by decide +kernel) (by decide +kernel)), by decide +kernel, by decide +kernel⟩
theorem im_X7_hurt : Cond.instanceMethod (m_y mX7_hurt) ∈ tb := (in_tb 554 (by decide +kernel) (by decide +kernel))
theorem se_X7_hurt : Cond.selects (m_y mX7_hurt).cls (m_y mX7_hurt) (m_y mX7_hurt) ∈ tb := (in_tb 555 (by decide +kernel) (by decide +kernel))
def mX7_init : MT := (yX7_init, cX7_init, 2, none, 3, 61)
theorem mo_X7_init : mOk mX7_init 0 := ⟨(in_tb 62 (by decide +kernel) (by decide +kernel)), (in_tb 46 (by decide +kernel) (by decide +kernel)), by decide +kernel, by decide +kernel⟩
theorem im_X7_init : Cond.instanceMethod (m_y mX7_init) ∈ tb := (in_tb 61 (by decide +kernel) (by decide +kernel))
def mX7_isApplicant : MT := (yX7_isApplicant, cX7_isApplicant, 2, some .boolean, 1, 22)
theorem mo_X7_isApplicant : mOk mX7_isApplicant 1 := ⟨(in_tb 576 (by decide +kernel) (by decide +kernel)), (in_tb 46 (by decide +kernel) (by decide +kernel)), by decide +kernel, by decide +kernel⟩
theorem im_X7_isApplicant : Cond.instanceMethod (m_y mX7_isApplicant) ∈ tb := (in_tb 575 (by decide +kernel) (by decide +kernel))
theorem se_X7_isApplicant : Cond.selects (m_y mX7_isApplicant).cls (m_y mX7_isApplicant) (m_y mX7_isApplicant) ∈ tb := (in_tb 16 (by decide +kernel) (by decide +kernel))
def mX7_isCamp : MT := (yX7_isCamp, cX7_isCamp, 2, some .boolean, 1, 22)
theorem mo_X7_isCamp : mOk mX7_isCamp 1 := ⟨(in_tb 400 (by decide +kernel) (by decide +kernel)), (in_tb 46 (by decide +kernel) (by decide +kernel)), by decide +kernel, by decide +kernel⟩
theorem im_X7_isCamp : Cond.instanceMethod (m_y mX7_isCamp) ∈ tb := (in_tb 399 (by decide +kernel) (by decide +kernel))
theorem se_X7_isCamp : Cond.selects (m_y mX7_isCamp).cls (m_y mX7_isCamp) (m_y mX7_isCamp) ∈ tb := (in_tb 4 (by decide +kernel) (by decide +kernel))
def mX7_isDay : MT := (yX7_isDay, cX7_isDay, 1, some .boolean, 1, 22)
theorem mo_X7_isDay : mOk mX7_isDay 1 := ⟨(in_tb 314 (by decide +kernel) (by decide +kernel)), (in_tb 46 (by decide +kernel) (by decide +kernel)), by decide +kernel, by decide +kernel⟩
theorem sm_X7_isDay : Cond.static (m_y mX7_isDay) ∈ tb := (in_tb 313 (by decide +kernel) (by decide +kernel))
def mX7_isKind : MT := (yX7_isKind, cX7_isKind, 1, some .boolean, 1, 22)
theorem mo_X7_isKind : mOk mX7_isKind 1 := ⟨(in_tb 332 (by decide +kernel) (by decide +kernel)), (in_tb 46 (by decide +kernel) (by decide +kernel)), by decide +kernel, by decide +kernel⟩
theorem sm_X7_isKind : Cond.static (m_y mX7_isKind) ∈ tb := (in_tb 331 (by decide +kernel) (by decide +kernel))
def mX7_isMile : MT := (yX7_isMile, cX7_isMile, 1, some .boolean, 1, 22)
theorem mo_X7_isMile : mOk mX7_isMile 1 := ⟨(in_tb 303 (by decide +kernel) (by decide +kernel)), (in_tb 46 (by decide +kernel) (by decide +kernel)), by decide +kernel, by decide +kernel⟩
theorem sm_X7_isMile : Cond.static (m_y mX7_isMile) ∈ tb := (in_tb 302 (by decide +kernel) (by decide +kernel))
def mX7_isSet : MT := (yX7_isSet, cX7_isSet, 2, some .boolean, 1, 20)
theorem mo_X7_isSet : mOk mX7_isSet 1 := ⟨(in_tb 525 (by decide +kernel) (by decide +kernel)), (in_tb 46 (by decide +kernel) (by decide +kernel)), by decide +kernel, by decide +kernel⟩
theorem im_X7_isSet : Cond.instanceMethod (m_y mX7_isSet) ∈ tb := (in_tb 524 (by decide +kernel) (by decide +kernel))
theorem se_X7_isSet : Cond.selects (m_y mX7_isSet).cls (m_y mX7_isSet) (m_y mX7_isSet) ∈ tb := (in_tb 15 (by decide +kernel) (by decide +kernel))
def mX7_isSheet : MT := (yX7_isSheet, cX7_isSheet, 1, some .boolean, 1, 22)
theorem mo_X7_isSheet : mOk mX7_isSheet 1 := ⟨(in_tb 624 (by decide +kernel) (by decide +kernel)), (in_tb 46 (by decide +kernel) (by decide +kernel)), by decide +kernel, by decide +kernel⟩
theorem sm_X7_isSheet : Cond.static (m_y mX7_isSheet) ∈ tb := (in_tb 623 (by decide +kernel) (by decide +kernel))
def mX7_isTrip : MT := (yX7_isTrip, cX7_isTrip, 2, some .boolean, 1, 22)
theorem mo_X7_isTrip : mOk mX7_isTrip 1 := ⟨(in_tb 367 (by decide +kernel) (by decide +kernel)), (in_tb 46 (by decide +kernel) (by decide +kernel)), by decide +kernel, by decide +kernel⟩
theorem im_X7_isTrip : Cond.instanceMethod (m_y mX7_isTrip) ∈ tb := (in_tb 366 (by decide +kernel) (by decide +kernel))
theorem se_X7_isTrip : Cond.selects (m_y mX7_isTrip).cls (m_y mX7_isTrip) (m_y mX7_isTrip) ∈ tb := (in_tb 2 (by decide +kernel) (by decide +kernel))
def mX7_isWater : MT := (yX7_isWater, cX7_isWater, 1, some .boolean, 1, 22)
theorem mo_X7_isWater : mOk mX7_isWater 1 := ⟨(in_tb 295 (by decide +kernel) (by decide +kernel)), (in_tb 46 (by decide +kernel) (by decide +kernel)), by decide +kernel, by decide +kernel⟩
theorem sm_X7_isWater : Cond.static (m_y mX7_isWater) ∈ tb := (in_tb 294 (by decide +kernel) (by decide +kernel))
def mX7_keepTrips : MT := (yX7_keepTrips, cX7_keepTrips, 3, none, 3, 72)
theorem mo_X7_keepTrips : mOk mX7_keepTrips 2 := ⟨(in_tb 391 (by decide +kernel) (by decide +kernel)), (in_tb 46 (by decide +kernel) (by decide +kernel)), by decide +kernel, by decide +kernel⟩
theorem im_X7_keepTrips : Cond.instanceMethod (m_y mX7_keepTrips) ∈ tb := (in_tb 390 (by decide +kernel) (by decide +kernel))
theorem se_X7_keepTrips : Cond.selects (m_y mX7_keepTrips).cls (m_y mX7_keepTrips) (m_y mX7_keepTrips) ∈ tb := (in_tb 3 (by decide +kernel) (by decide +kernel))
def mX7_landing : MT := (yX7_landing, cX7_landing, 3, some .int, 4, 96)
theorem mo_X7_landing : mOk mX7_landing 1 := ⟨(in_tb 300 (by decide +kernel) (by decide +kernel)), (in_tb 46 (by decide +kernel) (by decide +kernel)), by decide +kernel, by decide +kernel⟩
theorem im_X7_landing : Cond.instanceMethod (m_y mX7_landing) ∈ tb := (in_tb 298 (by decide +kernel) (by decide +kernel))
theorem se_X7_landing : Cond.selects (m_y mX7_landing).cls (m_y mX7_landing) (m_y mX7_landing) ∈ tb := (in_tb 299 (by decide +kernel) (by decide +kernel))
def mX7_launch : MT := (yX7_launch, cX7_launch, 4, some .int, 4, 94)
theorem mo_X7_launch : mOk mX7_launch 2 := ⟨(in_tb 387 (by decide +kernel) (by decide +kernel)), (in_tb 46 (by decide +kernel) (by decide +kernel)), by decide +kernel, by decide +kernel⟩
theorem im_X7_launch : Cond.instanceMethod (m_y mX7_launch) ∈ tb := (in_tb 385 (by decide +kernel) (by decide +kernel))
theorem se_X7_launch : Cond.selects (m_y mX7_launch).cls (m_y mX7_launch) (m_y mX7_launch) ∈ tb := (in_tb 386 (by decide +kernel) (by decide +kernel))
def mX7_let : MT := (yX7_let, cX7_let, 6, some .int, 3, 72)
theorem mo_X7_let : mOk mX7_let 2 := ⟨(in_tb 656 (by decide +kernel) (by decide +kernel)), (in_tb 46 (by decide +kernel) (by decide +kernel)), by decide +kernel, by decide +kernel⟩
theorem im_X7_let : Cond.instanceMethod (m_y mX7_let) ∈ tb := (in_tb 654 (by decide +kernel) (by decide +kernel))
theorem se_X7_let : Cond.selects (m_y mX7_let).cls (m_y mX7_let) (m_y mX7_let) ∈ tb := (in_tb 655 (by decide +kernel) (by decide +kernel))
def mX7_near : MT := (yX7_near, cX7_near, 8, some .int, 2, 44)
theorem mo_X7_near : mOk mX7_near 3 := ⟨(in_tb 549 (by decide +kernel) (by decide +kernel)), (in_tb 46 (by decide +kernel) (by decide +kernel)), by decide +kernel, by decide +kernel⟩
theorem im_X7_near : Cond.instanceMethod (m_y mX7_near) ∈ tb := (in_tb 547 (by decide +kernel) (by decide +kernel))
theorem se_X7_near : Cond.selects (m_y mX7_near).cls (m_y mX7_near) (m_y mX7_near) ∈ tb := (in_tb 548 (by decide +kernel) (by decide +kernel))
def mX7_night : MT := (yX7_night, cX7_night, 5, some .int, 4, 96)
theorem mo_X7_night : mOk mX7_night 3 := ⟨(in_tb 396 (by decide +kernel) (by decide +kernel)), (in_tb 46 (by decide +kernel) (by decide +kernel)), by decide +kernel, by decide +kernel⟩
theorem im_X7_night : Cond.instanceMethod (m_y mX7_night) ∈ tb := (in_tb 394 (by decide +kernel) (by decide +kernel))
theorem se_X7_night : Cond.selects (m_y mX7_night).cls (m_y mX7_night) (m_y mX7_night) ∈ tb := (in_tb 395 (by decide +kernel) (by decide +kernel))
def mX7_of : MT := (yX7_of, cX7_of, 3, some .int, 3, 67)
theorem mo_X7_of : mOk mX7_of 2 := ⟨(in_tb 378 (by decide +kernel) (by decide +kernel)), (in_tb 46 (by decide +kernel) (by decide +kernel)), by decide +kernel, by decide +kernel⟩
theorem im_X7_of : Cond.instanceMethod (m_y mX7_of) ∈ tb := (in_tb 376 (by decide +kernel) (by decide +kernel))
theorem se_X7_of : Cond.selects (m_y mX7_of).cls (m_y mX7_of) (m_y mX7_of) ∈ tb := (in_tb 377 (by decide +kernel) (by decide +kernel))
def mX7_plan : MT := (yX7_plan, cX7_plan, 2, some .int, 5, 130)
theorem mo_X7_plan : mOk mX7_plan 1 := ⟨(in_tb 419 (by decide +kernel) (by decide +kernel)), (in_tb 46 (by decide +kernel) (by decide +kernel)), by decide +kernel, by decide +kernel⟩
theorem im_X7_plan : Cond.instanceMethod (m_y mX7_plan) ∈ tb := (in_tb 417 (by decide +kernel) (by decide +kernel))
theorem se_X7_plan : Cond.selects (m_y mX7_plan).cls (m_y mX7_plan) (m_y mX7_plan) ∈ tb := (in_tb 418 (by decide +kernel) (by decide +kernel))
def mX7_planned : MT := (yX7_planned, cX7_planned, 3, some .int, 5, 130)
theorem mo_X7_planned : mOk mX7_planned 2 := ⟨(in_tb 507 (by decide +kernel) (by decide +kernel)), (in_tb 46 (by decide +kernel) (by decide +kernel)), by decide +kernel, by decide +kernel⟩
theorem im_X7_planned : Cond.instanceMethod (m_y mX7_planned) ∈ tb := (in_tb 505 (by decide +kernel) (by decide +kernel))
theorem se_X7_planned : Cond.selects (m_y mX7_planned).cls (m_y mX7_planned) (m_y mX7_planned) ∈ tb := (in_tb 506 (by decide +kernel) (by decide +kernel))
def mX7_put : MT := (yX7_put, cX7_put, 5, some .int, 2, 42)
theorem mo_X7_put : mOk mX7_put 3 := ⟨(in_tb 637 (by decide +kernel) (by decide +kernel)), (in_tb 46 (by decide +kernel) (by decide +kernel)), by decide +kernel, by decide +kernel⟩
theorem im_X7_put : Cond.instanceMethod (m_y mX7_put) ∈ tb := (in_tb 635 (by decide +kernel) (by decide +kernel))
theorem se_X7_put : Cond.selects (m_y mX7_put).cls (m_y mX7_put) (m_y mX7_put) ∈ tb := (in_tb 636 (by decide +kernel) (by decide +kernel))
def mX7_rapid : MT := (yX7_rapid, cX7_rapid, 5, some .int, 4, 96)
theorem mo_X7_rapid : mOk mX7_rapid 3 := ⟨(in_tb 292 (by decide +kernel) (by decide +kernel)), (in_tb 46 (by decide +kernel) (by decide +kernel)), by decide +kernel, by decide +kernel⟩
theorem im_X7_rapid : Cond.instanceMethod (m_y mX7_rapid) ∈ tb := (in_tb 290 (by decide +kernel) (by decide +kernel))
theorem se_X7_rapid : Cond.selects (m_y mX7_rapid).cls (m_y mX7_rapid) (m_y mX7_rapid) ∈ tb := (in_tb 291 (by decide +kernel) (by decide +kernel))
def mX7_runs : MT := (yX7_runs, cX7_runs, 4, some .int, 3, 71)
theorem mo_X7_runs : mOk mX7_runs 3 := ⟨(in_tb 329 (by decide +kernel) (by decide +kernel)), (in_tb 46 (by decide +kernel) (by decide +kernel)), by decide +kernel, by decide +kernel⟩
theorem im_X7_runs : Cond.instanceMethod (m_y mX7_runs) ∈ tb := (in_tb 327 (by decide +kernel) (by decide +kernel))
theorem se_X7_runs : Cond.selects (m_y mX7_runs).cls (m_y mX7_runs) (m_y mX7_runs) ∈ tb := (in_tb 328 (by decide +kernel) (by decide +kernel))
def mX7_sheet : MT := (yX7_sheet, cX7_sheet, 4, some .int, 2, 45)
theorem mo_X7_sheet : mOk mX7_sheet 3 := ⟨(in_tb 621 (by decide +kernel) (by decide +kernel)), (in_tb 46 (by decide +kernel) (by decide +kernel)), by decide +kernel, by decide +kernel⟩
theorem im_X7_sheet : Cond.instanceMethod (m_y mX7_sheet) ∈ tb := (in_tb 619 (by decide +kernel) (by decide +kernel))
theorem se_X7_sheet : Cond.selects (m_y mX7_sheet).cls (m_y mX7_sheet) (m_y mX7_sheet) ∈ tb := (in_tb 620 (by decide +kernel) (by decide +kernel))
def mX7_speed : MT := (yX7_speed, cX7_speed, 2, some .int, 4, 96)
theorem mo_X7_speed : mOk mX7_speed 1 := ⟨(in_tb 307 (by decide +kernel) (by decide +kernel)), (in_tb 46 (by decide +kernel) (by decide +kernel)), by decide +kernel, by decide +kernel⟩
theorem im_X7_speed : Cond.instanceMethod (m_y mX7_speed) ∈ tb := (in_tb 305 (by decide +kernel) (by decide +kernel))
theorem se_X7_speed : Cond.selects (m_y mX7_speed).cls (m_y mX7_speed) (m_y mX7_speed) ∈ tb := (in_tb 306 (by decide +kernel) (by decide +kernel))
def mX7_take : MT := (yX7_take, cX7_take, 2, some .int, 5, 130)
theorem mo_X7_take : mOk mX7_take 1 := ⟨(in_tb 511 (by decide +kernel) (by decide +kernel)), (in_tb 46 (by decide +kernel) (by decide +kernel)), by decide +kernel, by decide +kernel⟩
theorem im_X7_take : Cond.instanceMethod (m_y mX7_take) ∈ tb := (in_tb 509 (by decide +kernel) (by decide +kernel))
theorem se_X7_take : Cond.selects (m_y mX7_take).cls (m_y mX7_take) (m_y mX7_take) ∈ tb := (in_tb 510 (by decide +kernel) (by decide +kernel))
def mX7_trip : MT := (yX7_trip, cX7_trip, 7, some .int, 4, 96)
theorem mo_X7_trip : mOk mX7_trip 5 := ⟨(in_tb 342 (by decide +kernel) (by decide +kernel)), (in_tb 46 (by decide +kernel) (by decide +kernel)), by decide +kernel, by decide +kernel⟩
theorem im_X7_trip : Cond.instanceMethod (m_y mX7_trip) ∈ tb := (in_tb 340 (by decide +kernel) (by decide +kernel))
theorem se_X7_trip : Cond.selects (m_y mX7_trip).cls (m_y mX7_trip) (m_y mX7_trip) ∈ tb := (in_tb 341 (by decide +kernel) (by decide +kernel))
def mX7_turn : MT := (yX7_turn, cX7_turn, 3, some .int, 3, 71)
theorem mo_X7_turn : mOk mX7_turn 2 := ⟨(in_tb 613 (by decide +kernel) (by decide +kernel)), (in_tb 46 (by decide +kernel) (by decide +kernel)), by decide +kernel, by decide +kernel⟩
theorem im_X7_turn : Cond.instanceMethod (m_y mX7_turn) ∈ tb := (in_tb 611 (by decide +kernel) (by decide +kernel))
theorem se_X7_turn : Cond.selects (m_y mX7_turn).cls (m_y mX7_turn) (m_y mX7_turn) ∈ tb := (in_tb 612 (by decide +kernel) (by decide +kernel))
def mX7_undo : MT := (yX7_undo, cX7_undo, 1, some .int, 3, 66)
theorem mo_X7_undo : mOk mX7_undo 0 := ⟨(in_tb 660 (by decide +kernel) (by decide +kernel)), (in_tb 46 (by decide +kernel) (by decide +kernel)), by decide +kernel, by decide +kernel⟩
theorem im_X7_undo : Cond.instanceMethod (m_y mX7_undo) ∈ tb := (in_tb 658 (by decide +kernel) (by decide +kernel))
theorem se_X7_undo : Cond.selects (m_y mX7_undo).cls (m_y mX7_undo) (m_y mX7_undo) ∈ tb := (in_tb 659 (by decide +kernel) (by decide +kernel))
def mX7_water : MT := (yX7_water, cX7_water, 4, some .int, 4, 96)
theorem mo_X7_water : mOk mX7_water 3 := ⟨(in_tb 311 (by decide +kernel) (by decide +kernel)), (in_tb 46 (by decide +kernel) (by decide +kernel)), by decide +kernel, by decide +kernel⟩
theorem im_X7_water : Cond.instanceMethod (m_y mX7_water) ∈ tb := (in_tb 309 (by decide +kernel) (by decide +kernel))
theorem se_X7_water : Cond.selects (m_y mX7_water).cls (m_y mX7_water) (m_y mX7_water) ∈ tb := (in_tb 310 (by decide +kernel) (by decide +kernel))
def mX7_waterAt : MT := (yX7_waterAt, cX7_waterAt, 4, some .int, 2, 46)
theorem mo_X7_waterAt : mOk mX7_waterAt 3 := ⟨(in_tb 318 (by decide +kernel) (by decide +kernel)), (in_tb 46 (by decide +kernel) (by decide +kernel)), by decide +kernel, by decide +kernel⟩
theorem im_X7_waterAt : Cond.instanceMethod (m_y mX7_waterAt) ∈ tb := (in_tb 316 (by decide +kernel) (by decide +kernel))
theorem se_X7_waterAt : Cond.selects (m_y mX7_waterAt).cls (m_y mX7_waterAt) (m_y mX7_waterAt) ∈ tb := (in_tb 317 (by decide +kernel) (by decide +kernel))
def mX7_weigh : MT := (yX7_weigh, cX7_weigh, 3, some .int, 4, 96)
theorem mo_X7_weigh : mOk mX7_weigh 2 := ⟨(in_tb 572 (by decide +kernel) (by decide +kernel)), (in_tb 46 (by decide +kernel) (by decide +kernel)), by decide +kernel, by decide +kernel⟩
theorem im_X7_weigh : Cond.instanceMethod (m_y mX7_weigh) ∈ tb := (in_tb 570 (by decide +kernel) (by decide +kernel))
theorem se_X7_weigh : Cond.selects (m_y mX7_weigh).cls (m_y mX7_weigh) (m_y mX7_weigh) ∈ tb := (in_tb 571 (by decide +kernel) (by decide +kernel))
def mX7_who : MT := (yX7_who, cX7_who, 4, some .int, 3, 67)
theorem mo_X7_who : mOk mX7_who 2 := ⟨(in_tb 415 (by decide +kernel) (by decide +kernel)), (in_tb 46 (by decide +kernel) (by decide +kernel)), by decide +kernel, by decide +kernel⟩
theorem im_X7_who : Cond.instanceMethod (m_y mX7_who) ∈ tb := (in_tb 413 (by decide +kernel) (by decide +kernel))
theorem se_X7_who : Cond.selects (m_y mX7_who).cls (m_y mX7_who) (m_y mX7_who) ∈ tb := (in_tb 414 (by decide +kernel) (by decide +kernel))
def mX7_within : MT := (yX7_within, cX7_within, 3, some .boolean, 0, 0)
theorem mo_X7_within : mOk mX7_within 3 := ⟨(in_tb 260 (by decide +kernel) (by decide +kernel)), (in_tb 46 (by decide +kernel) (by decide +kernel)), by decide +kernel, by decide +kernel⟩
theorem sm_X7_within : Cond.static (m_y mX7_within) ∈ tb := (in_tb 259 (by decide +kernel) (by decide +kernel))
def mX8_all : MT := (yX8_all, cX8_all, 2, some .int, 1, 21)
theorem mo_X8_all : mOk mX8_all 1 := ⟨(in_tb 978 (by decide +kernel) (by decide +kernel)), (in_tb 55 (by decide +kernel) (by decide +kernel)), by decide +kernel, by decide +kernel⟩
theorem im_X8_all : Cond.instanceMethod (m_y mX8_all) ∈ tb := (in_tb 976 (by decide +kernel) (by decide +kernel))
theorem se_X8_all : Cond.selects (m_y mX8_all).cls (m_y mX8_all) (m_y mX8_all) ∈ tb := (in_tb 977 (by decide +kernel) (by decide +kernel))
def mX8_applicant : MT := (yX8_applicant, cX8_applicant, 3, some .int, 2, 44)
theorem mo_X8_applicant : mOk mX8_applicant 1 := ⟨(in_tb 921 (by decide +kernel) (by decide +kernel)), (in_tb 55 (by decide +kernel) (by decide +kernel)), by decide +kernel, by decide +kernel⟩
theorem im_X8_applicant : Cond.instanceMethod (m_y mX8_applicant) ∈ tb := (in_tb 919 (by decide +kernel) (by decide +kernel))
theorem se_X8_applicant : Cond.selects (m_y mX8_applicant).cls (m_y mX8_applicant) (m_y mX8_applicant) ∈ tb := (in_tb 920 (by decide +kernel) (by decide +kernel))
def mX8_as : MT := (yX8_as, cX8_as, 4, some .int, 1, 22)
theorem mo_X8_as : mOk mX8_as 2 := ⟨(in_tb 803 (by decide +kernel) (by decide +kernel)), (in_tb 55 (by decide +kernel) (by decide +kernel)), by decide +kernel, by decide +kernel⟩
theorem im_X8_as : Cond.instanceMethod (m_y mX8_as) ∈ tb := (in_tb 801 (by decide +kernel) (by decide +kernel))
theorem se_X8_as : Cond.selects (m_y mX8_as).cls (m_y mX8_as) (m_y mX8_as) ∈ tb := (in_tb 802 (by decide +kernel) (by decide +kernel))
def mX8_at : MT := (yX8_at, cX8_at, 4, some .int, 2, 42)
theorem mo_X8_at : mOk mX8_at 2 := ⟨(in_tb 841 (by decide +kernel) (by decide +kernel)), (in_tb 55 (by decide +kernel) (by decide +kernel)), by decide +kernel, by decide +kernel⟩
theorem im_X8_at : Cond.instanceMethod (m_y mX8_at) ∈ tb := (in_tb 839 (by decide +kernel) (by decide +kernel))
theorem se_X8_at : Cond.selects (m_y mX8_at).cls (m_y mX8_at) (m_y mX8_at) ∈ tb := (in_tb 840 (by decide +kernel) (by decide +kernel))
def mX8_becomes : MT := (yX8_becomes, cX8_becomes, 4, some .int, 1, 21)
theorem mo_X8_becomes : mOk mX8_becomes 2 := ⟨(in_tb 738 (by decide +kernel) (by decide +kernel)), (in_tb 55 (by decide +kernel) (by decide +kernel)), by decide +kernel, by decide +kernel⟩
theorem im_X8_becomes : Cond.instanceMethod (m_y mX8_becomes) ∈ tb := (in_tb 737 (by decide +kernel) (by decide +kernel))
theorem se_X8_becomes : Cond.selects (m_y mX8_becomes).cls (m_y mX8_becomes) (m_y mX8_becomes) ∈ tb := (in_tb 19 (by decide +kernel) (by decide +kernel))
def mX8_calendar : MT := (yX8_calendar, cX8_calendar, 4, some .int, 8, 209)
theorem mo_X8_calendar : mOk mX8_calendar 1 := ⟨(in_tb 897 (by decide +kernel) (by decide +kernel)), (in_tb 55 (by decide +kernel) (by decide +kernel)), by decide +kernel, by decide +kernel⟩
theorem im_X8_calendar : Cond.instanceMethod (m_y mX8_calendar) ∈ tb := (in_tb 895 (by decide +kernel) (by decide +kernel))
theorem se_X8_calendar : Cond.selects (m_y mX8_calendar).cls (m_y mX8_calendar) (m_y mX8_calendar) ∈ tb := (in_tb 896 (by decide +kernel) (by decide +kernel))
def mX8_calendarOf : MT := (yX8_calendarOf, cX8_calendarOf, 5, some .int, 7, 185)
theorem mo_X8_calendarOf : mOk mX8_calendarOf 1 := ⟨(in_tb 905 (by decide +kernel) (by decide +kernel)), (in_tb 55 (by decide +kernel) (by decide +kernel)), by decide +kernel, by decide +kernel⟩
theorem im_X8_calendarOf : Cond.instanceMethod (m_y mX8_calendarOf) ∈ tb := (in_tb 904 (by decide +kernel) (by decide +kernel))
theorem se_X8_calendarOf : Cond.selects (m_y mX8_calendarOf).cls (m_y mX8_calendarOf) (m_y mX8_calendarOf) ∈ tb := (in_tb 40 (by decide +kernel) (by decide +kernel))
def mX8_camp : MT := (yX8_camp, cX8_camp, 4, some .int, 2, 44)
theorem mo_X8_camp : mOk mX8_camp 2 := ⟨(in_tb 747 (by decide +kernel) (by decide +kernel)), (in_tb 55 (by decide +kernel) (by decide +kernel)), by decide +kernel, by decide +kernel⟩
theorem im_X8_camp : Cond.instanceMethod (m_y mX8_camp) ∈ tb := (in_tb 745 (by decide +kernel) (by decide +kernel))
theorem se_X8_camp : Cond.selects (m_y mX8_camp).cls (m_y mX8_camp) (m_y mX8_camp) ∈ tb := (in_tb 746 (by decide +kernel) (by decide +kernel))
def mX8_canEnd : MT := (yX8_canEnd, cX8_canEnd, 5, some .boolean, 3, 76)
theorem mo_X8_canEnd : mOk mX8_canEnd 3 := ⟨(in_tb 861 (by decide +kernel) (by decide +kernel)), (in_tb 55 (by decide +kernel) (by decide +kernel)), by decide +kernel, by decide +kernel⟩
theorem im_X8_canEnd : Cond.instanceMethod (m_y mX8_canEnd) ∈ tb := (in_tb 860 (by decide +kernel) (by decide +kernel))
theorem se_X8_canEnd : Cond.selects (m_y mX8_canEnd).cls (m_y mX8_canEnd) (m_y mX8_canEnd) ∈ tb := (in_tb 32 (by decide +kernel) (by decide +kernel))
def mX8_canGo : MT := (yX8_canGo, cX8_canGo, 8, some .boolean, 3, 76)
theorem mo_X8_canGo : mOk mX8_canGo 4 := ⟨(in_tb 877 (by decide +kernel) (by decide +kernel)), (in_tb 55 (by decide +kernel) (by decide +kernel)), by decide +kernel, by decide +kernel⟩
theorem im_X8_canGo : Cond.instanceMethod (m_y mX8_canGo) ∈ tb := (in_tb 876 (by decide +kernel) (by decide +kernel))
theorem se_X8_canGo : Cond.selects (m_y mX8_canGo).cls (m_y mX8_canGo) (m_y mX8_canGo) ∈ tb := (in_tb 36 (by decide +kernel) (by decide +kernel))
def mX8_chance : MT := (yX8_chance, cX8_chance, 6, some .int, 1, 22)
theorem mo_X8_chance : mOk mX8_chance 2 := ⟨(in_tb 933 (by decide +kernel) (by decide +kernel)), (in_tb 55 (by decide +kernel) (by decide +kernel)), by decide +kernel, by decide +kernel⟩
theorem im_X8_chance : Cond.instanceMethod (m_y mX8_chance) ∈ tb := (in_tb 931 (by decide +kernel) (by decide +kernel))
theorem se_X8_chance : Cond.selects (m_y mX8_chance).cls (m_y mX8_chance) (m_y mX8_chance) ∈ tb := (in_tb 932 (by decide +kernel) (by decide +kernel))
def mX8_copy : MT := (yX8_copy, cX8_copy, 7, some .int, 2, 42)
theorem mo_X8_copy : mOk mX8_copy 5 := ⟨(in_tb 966 (by decide +kernel) (by decide +kernel)), (in_tb 55 (by decide +kernel) (by decide +kernel)), by decide +kernel, by decide +kernel⟩
theorem im_X8_copy : Cond.instanceMethod (m_y mX8_copy) ∈ tb := (in_tb 964 (by decide +kernel) (by decide +kernel))
theorem se_X8_copy : Cond.selects (m_y mX8_copy).cls (m_y mX8_copy) (m_y mX8_copy) ∈ tb := (in_tb 965 (by decide +kernel) (by decide +kernel))
def mX8_draw : MT := (yX8_draw, cX8_draw, 7, none, 1, 22)
theorem mo_X8_draw : mOk mX8_draw 1 := ⟨(in_tb 945 (by decide +kernel) (by decide +kernel)), (in_tb 55 (by decide +kernel) (by decide +kernel)), by decide +kernel, by decide +kernel⟩
theorem im_X8_draw : Cond.instanceMethod (m_y mX8_draw) ∈ tb := (in_tb 944 (by decide +kernel) (by decide +kernel))
theorem se_X8_draw : Cond.selects (m_y mX8_draw).cls (m_y mX8_draw) (m_y mX8_draw) ∈ tb := (in_tb 43 (by decide +kernel) (by decide +kernel))
def mX8_drawn : MT := (yX8_drawn, cX8_drawn, 3, some .int, 2, 48)
theorem mo_X8_drawn : mOk mX8_drawn 2 := ⟨(in_tb 941 (by decide +kernel) (by decide +kernel)), (in_tb 55 (by decide +kernel) (by decide +kernel)), by decide +kernel, by decide +kernel⟩
theorem im_X8_drawn : Cond.instanceMethod (m_y mX8_drawn) ∈ tb := (in_tb 939 (by decide +kernel) (by decide +kernel))
theorem se_X8_drawn : Cond.selects (m_y mX8_drawn).cls (m_y mX8_drawn) (m_y mX8_drawn) ∈ tb := (in_tb 940 (by decide +kernel) (by decide +kernel))
def mX8_end : MT := (yX8_end, cX8_end, 2, some .int, 2, 44)
theorem mo_X8_end : mOk mX8_end 1 := ⟨(in_tb 731 (by decide +kernel) (by decide +kernel)), (in_tb 55 (by decide +kernel) (by decide +kernel)), by decide +kernel, by decide +kernel⟩
theorem im_X8_end : Cond.instanceMethod (m_y mX8_end) ∈ tb := (in_tb 729 (by decide +kernel) (by decide +kernel))
theorem se_X8_end : Cond.selects (m_y mX8_end).cls (m_y mX8_end) (m_y mX8_end) ∈ tb := (in_tb 730 (by decide +kernel) (by decide +kernel))
def mX8_fill : MT := (yX8_fill, cX8_fill, 2, some .int, 8, 209)
theorem mo_X8_fill : mOk mX8_fill 1 := ⟨(in_tb 909 (by decide +kernel) (by decide +kernel)), (in_tb 55 (by decide +kernel) (by decide +kernel)), by decide +kernel, by decide +kernel⟩
theorem im_X8_fill : Cond.instanceMethod (m_y mX8_fill) ∈ tb := (in_tb 907 (by decide +kernel) (by decide +kernel))
theorem se_X8_fill : Cond.selects (m_y mX8_fill).cls (m_y mX8_fill) (m_y mX8_fill) ∈ tb := (in_tb 908 (by decide +kernel) (by decide +kernel))
def mX8_finding : MT := (yX8_finding, cX8_finding, 2, some .int, 0, 0)
theorem mo_X8_finding : mOk mX8_finding 1 := ⟨(in_tb 727 (by decide +kernel) (by decide +kernel)), (in_tb 55 (by decide +kernel) (by decide +kernel)), by decide +kernel, by decide +kernel⟩
theorem im_X8_finding : Cond.instanceMethod (m_y mX8_finding) ∈ tb := (in_tb 726 (by decide +kernel) (by decide +kernel))
theorem se_X8_finding : Cond.selects (m_y mX8_finding).cls (m_y mX8_finding) (m_y mX8_finding) ∈ tb := (in_tb 18 (by decide +kernel) (by decide +kernel))
def mX8_hasPart : MT := (yX8_hasPart, cX8_hasPart, 4, some .boolean, 0, 0)
theorem mo_X8_hasPart : mOk mX8_hasPart 3 := ⟨(in_tb 970 (by decide +kernel) (by decide +kernel)), (in_tb 55 (by decide +kernel) (by decide +kernel)), by decide +kernel, by decide +kernel⟩
theorem im_X8_hasPart : Cond.instanceMethod (m_y mX8_hasPart) ∈ tb := (in_tb 969 (by decide +kernel) (by decide +kernel))
theorem se_X8_hasPart : Cond.selects (m_y mX8_hasPart).cls (m_y mX8_hasPart) (m_y mX8_hasPart) ∈ tb := (in_tb 44 (by decide +kernel) (by decide +kernel))
def mX8_hourOf : MT := (yX8_hourOf, cX8_hourOf, 6, some .int, 1, 24)
theorem mo_X8_hourOf : mOk mX8_hourOf 3 := ⟨(in_tb 791 (by decide +kernel) (by decide +kernel)), (in_tb 55 (by decide +kernel) (by decide +kernel)), by decide +kernel, by decide +kernel⟩
theorem im_X8_hourOf : Cond.instanceMethod (m_y mX8_hourOf) ∈ tb := (in_tb 790 (by decide +kernel) (by decide +kernel))
theorem se_X8_hourOf : Cond.selects (m_y mX8_hourOf).cls (m_y mX8_hourOf) (m_y mX8_hourOf) ∈ tb := (in_tb 23 (by decide +kernel) (by decide +kernel))
def mX8_hurt : MT := (yX8_hurt, cX8_hurt, 9, some .int, 1, 22)
theorem mo_X8_hurt : mOk mX8_hurt 2 := ⟨(in_tb 917 (by decide +kernel) (by decide +kernel)), (in_tb 55 (by decide +kernel) (by decide +kernel)), by decide +kernel, by decide +kernel⟩
theorem im_X8_hurt : Cond.instanceMethod (m_y mX8_hurt) ∈ tb := (in_tb 915 (by decide +kernel) (by decide +kernel))
theorem se_X8_hurt : Cond.selects (m_y mX8_hurt).cls (m_y mX8_hurt) (m_y mX8_hurt) ∈ tb := (in_tb 916 (by decide +kernel) (by decide +kernel))
def mX8_init : MT := (yX8_init, cX8_init, 2, none, 1, 20)
theorem mo_X8_init : mOk mX8_init 0 := ⟨(in_tb 677 (by decide +kernel) (by decide +kernel)), (in_tb 55 (by decide +kernel) (by decide +kernel)), by decide +kernel, by decide +kernel⟩
theorem im_X8_init : Cond.instanceMethod (m_y mX8_init) ∈ tb := (in_tb 676 (by decide +kernel) (by decide +kernel))
def mX8_isApplicant : MT := (yX8_isApplicant, cX8_isApplicant, 2, some .boolean, 0, 0)
theorem mo_X8_isApplicant : mOk mX8_isApplicant 1 := ⟨(in_tb 929 (by decide +kernel) (by decide +kernel)), (in_tb 55 (by decide +kernel) (by decide +kernel)), by decide +kernel, by decide +kernel⟩
theorem im_X8_isApplicant : Cond.instanceMethod (m_y mX8_isApplicant) ∈ tb := (in_tb 928 (by decide +kernel) (by decide +kernel))
theorem se_X8_isApplicant : Cond.selects (m_y mX8_isApplicant).cls (m_y mX8_isApplicant) (m_y mX8_isApplicant) ∈ tb := (in_tb 41 (by decide +kernel) (by decide +kernel))
def mX8_isCamp : MT := (yX8_isCamp, cX8_isCamp, 2, some .boolean, 0, 0)
theorem mo_X8_isCamp : mOk mX8_isCamp 1 := ⟨(in_tb 828 (by decide +kernel) (by decide +kernel)), (in_tb 55 (by decide +kernel) (by decide +kernel)), by decide +kernel, by decide +kernel⟩
theorem im_X8_isCamp : Cond.instanceMethod (m_y mX8_isCamp) ∈ tb := (in_tb 827 (by decide +kernel) (by decide +kernel))
theorem se_X8_isCamp : Cond.selects (m_y mX8_isCamp).cls (m_y mX8_isCamp) (m_y mX8_isCamp) ∈ tb := (in_tb 27 (by decide +kernel) (by decide +kernel))
def mX8_isDay : MT := (yX8_isDay, cX8_isDay, 1, some .boolean, 1, 22)
theorem mo_X8_isDay : mOk mX8_isDay 1 := ⟨(in_tb 771 (by decide +kernel) (by decide +kernel)), (in_tb 55 (by decide +kernel) (by decide +kernel)), by decide +kernel, by decide +kernel⟩
theorem sm_X8_isDay : Cond.static (m_y mX8_isDay) ∈ tb := (in_tb 770 (by decide +kernel) (by decide +kernel))
def mX8_isIn : MT := (yX8_isIn, cX8_isIn, 3, some .boolean, 0, 0)
theorem mo_X8_isIn : mOk mX8_isIn 3 := ⟨(in_tb 734 (by decide +kernel) (by decide +kernel)), (in_tb 55 (by decide +kernel) (by decide +kernel)), by decide +kernel, by decide +kernel⟩
theorem sm_X8_isIn : Cond.static (m_y mX8_isIn) ∈ tb := (in_tb 733 (by decide +kernel) (by decide +kernel))
def mX8_isOpen : MT := (yX8_isOpen, cX8_isOpen, 8, some .boolean, 2, 49)
theorem mo_X8_isOpen : mOk mX8_isOpen 4 := ⟨(in_tb 869 (by decide +kernel) (by decide +kernel)), (in_tb 55 (by decide +kernel) (by decide +kernel)), by decide +kernel, by decide +kernel⟩
theorem im_X8_isOpen : Cond.instanceMethod (m_y mX8_isOpen) ∈ tb := (in_tb 868 (by decide +kernel) (by decide +kernel))
theorem se_X8_isOpen : Cond.selects (m_y mX8_isOpen).cls (m_y mX8_isOpen) (m_y mX8_isOpen) ∈ tb := (in_tb 34 (by decide +kernel) (by decide +kernel))
def mX8_isRapid : MT := (yX8_isRapid, cX8_isRapid, 2, some .boolean, 0, 0)
theorem mo_X8_isRapid : mOk mX8_isRapid 1 := ⟨(in_tb 787 (by decide +kernel) (by decide +kernel)), (in_tb 55 (by decide +kernel) (by decide +kernel)), by decide +kernel, by decide +kernel⟩
theorem im_X8_isRapid : Cond.instanceMethod (m_y mX8_isRapid) ∈ tb := (in_tb 786 (by decide +kernel) (by decide +kernel))
theorem se_X8_isRapid : Cond.selects (m_y mX8_isRapid).cls (m_y mX8_isRapid) (m_y mX8_isRapid) ∈ tb := (in_tb 22 (by decide +kernel) (by decide +kernel))
def mX8_isSet : MT := (yX8_isSet, cX8_isSet, 2, some .boolean, 1, 22)
theorem mo_X8_isSet : mOk mX8_isSet 1 := ⟨(in_tb 901 (by decide +kernel) (by decide +kernel)), (in_tb 55 (by decide +kernel) (by decide +kernel)), by decide +kernel, by decide +kernel⟩
theorem im_X8_isSet : Cond.instanceMethod (m_y mX8_isSet) ∈ tb := (in_tb 900 (by decide +kernel) (by decide +kernel))
theorem se_X8_isSet : Cond.selects (m_y mX8_isSet).cls (m_y mX8_isSet) (m_y mX8_isSet) ∈ tb := (in_tb 39 (by decide +kernel) (by decide +kernel))
def mX8_isSheet : MT := (yX8_isSheet, cX8_isSheet, 1, some .boolean, 1, 22)
theorem mo_X8_isSheet : mOk mX8_isSheet 1 := ⟨(in_tb 957 (by decide +kernel) (by decide +kernel)), (in_tb 55 (by decide +kernel) (by decide +kernel)), by decide +kernel, by decide +kernel⟩
theorem sm_X8_isSheet : Cond.static (m_y mX8_isSheet) ∈ tb := (in_tb 956 (by decide +kernel) (by decide +kernel))
def mX8_isTrip : MT := (yX8_isTrip, cX8_isTrip, 2, some .boolean, 0, 0)
theorem mo_X8_isTrip : mOk mX8_isTrip 1 := ⟨(in_tb 807 (by decide +kernel) (by decide +kernel)), (in_tb 55 (by decide +kernel) (by decide +kernel)), by decide +kernel, by decide +kernel⟩
theorem im_X8_isTrip : Cond.instanceMethod (m_y mX8_isTrip) ∈ tb := (in_tb 806 (by decide +kernel) (by decide +kernel))
theorem se_X8_isTrip : Cond.selects (m_y mX8_isTrip).cls (m_y mX8_isTrip) (m_y mX8_isTrip) ∈ tb := (in_tb 25 (by decide +kernel) (by decide +kernel))
def mX8_isWater : MT := (yX8_isWater, cX8_isWater, 1, some .boolean, 1, 22)
theorem mo_X8_isWater : mOk mX8_isWater 1 := ⟨(in_tb 755 (by decide +kernel) (by decide +kernel)), (in_tb 55 (by decide +kernel) (by decide +kernel)), by decide +kernel, by decide +kernel⟩
theorem sm_X8_isWater : Cond.static (m_y mX8_isWater) ∈ tb := (in_tb 754 (by decide +kernel) (by decide +kernel))
def mX8_keep : MT := (yX8_keep, cX8_keep, 2, none, 0, 0)
theorem mo_X8_keep : mOk mX8_keep 0 := ⟨(in_tb 742 (by decide +kernel) (by decide +kernel)), (in_tb 55 (by decide +kernel) (by decide +kernel)), by decide +kernel, by decide +kernel⟩
theorem im_X8_keep : Cond.instanceMethod (m_y mX8_keep) ∈ tb := (in_tb 741 (by decide +kernel) (by decide +kernel))
theorem se_X8_keep : Cond.selects (m_y mX8_keep).cls (m_y mX8_keep) (m_y mX8_keep) ∈ tb := (in_tb 20 (by decide +kernel) (by decide +kernel))
def mX8_landing : MT := (yX8_landing, cX8_landing, 3, some .int, 2, 44)
theorem mo_X8_landing : mOk mX8_landing 1 := ⟨(in_tb 760 (by decide +kernel) (by decide +kernel)), (in_tb 55 (by decide +kernel) (by decide +kernel)), by decide +kernel, by decide +kernel⟩
theorem im_X8_landing : Cond.instanceMethod (m_y mX8_landing) ∈ tb := (in_tb 758 (by decide +kernel) (by decide +kernel))
theorem se_X8_landing : Cond.selects (m_y mX8_landing).cls (m_y mX8_landing) (m_y mX8_landing) ∈ tb := (in_tb 759 (by decide +kernel) (by decide +kernel))
def mX8_launch : MT := (yX8_launch, cX8_launch, 4, some .int, 2, 44)
theorem mo_X8_launch : mOk mX8_launch 2 := ⟨(in_tb 820 (by decide +kernel) (by decide +kernel)), (in_tb 55 (by decide +kernel) (by decide +kernel)), by decide +kernel, by decide +kernel⟩
theorem im_X8_launch : Cond.instanceMethod (m_y mX8_launch) ∈ tb := (in_tb 818 (by decide +kernel) (by decide +kernel))
theorem se_X8_launch : Cond.selects (m_y mX8_launch).cls (m_y mX8_launch) (m_y mX8_launch) ∈ tb := (in_tb 819 (by decide +kernel) (by decide +kernel))
def mX8_lay : MT := (yX8_lay, cX8_lay, 4, none, 1, 22)
theorem mo_X8_lay : mOk mX8_lay 2 := ⟨(in_tb 893 (by decide +kernel) (by decide +kernel)), (in_tb 55 (by decide +kernel) (by decide +kernel)), by decide +kernel, by decide +kernel⟩
theorem im_X8_lay : Cond.instanceMethod (m_y mX8_lay) ∈ tb := (in_tb 892 (by decide +kernel) (by decide +kernel))
theorem se_X8_lay : Cond.selects (m_y mX8_lay).cls (m_y mX8_lay) (m_y mX8_lay) ∈ tb := (in_tb 38 (by decide +kernel) (by decide +kernel))
def mX8_leftAt : MT := (yX8_leftAt, cX8_leftAt, 4, some .int, 0, 0)
theorem mo_X8_leftAt : mOk mX8_leftAt 3 := ⟨(in_tb 873 (by decide +kernel) (by decide +kernel)), (in_tb 55 (by decide +kernel) (by decide +kernel)), by decide +kernel, by decide +kernel⟩
theorem im_X8_leftAt : Cond.instanceMethod (m_y mX8_leftAt) ∈ tb := (in_tb 872 (by decide +kernel) (by decide +kernel))
theorem se_X8_leftAt : Cond.selects (m_y mX8_leftAt).cls (m_y mX8_leftAt) (m_y mX8_leftAt) ∈ tb := (in_tb 35 (by decide +kernel) (by decide +kernel))
def mX8_leftFrom : MT := (yX8_leftFrom, cX8_leftFrom, 9, some .int, 4, 103)
theorem mo_X8_leftFrom : mOk mX8_leftFrom 4 := ⟨(in_tb 857 (by decide +kernel) (by decide +kernel)), (in_tb 55 (by decide +kernel) (by decide +kernel)), by decide +kernel, by decide +kernel⟩
theorem im_X8_leftFrom : Cond.instanceMethod (m_y mX8_leftFrom) ∈ tb := (in_tb 856 (by decide +kernel) (by decide +kernel))
theorem se_X8_leftFrom : Cond.selects (m_y mX8_leftFrom).cls (m_y mX8_leftFrom) (m_y mX8_leftFrom) ∈ tb := (in_tb 31 (by decide +kernel) (by decide +kernel))
def mX8_let : MT := (yX8_let, cX8_let, 4, some .int, 2, 42)
theorem mo_X8_let : mOk mX8_let 2 := ⟨(in_tb 974 (by decide +kernel) (by decide +kernel)), (in_tb 55 (by decide +kernel) (by decide +kernel)), by decide +kernel, by decide +kernel⟩
theorem im_X8_let : Cond.instanceMethod (m_y mX8_let) ∈ tb := (in_tb 972 (by decide +kernel) (by decide +kernel))
theorem se_X8_let : Cond.selects (m_y mX8_let).cls (m_y mX8_let) (m_y mX8_let) ∈ tb := (in_tb 973 (by decide +kernel) (by decide +kernel))
def mX8_mayCamp : MT := (yX8_mayCamp, cX8_mayCamp, 3, some .boolean, 1, 22)
theorem mo_X8_mayCamp : mOk mX8_mayCamp 2 := ⟨(in_tb 837 (by decide +kernel) (by decide +kernel)), (in_tb 55 (by decide +kernel) (by decide +kernel)), by decide +kernel, by decide +kernel⟩
theorem im_X8_mayCamp : Cond.instanceMethod (m_y mX8_mayCamp) ∈ tb := (in_tb 836 (by decide +kernel) (by decide +kernel))
theorem se_X8_mayCamp : Cond.selects (m_y mX8_mayCamp).cls (m_y mX8_mayCamp) (m_y mX8_mayCamp) ∈ tb := (in_tb 29 (by decide +kernel) (by decide +kernel))
def mX8_mileOf : MT := (yX8_mileOf, cX8_mileOf, 2, some .int, 0, 0)
theorem mo_X8_mileOf : mOk mX8_mileOf 1 := ⟨(in_tb 865 (by decide +kernel) (by decide +kernel)), (in_tb 55 (by decide +kernel) (by decide +kernel)), by decide +kernel, by decide +kernel⟩
theorem im_X8_mileOf : Cond.instanceMethod (m_y mX8_mileOf) ∈ tb := (in_tb 864 (by decide +kernel) (by decide +kernel))
theorem se_X8_mileOf : Cond.selects (m_y mX8_mileOf).cls (m_y mX8_mileOf) (m_y mX8_mileOf) ∈ tb := (in_tb 33 (by decide +kernel) (by decide +kernel))
def mX8_near : MT := (yX8_near, cX8_near, 9, some .int, 1, 22)
theorem mo_X8_near : mOk mX8_near 3 := ⟨(in_tb 913 (by decide +kernel) (by decide +kernel)), (in_tb 55 (by decide +kernel) (by decide +kernel)), by decide +kernel, by decide +kernel⟩
theorem im_X8_near : Cond.instanceMethod (m_y mX8_near) ∈ tb := (in_tb 911 (by decide +kernel) (by decide +kernel))
theorem se_X8_near : Cond.selects (m_y mX8_near).cls (m_y mX8_near) (m_y mX8_near) ∈ tb := (in_tb 912 (by decide +kernel) (by decide +kernel))
def mX8_night : MT := (yX8_night, cX8_night, 4, some .int, 2, 44)
theorem mo_X8_night : mOk mX8_night 3 := ⟨(in_tb 824 (by decide +kernel) (by decide +kernel)), (in_tb 55 (by decide +kernel) (by decide +kernel)), by decide +kernel, by decide +kernel⟩
theorem im_X8_night : Cond.instanceMethod (m_y mX8_night) ∈ tb := (in_tb 822 (by decide +kernel) (by decide +kernel))
theorem se_X8_night : Cond.selects (m_y mX8_night).cls (m_y mX8_night) (m_y mX8_night) ∈ tb := (in_tb 823 (by decide +kernel) (by decide +kernel))
def mX8_noNights : MT := (yX8_noNights, cX8_noNights, 3, none, 0, 0)
theorem mo_X8_noNights : mOk mX8_noNights 1 := ⟨(in_tb 799 (by decide +kernel) (by decide +kernel)), (in_tb 55 (by decide +kernel) (by decide +kernel)), by decide +kernel, by decide +kernel⟩
theorem im_X8_noNights : Cond.instanceMethod (m_y mX8_noNights) ∈ tb := (in_tb 798 (by decide +kernel) (by decide +kernel))
theorem se_X8_noNights : Cond.selects (m_y mX8_noNights).cls (m_y mX8_noNights) (m_y mX8_noNights) ∈ tb := (in_tb 24 (by decide +kernel) (by decide +kernel))
def mX8_of : MT := (yX8_of, cX8_of, 5, some .int, 1, 22)
theorem mo_X8_of : mOk mX8_of 2 := ⟨(in_tb 816 (by decide +kernel) (by decide +kernel)), (in_tb 55 (by decide +kernel) (by decide +kernel)), by decide +kernel, by decide +kernel⟩
theorem im_X8_of : Cond.instanceMethod (m_y mX8_of) ∈ tb := (in_tb 814 (by decide +kernel) (by decide +kernel))
theorem se_X8_of : Cond.selects (m_y mX8_of).cls (m_y mX8_of) (m_y mX8_of) ∈ tb := (in_tb 815 (by decide +kernel) (by decide +kernel))
def mX8_other : MT := (yX8_other, cX8_other, 5, some .int, 0, 0)
theorem mo_X8_other : mOk mX8_other 3 := ⟨(in_tb 832 (by decide +kernel) (by decide +kernel)), (in_tb 55 (by decide +kernel) (by decide +kernel)), by decide +kernel, by decide +kernel⟩
theorem im_X8_other : Cond.instanceMethod (m_y mX8_other) ∈ tb := (in_tb 831 (by decide +kernel) (by decide +kernel))
theorem se_X8_other : Cond.selects (m_y mX8_other).cls (m_y mX8_other) (m_y mX8_other) ∈ tb := (in_tb 28 (by decide +kernel) (by decide +kernel))
def mX8_plan : MT := (yX8_plan, cX8_plan, 3, some .int, 6, 158)
theorem mo_X8_plan : mOk mX8_plan 1 := ⟨(in_tb 849 (by decide +kernel) (by decide +kernel)), (in_tb 55 (by decide +kernel) (by decide +kernel)), by decide +kernel, by decide +kernel⟩
theorem im_X8_plan : Cond.instanceMethod (m_y mX8_plan) ∈ tb := (in_tb 847 (by decide +kernel) (by decide +kernel))
theorem se_X8_plan : Cond.selects (m_y mX8_plan).cls (m_y mX8_plan) (m_y mX8_plan) ∈ tb := (in_tb 848 (by decide +kernel) (by decide +kernel))
def mX8_planOf : MT := (yX8_planOf, cX8_planOf, 8, some .int, 6, 158)
theorem mo_X8_planOf : mOk mX8_planOf 1 := ⟨(in_tb 885 (by decide +kernel) (by decide +kernel)), (in_tb 55 (by decide +kernel) (by decide +kernel)), by decide +kernel, by decide +kernel⟩
theorem im_X8_planOf : Cond.instanceMethod (m_y mX8_planOf) ∈ tb := (in_tb 884 (by decide +kernel) (by decide +kernel))
theorem se_X8_planOf : Cond.selects (m_y mX8_planOf).cls (m_y mX8_planOf) (m_y mX8_planOf) ∈ tb := (in_tb 37 (by decide +kernel) (by decide +kernel))
def mX8_planned : MT := (yX8_planned, cX8_planned, 4, some .int, 7, 185)
theorem mo_X8_planned : mOk mX8_planned 2 := ⟨(in_tb 881 (by decide +kernel) (by decide +kernel)), (in_tb 55 (by decide +kernel) (by decide +kernel)), by decide +kernel, by decide +kernel⟩
theorem im_X8_planned : Cond.instanceMethod (m_y mX8_planned) ∈ tb := (in_tb 879 (by decide +kernel) (by decide +kernel))
theorem se_X8_planned : Cond.selects (m_y mX8_planned).cls (m_y mX8_planned) (m_y mX8_planned) ∈ tb := (in_tb 880 (by decide +kernel) (by decide +kernel))
def mX8_put : MT := (yX8_put, cX8_put, 4, some .int, 2, 42)
theorem mo_X8_put : mOk mX8_put 3 := ⟨(in_tb 961 (by decide +kernel) (by decide +kernel)), (in_tb 55 (by decide +kernel) (by decide +kernel)), by decide +kernel, by decide +kernel⟩
theorem im_X8_put : Cond.instanceMethod (m_y mX8_put) ∈ tb := (in_tb 959 (by decide +kernel) (by decide +kernel))
theorem se_X8_put : Cond.selects (m_y mX8_put).cls (m_y mX8_put) (m_y mX8_put) ∈ tb := (in_tb 960 (by decide +kernel) (by decide +kernel))
def mX8_rapid : MT := (yX8_rapid, cX8_rapid, 5, some .int, 2, 44)
theorem mo_X8_rapid : mOk mX8_rapid 3 := ⟨(in_tb 752 (by decide +kernel) (by decide +kernel)), (in_tb 55 (by decide +kernel) (by decide +kernel)), by decide +kernel, by decide +kernel⟩
theorem im_X8_rapid : Cond.instanceMethod (m_y mX8_rapid) ∈ tb := (in_tb 750 (by decide +kernel) (by decide +kernel))
theorem se_X8_rapid : Cond.selects (m_y mX8_rapid).cls (m_y mX8_rapid) (m_y mX8_rapid) ∈ tb := (in_tb 751 (by decide +kernel) (by decide +kernel))
def mX8_runs : MT := (yX8_runs, cX8_runs, 4, some .int, 2, 49)
theorem mo_X8_runs : mOk mX8_runs 3 := ⟨(in_tb 783 (by decide +kernel) (by decide +kernel)), (in_tb 55 (by decide +kernel) (by decide +kernel)), by decide +kernel, by decide +kernel⟩
theorem im_X8_runs : Cond.instanceMethod (m_y mX8_runs) ∈ tb := (in_tb 781 (by decide +kernel) (by decide +kernel))
theorem se_X8_runs : Cond.selects (m_y mX8_runs).cls (m_y mX8_runs) (m_y mX8_runs) ∈ tb := (in_tb 782 (by decide +kernel) (by decide +kernel))
def mX8_sheet : MT := (yX8_sheet, cX8_sheet, 5, some .int, 2, 42)
theorem mo_X8_sheet : mOk mX8_sheet 3 := ⟨(in_tb 954 (by decide +kernel) (by decide +kernel)), (in_tb 55 (by decide +kernel) (by decide +kernel)), by decide +kernel, by decide +kernel⟩
theorem im_X8_sheet : Cond.instanceMethod (m_y mX8_sheet) ∈ tb := (in_tb 952 (by decide +kernel) (by decide +kernel))
theorem se_X8_sheet : Cond.selects (m_y mX8_sheet).cls (m_y mX8_sheet) (m_y mX8_sheet) ∈ tb := (in_tb 953 (by decide +kernel) (by decide +kernel))
def mX8_speed : MT := (yX8_speed, cX8_speed, 2, some .int, 2, 44)
theorem mo_X8_speed : mOk mX8_speed 1 := ⟨(in_tb 764 (by decide +kernel) (by decide +kernel)), (in_tb 55 (by decide +kernel) (by decide +kernel)), by decide +kernel, by decide +kernel⟩
theorem im_X8_speed : Cond.instanceMethod (m_y mX8_speed) ∈ tb := (in_tb 762 (by decide +kernel) (by decide +kernel))
theorem se_X8_speed : Cond.selects (m_y mX8_speed).cls (m_y mX8_speed) (m_y mX8_speed) ∈ tb := (in_tb 763 (by decide +kernel) (by decide +kernel))
def mX8_take : MT := (yX8_take, cX8_take, 3, some .int, 7, 185)
theorem mo_X8_take : mOk mX8_take 1 := ⟨(in_tb 889 (by decide +kernel) (by decide +kernel)), (in_tb 55 (by decide +kernel) (by decide +kernel)), by decide +kernel, by decide +kernel⟩
theorem im_X8_take : Cond.instanceMethod (m_y mX8_take) ∈ tb := (in_tb 887 (by decide +kernel) (by decide +kernel))
theorem se_X8_take : Cond.selects (m_y mX8_take).cls (m_y mX8_take) (m_y mX8_take) ∈ tb := (in_tb 888 (by decide +kernel) (by decide +kernel))
def mX8_tell : MT := (yX8_tell, cX8_tell, 8, some .int, 5, 131)
theorem mo_X8_tell : mOk mX8_tell 1 := ⟨(in_tb 853 (by decide +kernel) (by decide +kernel)), (in_tb 55 (by decide +kernel) (by decide +kernel)), by decide +kernel, by decide +kernel⟩
theorem im_X8_tell : Cond.instanceMethod (m_y mX8_tell) ∈ tb := (in_tb 852 (by decide +kernel) (by decide +kernel))
theorem se_X8_tell : Cond.selects (m_y mX8_tell).cls (m_y mX8_tell) (m_y mX8_tell) ∈ tb := (in_tb 30 (by decide +kernel) (by decide +kernel))
def mX8_told : MT := (yX8_told, cX8_told, 3, some .int, 0, 0)
theorem mo_X8_told : mOk mX8_told 2 := ⟨(in_tb 811 (by decide +kernel) (by decide +kernel)), (in_tb 55 (by decide +kernel) (by decide +kernel)), by decide +kernel, by decide +kernel⟩
theorem im_X8_told : Cond.instanceMethod (m_y mX8_told) ∈ tb := (in_tb 810 (by decide +kernel) (by decide +kernel))
theorem se_X8_told : Cond.selects (m_y mX8_told).cls (m_y mX8_told) (m_y mX8_told) ∈ tb := (in_tb 26 (by decide +kernel) (by decide +kernel))
def mX8_trip : MT := (yX8_trip, cX8_trip, 7, some .int, 2, 44)
theorem mo_X8_trip : mOk mX8_trip 5 := ⟨(in_tb 795 (by decide +kernel) (by decide +kernel)), (in_tb 55 (by decide +kernel) (by decide +kernel)), by decide +kernel, by decide +kernel⟩
theorem im_X8_trip : Cond.instanceMethod (m_y mX8_trip) ∈ tb := (in_tb 793 (by decide +kernel) (by decide +kernel))
theorem se_X8_trip : Cond.selects (m_y mX8_trip).cls (m_y mX8_trip) (m_y mX8_trip) ∈ tb := (in_tb 794 (by decide +kernel) (by decide +kernel))
def mX8_turn : MT := (yX8_turn, cX8_turn, 4, some .int, 2, 48)
theorem mo_X8_turn : mOk mX8_turn 2 := ⟨(in_tb 950 (by decide +kernel) (by decide +kernel)), (in_tb 55 (by decide +kernel) (by decide +kernel)), by decide +kernel, by decide +kernel⟩
theorem im_X8_turn : Cond.instanceMethod (m_y mX8_turn) ∈ tb := (in_tb 948 (by decide +kernel) (by decide +kernel))
theorem se_X8_turn : Cond.selects (m_y mX8_turn).cls (m_y mX8_turn) (m_y mX8_turn) ∈ tb := (in_tb 949 (by decide +kernel) (by decide +kernel))
def mX8_undo : MT := (yX8_undo, cX8_undo, 2, some .int, 1, 21)
theorem mo_X8_undo : mOk mX8_undo 0 := ⟨(in_tb 722 (by decide +kernel) (by decide +kernel)), (in_tb 55 (by decide +kernel) (by decide +kernel)), by decide +kernel, by decide +kernel⟩
theorem im_X8_undo : Cond.instanceMethod (m_y mX8_undo) ∈ tb := (in_tb 720 (by decide +kernel) (by decide +kernel))
theorem se_X8_undo : Cond.selects (m_y mX8_undo).cls (m_y mX8_undo) (m_y mX8_undo) ∈ tb := (in_tb 721 (by decide +kernel) (by decide +kernel))
def mX8_water : MT := (yX8_water, cX8_water, 4, some .int, 2, 44)
theorem mo_X8_water : mOk mX8_water 3 := ⟨(in_tb 768 (by decide +kernel) (by decide +kernel)), (in_tb 55 (by decide +kernel) (by decide +kernel)), by decide +kernel, by decide +kernel⟩
theorem im_X8_water : Cond.instanceMethod (m_y mX8_water) ∈ tb := (in_tb 766 (by decide +kernel) (by decide +kernel))
theorem se_X8_water : Cond.selects (m_y mX8_water).cls (m_y mX8_water) (m_y mX8_water) ∈ tb := (in_tb 767 (by decide +kernel) (by decide +kernel))
def mX8_waterAt : MT := (yX8_waterAt, cX8_waterAt, 4, some .int, 2, 42)
theorem mo_X8_waterAt : mOk mX8_waterAt 3 := ⟨(in_tb 775 (by decide +kernel) (by decide +kernel)), (in_tb 55 (by decide +kernel) (by decide +kernel)), by decide +kernel, by decide +kernel⟩
theorem im_X8_waterAt : Cond.instanceMethod (m_y mX8_waterAt) ∈ tb := (in_tb 773 (by decide +kernel) (by decide +kernel))
theorem se_X8_waterAt : Cond.selects (m_y mX8_waterAt).cls (m_y mX8_waterAt) (m_y mX8_waterAt) ∈ tb := (in_tb 774 (by decide +kernel) (by decide +kernel))
def mX8_waterOf : MT := (yX8_waterOf, cX8_waterOf, 5, some .int, 0, 0)
theorem mo_X8_waterOf : mOk mX8_waterOf 3 := ⟨(in_tb 779 (by decide +kernel) (by decide +kernel)), (in_tb 55 (by decide +kernel) (by decide +kernel)), by decide +kernel, by decide +kernel⟩
theorem im_X8_waterOf : Cond.instanceMethod (m_y mX8_waterOf) ∈ tb := (in_tb 778 (by decide +kernel) (by decide +kernel))
theorem se_X8_waterOf : Cond.selects (m_y mX8_waterOf).cls (m_y mX8_waterOf) (m_y mX8_waterOf) ∈ tb := (in_tb 21 (by decide +kernel) (by decide +kernel))
def mX8_weigh : MT := (yX8_weigh, cX8_weigh, 3, some .int, 2, 44)
theorem mo_X8_weigh : mOk mX8_weigh 2 := ⟨(in_tb 925 (by decide +kernel) (by decide +kernel)), (in_tb 55 (by decide +kernel) (by decide +kernel)), by decide +kernel, by decide +kernel⟩
theorem im_X8_weigh : Cond.instanceMethod (m_y mX8_weigh) ∈ tb := (in_tb 923 (by decide +kernel) (by decide +kernel))
theorem se_X8_weigh : Cond.selects (m_y mX8_weigh).cls (m_y mX8_weigh) (m_y mX8_weigh) ∈ tb := (in_tb 924 (by decide +kernel) (by decide +kernel))
def mX8_weights : MT := (yX8_weights, cX8_weights, 3, some .int, 0, 0)
theorem mo_X8_weights : mOk mX8_weights 0 := ⟨(in_tb 937 (by decide +kernel) (by decide +kernel)), (in_tb 55 (by decide +kernel) (by decide +kernel)), by decide +kernel, by decide +kernel⟩
theorem im_X8_weights : Cond.instanceMethod (m_y mX8_weights) ∈ tb := (in_tb 936 (by decide +kernel) (by decide +kernel))
theorem se_X8_weights : Cond.selects (m_y mX8_weights).cls (m_y mX8_weights) (m_y mX8_weights) ∈ tb := (in_tb 42 (by decide +kernel) (by decide +kernel))
def mX8_who : MT := (yX8_who, cX8_who, 4, some .int, 2, 42)
theorem mo_X8_who : mOk mX8_who 2 := ⟨(in_tb 845 (by decide +kernel) (by decide +kernel)), (in_tb 55 (by decide +kernel) (by decide +kernel)), by decide +kernel, by decide +kernel⟩
theorem im_X8_who : Cond.instanceMethod (m_y mX8_who) ∈ tb := (in_tb 843 (by decide +kernel) (by decide +kernel))
theorem se_X8_who : Cond.selects (m_y mX8_who).cls (m_y mX8_who) (m_y mX8_who) ∈ tb := (in_tb 844 (by decide +kernel) (by decide +kernel))
theorem lk_L_9 : lkD RL 9 mX7_init := (in_tb 60 (by decide +kernel) (by decide +kernel))
theorem lo_7_1 : Cond.methodLink RX7 1 Lib.objectInit ∈ tb := (in_tb 63 (by decide +kernel) (by decide +kernel))
theorem lk_7_9 : lkD RX7 9 mX4_init := (in_tb 68 (by decide +kernel) (by decide +kernel))
theorem lo_4_5 : Cond.methodLink RX4 5 Lib.objectInit ∈ tb := (in_tb 71 (by decide +kernel) (by decide +kernel))
theorem lk_4_40 : lkD RX4 40 mJ_fill := (in_tb 72 (by decide +kernel) (by decide +kernel))
theorem lk_7_18 : lkN RX7 18 mX6_init := by show (RX7, 18, m_y mX6_init, RX7) ∈ nwL; decide +kernel
theorem lo_6_5 : Cond.methodLink RX6 5 Lib.objectInit ∈ tb := (in_tb 119 (by decide +kernel) (by decide +kernel))
theorem lk_7_25 : lkN RX7 25 mX3_init := by show (RX7, 25, m_y mX3_init, RX7) ∈ nwL; decide +kernel
theorem lo_3_7 : Cond.methodLink RX3 7 Lib.objectInit ∈ tb := (in_tb 137 (by decide +kernel) (by decide +kernel))
theorem lk_7_32 : lkN RX7 32 mX0_init := by show (RX7, 32, m_y mX0_init, RX7) ∈ nwL; decide +kernel
theorem lo_0_1 : Cond.methodLink RX0 1 Lib.objectInit ∈ tb := (in_tb 161 (by decide +kernel) (by decide +kernel))
theorem lk_7_39 : lkD RX7 39 mX1_init := (in_tb 177 (by decide +kernel) (by decide +kernel))
theorem lo_1_1 : Cond.methodLink RX1 1 Lib.objectInit ∈ tb := (in_tb 180 (by decide +kernel) (by decide +kernel))
theorem lk_1_22 : lkN RX1 22 mX2_init := by show (RX1, 22, m_y mX2_init, RX7) ∈ nwL; decide +kernel
theorem lo_2_1 : Cond.methodLink RX2 1 Lib.objectInit ∈ tb := (in_tb 187 (by decide +kernel) (by decide +kernel))
theorem lk_7_54 : lkN RX7 54 mX5_init := by show (RX7, 54, m_y mX5_init, RX7) ∈ nwL; decide +kernel
theorem lo_5_1 : Cond.methodLink RX5 1 Lib.objectInit ∈ tb := (in_tb 218 (by decide +kernel) (by decide +kernel))
theorem lk_L_13 : lkD RL 13 mX7_end := (in_tb 254 (by decide +kernel) (by decide +kernel))
theorem lk_7_55 : lkD RX7 55 mX7_within := (in_tb 258 (by decide +kernel) (by decide +kernel))
theorem lk_7_60 : lkD RX7 60 mX7_finding := (in_tb 262 (by decide +kernel) (by decide +kernel))
theorem lk_7_68 : lkD RX7 68 mX7_change := (in_tb 266 (by decide +kernel) (by decide +kernel))
theorem lk_7_260 : lkD RX7 260 mX1_keep := (in_tb 270 (by decide +kernel) (by decide +kernel))
theorem lk_1_23 : lkD RX1 23 mX2_keep := (in_tb 274 (by decide +kernel) (by decide +kernel))
theorem la_2_25 : Cond.methodLink RX2 25 arraycopyName ∈ tb := (in_tb 278 (by decide +kernel) (by decide +kernel))
theorem lm_1_27 : Cond.methodLink RX1 27 Lib.Math.min.name ∈ tb := (in_tb 281 (by decide +kernel) (by decide +kernel))
theorem lk_L_18 : lkD RL 18 mX7_camp := (in_tb 284 (by decide +kernel) (by decide +kernel))
theorem lk_L_23 : lkD RL 23 mX7_rapid := (in_tb 289 (by decide +kernel) (by decide +kernel))
theorem lk_7_83 : lkD RX7 83 mX7_isWater := (in_tb 293 (by decide +kernel) (by decide +kernel))
theorem lk_L_28 : lkD RL 28 mX7_landing := (in_tb 297 (by decide +kernel) (by decide +kernel))
theorem lk_7_97 : lkD RX7 97 mX7_isMile := (in_tb 301 (by decide +kernel) (by decide +kernel))
theorem lk_L_32 : lkD RL 32 mX7_speed := (in_tb 304 (by decide +kernel) (by decide +kernel))
theorem lk_L_36 : lkD RL 36 mX7_water := (in_tb 308 (by decide +kernel) (by decide +kernel))
theorem lk_7_103 : lkD RX7 103 mX7_isDay := (in_tb 312 (by decide +kernel) (by decide +kernel))
theorem lk_L_40 : lkD RL 40 mX7_waterAt := (in_tb 315 (by decide +kernel) (by decide +kernel))
theorem lk_7_109 : lkD RX7 109 mX4_arriving := (in_tb 319 (by decide +kernel) (by decide +kernel))
theorem lm_4_46 : Cond.methodLink RX4 46 Lib.Math.max.name ∈ tb := (in_tb 323 (by decide +kernel) (by decide +kernel))
theorem lk_L_44 : lkD RL 44 mX7_runs := (in_tb 326 (by decide +kernel) (by decide +kernel))
theorem lk_7_113 : lkD RX7 113 mX7_isKind := (in_tb 330 (by decide +kernel) (by decide +kernel))
theorem lk_7_116 : lkD RX7 116 mX4_firstHour := (in_tb 333 (by decide +kernel) (by decide +kernel))
theorem lk_4_52 : lkD RX4 52 mX4_arriving := (in_tb 337 (by decide +kernel) (by decide +kernel))
theorem lk_4_56 : lkN RX4 56 mX7_within := by show (RX4, 56, m_y mX7_within, RX7) ∈ nwL; decide +kernel
theorem lk_L_48 : lkD RL 48 mX7_trip := (in_tb 339 (by decide +kernel) (by decide +kernel))
theorem lk_7_119 : lkD RX7 119 mX6_size := (in_tb 343 (by decide +kernel) (by decide +kernel))
theorem lk_7_123 : lkD RX7 123 mX6_write := (in_tb 347 (by decide +kernel) (by decide +kernel))
theorem lk_6_21 : lkD RX6 21 mX6_index := (in_tb 351 (by decide +kernel) (by decide +kernel))
theorem lk_7_127 : lkD RX7 127 mX6_clearNights := (in_tb 355 (by decide +kernel) (by decide +kernel))
theorem lk_6_25 : lkD RX6 25 mX6_write := (in_tb 359 (by decide +kernel) (by decide +kernel))
theorem lk_L_53 : lkD RL 53 mX7_as := (in_tb 360 (by decide +kernel) (by decide +kernel))
theorem lk_7_134 : lkD RX7 134 mX7_isTrip := (in_tb 364 (by decide +kernel) (by decide +kernel))
theorem lk_7_137 : lkD RX7 137 mX6_read := (in_tb 368 (by decide +kernel) (by decide +kernel))
theorem lk_L_58 : lkD RL 58 mX7_of := (in_tb 375 (by decide +kernel) (by decide +kernel))
theorem lk_7_145 : lkD RX7 145 mX6_nightsOf := (in_tb 379 (by decide +kernel) (by decide +kernel))
theorem lk_6_29 : lkD RX6 29 mX6_read := (in_tb 383 (by decide +kernel) (by decide +kernel))
theorem lk_L_62 : lkD RL 62 mX7_launch := (in_tb 384 (by decide +kernel) (by decide +kernel))
theorem lk_7_148 : lkD RX7 148 mX7_keepTrips := (in_tb 388 (by decide +kernel) (by decide +kernel))
theorem lk_7_162 : lkD RX7 162 mX6_index := (in_tb 392 (by decide +kernel) (by decide +kernel))
theorem lk_L_66 : lkD RL 66 mX7_night := (in_tb 393 (by decide +kernel) (by decide +kernel))
theorem lk_7_152 : lkD RX7 152 mX7_isCamp := (in_tb 397 (by decide +kernel) (by decide +kernel))
theorem lk_7_155 : lkD RX7 155 mX6_guest := (in_tb 401 (by decide +kernel) (by decide +kernel))
theorem lk_6_32 : lkD RX6 32 mX6_size := (in_tb 405 (by decide +kernel) (by decide +kernel))
theorem lk_L_70 : lkD RL 70 mX7_at := (in_tb 407 (by decide +kernel) (by decide +kernel))
theorem lk_L_74 : lkD RL 74 mX7_who := (in_tb 412 (by decide +kernel) (by decide +kernel))
theorem lk_L_78 : lkD RL 78 mX7_plan := (in_tb 416 (by decide +kernel) (by decide +kernel))
theorem lk_7_166 : lkD RX7 166 mX3_search := (in_tb 420 (by decide +kernel) (by decide +kernel))
theorem lk_3_32 : lkD RX3 32 mX6_read := (in_tb 424 (by decide +kernel) (by decide +kernel))
theorem lm_3_36 : Cond.methodLink RX3 36 Lib.Math.min.name ∈ tb := (in_tb 425 (by decide +kernel) (by decide +kernel))
theorem lk_3_41 : lkD RX3 41 mX4_campsFor := (in_tb 426 (by decide +kernel) (by decide +kernel))
theorem lk_3_45 : lkD RX3 45 mX3_startAhead := (in_tb 430 (by decide +kernel) (by decide +kernel))
theorem lk_3_98 : lkD RX3 98 mJ_fill := (in_tb 434 (by decide +kernel) (by decide +kernel))
theorem lk_3_48 : lkD RX3 48 mX3_placesAhead := (in_tb 435 (by decide +kernel) (by decide +kernel))
theorem lk_3_51 : lkD RX3 51 mX4_closedRapids := (in_tb 439 (by decide +kernel) (by decide +kernel))
theorem lk_4_60 : lkD RX4 60 mX4_firstHour := (in_tb 443 (by decide +kernel) (by decide +kernel))
theorem lk_3_54 : lkD RX3 54 mX3_findEnders := (in_tb 444 (by decide +kernel) (by decide +kernel))
theorem lk_3_86 : lkN RX3 86 mX7_holds := by show (RX3, 86, m_y mX7_holds, RX7) ∈ nwL; decide +kernel
theorem lk_3_104 : lkD RX3 104 mX4_leadsToEnd := (in_tb 451 (by decide +kernel) (by decide +kernel))
theorem lk_4_70 : lkD RX4 70 mX4_mileOf := (in_tb 455 (by decide +kernel) (by decide +kernel))
theorem lk_4_74 : lkD RX4 74 mX4_nextClosed := (in_tb 459 (by decide +kernel) (by decide +kernel))
theorem lk_4_63 : lkN RX4 63 mX7_holds := by show (RX4, 63, m_y mX7_holds, RX7) ∈ nwL; decide +kernel
theorem lm_4_67 : Cond.methodLink RX4 67 Lib.Math.min.name ∈ tb := (in_tb 464 (by decide +kernel) (by decide +kernel))
theorem lk_3_58 : lkD RX3 58 mX6_takenFrom := (in_tb 465 (by decide +kernel) (by decide +kernel))
theorem lk_3_61 : lkD RX3 61 mX3_findLeads := (in_tb 469 (by decide +kernel) (by decide +kernel))
theorem lk_3_108 : lkD RX3 108 mX4_campsAhead := (in_tb 473 (by decide +kernel) (by decide +kernel))
theorem lk_3_65 : lkD RX3 65 mX3_spread := (in_tb 477 (by decide +kernel) (by decide +kernel))
theorem lk_3_69 : lkD RX3 69 mX3_dropDeadEnds := (in_tb 481 (by decide +kernel) (by decide +kernel))
theorem lk_3_112 : lkD RX3 112 mX3_goesOn := (in_tb 485 (by decide +kernel) (by decide +kernel))
theorem lk_3_115 : lkD RX3 115 mX3_goers := (in_tb 489 (by decide +kernel) (by decide +kernel))
theorem lk_3_118 : lkD RX3 118 mX3_mayStay := (in_tb 493 (by decide +kernel) (by decide +kernel))
theorem lk_3_72 : lkD RX3 72 mX3_chooseCamps := (in_tb 497 (by decide +kernel) (by decide +kernel))
theorem lk_3_121 : lkD RX3 121 mX3_lowest := (in_tb 501 (by decide +kernel) (by decide +kernel))
theorem lk_L_82 : lkD RL 82 mX7_planned := (in_tb 504 (by decide +kernel) (by decide +kernel))
theorem lk_L_86 : lkD RL 86 mX7_take := (in_tb 508 (by decide +kernel) (by decide +kernel))
theorem lk_7_176 : lkD RX7 176 mX3_writeNights := (in_tb 512 (by decide +kernel) (by decide +kernel))
theorem lk_3_75 : lkD RX3 75 mX6_clearNights := (in_tb 516 (by decide +kernel) (by decide +kernel))
theorem lk_3_79 : lkD RX3 79 mX6_write := (in_tb 517 (by decide +kernel) (by decide +kernel))
theorem lk_L_90 : lkD RL 90 mX7_calendar := (in_tb 518 (by decide +kernel) (by decide +kernel))
theorem lk_7_180 : lkD RX7 180 mX7_isSet := (in_tb 522 (by decide +kernel) (by decide +kernel))
theorem lk_7_183 : lkD RX7 183 mX6_saveRows := (in_tb 526 (by decide +kernel) (by decide +kernel))
theorem la_6_36 : Cond.methodLink RX6 36 arraycopyName ∈ tb := (in_tb 530 (by decide +kernel) (by decide +kernel))
theorem lk_7_186 : lkD RX7 186 mX3_schedule := (in_tb 531 (by decide +kernel) (by decide +kernel))
theorem lk_3_82 : lkD RX3 82 mX6_size := (in_tb 535 (by decide +kernel) (by decide +kernel))
theorem lk_3_90 : lkD RX3 90 mX3_search := (in_tb 536 (by decide +kernel) (by decide +kernel))
theorem lk_3_94 : lkD RX3 94 mX3_writeNights := (in_tb 537 (by decide +kernel) (by decide +kernel))
theorem lk_7_190 : lkD RX7 190 mX6_bringRowsBack := (in_tb 538 (by decide +kernel) (by decide +kernel))
theorem lk_L_94 : lkD RL 94 mX7_fill := (in_tb 542 (by decide +kernel) (by decide +kernel))
theorem lk_L_98 : lkD RL 98 mX7_near := (in_tb 546 (by decide +kernel) (by decide +kernel))
theorem lm_7_193 : Cond.methodLink RX7 193 Lib.Math.abs.name ∈ tb := (in_tb 550 (by decide +kernel) (by decide +kernel))
theorem lk_L_102 : lkD RL 102 mX7_hurt := (in_tb 553 (by decide +kernel) (by decide +kernel))
theorem lk_7_198 : lkD RX7 198 mX4_minutesOut := (in_tb 557 (by decide +kernel) (by decide +kernel))
theorem lk_L_106 : lkD RL 106 mX7_applicant := (in_tb 561 (by decide +kernel) (by decide +kernel))
theorem lk_7_202 : lkD RX7 202 mX0_size := (in_tb 565 (by decide +kernel) (by decide +kernel))
theorem lk_L_110 : lkD RL 110 mX7_weigh := (in_tb 569 (by decide +kernel) (by decide +kernel))
theorem lk_7_207 : lkD RX7 207 mX7_isApplicant := (in_tb 573 (by decide +kernel) (by decide +kernel))
theorem lk_L_114 : lkD RL 114 mX7_chance := (in_tb 577 (by decide +kernel) (by decide +kernel))
theorem lk_7_210 : lkD RX7 210 mX0_everybody := (in_tb 581 (by decide +kernel) (by decide +kernel))
theorem lk_0_19 : lkD RX0 19 mX0_size := (in_tb 585 (by decide +kernel) (by decide +kernel))
theorem lk_7_213 : lkD RX7 213 mX0_together := (in_tb 586 (by decide +kernel) (by decide +kernel))
theorem lk_0_23 : lkN RX0 23 mX7_holds := by show (RX0, 23, m_y mX7_holds, RX7) ∈ nwL; decide +kernel
theorem lk_7_216 : lkD RX7 216 mX7_greatestDivisor := (in_tb 591 (by decide +kernel) (by decide +kernel))
theorem lk_L_118 : lkD RL 118 mX7_drawn := (in_tb 594 (by decide +kernel) (by decide +kernel))
theorem lk_7_219 : lkD RX7 219 mX0_draw := (in_tb 598 (by decide +kernel) (by decide +kernel))
theorem lk_0_29 : lkD RX0 29 mX0_everybody := (in_tb 602 (by decide +kernel) (by decide +kernel))
theorem lk_0_33 : lkD RX0 33 mX0_together := (in_tb 604 (by decide +kernel) (by decide +kernel))
theorem lm_0_37 : Cond.methodLink RX0 37 Lib.Math.max.name ∈ tb := (in_tb 605 (by decide +kernel) (by decide +kernel))
theorem lk_0_43 : lkD RX0 43 mX0_owner := (in_tb 606 (by decide +kernel) (by decide +kernel))
theorem lk_L_122 : lkD RL 122 mX7_turn := (in_tb 610 (by decide +kernel) (by decide +kernel))
theorem lk_7_225 : lkD RX7 225 mX0_placeOf := (in_tb 614 (by decide +kernel) (by decide +kernel))
theorem lk_L_126 : lkD RL 126 mX7_sheet := (in_tb 618 (by decide +kernel) (by decide +kernel))
theorem lk_7_228 : lkD RX7 228 mX7_isSheet := (in_tb 622 (by decide +kernel) (by decide +kernel))
theorem lk_7_231 : lkD RX7 231 mX5_renew := (in_tb 625 (by decide +kernel) (by decide +kernel))
theorem lk_5_20 : lkD RX5 20 mX5_isMissing := (in_tb 629 (by decide +kernel) (by decide +kernel))
theorem lk_5_24 : lkD RX5 24 mJ_fill := (in_tb 633 (by decide +kernel) (by decide +kernel))
theorem lk_L_130 : lkD RL 130 mX7_put := (in_tb 634 (by decide +kernel) (by decide +kernel))
theorem lk_7_234 : lkD RX7 234 mX5_isMissing := (in_tb 638 (by decide +kernel) (by decide +kernel))
theorem lk_7_244 : lkD RX7 244 mX5_lowest := (in_tb 640 (by decide +kernel) (by decide +kernel))
theorem lk_L_134 : lkD RL 134 mX7_copy := (in_tb 644 (by decide +kernel) (by decide +kernel))
theorem lk_7_250 : lkD RX7 250 mX5_has := (in_tb 648 (by decide +kernel) (by decide +kernel))
theorem la_7_254 : Cond.methodLink RX7 254 arraycopyName ∈ tb := (in_tb 652 (by decide +kernel) (by decide +kernel))
theorem lk_L_138 : lkD RL 138 mX7_let := (in_tb 653 (by decide +kernel) (by decide +kernel))
theorem lk_L_142 : lkD RL 142 mX7_undo := (in_tb 657 (by decide +kernel) (by decide +kernel))
theorem lk_7_264 : lkD RX7 264 mX1_bringBack := (in_tb 661 (by decide +kernel) (by decide +kernel))
theorem lk_1_33 : lkD RX1 33 mX2_bringBack := (in_tb 665 (by decide +kernel) (by decide +kernel))
theorem lk_L_147 : lkD RL 147 mX7_all := (in_tb 669 (by decide +kernel) (by decide +kernel))
theorem lk_L_12 : lkD RL 12 mX8_init := (in_tb 675 (by decide +kernel) (by decide +kernel))
theorem lo_8_1 : Cond.methodLink RX8 1 Lib.objectInit ∈ tb := (in_tb 678 (by decide +kernel) (by decide +kernel))
theorem lk_L_146 : lkD RL 146 mX8_undo := (in_tb 719 (by decide +kernel) (by decide +kernel))
theorem lk_8_56 : lkD RX8 56 mX8_finding := (in_tb 724 (by decide +kernel) (by decide +kernel))
theorem lk_L_17 : lkD RL 17 mX8_end := (in_tb 728 (by decide +kernel) (by decide +kernel))
theorem lk_8_48 : lkD RX8 48 mX8_isIn := (in_tb 732 (by decide +kernel) (by decide +kernel))
theorem lk_8_63 : lkD RX8 63 mX8_becomes := (in_tb 735 (by decide +kernel) (by decide +kernel))
theorem lk_8_60 : lkD RX8 60 mX8_keep := (in_tb 739 (by decide +kernel) (by decide +kernel))
theorem lk_L_22 : lkD RL 22 mX8_camp := (in_tb 744 (by decide +kernel) (by decide +kernel))
theorem lk_L_27 : lkD RL 27 mX8_rapid := (in_tb 749 (by decide +kernel) (by decide +kernel))
theorem lk_8_69 : lkD RX8 69 mX8_isWater := (in_tb 753 (by decide +kernel) (by decide +kernel))
theorem lk_L_31 : lkD RL 31 mX8_landing := (in_tb 757 (by decide +kernel) (by decide +kernel))
theorem lk_L_35 : lkD RL 35 mX8_speed := (in_tb 761 (by decide +kernel) (by decide +kernel))
theorem lk_L_39 : lkD RL 39 mX8_water := (in_tb 765 (by decide +kernel) (by decide +kernel))
theorem lk_8_74 : lkD RX8 74 mX8_isDay := (in_tb 769 (by decide +kernel) (by decide +kernel))
theorem lk_L_43 : lkD RL 43 mX8_waterAt := (in_tb 772 (by decide +kernel) (by decide +kernel))
theorem lk_8_77 : lkD RX8 77 mX8_waterOf := (in_tb 776 (by decide +kernel) (by decide +kernel))
theorem lk_L_47 : lkD RL 47 mX8_runs := (in_tb 780 (by decide +kernel) (by decide +kernel))
theorem lk_8_81 : lkD RX8 81 mX8_isRapid := (in_tb 784 (by decide +kernel) (by decide +kernel))
theorem lk_8_84 : lkD RX8 84 mX8_hourOf := (in_tb 788 (by decide +kernel) (by decide +kernel))
theorem lk_L_52 : lkD RL 52 mX8_trip := (in_tb 792 (by decide +kernel) (by decide +kernel))
theorem lk_8_87 : lkD RX8 87 mX8_noNights := (in_tb 796 (by decide +kernel) (by decide +kernel))
theorem lk_L_57 : lkD RL 57 mX8_as := (in_tb 800 (by decide +kernel) (by decide +kernel))
theorem lk_8_91 : lkD RX8 91 mX8_isTrip := (in_tb 804 (by decide +kernel) (by decide +kernel))
theorem lk_8_94 : lkD RX8 94 mX8_told := (in_tb 808 (by decide +kernel) (by decide +kernel))
theorem lk_L_61 : lkD RL 61 mX8_of := (in_tb 813 (by decide +kernel) (by decide +kernel))
theorem lk_L_65 : lkD RL 65 mX8_launch := (in_tb 817 (by decide +kernel) (by decide +kernel))
theorem lk_L_69 : lkD RL 69 mX8_night := (in_tb 821 (by decide +kernel) (by decide +kernel))
theorem lk_8_98 : lkD RX8 98 mX8_isCamp := (in_tb 825 (by decide +kernel) (by decide +kernel))
theorem lk_8_101 : lkD RX8 101 mX8_other := (in_tb 829 (by decide +kernel) (by decide +kernel))
theorem lk_8_105 : lkD RX8 105 mX8_mayCamp := (in_tb 834 (by decide +kernel) (by decide +kernel))
theorem lk_L_73 : lkD RL 73 mX8_at := (in_tb 838 (by decide +kernel) (by decide +kernel))
theorem lk_L_77 : lkD RL 77 mX8_who := (in_tb 842 (by decide +kernel) (by decide +kernel))
theorem lk_L_81 : lkD RL 81 mX8_plan := (in_tb 846 (by decide +kernel) (by decide +kernel))
theorem lk_8_129 : lkD RX8 129 mX8_tell := (in_tb 850 (by decide +kernel) (by decide +kernel))
theorem lk_8_116 : lkD RX8 116 mX8_leftFrom := (in_tb 854 (by decide +kernel) (by decide +kernel))
theorem lk_8_123 : lkD RX8 123 mX8_canEnd := (in_tb 858 (by decide +kernel) (by decide +kernel))
theorem lk_8_109 : lkD RX8 109 mX8_mileOf := (in_tb 862 (by decide +kernel) (by decide +kernel))
theorem lk_8_112 : lkD RX8 112 mX8_isOpen := (in_tb 866 (by decide +kernel) (by decide +kernel))
theorem lk_8_120 : lkD RX8 120 mX8_leftAt := (in_tb 870 (by decide +kernel) (by decide +kernel))
theorem lk_8_126 : lkD RX8 126 mX8_canGo := (in_tb 874 (by decide +kernel) (by decide +kernel))
theorem lk_L_85 : lkD RL 85 mX8_planned := (in_tb 878 (by decide +kernel) (by decide +kernel))
theorem lk_8_132 : lkD RX8 132 mX8_planOf := (in_tb 882 (by decide +kernel) (by decide +kernel))
theorem lk_L_89 : lkD RL 89 mX8_take := (in_tb 886 (by decide +kernel) (by decide +kernel))
theorem lk_8_135 : lkD RX8 135 mX8_lay := (in_tb 890 (by decide +kernel) (by decide +kernel))
theorem lk_L_93 : lkD RL 93 mX8_calendar := (in_tb 894 (by decide +kernel) (by decide +kernel))
theorem lk_8_139 : lkD RX8 139 mX8_isSet := (in_tb 898 (by decide +kernel) (by decide +kernel))
theorem lk_8_142 : lkD RX8 142 mX8_calendarOf := (in_tb 902 (by decide +kernel) (by decide +kernel))
theorem lk_L_97 : lkD RL 97 mX8_fill := (in_tb 906 (by decide +kernel) (by decide +kernel))
theorem lk_L_101 : lkD RL 101 mX8_near := (in_tb 910 (by decide +kernel) (by decide +kernel))
theorem lk_L_105 : lkD RL 105 mX8_hurt := (in_tb 914 (by decide +kernel) (by decide +kernel))
theorem lk_L_109 : lkD RL 109 mX8_applicant := (in_tb 918 (by decide +kernel) (by decide +kernel))
theorem lk_L_113 : lkD RL 113 mX8_weigh := (in_tb 922 (by decide +kernel) (by decide +kernel))
theorem lk_8_145 : lkD RX8 145 mX8_isApplicant := (in_tb 926 (by decide +kernel) (by decide +kernel))
theorem lk_L_117 : lkD RL 117 mX8_chance := (in_tb 930 (by decide +kernel) (by decide +kernel))
theorem lk_8_148 : lkD RX8 148 mX8_weights := (in_tb 934 (by decide +kernel) (by decide +kernel))
theorem lk_L_121 : lkD RL 121 mX8_drawn := (in_tb 938 (by decide +kernel) (by decide +kernel))
theorem lk_8_153 : lkD RX8 153 mX8_draw := (in_tb 942 (by decide +kernel) (by decide +kernel))
theorem lk_L_125 : lkD RL 125 mX8_turn := (in_tb 947 (by decide +kernel) (by decide +kernel))
theorem lk_L_129 : lkD RL 129 mX8_sheet := (in_tb 951 (by decide +kernel) (by decide +kernel))
theorem lk_8_156 : lkD RX8 156 mX8_isSheet := (in_tb 955 (by decide +kernel) (by decide +kernel))
theorem lk_L_133 : lkD RL 133 mX8_put := (in_tb 958 (by decide +kernel) (by decide +kernel))
theorem lk_L_137 : lkD RL 137 mX8_copy := (in_tb 963 (by decide +kernel) (by decide +kernel))
theorem lk_8_160 : lkD RX8 160 mX8_hasPart := (in_tb 967 (by decide +kernel) (by decide +kernel))
theorem lk_L_141 : lkD RL 141 mX8_let := (in_tb 971 (by decide +kernel) (by decide +kernel))
theorem lk_L_150 : lkD RL 150 mX8_all := (in_tb 975 (by decide +kernel) (by decide +kernel))
end
section
/-! small rules for the printed walks -/
theorem ret_s {a c : Int32} {b d : AH} (h : some (a, b) = some (c, d)) : a = c ∧ b = d := by cases h; exact ⟨rfl, rfl⟩
def ldS (L : Nat) (xs : Nat → Int32) (i : Int32) : Option Int32 := if ¬ (i < 0 ∨ L ≤ i.toNatClampNeg) then some (xs i.toNatClampNeg) else none
def ldT (i : Int32) : Option Int32 := match abv i.toNatClampNeg with
  | .int v => if ¬ (i < 0 ∨ 4 ≤ i.toNatClampNeg) then some v else none
  | _ => none
theorem x_ldSo {g : GT} {M : MT} {h h' : AH} {pc : Nat} {ls : List (Option Value)} {st : List Value} {r : Option Value} {i v : Int32} (hd : decode (m_c M) pc = .ok (.iaload, 1)) (hg : ldS (g_n g) (g_x g) i = some v) (kk : Xj g M h (pc + 1) ls (.int v :: st) r h') : Xj g M h pc ls (.int i :: .retAddr 0 :: st) r h' := by
  obtain ⟨h1, rfl⟩ := if_some hg
  exact x_ldS hd h1 kk
theorem x_ldTo {g : GT} {M : MT} {h h' : AH} {pc : Nat} {ls : List (Option Value)} {st : List Value} {r : Option Value} {i v : Int32} (hd : decode (m_c M) pc = .ok (.iaload, 1)) (hg : ldT i = some v) (kk : Xj g M h (pc + 1) ls (.int v :: st) r h') : Xj g M h pc ls (.int i :: .retAddr 1 :: st) r h' := by
  unfold ldT at hg
  split at hg
  · rename_i w hw
    obtain ⟨h1, rfl⟩ := if_some hg
    exact x_ldT hd h1 hw kk
  · cases hg
theorem cl_L_7 : Cond.classLink RL 7 RX7 ∈ tb := (in_tb 58 (by decide +kernel) (by decide +kernel))
theorem cl_7_7 : Cond.classLink RX7 7 RX4 ∈ tb := (in_tb 66 (by decide +kernel) (by decide +kernel))
theorem cl_7_16 : Cond.classLink RX7 16 RX6 ∈ tb := (in_tb 114 (by decide +kernel) (by decide +kernel))
theorem cl_7_23 : Cond.classLink RX7 23 RX3 ∈ tb := (in_tb 132 (by decide +kernel) (by decide +kernel))
theorem cl_7_30 : Cond.classLink RX7 30 RX0 ∈ tb := (in_tb 156 (by decide +kernel) (by decide +kernel))
theorem cl_7_37 : Cond.classLink RX7 37 RX1 ∈ tb := (in_tb 175 (by decide +kernel) (by decide +kernel))
theorem cl_1_9 : Cond.classLink RX1 9 RX2 ∈ tb := (in_tb 181 (by decide +kernel) (by decide +kernel))
theorem cl_7_44 : Cond.classLink RX7 44 RX5 ∈ tb := (in_tb 212 (by decide +kernel) (by decide +kernel))
theorem cl_L_10 : Cond.classLink RL 10 RX8 ∈ tb := (in_tb 673 (by decide +kernel) (by decide +kernel))
end
section
def g_J_fill_5 : Nat → AH → Option Nat → Int32 → Int32 → Int32 → Option AH
  | 0, _, _, _, _, _ => none
  | n + 1, h, x0, x1, x2, x3 =>
    if x3 ≤ x2 then (
      some h
    ) else (
      bd (stI h x0 x2 x1) fun h13 =>
      g_J_fill_5  n h13 x0 x1 (x2 + 1) x3
    )

set_option maxRecDepth 100000 in
set_option maxHeartbeats 4000000 in
theorem tg_J_fill_5 {g : GT} : ∀ (n : Nat) {h : AH} {x0 : Option Nat} {x1 : Int32} {x2 : Int32} {x3 : Int32} {h' : AH}, g_J_fill_5 n h x0 x1 x2 x3 = some h' → Xj g mJ_fill h 5 [some (va_rf (x0)), some (.int (x1)), some (.int (x2)), some (.int (x3))] [] none h' := by
  intro n
  induction n with
  | zero =>
    intros
    rename_i z
    cases z
  | succ n ih =>
    intro h x0 x1 x2 x3 h' hf
    rw [g_J_fill_5] at hf
    refine x_iload_n (pc := 5) (x := x2) dJ_fill_5 rfl ?_
    refine x_iload_n (pc := 6) (x := x3) dJ_fill_6 rfl ?_
    refine x_icmp_ge (pc := 7) (tgt := 20) (x := x2) (y := x3) dJ_fill_7 rfl (fun hc => ?_) (fun hc => ?_)
    · replace hf := it_t hc hf
      obtain rfl := Option.some.inj hf
      exact x_vret (pc := 20) dJ_fill_20 rfl
    · replace hf := it_f hc hf
      refine x_aload_n (pc := 10) (a := x0) dJ_fill_10 rfl ?_
      refine x_iload_n (pc := 11) (x := x2) dJ_fill_11 rfl ?_
      refine x_iload_n (pc := 12) (x := x1) dJ_fill_12 rfl ?_
      replace hf := bd_s hf; obtain ⟨h13, e13, hf⟩ := hf
      refine x_stI (pc := 13) dJ_fill_13 e13 ?_
      refine x_iinc (pc := 14) (x := x2) (v := x2 + 1) (ls' := [some (va_rf (x0)), some (.int (x1)), some (.int (x2 + 1)), some (.int (x3))]) dJ_fill_14 rfl rfl (by decide) rfl ?_
      refine x_goto (pc := 17) (tgt := 5) dJ_fill_17 rfl ?_
      exact ih hf

def f_J_fill (h : AH) (x0 : Option Nat) (x1 : Int32) : Option AH :=
  bd (lenA h x0) fun v3 =>
  g_J_fill_5  NN h x0 x1 0 v3

set_option maxRecDepth 100000 in
set_option maxHeartbeats 4000000 in
theorem tm_J_fill {g : GT} {h : AH} {x0 : Option Nat} {x1 : Int32} {h' : AH} (hf : f_J_fill h x0 x1 = some h') : Xm g mJ_fill [va_rf (x0), .int (x1)] h none h' := by
  refine xm_of mo_J_fill (by decide) (ls := [some (va_rf (x0)), some (.int (x1)), none, none]) rfl ?_
  rw [f_J_fill] at hf
  refine x_iconst (pc := 0) (v := 0) dJ_fill_0 (by decide) ?_
  refine x_istore_n (pc := 1) (ls' := [some (va_rf (x0)), some (.int (x1)), some (.int (0)), none]) dJ_fill_1 (by decide) rfl ?_
  refine x_aload_n (pc := 2) (a := x0) dJ_fill_2 rfl ?_
  replace hf := bd_s hf; obtain ⟨v3, e3, hf⟩ := hf
  refine x_len (pc := 3) dJ_fill_3 e3 ?_
  refine x_istore_n (pc := 4) (ls' := [some (va_rf (x0)), some (.int (x1)), some (.int (0)), some (.int (v3))]) dJ_fill_4 (by decide) rfl ?_
  exact tg_J_fill_5  NN hf

def f_X0_size (h : AH) (x0 : Option Nat) : Option (Int32 × AH) :=
  bd (gR h x0 0 0) fun v1 =>
  bd (ldI h v1 0) fun v5 =>
  some (v5, h)

set_option maxRecDepth 100000 in
set_option maxHeartbeats 4000000 in
theorem tm_X0_size {g : GT} {h : AH} {x0 : Option Nat} {r : Int32} {h' : AH} (hf : f_X0_size h x0 = some (r, h')) : Xm g mX0_size [va_rf (x0)] h (some (.int r)) h' := by
  refine xm_of mo_X0_size (by decide) (ls := [some (va_rf (x0))]) rfl ?_
  rw [f_X0_size] at hf
  refine x_aload_n (pc := 0) (a := x0) dX0_size_0 rfl ?_
  replace hf := bd_s hf; obtain ⟨v1, e1, hf⟩ := hf
  refine x_getR (pc := 1) dX0_size_1 fl_0_7 e1 ?_
  refine x_iconst (pc := 4) (v := 0) dX0_size_4 (by decide) ?_
  replace hf := bd_s hf; obtain ⟨v5, e5, hf⟩ := hf
  refine x_ldI (pc := 5) dX0_size_5 e5 ?_
  obtain ⟨rfl, rfl⟩ := ret_s hf
  exact x_reti (pc := 6) dX0_size_6 rfl

def f_X0_everybody (h : AH) (x0 : Option Nat) : Option (Int32 × AH) :=
  bd (isO h x0 0) fun _ =>
  bd2 (f_X0_size h x0) fun v2 h2 =>
  some ((1 <<< (v2 &&& 31)) - 1, h2)

set_option maxRecDepth 100000 in
set_option maxHeartbeats 4000000 in
theorem tm_X0_everybody {g : GT} {h : AH} {x0 : Option Nat} {r : Int32} {h' : AH} (hf : f_X0_everybody h x0 = some (r, h')) : Xm g mX0_everybody [va_rf (x0)] h (some (.int r)) h' := by
  refine xm_of mo_X0_everybody (by decide) (ls := [some (va_rf (x0))]) rfl ?_
  rw [f_X0_everybody] at hf
  refine x_iconst (pc := 0) (v := 1) dX0_everybody_0 (by decide) ?_
  refine x_aload_n (pc := 1) (a := x0) dX0_everybody_1 rfl ?_
  replace hf := bd_s hf; obtain ⟨u2, i2, hf⟩ := hf
  replace hf := bd2_s hf; obtain ⟨v2, h2, e2, hf⟩ := hf
  refine x_cVi (pc := 2) (M' := mX0_size) (as := []) (st := [.int (1)]) (a := x0) (ci := 0) dX0_everybody_2 mo_X0_size lk_0_19 im_X0_size se_X0_size rfl (by decide) rfl (by decide) rfl i2 (tm_X0_size e2) ?_
  refine x_ishl (pc := 5) dX0_everybody_5 ?_
  refine x_iconst (pc := 6) (v := 1) dX0_everybody_6 (by decide) ?_
  refine x_isub (pc := 7) dX0_everybody_7 ?_
  obtain ⟨rfl, rfl⟩ := ret_s hf
  exact x_reti (pc := 8) dX0_everybody_8 rfl

def f_X7_holds (h : AH) (x0 : Int32) (x1 : Int32) : Option (Int32 × AH) :=
  if (x0 &&& (1 <<< (x1 &&& 31))) = 0 then (
    some (0, h)
  ) else (
    some (1, h)
  )

set_option maxRecDepth 100000 in
set_option maxHeartbeats 4000000 in
theorem tm_X7_holds {g : GT} {h : AH} {x0 : Int32} {x1 : Int32} {r : Int32} {h' : AH} (hf : f_X7_holds h x0 x1 = some (r, h')) : Xm g mX7_holds [.int (x0), .int (x1)] h (some (.int r)) h' := by
  refine xm_of mo_X7_holds (by decide) (ls := [some (.int (x0)), some (.int (x1))]) rfl ?_
  rw [f_X7_holds] at hf
  refine x_iload_n (pc := 0) (x := x0) dX7_holds_0 rfl ?_
  refine x_iconst (pc := 1) (v := 1) dX7_holds_1 (by decide) ?_
  refine x_iload_n (pc := 2) (x := x1) dX7_holds_2 rfl ?_
  refine x_ishl (pc := 3) dX7_holds_3 ?_
  refine x_iand (pc := 4) dX7_holds_4 ?_
  refine x_if_eq (pc := 5) (tgt := 12) (x := (x0 &&& (1 <<< (x1 &&& 31)))) dX7_holds_5 rfl (fun hc => ?_) (fun hc => ?_)
  · replace hf := it_t hc hf
    refine x_iconst (pc := 12) (v := 0) dX7_holds_12 (by decide) ?_
    obtain ⟨rfl, rfl⟩ := ret_s hf
    exact x_retz (pc := 13) dX7_holds_13 rfl (by decide)
  · replace hf := it_f hc hf
    refine x_iconst (pc := 8) (v := 1) dX7_holds_8 (by decide) ?_
    refine x_goto (pc := 9) (tgt := 13) dX7_holds_9 rfl ?_
    obtain ⟨rfl, rfl⟩ := ret_s hf
    exact x_retz (pc := 13) dX7_holds_13 rfl (by decide)

def g_X0_together_4 : Nat → AH → Option Nat → Int32 → Int32 → Int32 → Option (Int32 × AH)
  | 0, _, _, _, _, _ => none
  | n + 1, h, x0, x1, x2, x3 =>
    bd (isO h x0 0) fun _ =>
    bd2 (f_X0_size h x0) fun v6 h6 =>
    if v6 ≤ x3 then (
      some (x2, h6)
    ) else (
      bd2 (f_X7_holds h6 x1 x3) fun v14 h14 =>
      if v14 = 0 then (
        g_X0_together_4  n h14 x0 x1 x2 (x3 + 1)
      ) else (
        bd (gR h14 x0 0 1) fun v22 =>
        bd (ldI h14 v22 x3) fun v26 =>
        g_X0_together_4  n h14 x0 x1 (x2 + v26) (x3 + 1)
      )
    )

set_option maxRecDepth 100000 in
set_option maxHeartbeats 4000000 in
theorem tg_X0_together_4 {g : GT} : ∀ (n : Nat) {h : AH} {x0 : Option Nat} {x1 : Int32} {x2 : Int32} {x3 : Int32} {r : Int32} {h' : AH}, g_X0_together_4 n h x0 x1 x2 x3 = some (r, h') → Xj g mX0_together h 4 [some (va_rf (x0)), some (.int (x1)), some (.int (x2)), some (.int (x3))] [] (some (.int r)) h' := by
  intro n
  induction n with
  | zero =>
    intros
    rename_i z
    cases z
  | succ n ih =>
    intro h x0 x1 x2 x3 r h' hf
    rw [g_X0_together_4] at hf
    refine x_iload_n (pc := 4) (x := x3) dX0_together_4 rfl ?_
    refine x_aload_n (pc := 5) (a := x0) dX0_together_5 rfl ?_
    replace hf := bd_s hf; obtain ⟨u6, i6, hf⟩ := hf
    replace hf := bd2_s hf; obtain ⟨v6, h6, e6, hf⟩ := hf
    refine x_cVi (pc := 6) (M' := mX0_size) (as := []) (st := [.int (x3)]) (a := x0) (ci := 0) dX0_together_6 mo_X0_size lk_0_19 im_X0_size se_X0_size rfl (by decide) rfl (by decide) rfl i6 (tm_X0_size e6) ?_
    refine x_icmp_ge (pc := 9) (tgt := 35) (x := x3) (y := v6) dX0_together_9 rfl (fun hc => ?_) (fun hc => ?_)
    · replace hf := it_t hc hf
      refine x_iload_n (pc := 35) (x := x2) dX0_together_35 rfl ?_
      obtain ⟨rfl, rfl⟩ := ret_s hf
      exact x_reti (pc := 36) dX0_together_36 rfl
    · replace hf := it_f hc hf
      refine x_iload_n (pc := 12) (x := x1) dX0_together_12 rfl ?_
      refine x_iload_n (pc := 13) (x := x3) dX0_together_13 rfl ?_
      replace hf := bd2_s hf; obtain ⟨v14, h14, e14, hf⟩ := hf
      refine x_cNi (pc := 14) (M' := mX7_holds) (as := [.int (x1), .int (x3)]) (st := []) dX0_together_14 mo_X7_holds lk_0_23 sm_X7_holds (by decide) rfl (by decide) rfl (tm_X7_holds e14) ?_
      refine x_if_eq (pc := 17) (tgt := 29) (x := v14) dX0_together_17 rfl (fun hc => ?_) (fun hc => ?_)
      · replace hf := it_t hc hf
        refine x_iinc (pc := 29) (x := x3) (v := x3 + 1) (ls' := [some (va_rf (x0)), some (.int (x1)), some (.int (x2)), some (.int (x3 + 1))]) dX0_together_29 rfl rfl (by decide) rfl ?_
        refine x_goto (pc := 32) (tgt := 4) dX0_together_32 rfl ?_
        exact ih hf
      · replace hf := it_f hc hf
        refine x_iload_n (pc := 20) (x := x2) dX0_together_20 rfl ?_
        refine x_aload_n (pc := 21) (a := x0) dX0_together_21 rfl ?_
        replace hf := bd_s hf; obtain ⟨v22, e22, hf⟩ := hf
        refine x_getR (pc := 22) dX0_together_22 fl_0_13 e22 ?_
        refine x_iload_n (pc := 25) (x := x3) dX0_together_25 rfl ?_
        replace hf := bd_s hf; obtain ⟨v26, e26, hf⟩ := hf
        refine x_ldI (pc := 26) dX0_together_26 e26 ?_
        refine x_iadd (pc := 27) dX0_together_27 ?_
        refine x_istore_n (pc := 28) (ls' := [some (va_rf (x0)), some (.int (x1)), some (.int (x2 + v26)), some (.int (x3))]) dX0_together_28 (by decide) rfl ?_
        refine x_iinc (pc := 29) (x := x3) (v := x3 + 1) (ls' := [some (va_rf (x0)), some (.int (x1)), some (.int (x2 + v26)), some (.int (x3 + 1))]) dX0_together_29 rfl rfl (by decide) rfl ?_
        refine x_goto (pc := 32) (tgt := 4) dX0_together_32 rfl ?_
        exact ih hf

def f_X0_together (h : AH) (x0 : Option Nat) (x1 : Int32) : Option (Int32 × AH) :=
  g_X0_together_4  NN h x0 x1 0 0

set_option maxRecDepth 100000 in
set_option maxHeartbeats 4000000 in
theorem tm_X0_together {g : GT} {h : AH} {x0 : Option Nat} {x1 : Int32} {r : Int32} {h' : AH} (hf : f_X0_together h x0 x1 = some (r, h')) : Xm g mX0_together [va_rf (x0), .int (x1)] h (some (.int r)) h' := by
  refine xm_of mo_X0_together (by decide) (ls := [some (va_rf (x0)), some (.int (x1)), none, none]) rfl ?_
  rw [f_X0_together] at hf
  refine x_iconst (pc := 0) (v := 0) dX0_together_0 (by decide) ?_
  refine x_istore_n (pc := 1) (ls' := [some (va_rf (x0)), some (.int (x1)), some (.int (0)), none]) dX0_together_1 (by decide) rfl ?_
  refine x_iconst (pc := 2) (v := 0) dX0_together_2 (by decide) ?_
  refine x_istore_n (pc := 3) (ls' := [some (va_rf (x0)), some (.int (x1)), some (.int (0)), some (.int (0))]) dX0_together_3 (by decide) rfl ?_
  exact tg_X0_together_4  NN hf

def g_X0_owner_5 : Nat → AH → Option Nat → Int32 → Int32 → Int32 → Option (Int32 × AH)
  | 0, _, _, _, _, _ => none
  | n + 1, h, x0, x1, x3, x4 =>
    bd (isO h x0 0) fun _ =>
    bd2 (f_X0_size h x0) fun v8 h8 =>
    if v8 ≤ x4 then (
      some (0, h8)
    ) else (
      bd2 (f_X7_holds h8 x1 x4) fun v17 h17 =>
      if v17 = 0 then (
        g_X0_owner_5  n h17 x0 x1 x3 (x4 + 1)
      ) else (
        bd (gR h17 x0 0 1) fun v25 =>
        bd (ldI h17 v25 x4) fun v30 =>
        if v30 ≤ x3 then (
          bd (gR h17 x0 0 1) fun v39 =>
          bd (ldI h17 v39 x4) fun v44 =>
          g_X0_owner_5  n h17 x0 x1 (x3 - v44) (x4 + 1)
        ) else (
          some (x4, h17)
        )
      )
    )

set_option maxRecDepth 100000 in
set_option maxHeartbeats 4000000 in
theorem tg_X0_owner_5 {g : GT} : ∀ (n : Nat) {h : AH} {x0 : Option Nat} {x1 : Int32} {x3 : Int32} {x4 : Int32} {r : Int32} {h' : AH}, g_X0_owner_5 n h x0 x1 x3 x4 = some (r, h') → Xj g mX0_owner h 5 [some (va_rf (x0)), some (.int (x1)), none, some (.int (x3)), some (.int (x4))] [] (some (.int r)) h' := by
  intro n
  induction n with
  | zero =>
    intros
    rename_i z
    cases z
  | succ n ih =>
    intro h x0 x1 x3 x4 r h' hf
    rw [g_X0_owner_5] at hf
    refine x_iload (pc := 5) (x := x4) dX0_owner_5 rfl ?_
    refine x_aload_n (pc := 7) (a := x0) dX0_owner_7 rfl ?_
    replace hf := bd_s hf; obtain ⟨u8, i8, hf⟩ := hf
    replace hf := bd2_s hf; obtain ⟨v8, h8, e8, hf⟩ := hf
    refine x_cVi (pc := 8) (M' := mX0_size) (as := []) (st := [.int (x4)]) (a := x0) (ci := 0) dX0_owner_8 mo_X0_size lk_0_19 im_X0_size se_X0_size rfl (by decide) rfl (by decide) rfl i8 (tm_X0_size e8) ?_
    refine x_icmp_ge (pc := 11) (tgt := 53) (x := x4) (y := v8) dX0_owner_11 rfl (fun hc => ?_) (fun hc => ?_)
    · replace hf := it_t hc hf
      refine x_iconst (pc := 53) (v := 0) dX0_owner_53 (by decide) ?_
      obtain ⟨rfl, rfl⟩ := ret_s hf
      exact x_reti (pc := 54) dX0_owner_54 rfl
    · replace hf := it_f hc hf
      refine x_iload_n (pc := 14) (x := x1) dX0_owner_14 rfl ?_
      refine x_iload (pc := 15) (x := x4) dX0_owner_15 rfl ?_
      replace hf := bd2_s hf; obtain ⟨v17, h17, e17, hf⟩ := hf
      refine x_cNi (pc := 17) (M' := mX7_holds) (as := [.int (x1), .int (x4)]) (st := []) dX0_owner_17 mo_X7_holds lk_0_23 sm_X7_holds (by decide) rfl (by decide) rfl (tm_X7_holds e17) ?_
      refine x_if_eq (pc := 20) (tgt := 47) (x := v17) dX0_owner_20 rfl (fun hc => ?_) (fun hc => ?_)
      · replace hf := it_t hc hf
        refine x_iinc (pc := 47) (x := x4) (v := x4 + 1) (ls' := [some (va_rf (x0)), some (.int (x1)), none, some (.int (x3)), some (.int (x4 + 1))]) dX0_owner_47 rfl rfl (by decide) rfl ?_
        refine x_goto (pc := 50) (tgt := 5) dX0_owner_50 rfl ?_
        exact ih hf
      · replace hf := it_f hc hf
        refine x_iload_n (pc := 23) (x := x3) dX0_owner_23 rfl ?_
        refine x_aload_n (pc := 24) (a := x0) dX0_owner_24 rfl ?_
        replace hf := bd_s hf; obtain ⟨v25, e25, hf⟩ := hf
        refine x_getR (pc := 25) dX0_owner_25 fl_0_13 e25 ?_
        refine x_iload (pc := 28) (x := x4) dX0_owner_28 rfl ?_
        replace hf := bd_s hf; obtain ⟨v30, e30, hf⟩ := hf
        refine x_ldI (pc := 30) dX0_owner_30 e30 ?_
        refine x_icmp_ge (pc := 31) (tgt := 37) (x := x3) (y := v30) dX0_owner_31 rfl (fun hc => ?_) (fun hc => ?_)
        · replace hf := it_t hc hf
          refine x_iload_n (pc := 37) (x := x3) dX0_owner_37 rfl ?_
          refine x_aload_n (pc := 38) (a := x0) dX0_owner_38 rfl ?_
          replace hf := bd_s hf; obtain ⟨v39, e39, hf⟩ := hf
          refine x_getR (pc := 39) dX0_owner_39 fl_0_13 e39 ?_
          refine x_iload (pc := 42) (x := x4) dX0_owner_42 rfl ?_
          replace hf := bd_s hf; obtain ⟨v44, e44, hf⟩ := hf
          refine x_ldI (pc := 44) dX0_owner_44 e44 ?_
          refine x_isub (pc := 45) dX0_owner_45 ?_
          refine x_istore_n (pc := 46) (ls' := [some (va_rf (x0)), some (.int (x1)), none, some (.int (x3 - v44)), some (.int (x4))]) dX0_owner_46 (by decide) rfl ?_
          refine x_iinc (pc := 47) (x := x4) (v := x4 + 1) (ls' := [some (va_rf (x0)), some (.int (x1)), none, some (.int (x3 - v44)), some (.int (x4 + 1))]) dX0_owner_47 rfl rfl (by decide) rfl ?_
          refine x_goto (pc := 50) (tgt := 5) dX0_owner_50 rfl ?_
          exact ih hf
        · replace hf := it_f hc hf
          refine x_iload (pc := 34) (x := x4) dX0_owner_34 rfl ?_
          obtain ⟨rfl, rfl⟩ := ret_s hf
          exact x_reti (pc := 36) dX0_owner_36 rfl

def f_X0_owner (h : AH) (x0 : Option Nat) (x1 : Int32) (x2 : Int32) : Option (Int32 × AH) :=
  g_X0_owner_5  NN h x0 x1 x2 0

set_option maxRecDepth 100000 in
set_option maxHeartbeats 4000000 in
theorem tm_X0_owner {g : GT} {h : AH} {x0 : Option Nat} {x1 : Int32} {x2 : Int32} {r : Int32} {h' : AH} (hf : f_X0_owner h x0 x1 x2 = some (r, h')) : Xm g mX0_owner [va_rf (x0), .int (x1), .int (x2)] h (some (.int r)) h' := by
  refine xm_of mo_X0_owner (by decide) (ls := [some (va_rf (x0)), some (.int (x1)), some (.int (x2)), none, none]) rfl ?_
  rw [f_X0_owner] at hf
  refine x_iload_n (pc := 0) (x := x2) dX0_owner_0 rfl ?_
  refine x_istore_n (pc := 1) (ls' := [some (va_rf (x0)), some (.int (x1)), some (.int (x2)), some (.int (x2)), none]) dX0_owner_1 (by decide) rfl ?_
  refine x_iconst (pc := 2) (v := 0) dX0_owner_2 (by decide) ?_
  refine x_istore (pc := 3) (ls' := [some (va_rf (x0)), some (.int (x1)), some (.int (x2)), some (.int (x2)), some (.int (0))]) dX0_owner_3 (by decide) rfl ?_
  refine x_mask [true, true, false, true, true] rfl ?_
  exact tg_X0_owner_5  NN hf

def g_X0_draw_10 : Nat → AH → Option Nat → Int32 → Int32 → Int32 → Option AH
  | 0, _, _, _, _, _ => none
  | n + 1, h, x0, x2, x3, x4 =>
    bd (isO h x0 0) fun _ =>
    bd2 (f_X0_size h x0) fun v13 h13 =>
    if v13 ≤ x4 then (
      some h13
    ) else (
      bd (isO h13 x0 0) fun _ =>
      bd2 (f_X0_together h13 x0 x3) fun v35 h35 =>
      bd (rm ((((1103515245 * x2) + 12345 : Int32).toUInt32 >>> ((16 : Int32).toUInt32 &&& Int32.toUInt32 31)).toInt32) (if 1 < v35 then v35 else 1)) fun v41 =>
      bd (isO h35 x0 0) fun _ =>
      bd2 (f_X0_owner h35 x0 x3 v41) fun v48 h48 =>
      bd (gR h48 x0 0 2) fun v54 =>
      bd (stI h48 v54 x4 v48) fun h61 =>
      g_X0_draw_10  n h61 x0 ((1103515245 * x2) + 12345) (x3 &&& ((1 <<< (v48 &&& 31)) ^^^ (-1))) (x4 + 1)
    )

set_option maxRecDepth 100000 in
set_option maxHeartbeats 4000000 in
theorem tg_X0_draw_10 {g : GT} : ∀ (n : Nat) {h : AH} {x0 : Option Nat} {x2 : Int32} {x3 : Int32} {x4 : Int32} {h' : AH}, g_X0_draw_10 n h x0 x2 x3 x4 = some h' → Xj g mX0_draw h 10 [some (va_rf (x0)), none, some (.int (x2)), some (.int (x3)), some (.int (x4)), none, none] [] none h' := by
  intro n
  induction n with
  | zero =>
    intros
    rename_i z
    cases z
  | succ n ih =>
    intro h x0 x2 x3 x4 h' hf
    rw [g_X0_draw_10] at hf
    refine x_iload (pc := 10) (x := x4) dX0_draw_10 rfl ?_
    refine x_aload_n (pc := 12) (a := x0) dX0_draw_12 rfl ?_
    replace hf := bd_s hf; obtain ⟨u13, i13, hf⟩ := hf
    replace hf := bd2_s hf; obtain ⟨v13, h13, e13, hf⟩ := hf
    refine x_cVi (pc := 13) (M' := mX0_size) (as := []) (st := [.int (x4)]) (a := x0) (ci := 0) dX0_draw_13 mo_X0_size lk_0_19 im_X0_size se_X0_size rfl (by decide) rfl (by decide) rfl i13 (tm_X0_size e13) ?_
    refine x_icmp_ge (pc := 16) (tgt := 77) (x := x4) (y := v13) dX0_draw_16 rfl (fun hc => ?_) (fun hc => ?_)
    · replace hf := it_t hc hf
      obtain rfl := Option.some.inj hf
      exact x_vret (pc := 77) dX0_draw_77 rfl
    · replace hf := it_f hc hf
      refine x_ldc (pc := 19) (v := 1103515245) dX0_draw_19 kc_0_32 ?_
      refine x_iload_n (pc := 21) (x := x2) dX0_draw_21 rfl ?_
      refine x_imul (pc := 22) dX0_draw_22 ?_
      refine x_sipush (pc := 23) (v := 12345) dX0_draw_23 (by decide) ?_
      refine x_iadd (pc := 26) dX0_draw_26 ?_
      refine x_istore_n (pc := 27) (ls' := [some (va_rf (x0)), none, some (.int ((1103515245 * x2) + 12345)), some (.int (x3)), some (.int (x4)), none, none]) dX0_draw_27 (by decide) rfl ?_
      refine x_iload_n (pc := 28) (x := (1103515245 * x2) + 12345) dX0_draw_28 rfl ?_
      refine x_bipush (pc := 29) (v := 16) dX0_draw_29 (by decide) ?_
      refine x_iushr (pc := 31) dX0_draw_31 ?_
      refine x_iconst (pc := 32) (v := 1) dX0_draw_32 (by decide) ?_
      refine x_aload_n (pc := 33) (a := x0) dX0_draw_33 rfl ?_
      refine x_iload_n (pc := 34) (x := x3) dX0_draw_34 rfl ?_
      replace hf := bd_s hf; obtain ⟨u35, i35, hf⟩ := hf
      replace hf := bd2_s hf; obtain ⟨v35, h35, e35, hf⟩ := hf
      refine x_cVi (pc := 35) (M' := mX0_together) (as := [.int (x3)]) (st := [.int (1), .int (((((1103515245 * x2) + 12345 : Int32).toUInt32 >>> ((16 : Int32).toUInt32 &&& Int32.toUInt32 31)).toInt32))]) (a := x0) (ci := 0) dX0_draw_35 mo_X0_together lk_0_33 im_X0_together se_X0_together rfl (by decide) rfl (by decide) rfl i35 (tm_X0_together e35) ?_
      refine x_max (pc := 38) dX0_draw_38 lm_0_37 ma_max_1 ma_0 ma_max_2 (by decide) (by decide) ?_
      replace hf := bd_s hf; obtain ⟨v41, e41, hf⟩ := hf
      refine x_rm (pc := 41) dX0_draw_41 e41 ?_
      refine x_istore (pc := 42) (ls' := [some (va_rf (x0)), none, some (.int ((1103515245 * x2) + 12345)), some (.int (x3)), some (.int (x4)), some (.int (v41)), none]) dX0_draw_42 (by decide) rfl ?_
      refine x_aload_n (pc := 44) (a := x0) dX0_draw_44 rfl ?_
      refine x_iload_n (pc := 45) (x := x3) dX0_draw_45 rfl ?_
      refine x_iload (pc := 46) (x := v41) dX0_draw_46 rfl ?_
      replace hf := bd_s hf; obtain ⟨u48, i48, hf⟩ := hf
      replace hf := bd2_s hf; obtain ⟨v48, h48, e48, hf⟩ := hf
      refine x_cVi (pc := 48) (M' := mX0_owner) (as := [.int (x3), .int (v41)]) (st := []) (a := x0) (ci := 0) dX0_draw_48 mo_X0_owner lk_0_43 im_X0_owner se_X0_owner rfl (by decide) rfl (by decide) rfl i48 (tm_X0_owner e48) ?_
      refine x_istore (pc := 51) (ls' := [some (va_rf (x0)), none, some (.int ((1103515245 * x2) + 12345)), some (.int (x3)), some (.int (x4)), some (.int (v41)), some (.int (v48))]) dX0_draw_51 (by decide) rfl ?_
      refine x_aload_n (pc := 53) (a := x0) dX0_draw_53 rfl ?_
      replace hf := bd_s hf; obtain ⟨v54, e54, hf⟩ := hf
      refine x_getR (pc := 54) dX0_draw_54 fl_0_16 e54 ?_
      refine x_iload (pc := 57) (x := x4) dX0_draw_57 rfl ?_
      refine x_iload (pc := 59) (x := v48) dX0_draw_59 rfl ?_
      replace hf := bd_s hf; obtain ⟨h61, e61, hf⟩ := hf
      refine x_stI (pc := 61) dX0_draw_61 e61 ?_
      refine x_iload_n (pc := 62) (x := x3) dX0_draw_62 rfl ?_
      refine x_iconst (pc := 63) (v := 1) dX0_draw_63 (by decide) ?_
      refine x_iload (pc := 64) (x := v48) dX0_draw_64 rfl ?_
      refine x_ishl (pc := 66) dX0_draw_66 ?_
      refine x_iconst (pc := 67) (v := -1) dX0_draw_67 (by decide) ?_
      refine x_ixor (pc := 68) dX0_draw_68 ?_
      refine x_iand (pc := 69) dX0_draw_69 ?_
      refine x_istore_n (pc := 70) (ls' := [some (va_rf (x0)), none, some (.int ((1103515245 * x2) + 12345)), some (.int (x3 &&& ((1 <<< (v48 &&& 31)) ^^^ (-1)))), some (.int (x4)), some (.int (v41)), some (.int (v48))]) dX0_draw_70 (by decide) rfl ?_
      refine x_iinc (pc := 71) (x := x4) (v := x4 + 1) (ls' := [some (va_rf (x0)), none, some (.int ((1103515245 * x2) + 12345)), some (.int (x3 &&& ((1 <<< (v48 &&& 31)) ^^^ (-1)))), some (.int (x4 + 1)), some (.int (v41)), some (.int (v48))]) dX0_draw_71 rfl rfl (by decide) rfl ?_
      refine x_goto (pc := 74) (tgt := 10) dX0_draw_74 rfl ?_
      refine x_mask [true, false, true, true, true, false, false] rfl ?_
      exact ih hf

def f_X0_draw (h : AH) (x0 : Option Nat) (x1 : Int32) : Option AH :=
  bd (isO h x0 0) fun _ =>
  bd2 (f_X0_everybody h x0) fun v3 h3 =>
  g_X0_draw_10  NN h3 x0 x1 v3 0

set_option maxRecDepth 100000 in
set_option maxHeartbeats 4000000 in
theorem tm_X0_draw {g : GT} {h : AH} {x0 : Option Nat} {x1 : Int32} {h' : AH} (hf : f_X0_draw h x0 x1 = some h') : Xm g mX0_draw [va_rf (x0), .int (x1)] h none h' := by
  refine xm_of mo_X0_draw (by decide) (ls := [some (va_rf (x0)), some (.int (x1)), none, none, none, none, none]) rfl ?_
  rw [f_X0_draw] at hf
  refine x_iload_n (pc := 0) (x := x1) dX0_draw_0 rfl ?_
  refine x_istore_n (pc := 1) (ls' := [some (va_rf (x0)), some (.int (x1)), some (.int (x1)), none, none, none, none]) dX0_draw_1 (by decide) rfl ?_
  refine x_aload_n (pc := 2) (a := x0) dX0_draw_2 rfl ?_
  replace hf := bd_s hf; obtain ⟨u3, i3, hf⟩ := hf
  replace hf := bd2_s hf; obtain ⟨v3, h3, e3, hf⟩ := hf
  refine x_cVi (pc := 3) (M' := mX0_everybody) (as := []) (st := []) (a := x0) (ci := 0) dX0_draw_3 mo_X0_everybody lk_0_29 im_X0_everybody se_X0_everybody rfl (by decide) rfl (by decide) rfl i3 (tm_X0_everybody e3) ?_
  refine x_istore_n (pc := 6) (ls' := [some (va_rf (x0)), some (.int (x1)), some (.int (x1)), some (.int (v3)), none, none, none]) dX0_draw_6 (by decide) rfl ?_
  refine x_iconst (pc := 7) (v := 0) dX0_draw_7 (by decide) ?_
  refine x_istore (pc := 8) (ls' := [some (va_rf (x0)), some (.int (x1)), some (.int (x1)), some (.int (v3)), some (.int (0)), none, none]) dX0_draw_8 (by decide) rfl ?_
  refine x_mask [true, false, true, true, true, false, false] rfl ?_
  exact tg_X0_draw_10  NN hf

def f_X0_init (h : AH) (x0 : Nat) : Option AH :=
  bd2 (nA h 0 1) fun v6 h6 =>
  bd (pR h6 (some x0) 0 0 v6) fun h8 =>
  bd2 (nA h8 0 12) fun v14 h14 =>
  bd (pR h14 (some x0) 0 1 v14) fun h16 =>
  bd2 (nA h16 0 12) fun v22 h22 =>
  bd (pR h22 (some x0) 0 2 v22) fun h24 =>
  some h24

set_option maxRecDepth 100000 in
set_option maxHeartbeats 4000000 in
theorem tm_X0_init {g : GT} {h : AH} {x0 : Nat} {h' : AH} (hf : f_X0_init h x0 = some h') : Xm g mX0_init [va_rf (some x0)] h none h' := by
  refine xm_of mo_X0_init (by decide) (ls := [some (va_rf (some x0))]) rfl ?_
  rw [f_X0_init] at hf
  refine x_aload_n (pc := 0) (a := some x0) dX0_init_0 rfl ?_
  refine x_objInit (pc := 1) dX0_init_1 lo_0_1 oi_1 oi_2 (by decide) (by decide) ?_
  refine x_aload_n (pc := 4) (a := some x0) dX0_init_4 rfl ?_
  refine x_iconst (pc := 5) (v := 1) dX0_init_5 (by decide) ?_
  replace hf := bd2_s hf; obtain ⟨v6, h6, e6, hf⟩ := hf
  refine x_nI (pc := 6) dX0_init_6 ac_int e6 ?_
  replace hf := bd_s hf; obtain ⟨h8, e8, hf⟩ := hf
  refine x_putR (pc := 8) dX0_init_8 fl_0_7 (fW_in rfl rfl) e8 ?_
  refine x_aload_n (pc := 11) (a := some x0) dX0_init_11 rfl ?_
  refine x_bipush (pc := 12) (v := 12) dX0_init_12 (by decide) ?_
  replace hf := bd2_s hf; obtain ⟨v14, h14, e14, hf⟩ := hf
  refine x_nI (pc := 14) dX0_init_14 ac_int e14 ?_
  replace hf := bd_s hf; obtain ⟨h16, e16, hf⟩ := hf
  refine x_putR (pc := 16) dX0_init_16 fl_0_13 (fW_in rfl rfl) e16 ?_
  refine x_aload_n (pc := 19) (a := some x0) dX0_init_19 rfl ?_
  refine x_bipush (pc := 20) (v := 12) dX0_init_20 (by decide) ?_
  replace hf := bd2_s hf; obtain ⟨v22, h22, e22, hf⟩ := hf
  refine x_nI (pc := 22) dX0_init_22 ac_int e22 ?_
  replace hf := bd_s hf; obtain ⟨h24, e24, hf⟩ := hf
  refine x_putR (pc := 24) dX0_init_24 fl_0_16 (fW_in rfl rfl) e24 ?_
  obtain rfl := Option.some.inj hf
  exact x_vret (pc := 27) dX0_init_27 rfl

def g_X0_placeOf_4 : Nat → AH → Option Nat → Int32 → Int32 → Int32 → Option (Int32 × AH)
  | 0, _, _, _, _, _ => none
  | n + 1, h, x0, x1, x2, x3 =>
    bd (isO h x0 0) fun _ =>
    bd2 (f_X0_size h x0) fun v6 h6 =>
    if v6 ≤ x3 then (
      some (x2, h6)
    ) else (
      bd (gR h6 x0 0 2) fun v13 =>
      bd (ldI h6 v13 x3) fun v17 =>
      if ¬ v17 = x1 then (
        g_X0_placeOf_4  n h6 x0 x1 x2 (x3 + 1)
      ) else (
        g_X0_placeOf_4  n h6 x0 x1 x3 (x3 + 1)
      )
    )

set_option maxRecDepth 100000 in
set_option maxHeartbeats 4000000 in
theorem tg_X0_placeOf_4 {g : GT} : ∀ (n : Nat) {h : AH} {x0 : Option Nat} {x1 : Int32} {x2 : Int32} {x3 : Int32} {r : Int32} {h' : AH}, g_X0_placeOf_4 n h x0 x1 x2 x3 = some (r, h') → Xj g mX0_placeOf h 4 [some (va_rf (x0)), some (.int (x1)), some (.int (x2)), some (.int (x3))] [] (some (.int r)) h' := by
  intro n
  induction n with
  | zero =>
    intros
    rename_i z
    cases z
  | succ n ih =>
    intro h x0 x1 x2 x3 r h' hf
    rw [g_X0_placeOf_4] at hf
    refine x_iload_n (pc := 4) (x := x3) dX0_placeOf_4 rfl ?_
    refine x_aload_n (pc := 5) (a := x0) dX0_placeOf_5 rfl ?_
    replace hf := bd_s hf; obtain ⟨u6, i6, hf⟩ := hf
    replace hf := bd2_s hf; obtain ⟨v6, h6, e6, hf⟩ := hf
    refine x_cVi (pc := 6) (M' := mX0_size) (as := []) (st := [.int (x3)]) (a := x0) (ci := 0) dX0_placeOf_6 mo_X0_size lk_0_19 im_X0_size se_X0_size rfl (by decide) rfl (by decide) rfl i6 (tm_X0_size e6) ?_
    refine x_icmp_ge (pc := 9) (tgt := 30) (x := x3) (y := v6) dX0_placeOf_9 rfl (fun hc => ?_) (fun hc => ?_)
    · replace hf := it_t hc hf
      refine x_iload_n (pc := 30) (x := x2) dX0_placeOf_30 rfl ?_
      obtain ⟨rfl, rfl⟩ := ret_s hf
      exact x_reti (pc := 31) dX0_placeOf_31 rfl
    · replace hf := it_f hc hf
      refine x_aload_n (pc := 12) (a := x0) dX0_placeOf_12 rfl ?_
      replace hf := bd_s hf; obtain ⟨v13, e13, hf⟩ := hf
      refine x_getR (pc := 13) dX0_placeOf_13 fl_0_16 e13 ?_
      refine x_iload_n (pc := 16) (x := x3) dX0_placeOf_16 rfl ?_
      replace hf := bd_s hf; obtain ⟨v17, e17, hf⟩ := hf
      refine x_ldI (pc := 17) dX0_placeOf_17 e17 ?_
      refine x_iload_n (pc := 18) (x := x1) dX0_placeOf_18 rfl ?_
      refine x_icmp_ne (pc := 19) (tgt := 24) (x := v17) (y := x1) dX0_placeOf_19 rfl (fun hc => ?_) (fun hc => ?_)
      · replace hf := it_t hc hf
        refine x_iinc (pc := 24) (x := x3) (v := x3 + 1) (ls' := [some (va_rf (x0)), some (.int (x1)), some (.int (x2)), some (.int (x3 + 1))]) dX0_placeOf_24 rfl rfl (by decide) rfl ?_
        refine x_goto (pc := 27) (tgt := 4) dX0_placeOf_27 rfl ?_
        exact ih hf
      · replace hf := it_n hc hf
        refine x_iload_n (pc := 22) (x := x3) dX0_placeOf_22 rfl ?_
        refine x_istore_n (pc := 23) (ls' := [some (va_rf (x0)), some (.int (x1)), some (.int (x3)), some (.int (x3))]) dX0_placeOf_23 (by decide) rfl ?_
        refine x_iinc (pc := 24) (x := x3) (v := x3 + 1) (ls' := [some (va_rf (x0)), some (.int (x1)), some (.int (x3)), some (.int (x3 + 1))]) dX0_placeOf_24 rfl rfl (by decide) rfl ?_
        refine x_goto (pc := 27) (tgt := 4) dX0_placeOf_27 rfl ?_
        exact ih hf

def f_X0_placeOf (h : AH) (x0 : Option Nat) (x1 : Int32) : Option (Int32 × AH) :=
  g_X0_placeOf_4  NN h x0 x1 0 0

set_option maxRecDepth 100000 in
set_option maxHeartbeats 4000000 in
theorem tm_X0_placeOf {g : GT} {h : AH} {x0 : Option Nat} {x1 : Int32} {r : Int32} {h' : AH} (hf : f_X0_placeOf h x0 x1 = some (r, h')) : Xm g mX0_placeOf [va_rf (x0), .int (x1)] h (some (.int r)) h' := by
  refine xm_of mo_X0_placeOf (by decide) (ls := [some (va_rf (x0)), some (.int (x1)), none, none]) rfl ?_
  rw [f_X0_placeOf] at hf
  refine x_iconst (pc := 0) (v := 0) dX0_placeOf_0 (by decide) ?_
  refine x_istore_n (pc := 1) (ls' := [some (va_rf (x0)), some (.int (x1)), some (.int (0)), none]) dX0_placeOf_1 (by decide) rfl ?_
  refine x_iconst (pc := 2) (v := 0) dX0_placeOf_2 (by decide) ?_
  refine x_istore_n (pc := 3) (ls' := [some (va_rf (x0)), some (.int (x1)), some (.int (0)), some (.int (0))]) dX0_placeOf_3 (by decide) rfl ?_
  exact tg_X0_placeOf_4  NN hf

def f_X2_bringBack (h : AH) (x0 : Option Nat) : Option AH :=
  bd (gR h x0 2 0) fun v1 =>
  match v1 with
  | none => (
    some h
  )
  | some _ => (
    bd (gR h x0 2 3) fun v8 =>
    bd (gR h x0 2 0) fun v13 =>
    bd (gI h x0 2 1) fun v17 =>
    bd (gI h x0 2 2) fun v21 =>
    bd (cpI h v8 0 v13 v17 v21) fun h24 =>
    some h24
  )

set_option maxRecDepth 100000 in
set_option maxHeartbeats 4000000 in
theorem tm_X2_bringBack {g : GT} {h : AH} {x0 : Option Nat} {h' : AH} (hf : f_X2_bringBack h x0 = some h') : Xm g mX2_bringBack [va_rf (x0)] h none h' := by
  refine xm_of mo_X2_bringBack (by decide) (ls := [some (va_rf (x0))]) rfl ?_
  rw [f_X2_bringBack] at hf
  refine x_aload_n (pc := 0) (a := x0) dX2_bringBack_0 rfl ?_
  replace hf := bd_s hf; obtain ⟨v1, e1, hf⟩ := hf
  refine x_getR (pc := 1) dX2_bringBack_1 fl_2_7 e1 ?_
  cases q4 : v1 with
  | none =>
    rw [q4] at hf
    refine x_ifnullN (pc := 4) (tgt := 27) dX2_bringBack_4 rfl ?_
    obtain rfl := Option.some.inj hf
    exact x_vret (pc := 27) dX2_bringBack_27 rfl
  | some w4 =>
    rw [q4] at hf
    refine x_ifnull (pc := 4) dX2_bringBack_4 ?_
    refine x_aload_n (pc := 7) (a := x0) dX2_bringBack_7 rfl ?_
    replace hf := bd_s hf; obtain ⟨v8, e8, hf⟩ := hf
    refine x_getR (pc := 8) dX2_bringBack_8 fl_2_20 e8 ?_
    refine x_iconst (pc := 11) (v := 0) dX2_bringBack_11 (by decide) ?_
    refine x_aload_n (pc := 12) (a := x0) dX2_bringBack_12 rfl ?_
    replace hf := bd_s hf; obtain ⟨v13, e13, hf⟩ := hf
    refine x_getR (pc := 13) dX2_bringBack_13 fl_2_7 e13 ?_
    refine x_aload_n (pc := 16) (a := x0) dX2_bringBack_16 rfl ?_
    replace hf := bd_s hf; obtain ⟨v17, e17, hf⟩ := hf
    refine x_getI (pc := 17) dX2_bringBack_17 fl_2_13 e17 ?_
    refine x_aload_n (pc := 20) (a := x0) dX2_bringBack_20 rfl ?_
    replace hf := bd_s hf; obtain ⟨v21, e21, hf⟩ := hf
    refine x_getI (pc := 21) dX2_bringBack_21 fl_2_17 e21 ?_
    replace hf := bd_s hf; obtain ⟨h24, e24, hf⟩ := hf
    refine x_copy (pc := 24) dX2_bringBack_24 la_2_25 cp_1 cp_2 cp_3 (by decide) (by decide) e24 ?_
    obtain rfl := Option.some.inj hf
    exact x_vret (pc := 27) dX2_bringBack_27 rfl

def f_X1_bringBack (h : AH) (x0 : Option Nat) : Option (Int32 × AH) :=
  bd (gI h x0 1 2) fun v1 =>
  if ¬ v1 = 0 then (
    bd (gI h x0 1 1) fun v11 =>
    bd (rm ((v11 + 20) - 1) 20) fun v21 =>
    bd (pI h x0 1 1 v21) fun h22 =>
    bd (gI h22 x0 1 2) fun v27 =>
    bd (pI h22 x0 1 2 (v27 - 1)) fun h32 =>
    bd (gR h32 x0 1 0) fun v36 =>
    bd (gI h32 x0 1 1) fun v40 =>
    bd (ldR h32 v36 3 v40) fun v43 =>
    bd (isO h32 v43 2) fun _ =>
    bd (f_X2_bringBack h32 v43) fun h44 =>
    some (1, h44)
  ) else (
    some (0, h)
  )

set_option maxRecDepth 100000 in
set_option maxHeartbeats 4000000 in
theorem tm_X1_bringBack {g : GT} {h : AH} {x0 : Option Nat} {r : Int32} {h' : AH} (hf : f_X1_bringBack h x0 = some (r, h')) : Xm g mX1_bringBack [va_rf (x0)] h (some (.int r)) h' := by
  refine xm_of mo_X1_bringBack (by decide) (ls := [some (va_rf (x0))]) rfl ?_
  rw [f_X1_bringBack] at hf
  refine x_aload_n (pc := 0) (a := x0) dX1_bringBack_0 rfl ?_
  replace hf := bd_s hf; obtain ⟨v1, e1, hf⟩ := hf
  refine x_getI (pc := 1) dX1_bringBack_1 fl_1_19 e1 ?_
  refine x_if_ne (pc := 4) (tgt := 9) (x := v1) dX1_bringBack_4 rfl (fun hc => ?_) (fun hc => ?_)
  · replace hf := it_t hc hf
    refine x_aload_n (pc := 9) (a := x0) dX1_bringBack_9 rfl ?_
    refine x_aload_n (pc := 10) (a := x0) dX1_bringBack_10 rfl ?_
    replace hf := bd_s hf; obtain ⟨v11, e11, hf⟩ := hf
    refine x_getI (pc := 11) dX1_bringBack_11 fl_1_15 e11 ?_
    refine x_bipush (pc := 14) (v := 20) dX1_bringBack_14 (by decide) ?_
    refine x_iadd (pc := 16) dX1_bringBack_16 ?_
    refine x_iconst (pc := 17) (v := 1) dX1_bringBack_17 (by decide) ?_
    refine x_isub (pc := 18) dX1_bringBack_18 ?_
    refine x_bipush (pc := 19) (v := 20) dX1_bringBack_19 (by decide) ?_
    replace hf := bd_s hf; obtain ⟨v21, e21, hf⟩ := hf
    refine x_rm (pc := 21) dX1_bringBack_21 e21 ?_
    replace hf := bd_s hf; obtain ⟨h22, e22, hf⟩ := hf
    refine x_putI (pc := 22) dX1_bringBack_22 fl_1_15 (fW_no rfl) e22 ?_
    refine x_aload_n (pc := 25) (a := x0) dX1_bringBack_25 rfl ?_
    refine x_dup (pc := 26) dX1_bringBack_26 ?_
    replace hf := bd_s hf; obtain ⟨v27, e27, hf⟩ := hf
    refine x_getI (pc := 27) dX1_bringBack_27 fl_1_19 e27 ?_
    refine x_iconst (pc := 30) (v := 1) dX1_bringBack_30 (by decide) ?_
    refine x_isub (pc := 31) dX1_bringBack_31 ?_
    replace hf := bd_s hf; obtain ⟨h32, e32, hf⟩ := hf
    refine x_putI (pc := 32) dX1_bringBack_32 fl_1_19 (fW_no rfl) e32 ?_
    refine x_aload_n (pc := 35) (a := x0) dX1_bringBack_35 rfl ?_
    replace hf := bd_s hf; obtain ⟨v36, e36, hf⟩ := hf
    refine x_getR (pc := 36) dX1_bringBack_36 fl_1_11 e36 ?_
    refine x_aload_n (pc := 39) (a := x0) dX1_bringBack_39 rfl ?_
    replace hf := bd_s hf; obtain ⟨v40, e40, hf⟩ := hf
    refine x_getI (pc := 40) dX1_bringBack_40 fl_1_15 e40 ?_
    replace hf := bd_s hf; obtain ⟨v43, e43, hf⟩ := hf
    refine x_ldR (pc := 43) (by decide) dX1_bringBack_43 e43 ?_
    replace hf := bd_s hf; obtain ⟨u44, i44, hf⟩ := hf
    replace hf := bd_s hf; obtain ⟨h44, e44, hf⟩ := hf
    refine x_cVv (pc := 44) (M' := mX2_bringBack) (as := []) (st := []) (a := v43) (ci := 2) dX1_bringBack_44 mo_X2_bringBack lk_1_33 im_X2_bringBack se_X2_bringBack rfl (by decide) rfl (by decide) rfl i44 (tm_X2_bringBack e44) ?_
    refine x_iconst (pc := 47) (v := 1) dX1_bringBack_47 (by decide) ?_
    obtain ⟨rfl, rfl⟩ := ret_s hf
    exact x_retz (pc := 48) dX1_bringBack_48 rfl (by decide)
  · replace hf := it_n hc hf
    refine x_iconst (pc := 7) (v := 0) dX1_bringBack_7 (by decide) ?_
    obtain ⟨rfl, rfl⟩ := ret_s hf
    exact x_retz (pc := 8) dX1_bringBack_8 rfl (by decide)

def f_X2_init (h : AH) (x0 : Nat) : Option AH :=
  bd (pR h (some x0) 2 0 none) fun h6 =>
  bd (pI h6 (some x0) 2 1 0) fun h11 =>
  bd (pI h11 (some x0) 2 2 0) fun h16 =>
  bd2 (nA h16 0 1) fun v21 h21 =>
  bd (pR h21 (some x0) 2 3 v21) fun h23 =>
  some h23

set_option maxRecDepth 100000 in
set_option maxHeartbeats 4000000 in
theorem tm_X2_init {g : GT} {h : AH} {x0 : Nat} {h' : AH} (hf : f_X2_init h x0 = some h') : Xm g mX2_init [va_rf (some x0)] h none h' := by
  refine xm_of mo_X2_init (by decide) (ls := [some (va_rf (some x0))]) rfl ?_
  rw [f_X2_init] at hf
  refine x_aload_n (pc := 0) (a := some x0) dX2_init_0 rfl ?_
  refine x_objInit (pc := 1) dX2_init_1 lo_2_1 oi_1 oi_2 (by decide) (by decide) ?_
  refine x_aload_n (pc := 4) (a := some x0) dX2_init_4 rfl ?_
  refine x_null (pc := 5) dX2_init_5 ?_
  replace hf := bd_s hf; obtain ⟨h6, e6, hf⟩ := hf
  refine x_putR (pc := 6) dX2_init_6 fl_2_7 (fW_no rfl) e6 ?_
  refine x_aload_n (pc := 9) (a := some x0) dX2_init_9 rfl ?_
  refine x_iconst (pc := 10) (v := 0) dX2_init_10 (by decide) ?_
  replace hf := bd_s hf; obtain ⟨h11, e11, hf⟩ := hf
  refine x_putI (pc := 11) dX2_init_11 fl_2_13 (fW_no rfl) e11 ?_
  refine x_aload_n (pc := 14) (a := some x0) dX2_init_14 rfl ?_
  refine x_iconst (pc := 15) (v := 0) dX2_init_15 (by decide) ?_
  replace hf := bd_s hf; obtain ⟨h16, e16, hf⟩ := hf
  refine x_putI (pc := 16) dX2_init_16 fl_2_17 (fW_no rfl) e16 ?_
  refine x_aload_n (pc := 19) (a := some x0) dX2_init_19 rfl ?_
  refine x_iconst (pc := 20) (v := 1) dX2_init_20 (by decide) ?_
  replace hf := bd2_s hf; obtain ⟨v21, h21, e21, hf⟩ := hf
  refine x_nI (pc := 21) dX2_init_21 ac_int e21 ?_
  replace hf := bd_s hf; obtain ⟨h23, e23, hf⟩ := hf
  refine x_putR (pc := 23) dX2_init_23 fl_2_20 (fW_no rfl) e23 ?_
  obtain rfl := Option.some.inj hf
  exact x_vret (pc := 26) dX2_init_26 rfl

def g_X1_init_25 : Nat → AH → Option Nat → Int32 → Option AH
  | 0, _, _, _ => none
  | n + 1, h, x0, x1 =>
    if 20 ≤ x1 then (
      some h
    ) else (
      bd (gR h x0 1 0) fun v32 =>
      bd (nO h 2 4) fun h36 =>
      bd (f_X2_init h36 (hn h)) fun h40 =>
      bd (stR h40 v32 3 2 x1 (some (hn h))) fun h43 =>
      g_X1_init_25  n h43 x0 (x1 + 1)
    )

set_option maxRecDepth 100000 in
set_option maxHeartbeats 4000000 in
theorem tg_X1_init_25 {g : GT} : ∀ (n : Nat) {h : AH} {x0 : Option Nat} {x1 : Int32} {h' : AH}, g_X1_init_25 n h x0 x1 = some h' → Xj g mX1_init h 25 [some (va_rf (x0)), some (.int (x1))] [] none h' := by
  intro n
  induction n with
  | zero =>
    intros
    rename_i z
    cases z
  | succ n ih =>
    intro h x0 x1 h' hf
    rw [g_X1_init_25] at hf
    refine x_iload_n (pc := 25) (x := x1) dX1_init_25 rfl ?_
    refine x_bipush (pc := 26) (v := 20) dX1_init_26 (by decide) ?_
    refine x_icmp_ge (pc := 28) (tgt := 50) (x := x1) (y := 20) dX1_init_28 rfl (fun hc => ?_) (fun hc => ?_)
    · replace hf := it_t hc hf
      obtain rfl := Option.some.inj hf
      exact x_vret (pc := 50) dX1_init_50 rfl
    · replace hf := it_f hc hf
      refine x_aload_n (pc := 31) (a := x0) dX1_init_31 rfl ?_
      replace hf := bd_s hf; obtain ⟨v32, e32, hf⟩ := hf
      refine x_getR (pc := 32) dX1_init_32 fl_1_11 e32 ?_
      refine x_iload_n (pc := 35) (x := x1) dX1_init_35 rfl ?_
      replace hf := bd_s hf; obtain ⟨h36, e36, hf⟩ := hf
      refine x_nO (pc := 36) dX1_init_36 nl_1_9 e36 ?_
      refine x_dup (pc := 39) dX1_init_39 ?_
      replace hf := bd_s hf; obtain ⟨h40, e40, hf⟩ := hf
      refine x_cIN (pc := 40) (M' := mX2_init) (as := []) (st := [va_rf (some (hn h)), .int (x1), va_rf (v32)]) (a := (hn h)) dX1_init_40 mo_X2_init lk_1_22 im_X2_init rfl rfl (by decide) rfl (by decide) rfl (tm_X2_init e40) ?_
      replace hf := bd_s hf; obtain ⟨h43, e43, hf⟩ := hf
      refine x_stR (pc := 43) (by decide) dX1_init_43 e43 ?_
      refine x_iinc (pc := 44) (x := x1) (v := x1 + 1) (ls' := [some (va_rf (x0)), some (.int (x1 + 1))]) dX1_init_44 rfl rfl (by decide) rfl ?_
      refine x_goto (pc := 47) (tgt := 25) dX1_init_47 rfl ?_
      exact ih hf

def f_X1_init (h : AH) (x0 : Nat) : Option AH :=
  bd2 (nA h 3 20) fun v7 h7 =>
  bd (pR h7 (some x0) 1 0 v7) fun h10 =>
  bd (pI h10 (some x0) 1 1 0) fun h15 =>
  bd (pI h15 (some x0) 1 2 0) fun h20 =>
  g_X1_init_25  NN h20 (some x0) 0

set_option maxRecDepth 100000 in
set_option maxHeartbeats 4000000 in
theorem tm_X1_init {g : GT} {h : AH} {x0 : Nat} {h' : AH} (hf : f_X1_init h x0 = some h') : Xm g mX1_init [va_rf (some x0)] h none h' := by
  refine xm_of mo_X1_init (by decide) (ls := [some (va_rf (some x0)), none]) rfl ?_
  rw [f_X1_init] at hf
  refine x_aload_n (pc := 0) (a := some x0) dX1_init_0 rfl ?_
  refine x_objInit (pc := 1) dX1_init_1 lo_1_1 oi_1 oi_2 (by decide) (by decide) ?_
  refine x_aload_n (pc := 4) (a := some x0) dX1_init_4 rfl ?_
  refine x_bipush (pc := 5) (v := 20) dX1_init_5 (by decide) ?_
  replace hf := bd2_s hf; obtain ⟨v7, h7, e7, hf⟩ := hf
  refine x_nR (pc := 7) (t := 3) (ci := 2) (q := (RX2, TX2, 4)) (by decide) dX1_init_7 (cl_1_9) e7 ?_
  replace hf := bd_s hf; obtain ⟨h10, e10, hf⟩ := hf
  refine x_putR (pc := 10) dX1_init_10 fl_1_11 (fW_in rfl rfl) e10 ?_
  refine x_aload_n (pc := 13) (a := some x0) dX1_init_13 rfl ?_
  refine x_iconst (pc := 14) (v := 0) dX1_init_14 (by decide) ?_
  replace hf := bd_s hf; obtain ⟨h15, e15, hf⟩ := hf
  refine x_putI (pc := 15) dX1_init_15 fl_1_15 (fW_no rfl) e15 ?_
  refine x_aload_n (pc := 18) (a := some x0) dX1_init_18 rfl ?_
  refine x_iconst (pc := 19) (v := 0) dX1_init_19 (by decide) ?_
  replace hf := bd_s hf; obtain ⟨h20, e20, hf⟩ := hf
  refine x_putI (pc := 20) dX1_init_20 fl_1_19 (fW_no rfl) e20 ?_
  refine x_iconst (pc := 23) (v := 0) dX1_init_23 (by decide) ?_
  refine x_istore_n (pc := 24) (ls' := [some (va_rf (some x0)), some (.int (0))]) dX1_init_24 (by decide) rfl ?_
  exact tg_X1_init_25  NN hf

def j_X2_keep_28 (h : AH) (x0 : Option Nat) (x1 : Option Nat) (x2 : Int32) (x3 : Int32) : Option AH :=
  bd (pR h x0 2 0 x1) fun h30 =>
  bd (pI h30 x0 2 1 x2) fun h35 =>
  bd (pI h35 x0 2 2 x3) fun h40 =>
  bd (gR h40 x0 2 0) fun v44 =>
  bd (gI h40 x0 2 1) fun v48 =>
  bd (gR h40 x0 2 3) fun v52 =>
  bd (gI h40 x0 2 2) fun v57 =>
  bd (cpI h40 v44 v48 v52 0 v57) fun h60 =>
  some h60

set_option maxRecDepth 100000 in
set_option maxHeartbeats 4000000 in
theorem tj_X2_keep_28 {g : GT} {h : AH} {x0 : Option Nat} {x1 : Option Nat} {x2 : Int32} {x3 : Int32} {h' : AH} (hf : j_X2_keep_28 h x0 x1 x2 x3 = some h') : Xj g mX2_keep h 28 [some (va_rf (x0)), some (va_rf (x1)), some (.int (x2)), some (.int (x3))] [] none h' := by
  rw [j_X2_keep_28] at hf
  refine x_aload_n (pc := 28) (a := x0) dX2_keep_28 rfl ?_
  refine x_aload_n (pc := 29) (a := x1) dX2_keep_29 rfl ?_
  replace hf := bd_s hf; obtain ⟨h30, e30, hf⟩ := hf
  refine x_putR (pc := 30) dX2_keep_30 fl_2_7 (fW_no rfl) e30 ?_
  refine x_aload_n (pc := 33) (a := x0) dX2_keep_33 rfl ?_
  refine x_iload_n (pc := 34) (x := x2) dX2_keep_34 rfl ?_
  replace hf := bd_s hf; obtain ⟨h35, e35, hf⟩ := hf
  refine x_putI (pc := 35) dX2_keep_35 fl_2_13 (fW_no rfl) e35 ?_
  refine x_aload_n (pc := 38) (a := x0) dX2_keep_38 rfl ?_
  refine x_iload_n (pc := 39) (x := x3) dX2_keep_39 rfl ?_
  replace hf := bd_s hf; obtain ⟨h40, e40, hf⟩ := hf
  refine x_putI (pc := 40) dX2_keep_40 fl_2_17 (fW_no rfl) e40 ?_
  refine x_aload_n (pc := 43) (a := x0) dX2_keep_43 rfl ?_
  replace hf := bd_s hf; obtain ⟨v44, e44, hf⟩ := hf
  refine x_getR (pc := 44) dX2_keep_44 fl_2_7 e44 ?_
  refine x_aload_n (pc := 47) (a := x0) dX2_keep_47 rfl ?_
  replace hf := bd_s hf; obtain ⟨v48, e48, hf⟩ := hf
  refine x_getI (pc := 48) dX2_keep_48 fl_2_13 e48 ?_
  refine x_aload_n (pc := 51) (a := x0) dX2_keep_51 rfl ?_
  replace hf := bd_s hf; obtain ⟨v52, e52, hf⟩ := hf
  refine x_getR (pc := 52) dX2_keep_52 fl_2_20 e52 ?_
  refine x_iconst (pc := 55) (v := 0) dX2_keep_55 (by decide) ?_
  refine x_aload_n (pc := 56) (a := x0) dX2_keep_56 rfl ?_
  replace hf := bd_s hf; obtain ⟨v57, e57, hf⟩ := hf
  refine x_getI (pc := 57) dX2_keep_57 fl_2_17 e57 ?_
  replace hf := bd_s hf; obtain ⟨h60, e60, hf⟩ := hf
  refine x_copy (pc := 60) dX2_keep_60 la_2_25 cp_1 cp_2 cp_3 (by decide) (by decide) e60 ?_
  obtain rfl := Option.some.inj hf
  exact x_vret (pc := 63) dX2_keep_63 rfl

def j_X2_keep_23 (h : AH) (x0 : Option Nat) (x1 : Option Nat) (x2 : Int32) (x3 : Int32) (y0 : Option Nat) (y1 : Int32) : Option AH :=
  bd2 (nA h 0 y1) fun v23 h23 =>
  bd (pR h23 y0 2 3 v23) fun h25 =>
  j_X2_keep_28  h25 x0 x1 x2 x3

set_option maxRecDepth 100000 in
set_option maxHeartbeats 4000000 in
theorem tj_X2_keep_23 {g : GT} {h : AH} {x0 : Option Nat} {x1 : Option Nat} {x2 : Int32} {x3 : Int32} {y0 : Option Nat} {y1 : Int32} {h' : AH} (hf : j_X2_keep_23 h x0 x1 x2 x3 y0 y1 = some h') : Xj g mX2_keep h 23 [some (va_rf (x0)), some (va_rf (x1)), some (.int (x2)), some (.int (x3))] [.int (y1), va_rf (y0)] none h' := by
  rw [j_X2_keep_23] at hf
  replace hf := bd2_s hf; obtain ⟨v23, h23, e23, hf⟩ := hf
  refine x_nI (pc := 23) dX2_keep_23 ac_int e23 ?_
  replace hf := bd_s hf; obtain ⟨h25, e25, hf⟩ := hf
  refine x_putR (pc := 25) dX2_keep_25 fl_2_20 (fW_no rfl) e25 ?_
  exact tj_X2_keep_28  hf

def f_X2_keep (h : AH) (x0 : Option Nat) (x1 : Option Nat) (x2 : Int32) (x3 : Int32) : Option AH :=
  bd (gR h x0 2 3) fun v1 =>
  bd (lenA h v1) fun v4 =>
  if x3 ≤ v4 then (
    j_X2_keep_28  h x0 x1 x2 x3
  ) else (
    if 40 < x3 then (
      bd (lenA h x1) fun v22 =>
      j_X2_keep_23  h x0 x1 x2 x3 x0 v22
    ) else (
      j_X2_keep_23  h x0 x1 x2 x3 x0 40
    )
  )

set_option maxRecDepth 100000 in
set_option maxHeartbeats 4000000 in
theorem tm_X2_keep {g : GT} {h : AH} {x0 : Option Nat} {x1 : Option Nat} {x2 : Int32} {x3 : Int32} {h' : AH} (hf : f_X2_keep h x0 x1 x2 x3 = some h') : Xm g mX2_keep [va_rf (x0), va_rf (x1), .int (x2), .int (x3)] h none h' := by
  refine xm_of mo_X2_keep (by decide) (ls := [some (va_rf (x0)), some (va_rf (x1)), some (.int (x2)), some (.int (x3))]) rfl ?_
  rw [f_X2_keep] at hf
  refine x_aload_n (pc := 0) (a := x0) dX2_keep_0 rfl ?_
  replace hf := bd_s hf; obtain ⟨v1, e1, hf⟩ := hf
  refine x_getR (pc := 1) dX2_keep_1 fl_2_20 e1 ?_
  replace hf := bd_s hf; obtain ⟨v4, e4, hf⟩ := hf
  refine x_len (pc := 4) dX2_keep_4 e4 ?_
  refine x_iload_n (pc := 5) (x := x3) dX2_keep_5 rfl ?_
  refine x_icmp_ge (pc := 6) (tgt := 28) (x := v4) (y := x3) dX2_keep_6 rfl (fun hc => ?_) (fun hc => ?_)
  · replace hf := it_t hc hf
    exact tj_X2_keep_28  hf
  · replace hf := it_f hc hf
    refine x_aload_n (pc := 9) (a := x0) dX2_keep_9 rfl ?_
    refine x_iload_n (pc := 10) (x := x3) dX2_keep_10 rfl ?_
    refine x_bipush (pc := 11) (v := 40) dX2_keep_11 (by decide) ?_
    refine x_icmp_gt (pc := 13) (tgt := 21) (x := x3) (y := 40) dX2_keep_13 rfl (fun hc => ?_) (fun hc => ?_)
    · replace hf := it_t hc hf
      refine x_aload_n (pc := 21) (a := x1) dX2_keep_21 rfl ?_
      replace hf := bd_s hf; obtain ⟨v22, e22, hf⟩ := hf
      refine x_len (pc := 22) dX2_keep_22 e22 ?_
      exact tj_X2_keep_23  hf
    · replace hf := it_f hc hf
      refine x_bipush (pc := 16) (v := 40) dX2_keep_16 (by decide) ?_
      refine x_goto (pc := 18) (tgt := 23) dX2_keep_18 rfl ?_
      exact tj_X2_keep_23  hf

def f_X1_keep (h : AH) (x0 : Option Nat) (x1 : Option Nat) (x2 : Int32) (x3 : Int32) : Option AH :=
  bd (gR h x0 1 0) fun v1 =>
  bd (gI h x0 1 1) fun v5 =>
  bd (ldR h v1 3 v5) fun v8 =>
  bd (isO h v8 2) fun _ =>
  bd (f_X2_keep h v8 x1 x2 x3) fun h12 =>
  bd (gI h12 x0 1 1) fun v17 =>
  bd (rm (v17 + 1) 20) fun v24 =>
  bd (pI h12 x0 1 1 v24) fun h25 =>
  bd (gI h25 x0 1 2) fun v32 =>
  bd (pI h25 x0 1 2 (if (v32 + 1) < 20 then (v32 + 1) else 20)) fun h40 =>
  some h40

set_option maxRecDepth 100000 in
set_option maxHeartbeats 4000000 in
theorem tm_X1_keep {g : GT} {h : AH} {x0 : Option Nat} {x1 : Option Nat} {x2 : Int32} {x3 : Int32} {h' : AH} (hf : f_X1_keep h x0 x1 x2 x3 = some h') : Xm g mX1_keep [va_rf (x0), va_rf (x1), .int (x2), .int (x3)] h none h' := by
  refine xm_of mo_X1_keep (by decide) (ls := [some (va_rf (x0)), some (va_rf (x1)), some (.int (x2)), some (.int (x3))]) rfl ?_
  rw [f_X1_keep] at hf
  refine x_aload_n (pc := 0) (a := x0) dX1_keep_0 rfl ?_
  replace hf := bd_s hf; obtain ⟨v1, e1, hf⟩ := hf
  refine x_getR (pc := 1) dX1_keep_1 fl_1_11 e1 ?_
  refine x_aload_n (pc := 4) (a := x0) dX1_keep_4 rfl ?_
  replace hf := bd_s hf; obtain ⟨v5, e5, hf⟩ := hf
  refine x_getI (pc := 5) dX1_keep_5 fl_1_15 e5 ?_
  replace hf := bd_s hf; obtain ⟨v8, e8, hf⟩ := hf
  refine x_ldR (pc := 8) (by decide) dX1_keep_8 e8 ?_
  refine x_aload_n (pc := 9) (a := x1) dX1_keep_9 rfl ?_
  refine x_iload_n (pc := 10) (x := x2) dX1_keep_10 rfl ?_
  refine x_iload_n (pc := 11) (x := x3) dX1_keep_11 rfl ?_
  replace hf := bd_s hf; obtain ⟨u12, i12, hf⟩ := hf
  replace hf := bd_s hf; obtain ⟨h12, e12, hf⟩ := hf
  refine x_cVv (pc := 12) (M' := mX2_keep) (as := [va_rf (x1), .int (x2), .int (x3)]) (st := []) (a := v8) (ci := 2) dX1_keep_12 mo_X2_keep lk_1_23 im_X2_keep se_X2_keep rfl (by decide) rfl (by decide) rfl i12 (tm_X2_keep e12) ?_
  refine x_aload_n (pc := 15) (a := x0) dX1_keep_15 rfl ?_
  refine x_aload_n (pc := 16) (a := x0) dX1_keep_16 rfl ?_
  replace hf := bd_s hf; obtain ⟨v17, e17, hf⟩ := hf
  refine x_getI (pc := 17) dX1_keep_17 fl_1_15 e17 ?_
  refine x_iconst (pc := 20) (v := 1) dX1_keep_20 (by decide) ?_
  refine x_iadd (pc := 21) dX1_keep_21 ?_
  refine x_bipush (pc := 22) (v := 20) dX1_keep_22 (by decide) ?_
  replace hf := bd_s hf; obtain ⟨v24, e24, hf⟩ := hf
  refine x_rm (pc := 24) dX1_keep_24 e24 ?_
  replace hf := bd_s hf; obtain ⟨h25, e25, hf⟩ := hf
  refine x_putI (pc := 25) dX1_keep_25 fl_1_15 (fW_no rfl) e25 ?_
  refine x_aload_n (pc := 28) (a := x0) dX1_keep_28 rfl ?_
  refine x_bipush (pc := 29) (v := 20) dX1_keep_29 (by decide) ?_
  refine x_aload_n (pc := 31) (a := x0) dX1_keep_31 rfl ?_
  replace hf := bd_s hf; obtain ⟨v32, e32, hf⟩ := hf
  refine x_getI (pc := 32) dX1_keep_32 fl_1_19 e32 ?_
  refine x_iconst (pc := 35) (v := 1) dX1_keep_35 (by decide) ?_
  refine x_iadd (pc := 36) dX1_keep_36 ?_
  refine x_min (pc := 37) dX1_keep_37 lm_1_27 ma_min_1 ma_0 ma_min_2 (by decide) (by decide) ?_
  replace hf := bd_s hf; obtain ⟨h40, e40, hf⟩ := hf
  refine x_putI (pc := 40) dX1_keep_40 fl_1_19 (fW_no rfl) e40 ?_
  obtain rfl := Option.some.inj hf
  exact x_vret (pc := 43) dX1_keep_43 rfl

def f_X3_goers (h : AH) (x0 : Option Nat) (x1 : Int32) (x2 : Int32) (x3 : Int32) : Option (Int32 × AH) :=
  bd (gR h x0 3 3) fun v1 =>
  bd (ldI h v1 ((x1 * 15) + x3)) fun v10 =>
  bd (gR h x0 3 2) fun v12 =>
  bd (ldI h v12 (((x1 + 1) * 3) + x2)) fun v22 =>
  some (v10 &&& v22, h)

set_option maxRecDepth 100000 in
set_option maxHeartbeats 4000000 in
theorem tm_X3_goers {g : GT} {h : AH} {x0 : Option Nat} {x1 : Int32} {x2 : Int32} {x3 : Int32} {r : Int32} {h' : AH} (hf : f_X3_goers h x0 x1 x2 x3 = some (r, h')) : Xm g mX3_goers [va_rf (x0), .int (x1), .int (x2), .int (x3)] h (some (.int r)) h' := by
  refine xm_of mo_X3_goers (by decide) (ls := [some (va_rf (x0)), some (.int (x1)), some (.int (x2)), some (.int (x3))]) rfl ?_
  rw [f_X3_goers] at hf
  refine x_aload_n (pc := 0) (a := x0) dX3_goers_0 rfl ?_
  replace hf := bd_s hf; obtain ⟨v1, e1, hf⟩ := hf
  refine x_getR (pc := 1) dX3_goers_1 fl_3_24 e1 ?_
  refine x_iload_n (pc := 4) (x := x1) dX3_goers_4 rfl ?_
  refine x_bipush (pc := 5) (v := 15) dX3_goers_5 (by decide) ?_
  refine x_imul (pc := 7) dX3_goers_7 ?_
  refine x_iload_n (pc := 8) (x := x3) dX3_goers_8 rfl ?_
  refine x_iadd (pc := 9) dX3_goers_9 ?_
  replace hf := bd_s hf; obtain ⟨v10, e10, hf⟩ := hf
  refine x_ldI (pc := 10) dX3_goers_10 e10 ?_
  refine x_aload_n (pc := 11) (a := x0) dX3_goers_11 rfl ?_
  replace hf := bd_s hf; obtain ⟨v12, e12, hf⟩ := hf
  refine x_getR (pc := 12) dX3_goers_12 fl_3_21 e12 ?_
  refine x_iload_n (pc := 15) (x := x1) dX3_goers_15 rfl ?_
  refine x_iconst (pc := 16) (v := 1) dX3_goers_16 (by decide) ?_
  refine x_iadd (pc := 17) dX3_goers_17 ?_
  refine x_iconst (pc := 18) (v := 3) dX3_goers_18 (by decide) ?_
  refine x_imul (pc := 19) dX3_goers_19 ?_
  refine x_iload_n (pc := 20) (x := x2) dX3_goers_20 rfl ?_
  refine x_iadd (pc := 21) dX3_goers_21 ?_
  replace hf := bd_s hf; obtain ⟨v22, e22, hf⟩ := hf
  refine x_ldI (pc := 22) dX3_goers_22 e22 ?_
  refine x_iand (pc := 23) dX3_goers_23 ?_
  obtain ⟨rfl, rfl⟩ := ret_s hf
  exact x_reti (pc := 24) dX3_goers_24 rfl

def g_X3_lowest_2 : Nat → AH → Int32 → Int32 → Option (Int32 × AH)
  | 0, _, _, _ => none
  | n + 1, h, x0, x1 =>
    if 14 ≤ x1 then (
      some (14, h)
    ) else (
      bd2 (f_X7_holds h x0 x1) fun v10 h10 =>
      if v10 = 0 then (
        g_X3_lowest_2  n h10 x0 (x1 + 1)
      ) else (
        some (x1, h10)
      )
    )

set_option maxRecDepth 100000 in
set_option maxHeartbeats 4000000 in
theorem tg_X3_lowest_2 {g : GT} : ∀ (n : Nat) {h : AH} {x0 : Int32} {x1 : Int32} {r : Int32} {h' : AH}, g_X3_lowest_2 n h x0 x1 = some (r, h') → Xj g mX3_lowest h 2 [some (.int (x0)), some (.int (x1))] [] (some (.int r)) h' := by
  intro n
  induction n with
  | zero =>
    intros
    rename_i z
    cases z
  | succ n ih =>
    intro h x0 x1 r h' hf
    rw [g_X3_lowest_2] at hf
    refine x_iload_n (pc := 2) (x := x1) dX3_lowest_2 rfl ?_
    refine x_bipush (pc := 3) (v := 14) dX3_lowest_3 (by decide) ?_
    refine x_icmp_ge (pc := 5) (tgt := 24) (x := x1) (y := 14) dX3_lowest_5 rfl (fun hc => ?_) (fun hc => ?_)
    · replace hf := it_t hc hf
      refine x_bipush (pc := 24) (v := 14) dX3_lowest_24 (by decide) ?_
      obtain ⟨rfl, rfl⟩ := ret_s hf
      exact x_reti (pc := 26) dX3_lowest_26 rfl
    · replace hf := it_f hc hf
      refine x_iload_n (pc := 8) (x := x0) dX3_lowest_8 rfl ?_
      refine x_iload_n (pc := 9) (x := x1) dX3_lowest_9 rfl ?_
      replace hf := bd2_s hf; obtain ⟨v10, h10, e10, hf⟩ := hf
      refine x_cNi (pc := 10) (M' := mX7_holds) (as := [.int (x0), .int (x1)]) (st := []) dX3_lowest_10 mo_X7_holds lk_3_86 sm_X7_holds (by decide) rfl (by decide) rfl (tm_X7_holds e10) ?_
      refine x_if_eq (pc := 13) (tgt := 18) (x := v10) dX3_lowest_13 rfl (fun hc => ?_) (fun hc => ?_)
      · replace hf := it_t hc hf
        refine x_iinc (pc := 18) (x := x1) (v := x1 + 1) (ls' := [some (.int (x0)), some (.int (x1 + 1))]) dX3_lowest_18 rfl rfl (by decide) rfl ?_
        refine x_goto (pc := 21) (tgt := 2) dX3_lowest_21 rfl ?_
        exact ih hf
      · replace hf := it_f hc hf
        refine x_iload_n (pc := 16) (x := x1) dX3_lowest_16 rfl ?_
        obtain ⟨rfl, rfl⟩ := ret_s hf
        exact x_reti (pc := 17) dX3_lowest_17 rfl

def f_X3_lowest (h : AH) (x0 : Int32) : Option (Int32 × AH) :=
  g_X3_lowest_2  NN h x0 0

set_option maxRecDepth 100000 in
set_option maxHeartbeats 4000000 in
theorem tm_X3_lowest {g : GT} {h : AH} {x0 : Int32} {r : Int32} {h' : AH} (hf : f_X3_lowest h x0 = some (r, h')) : Xm g mX3_lowest [.int (x0)] h (some (.int r)) h' := by
  refine xm_of mo_X3_lowest (by decide) (ls := [some (.int (x0)), none]) rfl ?_
  rw [f_X3_lowest] at hf
  refine x_iconst (pc := 0) (v := 0) dX3_lowest_0 (by decide) ?_
  refine x_istore_n (pc := 1) (ls' := [some (.int (x0)), some (.int (0))]) dX3_lowest_1 (by decide) rfl ?_
  exact tg_X3_lowest_2  NN hf

def f_X3_mayStay (h : AH) (x0 : Option Nat) (x1 : Int32) (x2 : Int32) (x3 : Int32) : Option (Int32 × AH) :=
  if 2 ≤ x2 then (
    some (0, h)
  ) else (
    bd (gR h x0 3 2) fun v6 =>
    bd (ldI h v6 ((((x1 + 1) * 3) + x2) + 1)) fun v18 =>
    bd2 (f_X7_holds h v18 x3) fun v20 h20 =>
    if v20 = 0 then (
      some (0, h20)
    ) else (
      some (1, h20)
    )
  )

set_option maxRecDepth 100000 in
set_option maxHeartbeats 4000000 in
theorem tm_X3_mayStay {g : GT} {h : AH} {x0 : Option Nat} {x1 : Int32} {x2 : Int32} {x3 : Int32} {r : Int32} {h' : AH} (hf : f_X3_mayStay h x0 x1 x2 x3 = some (r, h')) : Xm g mX3_mayStay [va_rf (x0), .int (x1), .int (x2), .int (x3)] h (some (.int r)) h' := by
  refine xm_of mo_X3_mayStay (by decide) (ls := [some (va_rf (x0)), some (.int (x1)), some (.int (x2)), some (.int (x3))]) rfl ?_
  rw [f_X3_mayStay] at hf
  refine x_iload_n (pc := 0) (x := x2) dX3_mayStay_0 rfl ?_
  refine x_iconst (pc := 1) (v := 2) dX3_mayStay_1 (by decide) ?_
  refine x_icmp_ge (pc := 2) (tgt := 30) (x := x2) (y := 2) dX3_mayStay_2 rfl (fun hc => ?_) (fun hc => ?_)
  · replace hf := it_t hc hf
    refine x_iconst (pc := 30) (v := 0) dX3_mayStay_30 (by decide) ?_
    obtain ⟨rfl, rfl⟩ := ret_s hf
    exact x_retz (pc := 31) dX3_mayStay_31 rfl (by decide)
  · replace hf := it_f hc hf
    refine x_aload_n (pc := 5) (a := x0) dX3_mayStay_5 rfl ?_
    replace hf := bd_s hf; obtain ⟨v6, e6, hf⟩ := hf
    refine x_getR (pc := 6) dX3_mayStay_6 fl_3_21 e6 ?_
    refine x_iload_n (pc := 9) (x := x1) dX3_mayStay_9 rfl ?_
    refine x_iconst (pc := 10) (v := 1) dX3_mayStay_10 (by decide) ?_
    refine x_iadd (pc := 11) dX3_mayStay_11 ?_
    refine x_iconst (pc := 12) (v := 3) dX3_mayStay_12 (by decide) ?_
    refine x_imul (pc := 13) dX3_mayStay_13 ?_
    refine x_iload_n (pc := 14) (x := x2) dX3_mayStay_14 rfl ?_
    refine x_iadd (pc := 15) dX3_mayStay_15 ?_
    refine x_iconst (pc := 16) (v := 1) dX3_mayStay_16 (by decide) ?_
    refine x_iadd (pc := 17) dX3_mayStay_17 ?_
    replace hf := bd_s hf; obtain ⟨v18, e18, hf⟩ := hf
    refine x_ldI (pc := 18) dX3_mayStay_18 e18 ?_
    refine x_iload_n (pc := 19) (x := x3) dX3_mayStay_19 rfl ?_
    replace hf := bd2_s hf; obtain ⟨v20, h20, e20, hf⟩ := hf
    refine x_cNi (pc := 20) (M' := mX7_holds) (as := [.int (v18), .int (x3)]) (st := []) dX3_mayStay_20 mo_X7_holds lk_3_86 sm_X7_holds (by decide) rfl (by decide) rfl (tm_X7_holds e20) ?_
    refine x_if_eq (pc := 23) (tgt := 30) (x := v20) dX3_mayStay_23 rfl (fun hc => ?_) (fun hc => ?_)
    · replace hf := it_t hc hf
      refine x_iconst (pc := 30) (v := 0) dX3_mayStay_30 (by decide) ?_
      obtain ⟨rfl, rfl⟩ := ret_s hf
      exact x_retz (pc := 31) dX3_mayStay_31 rfl (by decide)
    · replace hf := it_f hc hf
      refine x_iconst (pc := 26) (v := 1) dX3_mayStay_26 (by decide) ?_
      refine x_goto (pc := 27) (tgt := 31) dX3_mayStay_27 rfl ?_
      obtain ⟨rfl, rfl⟩ := ret_s hf
      exact x_retz (pc := 31) dX3_mayStay_31 rfl (by decide)

def j_X3_chooseCamps_54 (k7 : AH → Option Nat → Int32 → Int32 → Int32 → Option AH) (h : AH) (x0 : Option Nat) (x1 : Int32) (x2 : Int32) (x3 : Int32) : Option AH :=
  bd (gR h x0 3 1) fun v55 =>
  bd (stI h v55 x3 x1) fun h60 =>
  k7 h60 x0 x1 x2 (x3 + 1)

set_option maxRecDepth 100000 in
set_option maxHeartbeats 4000000 in
theorem tj_X3_chooseCamps_54 {g : GT} {k7 : AH → Option Nat → Int32 → Int32 → Int32 → Option AH} (hk7 : ∀ (h : AH) (x0 : Option Nat) (x1 : Int32) (x2 : Int32) (x3 : Int32) (h' : AH), k7 h x0 x1 x2 x3 = some h' → Xj g mX3_chooseCamps h 7 [some (va_rf (x0)), some (.int (x1)), some (.int (x2)), some (.int (x3)), none] [] none h') {h : AH} {x0 : Option Nat} {x1 : Int32} {x2 : Int32} {x3 : Int32} {h' : AH} (hf : j_X3_chooseCamps_54 k7 h x0 x1 x2 x3 = some h') : Xj g mX3_chooseCamps h 54 [some (va_rf (x0)), some (.int (x1)), some (.int (x2)), some (.int (x3)), none] [] none h' := by
  rw [j_X3_chooseCamps_54] at hf
  refine x_aload_n (pc := 54) (a := x0) dX3_chooseCamps_54 rfl ?_
  replace hf := bd_s hf; obtain ⟨v55, e55, hf⟩ := hf
  refine x_getR (pc := 55) dX3_chooseCamps_55 fl_3_17 e55 ?_
  refine x_iload_n (pc := 58) (x := x3) dX3_chooseCamps_58 rfl ?_
  refine x_iload_n (pc := 59) (x := x1) dX3_chooseCamps_59 rfl ?_
  replace hf := bd_s hf; obtain ⟨h60, e60, hf⟩ := hf
  refine x_stI (pc := 60) dX3_chooseCamps_60 e60 ?_
  refine x_iinc (pc := 61) (x := x3) (v := x3 + 1) (ls' := [some (va_rf (x0)), some (.int (x1)), some (.int (x2)), some (.int (x3 + 1)), none]) dX3_chooseCamps_61 rfl rfl (by decide) rfl ?_
  refine x_goto (pc := 64) (tgt := 7) dX3_chooseCamps_64 rfl ?_
  exact hk7 _ _ _ _ _ _ hf

def j_X3_chooseCamps_51 (k7 : AH → Option Nat → Int32 → Int32 → Int32 → Option AH) (h : AH) (x0 : Option Nat) (x2 : Int32) (x3 : Int32) (x4 : Int32) : Option AH :=
  j_X3_chooseCamps_54 k7 h x0 x4 x2 x3

set_option maxRecDepth 100000 in
set_option maxHeartbeats 4000000 in
theorem tj_X3_chooseCamps_51 {g : GT} {k7 : AH → Option Nat → Int32 → Int32 → Int32 → Option AH} (hk7 : ∀ (h : AH) (x0 : Option Nat) (x1 : Int32) (x2 : Int32) (x3 : Int32) (h' : AH), k7 h x0 x1 x2 x3 = some h' → Xj g mX3_chooseCamps h 7 [some (va_rf (x0)), some (.int (x1)), some (.int (x2)), some (.int (x3)), none] [] none h') {h : AH} {x0 : Option Nat} {x2 : Int32} {x3 : Int32} {x4 : Int32} {h' : AH} (hf : j_X3_chooseCamps_51 k7 h x0 x2 x3 x4 = some h') : Xj g mX3_chooseCamps h 51 [some (va_rf (x0)), none, some (.int (x2)), some (.int (x3)), some (.int (x4))] [] none h' := by
  rw [j_X3_chooseCamps_51] at hf
  refine x_iload (pc := 51) (x := x4) dX3_chooseCamps_51 rfl ?_
  refine x_istore_n (pc := 53) (ls' := [some (va_rf (x0)), some (.int (x4)), some (.int (x2)), some (.int (x3)), some (.int (x4))]) dX3_chooseCamps_53 (by decide) rfl ?_
  refine x_mask [true, true, true, true, false] rfl ?_
  exact tj_X3_chooseCamps_54 hk7 hf

def g_X3_chooseCamps_7 : Nat → AH → Option Nat → Int32 → Int32 → Int32 → Option AH
  | 0, _, _, _, _, _ => none
  | n + 1, h, x0, x1, x2, x3 =>
    bd (gI h x0 3 0) fun v9 =>
    if (v9 - 1) ≤ x3 then (
      some h
    ) else (
      bd (isO h x0 3) fun _ =>
      bd2 (f_X3_goers h x0 x3 x2 x1) fun v21 h21 =>
      bd2 (f_X3_lowest h21 v21) fun v24 h24 =>
      bd (isO h24 x0 3) fun _ =>
      bd2 (f_X3_mayStay h24 x0 x3 x2 x1) fun v33 h33 =>
      if v33 = 0 then (
        j_X3_chooseCamps_51 (fun h x0 x1 x2 x3 => g_X3_chooseCamps_7  n h x0 x1 x2 x3) h33 x0 x2 x3 v24
      ) else (
        if v24 ≤ x1 then (
          j_X3_chooseCamps_51 (fun h x0 x1 x2 x3 => g_X3_chooseCamps_7  n h x0 x1 x2 x3) h33 x0 x2 x3 v24
        ) else (
          j_X3_chooseCamps_54 (fun h x0 x1 x2 x3 => g_X3_chooseCamps_7  n h x0 x1 x2 x3) h33 x0 x1 (x2 + 1) x3
        )
      )
    )

set_option maxRecDepth 100000 in
set_option maxHeartbeats 4000000 in
theorem tg_X3_chooseCamps_7 {g : GT} : ∀ (n : Nat) {h : AH} {x0 : Option Nat} {x1 : Int32} {x2 : Int32} {x3 : Int32} {h' : AH}, g_X3_chooseCamps_7 n h x0 x1 x2 x3 = some h' → Xj g mX3_chooseCamps h 7 [some (va_rf (x0)), some (.int (x1)), some (.int (x2)), some (.int (x3)), none] [] none h' := by
  intro n
  induction n with
  | zero =>
    intros
    rename_i z
    cases z
  | succ n ih =>
    intro h x0 x1 x2 x3 h' hf
    rw [g_X3_chooseCamps_7] at hf
    refine x_iload_n (pc := 7) (x := x3) dX3_chooseCamps_7 rfl ?_
    refine x_aload_n (pc := 8) (a := x0) dX3_chooseCamps_8 rfl ?_
    replace hf := bd_s hf; obtain ⟨v9, e9, hf⟩ := hf
    refine x_getI (pc := 9) dX3_chooseCamps_9 fl_3_13 e9 ?_
    refine x_iconst (pc := 12) (v := 1) dX3_chooseCamps_12 (by decide) ?_
    refine x_isub (pc := 13) dX3_chooseCamps_13 ?_
    refine x_icmp_ge (pc := 14) (tgt := 67) (x := x3) (y := (v9 - 1)) dX3_chooseCamps_14 rfl (fun hc => ?_) (fun hc => ?_)
    · replace hf := it_t hc hf
      obtain rfl := Option.some.inj hf
      exact x_vret (pc := 67) dX3_chooseCamps_67 rfl
    · replace hf := it_f hc hf
      refine x_aload_n (pc := 17) (a := x0) dX3_chooseCamps_17 rfl ?_
      refine x_iload_n (pc := 18) (x := x3) dX3_chooseCamps_18 rfl ?_
      refine x_iload_n (pc := 19) (x := x2) dX3_chooseCamps_19 rfl ?_
      refine x_iload_n (pc := 20) (x := x1) dX3_chooseCamps_20 rfl ?_
      replace hf := bd_s hf; obtain ⟨u21, i21, hf⟩ := hf
      replace hf := bd2_s hf; obtain ⟨v21, h21, e21, hf⟩ := hf
      refine x_cVi (pc := 21) (M' := mX3_goers) (as := [.int (x3), .int (x2), .int (x1)]) (st := []) (a := x0) (ci := 3) dX3_chooseCamps_21 mo_X3_goers lk_3_115 im_X3_goers se_X3_goers rfl (by decide) rfl (by decide) rfl i21 (tm_X3_goers e21) ?_
      replace hf := bd2_s hf; obtain ⟨v24, h24, e24, hf⟩ := hf
      refine x_cSi (pc := 24) (M' := mX3_lowest) (as := [.int (v21)]) (st := []) dX3_chooseCamps_24 mo_X3_lowest lk_3_121 sm_X3_lowest (by decide) rfl (by decide) rfl (tm_X3_lowest e24) ?_
      refine x_istore (pc := 27) (ls' := [some (va_rf (x0)), some (.int (x1)), some (.int (x2)), some (.int (x3)), some (.int (v24))]) dX3_chooseCamps_27 (by decide) rfl ?_
      refine x_aload_n (pc := 29) (a := x0) dX3_chooseCamps_29 rfl ?_
      refine x_iload_n (pc := 30) (x := x3) dX3_chooseCamps_30 rfl ?_
      refine x_iload_n (pc := 31) (x := x2) dX3_chooseCamps_31 rfl ?_
      refine x_iload_n (pc := 32) (x := x1) dX3_chooseCamps_32 rfl ?_
      replace hf := bd_s hf; obtain ⟨u33, i33, hf⟩ := hf
      replace hf := bd2_s hf; obtain ⟨v33, h33, e33, hf⟩ := hf
      refine x_cVi (pc := 33) (M' := mX3_mayStay) (as := [.int (x3), .int (x2), .int (x1)]) (st := []) (a := x0) (ci := 3) dX3_chooseCamps_33 mo_X3_mayStay lk_3_118 im_X3_mayStay se_X3_mayStay rfl (by decide) rfl (by decide) rfl i33 (tm_X3_mayStay e33) ?_
      refine x_if_eq (pc := 36) (tgt := 51) (x := v33) dX3_chooseCamps_36 rfl (fun hc => ?_) (fun hc => ?_)
      · replace hf := it_t hc hf
        refine x_mask [true, false, true, true, true] rfl ?_
        exact tj_X3_chooseCamps_51 (fun _ _ _ _ _ _ z => ih z) hf
      · replace hf := it_f hc hf
        refine x_iload_n (pc := 39) (x := x1) dX3_chooseCamps_39 rfl ?_
        refine x_iload (pc := 40) (x := v24) dX3_chooseCamps_40 rfl ?_
        refine x_icmp_ge (pc := 42) (tgt := 51) (x := x1) (y := v24) dX3_chooseCamps_42 rfl (fun hc => ?_) (fun hc => ?_)
        · replace hf := it_t hc hf
          refine x_mask [true, false, true, true, true] rfl ?_
          exact tj_X3_chooseCamps_51 (fun _ _ _ _ _ _ z => ih z) hf
        · replace hf := it_f hc hf
          refine x_iinc (pc := 45) (x := x2) (v := x2 + 1) (ls' := [some (va_rf (x0)), some (.int (x1)), some (.int (x2 + 1)), some (.int (x3)), some (.int (v24))]) dX3_chooseCamps_45 rfl rfl (by decide) rfl ?_
          refine x_goto (pc := 48) (tgt := 54) dX3_chooseCamps_48 rfl ?_
          refine x_mask [true, true, true, true, false] rfl ?_
          exact tj_X3_chooseCamps_54 (fun _ _ _ _ _ _ z => ih z) hf

def f_X3_chooseCamps (h : AH) (x0 : Option Nat) : Option AH :=
  g_X3_chooseCamps_7  NN h x0 14 0 0

set_option maxRecDepth 100000 in
set_option maxHeartbeats 4000000 in
theorem tm_X3_chooseCamps {g : GT} {h : AH} {x0 : Option Nat} {h' : AH} (hf : f_X3_chooseCamps h x0 = some h') : Xm g mX3_chooseCamps [va_rf (x0)] h none h' := by
  refine xm_of mo_X3_chooseCamps (by decide) (ls := [some (va_rf (x0)), none, none, none, none]) rfl ?_
  rw [f_X3_chooseCamps] at hf
  refine x_bipush (pc := 0) (v := 14) dX3_chooseCamps_0 (by decide) ?_
  refine x_istore_n (pc := 2) (ls' := [some (va_rf (x0)), some (.int (14)), none, none, none]) dX3_chooseCamps_2 (by decide) rfl ?_
  refine x_iconst (pc := 3) (v := 0) dX3_chooseCamps_3 (by decide) ?_
  refine x_istore_n (pc := 4) (ls' := [some (va_rf (x0)), some (.int (14)), some (.int (0)), none, none]) dX3_chooseCamps_4 (by decide) rfl ?_
  refine x_iconst (pc := 5) (v := 0) dX3_chooseCamps_5 (by decide) ?_
  refine x_istore_n (pc := 6) (ls' := [some (va_rf (x0)), some (.int (14)), some (.int (0)), some (.int (0)), none]) dX3_chooseCamps_6 (by decide) rfl ?_
  exact tg_X3_chooseCamps_7  NN hf

def f_X3_goesOn (h : AH) (x0 : Option Nat) (x1 : Int32) (x2 : Int32) (x3 : Int32) : Option (Int32 × AH) :=
  bd (isO h x0 3) fun _ =>
  bd2 (f_X3_goers h x0 x1 x2 x3) fun v4 h4 =>
  if ¬ v4 = 0 then (
    some (1, h4)
  ) else (
    bd (isO h4 x0 3) fun _ =>
    bd2 (f_X3_mayStay h4 x0 x1 x2 x3) fun v14 h14 =>
    if v14 = 0 then (
      some (0, h14)
    ) else (
      some (1, h14)
    )
  )

set_option maxRecDepth 100000 in
set_option maxHeartbeats 4000000 in
theorem tm_X3_goesOn {g : GT} {h : AH} {x0 : Option Nat} {x1 : Int32} {x2 : Int32} {x3 : Int32} {r : Int32} {h' : AH} (hf : f_X3_goesOn h x0 x1 x2 x3 = some (r, h')) : Xm g mX3_goesOn [va_rf (x0), .int (x1), .int (x2), .int (x3)] h (some (.int r)) h' := by
  refine xm_of mo_X3_goesOn (by decide) (ls := [some (va_rf (x0)), some (.int (x1)), some (.int (x2)), some (.int (x3))]) rfl ?_
  rw [f_X3_goesOn] at hf
  refine x_aload_n (pc := 0) (a := x0) dX3_goesOn_0 rfl ?_
  refine x_iload_n (pc := 1) (x := x1) dX3_goesOn_1 rfl ?_
  refine x_iload_n (pc := 2) (x := x2) dX3_goesOn_2 rfl ?_
  refine x_iload_n (pc := 3) (x := x3) dX3_goesOn_3 rfl ?_
  replace hf := bd_s hf; obtain ⟨u4, i4, hf⟩ := hf
  replace hf := bd2_s hf; obtain ⟨v4, h4, e4, hf⟩ := hf
  refine x_cVi (pc := 4) (M' := mX3_goers) (as := [.int (x1), .int (x2), .int (x3)]) (st := []) (a := x0) (ci := 3) dX3_goesOn_4 mo_X3_goers lk_3_115 im_X3_goers se_X3_goers rfl (by decide) rfl (by decide) rfl i4 (tm_X3_goers e4) ?_
  refine x_if_ne (pc := 7) (tgt := 20) (x := v4) dX3_goesOn_7 rfl (fun hc => ?_) (fun hc => ?_)
  · replace hf := it_t hc hf
    refine x_iconst (pc := 20) (v := 1) dX3_goesOn_20 (by decide) ?_
    refine x_goto (pc := 21) (tgt := 25) dX3_goesOn_21 rfl ?_
    obtain ⟨rfl, rfl⟩ := ret_s hf
    exact x_retz (pc := 25) dX3_goesOn_25 rfl (by decide)
  · replace hf := it_n hc hf
    refine x_aload_n (pc := 10) (a := x0) dX3_goesOn_10 rfl ?_
    refine x_iload_n (pc := 11) (x := x1) dX3_goesOn_11 rfl ?_
    refine x_iload_n (pc := 12) (x := x2) dX3_goesOn_12 rfl ?_
    refine x_iload_n (pc := 13) (x := x3) dX3_goesOn_13 rfl ?_
    replace hf := bd_s hf; obtain ⟨u14, i14, hf⟩ := hf
    replace hf := bd2_s hf; obtain ⟨v14, h14, e14, hf⟩ := hf
    refine x_cVi (pc := 14) (M' := mX3_mayStay) (as := [.int (x1), .int (x2), .int (x3)]) (st := []) (a := x0) (ci := 3) dX3_goesOn_14 mo_X3_mayStay lk_3_118 im_X3_mayStay se_X3_mayStay rfl (by decide) rfl (by decide) rfl i14 (tm_X3_mayStay e14) ?_
    refine x_if_eq (pc := 17) (tgt := 24) (x := v14) dX3_goesOn_17 rfl (fun hc => ?_) (fun hc => ?_)
    · replace hf := it_t hc hf
      refine x_iconst (pc := 24) (v := 0) dX3_goesOn_24 (by decide) ?_
      obtain ⟨rfl, rfl⟩ := ret_s hf
      exact x_retz (pc := 25) dX3_goesOn_25 rfl (by decide)
    · replace hf := it_f hc hf
      refine x_iconst (pc := 20) (v := 1) dX3_goesOn_20 (by decide) ?_
      refine x_goto (pc := 21) (tgt := 25) dX3_goesOn_21 rfl ?_
      obtain ⟨rfl, rfl⟩ := ret_s hf
      exact x_retz (pc := 25) dX3_goesOn_25 rfl (by decide)
end
