section
-- ===== PART A: goes FIRST, ahead of the names: the tables' words, and 'selects' of the private methods out of them =====
/-- a private method of a class that the tables say can be made, by its rows of tables_1 -/
def lw_okq (q : MethodName × Nat) : Prop := (q.1.cls ≠ "java/lang/invoke/MethodHandle" ∧ q.1.cls ≠ "java/lang/invoke/VarHandle") ∧ Cond.instantiable q.1.cls q.2 ∈ tables_1 ∧ Cond.privateMethod q.1 ∈ tables_1 ∧ Cond.instanceMethod q.1 ∈ tables_1
theorem lw_p0 : lw_okq (⟨"WantedLater", "refuseBad", "()I"⟩, 11) := ⟨⟨by decide +kernel, by decide +kernel⟩, List.mem_of_getElem? (i := 14) (by decide +kernel), List.mem_of_getElem? (i := 185) (by decide +kernel), List.mem_of_getElem? (i := 186) (by decide +kernel)⟩
theorem lw_p1 : lw_okq (⟨"WantedLater", "refuseFull", "()I"⟩, 11) := ⟨⟨by decide +kernel, by decide +kernel⟩, List.mem_of_getElem? (i := 14) (by decide +kernel), List.mem_of_getElem? (i := 197) (by decide +kernel), List.mem_of_getElem? (i := 198) (by decide +kernel)⟩
theorem lw_p2 : lw_okq (⟨"WantedLater$Text", "takeToken", "()V"⟩, 6) := ⟨⟨by decide +kernel, by decide +kernel⟩, List.mem_of_getElem? (i := 117) (by decide +kernel), List.mem_of_getElem? (i := 226) (by decide +kernel), List.mem_of_getElem? (i := 227) (by decide +kernel)⟩
theorem lw_p3 : lw_okq (⟨"WantedLater$Text", "takesItem", "(LWantedLater$Town;Z)Z"⟩, 6) := ⟨⟨by decide +kernel, by decide +kernel⟩, List.mem_of_getElem? (i := 117) (by decide +kernel), List.mem_of_getElem? (i := 233) (by decide +kernel), List.mem_of_getElem? (i := 234) (by decide +kernel)⟩
theorem lw_p4 : lw_okq (⟨"WantedLater$Text", "isWord", "(Ljava/lang/String;)Z"⟩, 6) := ⟨⟨by decide +kernel, by decide +kernel⟩, List.mem_of_getElem? (i := 117) (by decide +kernel), List.mem_of_getElem? (i := 238) (by decide +kernel), List.mem_of_getElem? (i := 239) (by decide +kernel)⟩
theorem lw_p5 : lw_okq (⟨"WantedLater$Text", "takesTown", "(LWantedLater$Town;)Z"⟩, 6) := ⟨⟨by decide +kernel, by decide +kernel⟩, List.mem_of_getElem? (i := 117) (by decide +kernel), List.mem_of_getElem? (i := 290) (by decide +kernel), List.mem_of_getElem? (i := 291) (by decide +kernel)⟩
theorem lw_p6 : lw_okq (⟨"WantedLater$Text", "takesNumber", "(II)Z"⟩, 6) := ⟨⟨by decide +kernel, by decide +kernel⟩, List.mem_of_getElem? (i := 117) (by decide +kernel), List.mem_of_getElem? (i := 294) (by decide +kernel), List.mem_of_getElem? (i := 295) (by decide +kernel)⟩
theorem lw_p7 : lw_okq (⟨"WantedLater$Text", "takesStop", "()Z"⟩, 6) := ⟨⟨by decide +kernel, by decide +kernel⟩, List.mem_of_getElem? (i := 117) (by decide +kernel), List.mem_of_getElem? (i := 299) (by decide +kernel), List.mem_of_getElem? (i := 300) (by decide +kernel)⟩
theorem lw_p8 : lw_okq (⟨"WantedLater$Text", "takesOne", "(LWantedLater$Town;)Z"⟩, 6) := ⟨⟨by decide +kernel, by decide +kernel⟩, List.mem_of_getElem? (i := 117) (by decide +kernel), List.mem_of_getElem? (i := 304) (by decide +kernel), List.mem_of_getElem? (i := 305) (by decide +kernel)⟩
theorem lw_p9 : lw_okq (⟨"WantedLater$Text", "takesListed", "(LWantedLater$Town;)Z"⟩, 6) := ⟨⟨by decide +kernel, by decide +kernel⟩, List.mem_of_getElem? (i := 117) (by decide +kernel), List.mem_of_getElem? (i := 310) (by decide +kernel), List.mem_of_getElem? (i := 311) (by decide +kernel)⟩
theorem lw_p10 : lw_okq (⟨"WantedLater$Text", "takesFollowed", "(LWantedLater$Town;)Z"⟩, 6) := ⟨⟨by decide +kernel, by decide +kernel⟩, List.mem_of_getElem? (i := 117) (by decide +kernel), List.mem_of_getElem? (i := 318) (by decide +kernel), List.mem_of_getElem? (i := 319) (by decide +kernel)⟩
theorem lw_p11 : lw_okq (⟨"WantedLater", "isThere", "(I)Z"⟩, 11) := ⟨⟨by decide +kernel, by decide +kernel⟩, List.mem_of_getElem? (i := 14) (by decide +kernel), List.mem_of_getElem? (i := 333) (by decide +kernel), List.mem_of_getElem? (i := 334) (by decide +kernel)⟩
theorem lw_p12 : lw_okq (⟨"WantedLater", "refuseNo", "()I"⟩, 11) := ⟨⟨by decide +kernel, by decide +kernel⟩, List.mem_of_getElem? (i := 14) (by decide +kernel), List.mem_of_getElem? (i := 395) (by decide +kernel), List.mem_of_getElem? (i := 396) (by decide +kernel)⟩
theorem lw_p13 : lw_okq (⟨"WantedLater", "actToday", "(I)I"⟩, 11) := ⟨⟨by decide +kernel, by decide +kernel⟩, List.mem_of_getElem? (i := 14) (by decide +kernel), List.mem_of_getElem? (i := 407) (by decide +kernel), List.mem_of_getElem? (i := 408) (by decide +kernel)⟩
theorem lw_p14 : lw_okq (⟨"WantedLater", "whoDoIt", "(IZ)I"⟩, 11) := ⟨⟨by decide +kernel, by decide +kernel⟩, List.mem_of_getElem? (i := 14) (by decide +kernel), List.mem_of_getElem? (i := 429) (by decide +kernel), List.mem_of_getElem? (i := 430) (by decide +kernel)⟩
theorem lw_p15 : lw_okq (⟨"WantedLater", "wouldDoIt", "(IIZ)Z"⟩, 11) := ⟨⟨by decide +kernel, by decide +kernel⟩, List.mem_of_getElem? (i := 14) (by decide +kernel), List.mem_of_getElem? (i := 433) (by decide +kernel), List.mem_of_getElem? (i := 434) (by decide +kernel)⟩
def lw_privs_1 : List (MethodName × Nat) := [(⟨"WantedLater", "refuseBad", "()I"⟩, 11), (⟨"WantedLater", "refuseFull", "()I"⟩, 11), (⟨"WantedLater$Text", "takeToken", "()V"⟩, 6), (⟨"WantedLater$Text", "takesItem", "(LWantedLater$Town;Z)Z"⟩, 6), (⟨"WantedLater$Text", "isWord", "(Ljava/lang/String;)Z"⟩, 6), (⟨"WantedLater$Text", "takesTown", "(LWantedLater$Town;)Z"⟩, 6), (⟨"WantedLater$Text", "takesNumber", "(II)Z"⟩, 6), (⟨"WantedLater$Text", "takesStop", "()Z"⟩, 6), (⟨"WantedLater$Text", "takesOne", "(LWantedLater$Town;)Z"⟩, 6), (⟨"WantedLater$Text", "takesListed", "(LWantedLater$Town;)Z"⟩, 6), (⟨"WantedLater$Text", "takesFollowed", "(LWantedLater$Town;)Z"⟩, 6), (⟨"WantedLater", "isThere", "(I)Z"⟩, 11), (⟨"WantedLater", "refuseNo", "()I"⟩, 11), (⟨"WantedLater", "actToday", "(I)I"⟩, 11), (⟨"WantedLater", "whoDoIt", "(IZ)I"⟩, 11), (⟨"WantedLater", "wouldDoIt", "(IIZ)Z"⟩, 11)]
theorem lw_r1 : ∀ q ∈ lw_privs_1, lw_okq q := List.forall_mem_cons.mpr ⟨lw_p0, List.forall_mem_cons.mpr ⟨lw_p1, List.forall_mem_cons.mpr ⟨lw_p2, List.forall_mem_cons.mpr ⟨lw_p3, List.forall_mem_cons.mpr ⟨lw_p4, List.forall_mem_cons.mpr ⟨lw_p5, List.forall_mem_cons.mpr ⟨lw_p6, List.forall_mem_cons.mpr ⟨lw_p7, List.forall_mem_cons.mpr ⟨lw_p8, List.forall_mem_cons.mpr ⟨lw_p9, List.forall_mem_cons.mpr ⟨lw_p10, List.forall_mem_cons.mpr ⟨lw_p11, List.forall_mem_cons.mpr ⟨lw_p12, List.forall_mem_cons.mpr ⟨lw_p13, List.forall_mem_cons.mpr ⟨lw_p14, List.forall_mem_cons.mpr ⟨lw_p15, fun _ h => absurd h List.not_mem_nil⟩⟩⟩⟩⟩⟩⟩⟩⟩⟩⟩⟩⟩⟩⟩⟩
theorem lw_p16 : lw_okq (⟨"WantedLater", "fewestDays", "(II)I"⟩, 11) := ⟨⟨by decide +kernel, by decide +kernel⟩, List.mem_of_getElem? (i := 14) (by decide +kernel), List.mem_of_getElem? (i := 455) (by decide +kernel), List.mem_of_getElem? (i := 456) (by decide +kernel)⟩
theorem lw_p17 : lw_okq (⟨"WantedLater", "isStruckBy", "(III)Z"⟩, 11) := ⟨⟨by decide +kernel, by decide +kernel⟩, List.mem_of_getElem? (i := 14) (by decide +kernel), List.mem_of_getElem? (i := 459) (by decide +kernel), List.mem_of_getElem? (i := 460) (by decide +kernel)⟩
theorem lw_p18 : lw_okq (⟨"WantedLater", "paysOne", "(II)I"⟩, 11) := ⟨⟨by decide +kernel, by decide +kernel⟩, List.mem_of_getElem? (i := 14) (by decide +kernel), List.mem_of_getElem? (i := 467) (by decide +kernel), List.mem_of_getElem? (i := 468) (by decide +kernel)⟩
theorem lw_p19 : lw_okq (⟨"WantedLater", "isItIn", "(II)Z"⟩, 11) := ⟨⟨by decide +kernel, by decide +kernel⟩, List.mem_of_getElem? (i := 14) (by decide +kernel), List.mem_of_getElem? (i := 474) (by decide +kernel), List.mem_of_getElem? (i := 475) (by decide +kernel)⟩
theorem lw_p20 : lw_okq (⟨"WantedLater", "paysFollower", "(II)I"⟩, 11) := ⟨⟨by decide +kernel, by decide +kernel⟩, List.mem_of_getElem? (i := 14) (by decide +kernel), List.mem_of_getElem? (i := 479) (by decide +kernel), List.mem_of_getElem? (i := 480) (by decide +kernel)⟩
theorem lw_p21 : lw_okq (⟨"WantedLater", "tempersOfSource", "()I"⟩, 11) := ⟨⟨by decide +kernel, by decide +kernel⟩, List.mem_of_getElem? (i := 14) (by decide +kernel), List.mem_of_getElem? (i := 519) (by decide +kernel), List.mem_of_getElem? (i := 520) (by decide +kernel)⟩
theorem lw_p22 : lw_okq (⟨"WantedLater", "kindsOfSource", "()I"⟩, 11) := ⟨⟨by decide +kernel, by decide +kernel⟩, List.mem_of_getElem? (i := 14) (by decide +kernel), List.mem_of_getElem? (i := 523) (by decide +kernel), List.mem_of_getElem? (i := 524) (by decide +kernel)⟩
theorem lw_p23 : lw_okq (⟨"WantedLater", "setFraction", "(JJ)V"⟩, 11) := ⟨⟨by decide +kernel, by decide +kernel⟩, List.mem_of_getElem? (i := 14) (by decide +kernel), List.mem_of_getElem? (i := 531) (by decide +kernel), List.mem_of_getElem? (i := 532) (by decide +kernel)⟩
theorem lw_p24 : lw_okq (⟨"WantedLater", "howMany", "(I)I"⟩, 11) := ⟨⟨by decide +kernel, by decide +kernel⟩, List.mem_of_getElem? (i := 14) (by decide +kernel), List.mem_of_getElem? (i := 565) (by decide +kernel), List.mem_of_getElem? (i := 566) (by decide +kernel)⟩
theorem lw_p25 : lw_okq (⟨"WantedLaterModel", "bad", "(I)I"⟩, 21) := ⟨⟨by decide +kernel, by decide +kernel⟩, List.mem_of_getElem? (i := 575) (by decide +kernel), List.mem_of_getElem? (i := 656) (by decide +kernel), List.mem_of_getElem? (i := 657) (by decide +kernel)⟩
theorem lw_p26 : lw_okq (⟨"WantedLaterModel", "many", "()I"⟩, 21) := ⟨⟨by decide +kernel, by decide +kernel⟩, List.mem_of_getElem? (i := 575) (by decide +kernel), List.mem_of_getElem? (i := 660) (by decide +kernel), List.mem_of_getElem? (i := 661) (by decide +kernel)⟩
theorem lw_p27 : lw_okq (⟨"WantedLaterModel", "full", "()I"⟩, 21) := ⟨⟨by decide +kernel, by decide +kernel⟩, List.mem_of_getElem? (i := 575) (by decide +kernel), List.mem_of_getElem? (i := 669) (by decide +kernel), List.mem_of_getElem? (i := 670) (by decide +kernel)⟩
theorem lw_p28 : lw_okq (⟨"WantedLaterModel", "isOne", "(I)Z"⟩, 21) := ⟨⟨by decide +kernel, by decide +kernel⟩, List.mem_of_getElem? (i := 575) (by decide +kernel), List.mem_of_getElem? (i := 680) (by decide +kernel), List.mem_of_getElem? (i := 681) (by decide +kernel)⟩
theorem lw_p29 : lw_okq (⟨"WantedLaterModel", "turn", "(III)I"⟩, 21) := ⟨⟨by decide +kernel, by decide +kernel⟩, List.mem_of_getElem? (i := 575) (by decide +kernel), List.mem_of_getElem? (i := 684) (by decide +kernel), List.mem_of_getElem? (i := 685) (by decide +kernel)⟩
theorem lw_p30 : lw_okq (⟨"WantedLaterModel", "keep", "()V"⟩, 21) := ⟨⟨by decide +kernel, by decide +kernel⟩, List.mem_of_getElem? (i := 575) (by decide +kernel), List.mem_of_getElem? (i := 688) (by decide +kernel), List.mem_of_getElem? (i := 689) (by decide +kernel)⟩
theorem lw_p31 : lw_okq (⟨"WantedLaterModel", "layHand", "()V"⟩, 21) := ⟨⟨by decide +kernel, by decide +kernel⟩, List.mem_of_getElem? (i := 575) (by decide +kernel), List.mem_of_getElem? (i := 701) (by decide +kernel), List.mem_of_getElem? (i := 702) (by decide +kernel)⟩
def lw_privs_2 : List (MethodName × Nat) := [(⟨"WantedLater", "fewestDays", "(II)I"⟩, 11), (⟨"WantedLater", "isStruckBy", "(III)Z"⟩, 11), (⟨"WantedLater", "paysOne", "(II)I"⟩, 11), (⟨"WantedLater", "isItIn", "(II)Z"⟩, 11), (⟨"WantedLater", "paysFollower", "(II)I"⟩, 11), (⟨"WantedLater", "tempersOfSource", "()I"⟩, 11), (⟨"WantedLater", "kindsOfSource", "()I"⟩, 11), (⟨"WantedLater", "setFraction", "(JJ)V"⟩, 11), (⟨"WantedLater", "howMany", "(I)I"⟩, 11), (⟨"WantedLaterModel", "bad", "(I)I"⟩, 21), (⟨"WantedLaterModel", "many", "()I"⟩, 21), (⟨"WantedLaterModel", "full", "()I"⟩, 21), (⟨"WantedLaterModel", "isOne", "(I)Z"⟩, 21), (⟨"WantedLaterModel", "turn", "(III)I"⟩, 21), (⟨"WantedLaterModel", "keep", "()V"⟩, 21), (⟨"WantedLaterModel", "layHand", "()V"⟩, 21)]
theorem lw_r2 : ∀ q ∈ lw_privs_2, lw_okq q := List.forall_mem_cons.mpr ⟨lw_p16, List.forall_mem_cons.mpr ⟨lw_p17, List.forall_mem_cons.mpr ⟨lw_p18, List.forall_mem_cons.mpr ⟨lw_p19, List.forall_mem_cons.mpr ⟨lw_p20, List.forall_mem_cons.mpr ⟨lw_p21, List.forall_mem_cons.mpr ⟨lw_p22, List.forall_mem_cons.mpr ⟨lw_p23, List.forall_mem_cons.mpr ⟨lw_p24, List.forall_mem_cons.mpr ⟨lw_p25, List.forall_mem_cons.mpr ⟨lw_p26, List.forall_mem_cons.mpr ⟨lw_p27, List.forall_mem_cons.mpr ⟨lw_p28, List.forall_mem_cons.mpr ⟨lw_p29, List.forall_mem_cons.mpr ⟨lw_p30, List.forall_mem_cons.mpr ⟨lw_p31, fun _ h => absurd h List.not_mem_nil⟩⟩⟩⟩⟩⟩⟩⟩⟩⟩⟩⟩⟩⟩⟩⟩
theorem lw_p32 : lw_okq (⟨"WantedLaterModel", "goDay", "()I"⟩, 21) := ⟨⟨by decide +kernel, by decide +kernel⟩, List.mem_of_getElem? (i := 575) (by decide +kernel), List.mem_of_getElem? (i := 705) (by decide +kernel), List.mem_of_getElem? (i := 706) (by decide +kernel)⟩
theorem lw_p33 : lw_okq (⟨"WantedLaterModel", "doesIt", "(I)Z"⟩, 21) := ⟨⟨by decide +kernel, by decide +kernel⟩, List.mem_of_getElem? (i := 575) (by decide +kernel), List.mem_of_getElem? (i := 712) (by decide +kernel), List.mem_of_getElem? (i := 713) (by decide +kernel)⟩
theorem lw_p34 : lw_okq (⟨"WantedLaterModel", "actOf", "(I)I"⟩, 21) := ⟨⟨by decide +kernel, by decide +kernel⟩, List.mem_of_getElem? (i := 575) (by decide +kernel), List.mem_of_getElem? (i := 716) (by decide +kernel), List.mem_of_getElem? (i := 717) (by decide +kernel)⟩
theorem lw_p35 : lw_okq (⟨"WantedLaterModel", "kindOf", "(I)I"⟩, 21) := ⟨⟨by decide +kernel, by decide +kernel⟩, List.mem_of_getElem? (i := 575) (by decide +kernel), List.mem_of_getElem? (i := 720) (by decide +kernel), List.mem_of_getElem? (i := 721) (by decide +kernel)⟩
theorem lw_p36 : lw_okq (⟨"WantedLaterModel", "no", "()I"⟩, 21) := ⟨⟨by decide +kernel, by decide +kernel⟩, List.mem_of_getElem? (i := 575) (by decide +kernel), List.mem_of_getElem? (i := 740) (by decide +kernel), List.mem_of_getElem? (i := 741) (by decide +kernel)⟩
theorem lw_p37 : lw_okq (⟨"WantedLaterModel", "doesItIn", "(IIZ)Z"⟩, 21) := ⟨⟨by decide +kernel, by decide +kernel⟩, List.mem_of_getElem? (i := 575) (by decide +kernel), List.mem_of_getElem? (i := 761) (by decide +kernel), List.mem_of_getElem? (i := 762) (by decide +kernel)⟩
theorem lw_p38 : lw_okq (⟨"WantedLaterModel", "isStruck", "(III)Z"⟩, 21) := ⟨⟨by decide +kernel, by decide +kernel⟩, List.mem_of_getElem? (i := 575) (by decide +kernel), List.mem_of_getElem? (i := 783) (by decide +kernel), List.mem_of_getElem? (i := 784) (by decide +kernel)⟩
theorem lw_p39 : lw_okq (⟨"WantedLaterModel", "kindsOf", "(I)I"⟩, 21) := ⟨⟨by decide +kernel, by decide +kernel⟩, List.mem_of_getElem? (i := 575) (by decide +kernel), List.mem_of_getElem? (i := 804) (by decide +kernel), List.mem_of_getElem? (i := 805) (by decide +kernel)⟩
theorem lw_p40 : lw_okq (⟨"WantedLaterModel", "manySources", "()I"⟩, 21) := ⟨⟨by decide +kernel, by decide +kernel⟩, List.mem_of_getElem? (i := 575) (by decide +kernel), List.mem_of_getElem? (i := 817) (by decide +kernel), List.mem_of_getElem? (i := 818) (by decide +kernel)⟩
theorem lw_p41 : lw_okq (⟨"WantedLaterModel", "areKindsEven", "()Z"⟩, 21) := ⟨⟨by decide +kernel, by decide +kernel⟩, List.mem_of_getElem? (i := 575) (by decide +kernel), List.mem_of_getElem? (i := 821) (by decide +kernel), List.mem_of_getElem? (i := 822) (by decide +kernel)⟩
theorem lw_p42 : lw_okq (⟨"WantedLaterModel", "fraction", "(JJ)V"⟩, 21) := ⟨⟨by decide +kernel, by decide +kernel⟩, List.mem_of_getElem? (i := 575) (by decide +kernel), List.mem_of_getElem? (i := 830) (by decide +kernel), List.mem_of_getElem? (i := 831) (by decide +kernel)⟩
theorem lw_p43 : lw_okq (⟨"WantedLaterModel", "lookAt", "(I)V"⟩, 21) := ⟨⟨by decide +kernel, by decide +kernel⟩, List.mem_of_getElem? (i := 575) (by decide +kernel), List.mem_of_getElem? (i := 857) (by decide +kernel), List.mem_of_getElem? (i := 858) (by decide +kernel)⟩
theorem lw_p44 : lw_okq (⟨"WantedLaterModel", "takesTown", "()Z"⟩, 21) := ⟨⟨by decide +kernel, by decide +kernel⟩, List.mem_of_getElem? (i := 575) (by decide +kernel), List.mem_of_getElem? (i := 871) (by decide +kernel), List.mem_of_getElem? (i := 872) (by decide +kernel)⟩
theorem lw_p45 : lw_okq (⟨"WantedLaterModel", "spells", "(IIIIIII)Z"⟩, 21) := ⟨⟨by decide +kernel, by decide +kernel⟩, List.mem_of_getElem? (i := 575) (by decide +kernel), List.mem_of_getElem? (i := 875) (by decide +kernel), List.mem_of_getElem? (i := 876) (by decide +kernel)⟩
theorem lw_p46 : lw_okq (⟨"WantedLaterModel", "goBehind", "()V"⟩, 21) := ⟨⟨by decide +kernel, by decide +kernel⟩, List.mem_of_getElem? (i := 575) (by decide +kernel), List.mem_of_getElem? (i := 879) (by decide +kernel), List.mem_of_getElem? (i := 880) (by decide +kernel)⟩
theorem lw_p47 : lw_okq (⟨"WantedLaterModel", "takes", "(III)Z"⟩, 21) := ⟨⟨by decide +kernel, by decide +kernel⟩, List.mem_of_getElem? (i := 575) (by decide +kernel), List.mem_of_getElem? (i := 883) (by decide +kernel), List.mem_of_getElem? (i := 884) (by decide +kernel)⟩
def lw_privs_3 : List (MethodName × Nat) := [(⟨"WantedLaterModel", "goDay", "()I"⟩, 21), (⟨"WantedLaterModel", "doesIt", "(I)Z"⟩, 21), (⟨"WantedLaterModel", "actOf", "(I)I"⟩, 21), (⟨"WantedLaterModel", "kindOf", "(I)I"⟩, 21), (⟨"WantedLaterModel", "no", "()I"⟩, 21), (⟨"WantedLaterModel", "doesItIn", "(IIZ)Z"⟩, 21), (⟨"WantedLaterModel", "isStruck", "(III)Z"⟩, 21), (⟨"WantedLaterModel", "kindsOf", "(I)I"⟩, 21), (⟨"WantedLaterModel", "manySources", "()I"⟩, 21), (⟨"WantedLaterModel", "areKindsEven", "()Z"⟩, 21), (⟨"WantedLaterModel", "fraction", "(JJ)V"⟩, 21), (⟨"WantedLaterModel", "lookAt", "(I)V"⟩, 21), (⟨"WantedLaterModel", "takesTown", "()Z"⟩, 21), (⟨"WantedLaterModel", "spells", "(IIIIIII)Z"⟩, 21), (⟨"WantedLaterModel", "goBehind", "()V"⟩, 21), (⟨"WantedLaterModel", "takes", "(III)Z"⟩, 21)]
theorem lw_r3 : ∀ q ∈ lw_privs_3, lw_okq q := List.forall_mem_cons.mpr ⟨lw_p32, List.forall_mem_cons.mpr ⟨lw_p33, List.forall_mem_cons.mpr ⟨lw_p34, List.forall_mem_cons.mpr ⟨lw_p35, List.forall_mem_cons.mpr ⟨lw_p36, List.forall_mem_cons.mpr ⟨lw_p37, List.forall_mem_cons.mpr ⟨lw_p38, List.forall_mem_cons.mpr ⟨lw_p39, List.forall_mem_cons.mpr ⟨lw_p40, List.forall_mem_cons.mpr ⟨lw_p41, List.forall_mem_cons.mpr ⟨lw_p42, List.forall_mem_cons.mpr ⟨lw_p43, List.forall_mem_cons.mpr ⟨lw_p44, List.forall_mem_cons.mpr ⟨lw_p45, List.forall_mem_cons.mpr ⟨lw_p46, List.forall_mem_cons.mpr ⟨lw_p47, fun _ h => absurd h List.not_mem_nil⟩⟩⟩⟩⟩⟩⟩⟩⟩⟩⟩⟩⟩⟩⟩⟩
theorem lw_p48 : lw_okq (⟨"WantedLaterModel", "takesItem", "()Z"⟩, 21) := ⟨⟨by decide +kernel, by decide +kernel⟩, List.mem_of_getElem? (i := 575) (by decide +kernel), List.mem_of_getElem? (i := 887) (by decide +kernel), List.mem_of_getElem? (i := 888) (by decide +kernel)⟩
theorem lw_p49 : lw_okq (⟨"WantedLaterModel", "takesOne", "()Z"⟩, 21) := ⟨⟨by decide +kernel, by decide +kernel⟩, List.mem_of_getElem? (i := 575) (by decide +kernel), List.mem_of_getElem? (i := 891) (by decide +kernel), List.mem_of_getElem? (i := 892) (by decide +kernel)⟩
theorem lw_p50 : lw_okq (⟨"WantedLaterModel", "takesBit", "(I)Z"⟩, 21) := ⟨⟨by decide +kernel, by decide +kernel⟩, List.mem_of_getElem? (i := 575) (by decide +kernel), List.mem_of_getElem? (i := 895) (by decide +kernel), List.mem_of_getElem? (i := 896) (by decide +kernel)⟩
theorem lw_p51 : lw_okq (⟨"WantedLaterModel", "counted", "(I)I"⟩, 21) := ⟨⟨by decide +kernel, by decide +kernel⟩, List.mem_of_getElem? (i := 575) (by decide +kernel), List.mem_of_getElem? (i := 920) (by decide +kernel), List.mem_of_getElem? (i := 921) (by decide +kernel)⟩
theorem lw_p52 : lw_okq (⟨"WantedLaterModel", "sums", "(JII)J"⟩, 21) := ⟨⟨by decide +kernel, by decide +kernel⟩, List.mem_of_getElem? (i := 575) (by decide +kernel), List.mem_of_getElem? (i := 930) (by decide +kernel), List.mem_of_getElem? (i := 931) (by decide +kernel)⟩
def lw_privs_4 : List (MethodName × Nat) := [(⟨"WantedLaterModel", "takesItem", "()Z"⟩, 21), (⟨"WantedLaterModel", "takesOne", "()Z"⟩, 21), (⟨"WantedLaterModel", "takesBit", "(I)Z"⟩, 21), (⟨"WantedLaterModel", "counted", "(I)I"⟩, 21), (⟨"WantedLaterModel", "sums", "(JII)J"⟩, 21)]
theorem lw_r4 : ∀ q ∈ lw_privs_4, lw_okq q := List.forall_mem_cons.mpr ⟨lw_p48, List.forall_mem_cons.mpr ⟨lw_p49, List.forall_mem_cons.mpr ⟨lw_p50, List.forall_mem_cons.mpr ⟨lw_p51, List.forall_mem_cons.mpr ⟨lw_p52, fun _ h => absurd h List.not_mem_nil⟩⟩⟩⟩⟩
def lw_privs : List (MethodName × Nat) := lw_privs_1 ++ (lw_privs_2 ++ (lw_privs_3 ++ (lw_privs_4)))
def lw_tbl : List Cond := k2_sels lw_privs ++ tables_1
theorem lw_privs_ok : ∀ q ∈ lw_privs, lw_okq q := by
  show ∀ q ∈ lw_privs_1 ++ (lw_privs_2 ++ (lw_privs_3 ++ (lw_privs_4))), lw_okq q
  exact List.forall_mem_append.mpr ⟨lw_r1, List.forall_mem_append.mpr ⟨lw_r2, List.forall_mem_append.mpr ⟨lw_r3, lw_r4⟩⟩⟩
end
section
def RX0 : String := "WantedLater$Text"
def TX0 : u_T := fun k => match k with
  | 0 => ("WantedLater$Text", "bytes", "[B", true)
  | 1 => ("WantedLater$Text", "length", "I", false)
  | 2 => ("WantedLater$Text", "start", "I", false)
  | 3 => ("WantedLater$Text", "behind", "I", false)
  | 4 => ("WantedLater$Text", "sort", "I", false)
  | _ => ("WantedLater$Text", "number", "I", false)
def tyX0 : Nat → FieldType := fun k => match k with
  | 0 => .array .byte
  | 1 => .int
  | 2 => .int
  | 3 => .int
  | 4 => .int
  | _ => .int
abbrev wsX00 : List Cond := u_ws RX0 TX0 6
theorem nmX0 : ∀ a, a < 6 → ∀ b, b < 6 → a ≠ b → (TX0 a).2.1 ≠ (TX0 b).2.1 := by decide +kernel
theorem tyX0_ok : ∀ k, k < 6 → parseFieldDescriptor (TX0 k).2.2.1 = some (tyX0 k) := by decide +kernel
abbrev cX0_init : ByteArray := prog_2_method_1_code
def yX0_init : MethodName := ⟨RX0, "<init>", "()V"⟩
abbrev cX0_add : ByteArray := prog_2_method_2_code
def yX0_add : MethodName := ⟨RX0, "add", "(I)I"⟩
abbrev cX0_readInto : ByteArray := prog_2_method_3_code
def yX0_readInto : MethodName := ⟨RX0, "readInto", "(LWantedLater$Town;)I"⟩
abbrev cX0_takesItem : ByteArray := prog_2_method_4_code
def yX0_takesItem : MethodName := ⟨RX0, "takesItem", "(LWantedLater$Town;Z)Z"⟩
abbrev cX0_takesTown : ByteArray := prog_2_method_5_code
def yX0_takesTown : MethodName := ⟨RX0, "takesTown", "(LWantedLater$Town;)Z"⟩
abbrev cX0_takesOne : ByteArray := prog_2_method_6_code
def yX0_takesOne : MethodName := ⟨RX0, "takesOne", "(LWantedLater$Town;)Z"⟩
abbrev cX0_takesListed : ByteArray := prog_2_method_7_code
def yX0_takesListed : MethodName := ⟨RX0, "takesListed", "(LWantedLater$Town;)Z"⟩
abbrev cX0_takesFollowed : ByteArray := prog_2_method_8_code
def yX0_takesFollowed : MethodName := ⟨RX0, "takesFollowed", "(LWantedLater$Town;)Z"⟩
abbrev cX0_takesNumber : ByteArray := prog_2_method_9_code
def yX0_takesNumber : MethodName := ⟨RX0, "takesNumber", "(II)Z"⟩
abbrev cX0_takesStop : ByteArray := prog_2_method_10_code
def yX0_takesStop : MethodName := ⟨RX0, "takesStop", "()Z"⟩
abbrev cX0_isWord : ByteArray := prog_2_method_11_code
def yX0_isWord : MethodName := ⟨RX0, "isWord", "(Ljava/lang/String;)Z"⟩
abbrev cX0_takeToken : ByteArray := prog_2_method_12_code
def yX0_takeToken : MethodName := ⟨RX0, "takeToken", "()V"⟩
abbrev cX0_sortOf : ByteArray := prog_2_method_13_code
def yX0_sortOf : MethodName := ⟨RX0, "sortOf", "(I)I"⟩
def RX1 : String := "WantedLater$Town"
def TX1 : u_T := fun k => match k with
  | 0 => ("WantedLater$Town", "counts", "I", false)
  | 1 => ("WantedLater$Town", "people", "I", false)
  | 2 => ("WantedLater$Town", "day", "I", false)
  | 3 => ("WantedLater$Town", "listed", "I", false)
  | 4 => ("WantedLater$Town", "followed", "I", false)
  | 5 => ("WantedLater$Town", "struck", "I", false)
  | 6 => ("WantedLater$Town", "noted", "I", false)
  | 7 => ("WantedLater$Town", "undoable", "I", false)
  | 8 => ("WantedLater$Town", "kinds", "[I", true)
  | 9 => ("WantedLater$Town", "tempers", "[I", true)
  | 10 => ("WantedLater$Town", "notes", "[I", true)
  | _ => ("WantedLater$Town", "past", "[I", true)
def tyX1 : Nat → FieldType := fun k => match k with
  | 0 => .int
  | 1 => .int
  | 2 => .int
  | 3 => .int
  | 4 => .int
  | 5 => .int
  | 6 => .int
  | 7 => .int
  | 8 => .array .int
  | 9 => .array .int
  | 10 => .array .int
  | _ => .array .int
abbrev wsX10 : List Cond := u_ws RX1 TX1 12
theorem nmX1 : ∀ a, a < 12 → ∀ b, b < 12 → a ≠ b → (TX1 a).2.1 ≠ (TX1 b).2.1 := by decide +kernel
theorem tyX1_ok : ∀ k, k < 12 → parseFieldDescriptor (TX1 k).2.2.1 = some (tyX1 k) := by decide +kernel
abbrev cX1_init : ByteArray := prog_3_method_1_code
def yX1_init : MethodName := ⟨RX1, "<init>", "()V"⟩
abbrev cX1_begin : ByteArray := prog_3_method_2_code
def yX1_begin : MethodName := ⟨RX1, "begin", "(I)V"⟩
abbrev cX1_copyFrom : ByteArray := prog_3_method_3_code
def yX1_copyFrom : MethodName := ⟨RX1, "copyFrom", "(LWantedLater$Town;)V"⟩
abbrev cX1_addOne : ByteArray := prog_3_method_4_code
def yX1_addOne : MethodName := ⟨RX1, "addOne", "(II)I"⟩
abbrev cX1_addNote : ByteArray := prog_3_method_5_code
def yX1_addNote : MethodName := ⟨RX1, "addNote", "(IIIII)I"⟩
abbrev cX1_isNoteSo : ByteArray := prog_3_method_6_code
def yX1_isNoteSo : MethodName := ⟨RX1, "isNoteSo", "(II)Z"⟩
abbrev cX1_kindsByNotes : ByteArray := prog_3_method_7_code
def yX1_kindsByNotes : MethodName := ⟨RX1, "kindsByNotes", "(I)I"⟩
abbrev cX1_startWalk : ByteArray := prog_3_method_8_code
def yX1_startWalk : MethodName := ⟨RX1, "startWalk", "(LWantedLater$Walk;I)V"⟩
abbrev cX1_goBy : ByteArray := prog_3_method_9_code
def yX1_goBy : MethodName := ⟨RX1, "goBy", "(LWantedLater$Walk;)I"⟩
abbrev cX1_keepPast : ByteArray := prog_3_method_10_code
def yX1_keepPast : MethodName := ⟨RX1, "keepPast", "()V"⟩
abbrev cX1_takePast : ByteArray := prog_3_method_11_code
def yX1_takePast : MethodName := ⟨RX1, "takePast", "()V"⟩
def RX2 : String := "WantedLater$Walk"
def TX2 : u_T := fun k => match k with
  | 0 => ("WantedLater$Walk", "kind", "I", false)
  | 1 => ("WantedLater$Walk", "temper", "I", false)
  | 2 => ("WantedLater$Walk", "counts", "I", false)
  | 3 => ("WantedLater$Walk", "day", "I", false)
  | 4 => ("WantedLater$Walk", "listed", "Z", false)
  | _ => ("WantedLater$Walk", "followed", "Z", false)
def tyX2 : Nat → FieldType := fun k => match k with
  | 0 => .int
  | 1 => .int
  | 2 => .int
  | 3 => .int
  | 4 => .boolean
  | _ => .boolean
abbrev wsX20 : List Cond := u_ws RX2 TX2 6
theorem nmX2 : ∀ a, a < 6 → ∀ b, b < 6 → a ≠ b → (TX2 a).2.1 ≠ (TX2 b).2.1 := by decide +kernel
theorem tyX2_ok : ∀ k, k < 6 → parseFieldDescriptor (TX2 k).2.2.1 = some (tyX2 k) := by decide +kernel
abbrev cX2_init : ByteArray := prog_4_method_1_code
def yX2_init : MethodName := ⟨RX2, "<init>", "()V"⟩
abbrev cX2_actOfDay : ByteArray := prog_4_method_2_code
def yX2_actOfDay : MethodName := ⟨RX2, "actOfDay", "()I"⟩
abbrev cX2_doesIt : ByteArray := prog_4_method_3_code
def yX2_doesIt : MethodName := ⟨RX2, "doesIt", "()Z"⟩
abbrev cX2_goBy : ByteArray := prog_4_method_4_code
def yX2_goBy : MethodName := ⟨RX2, "goBy", "()Z"⟩
def RX3 : String := "WantedLater"
def TX3 : u_T := fun k => match k with
  | 0 => ("WantedLater", "now", "LWantedLater$Town;", true)
  | 1 => ("WantedLater", "spare", "LWantedLater$Town;", true)
  | 2 => ("WantedLater", "images", "[LWantedLater$Town;", true)
  | 3 => ("WantedLater", "kept", "[Z", true)
  | 4 => ("WantedLater", "walk", "LWantedLater$Walk;", true)
  | 5 => ("WantedLater", "text", "LWantedLater$Text;", true)
  | 6 => ("WantedLater", "above", "J", false)
  | 7 => ("WantedLater", "below", "J", false)
  | 8 => ("WantedLater", "refusedBad", "I", false)
  | 9 => ("WantedLater", "refusedNo", "I", false)
  | _ => ("WantedLater", "refusedFull", "I", false)
def tyX3 : Nat → FieldType := fun k => match k with
  | 0 => .object "WantedLater$Town"
  | 1 => .object "WantedLater$Town"
  | 2 => .array (.object "WantedLater$Town")
  | 3 => .array .boolean
  | 4 => .object "WantedLater$Walk"
  | 5 => .object "WantedLater$Text"
  | 6 => .long
  | 7 => .long
  | 8 => .int
  | 9 => .int
  | _ => .int
abbrev wsX30 : List Cond := u_ws RX3 TX3 11
theorem nmX3 : ∀ a, a < 11 → ∀ b, b < 11 → a ≠ b → (TX3 a).2.1 ≠ (TX3 b).2.1 := by decide +kernel
theorem tyX3_ok : ∀ k, k < 11 → parseFieldDescriptor (TX3 k).2.2.1 = some (tyX3 k) := by decide +kernel
abbrev cX3_init : ByteArray := prog_1_method_1_code
def yX3_init : MethodName := ⟨RX3, "<init>", "()V"⟩
abbrev cX3_town : ByteArray := prog_1_method_2_code
def yX3_town : MethodName := ⟨RX3, "town", "(I)I"⟩
abbrev cX3_one : ByteArray := prog_1_method_3_code
def yX3_one : MethodName := ⟨RX3, "one", "(II)I"⟩
abbrev cX3_type : ByteArray := prog_1_method_4_code
def yX3_type : MethodName := ⟨RX3, "type", "(I)I"⟩
abbrev cX3_clear : ByteArray := prog_1_method_5_code
def yX3_clear : MethodName := ⟨RX3, "clear", "()I"⟩
abbrev cX3_read : ByteArray := prog_1_method_6_code
def yX3_read : MethodName := ⟨RX3, "read", "()I"⟩
abbrev cX3_list : ByteArray := prog_1_method_7_code
def yX3_list : MethodName := ⟨RX3, "list", "(II)I"⟩
abbrev cX3_follow : ByteArray := prog_1_method_8_code
def yX3_follow : MethodName := ⟨RX3, "follow", "(II)I"⟩
abbrev cX3_day : ByteArray := prog_1_method_9_code
def yX3_day : MethodName := ⟨RX3, "day", "(I)I"⟩
abbrev cX3_undo : ByteArray := prog_1_method_10_code
def yX3_undo : MethodName := ⟨RX3, "undo", "()I"⟩
abbrev cX3_of : ByteArray := prog_1_method_11_code
def yX3_of : MethodName := ⟨RX3, "of", "(II)I"⟩
abbrev cX3_then : ByteArray := prog_1_method_12_code
def yX3_then : MethodName := ⟨RX3, "then", "(III)I"⟩
abbrev cX3_when : ByteArray := prog_1_method_13_code
def yX3_when : MethodName := ⟨RX3, "when", "(I)I"⟩
abbrev cX3_lack : ByteArray := prog_1_method_14_code
def yX3_lack : MethodName := ⟨RX3, "lack", "()I"⟩
abbrev cX3_comesTrue : ByteArray := prog_1_method_15_code
def yX3_comesTrue : MethodName := ⟨RX3, "comesTrue", "(II)I"⟩
abbrev cX3_readings : ByteArray := prog_1_method_16_code
def yX3_readings : MethodName := ⟨RX3, "readings", "()I"⟩
abbrev cX3_roster : ByteArray := prog_1_method_17_code
def yX3_roster : MethodName := ⟨RX3, "roster", "(II)I"⟩
abbrev cX3_off : ByteArray := prog_1_method_18_code
def yX3_off : MethodName := ⟨RX3, "off", "(III)I"⟩
abbrev cX3_rests : ByteArray := prog_1_method_19_code
def yX3_rests : MethodName := ⟨RX3, "rests", "(I)I"⟩
abbrev cX3_note : ByteArray := prog_1_method_20_code
def yX3_note : MethodName := ⟨RX3, "note", "(IIIII)I"⟩
abbrev cX3_forget : ByteArray := prog_1_method_21_code
def yX3_forget : MethodName := ⟨RX3, "forget", "()I"⟩
abbrev cX3_is : ByteArray := prog_1_method_22_code
def yX3_is : MethodName := ⟨RX3, "is", "(I)I"⟩
abbrev cX3_look : ByteArray := prog_1_method_23_code
def yX3_look : MethodName := ⟨RX3, "look", "(II)I"⟩
abbrev cX3_source : ByteArray := prog_1_method_24_code
def yX3_source : MethodName := ⟨RX3, "source", "(I)I"⟩
abbrev cX3_odds : ByteArray := prog_1_method_25_code
def yX3_odds : MethodName := ⟨RX3, "odds", "(III)I"⟩
abbrev cX3_years : ByteArray := prog_1_method_26_code
def yX3_years : MethodName := ⟨RX3, "years", "(II)I"⟩
abbrev cX3_part : ByteArray := prog_1_method_27_code
def yX3_part : MethodName := ⟨RX3, "part", "(I)J"⟩
abbrev cX3_image : ByteArray := prog_1_method_28_code
def yX3_image : MethodName := ⟨RX3, "image", "(I)I"⟩
abbrev cX3_from : ByteArray := prog_1_method_29_code
def yX3_from : MethodName := ⟨RX3, "from", "(I)I"⟩
abbrev cX3_status : ByteArray := prog_1_method_30_code
def yX3_status : MethodName := ⟨RX3, "status", "(I)I"⟩
abbrev cX3_count : ByteArray := prog_1_method_31_code
def yX3_count : MethodName := ⟨RX3, "count", "(I)I"⟩
abbrev cX3_digest : ByteArray := prog_1_method_32_code
def yX3_digest : MethodName := ⟨RX3, "digest", "()J"⟩
abbrev cX3_refuseBad : ByteArray := prog_1_method_33_code
def yX3_refuseBad : MethodName := ⟨RX3, "refuseBad", "()I"⟩
abbrev cX3_refuseNo : ByteArray := prog_1_method_34_code
def yX3_refuseNo : MethodName := ⟨RX3, "refuseNo", "()I"⟩
abbrev cX3_refuseFull : ByteArray := prog_1_method_35_code
def yX3_refuseFull : MethodName := ⟨RX3, "refuseFull", "()I"⟩
abbrev cX3_isThere : ByteArray := prog_1_method_36_code
def yX3_isThere : MethodName := ⟨RX3, "isThere", "(I)Z"⟩
abbrev cX3_isWithin : ByteArray := prog_1_method_37_code
def yX3_isWithin : MethodName := ⟨RX3, "isWithin", "(III)Z"⟩
abbrev cX3_bitOf : ByteArray := prog_1_method_38_code
def yX3_bitOf : MethodName := ⟨RX3, "bitOf", "(II)I"⟩
abbrev cX3_withBit : ByteArray := prog_1_method_39_code
def yX3_withBit : MethodName := ⟨RX3, "withBit", "(III)I"⟩
abbrev cX3_howMany : ByteArray := prog_1_method_40_code
def yX3_howMany : MethodName := ⟨RX3, "howMany", "(I)I"⟩
abbrev cX3_actToday : ByteArray := prog_1_method_41_code
def yX3_actToday : MethodName := ⟨RX3, "actToday", "(I)I"⟩
abbrev cX3_whoDoIt : ByteArray := prog_1_method_42_code
def yX3_whoDoIt : MethodName := ⟨RX3, "whoDoIt", "(IZ)I"⟩
abbrev cX3_wouldDoIt : ByteArray := prog_1_method_43_code
def yX3_wouldDoIt : MethodName := ⟨RX3, "wouldDoIt", "(IIZ)Z"⟩
abbrev cX3_isStruckBy : ByteArray := prog_1_method_44_code
def yX3_isStruckBy : MethodName := ⟨RX3, "isStruckBy", "(III)Z"⟩
abbrev cX3_fewestDays : ByteArray := prog_1_method_45_code
def yX3_fewestDays : MethodName := ⟨RX3, "fewestDays", "(II)I"⟩
abbrev cX3_isFollowedIn : ByteArray := prog_1_method_46_code
def yX3_isFollowedIn : MethodName := ⟨RX3, "isFollowedIn", "(I)Z"⟩
abbrev cX3_isItIn : ByteArray := prog_1_method_47_code
def yX3_isItIn : MethodName := ⟨RX3, "isItIn", "(II)Z"⟩
abbrev cX3_paysOne : ByteArray := prog_1_method_48_code
def yX3_paysOne : MethodName := ⟨RX3, "paysOne", "(II)I"⟩
abbrev cX3_paysFollower : ByteArray := prog_1_method_49_code
def yX3_paysFollower : MethodName := ⟨RX3, "paysFollower", "(II)I"⟩
abbrev cX3_mostAlike : ByteArray := prog_1_method_50_code
def yX3_mostAlike : MethodName := ⟨RX3, "mostAlike", "(IIZI)I"⟩
abbrev cX3_tempersOfSource : ByteArray := prog_1_method_51_code
def yX3_tempersOfSource : MethodName := ⟨RX3, "tempersOfSource", "()I"⟩
abbrev cX3_kindsOfSource : ByteArray := prog_1_method_52_code
def yX3_kindsOfSource : MethodName := ⟨RX3, "kindsOfSource", "()I"⟩
abbrev cX3_setFraction : ByteArray := prog_1_method_53_code
def yX3_setFraction : MethodName := ⟨RX3, "setFraction", "(JJ)V"⟩
abbrev cX3_actOf : ByteArray := prog_1_method_54_code
def yX3_actOf : MethodName := ⟨RX3, "actOf", "(IIZI)I"⟩
abbrev cX3_moreOf : ByteArray := prog_1_method_55_code
def yX3_moreOf : MethodName := ⟨RX3, "moreOf", "(I)I"⟩
def RX4 : String := "WantedLaterModel"
def TX4 : u_T := fun k => match k with
  | 0 => ("WantedLaterModel", "now", "[I", true)
  | 1 => ("WantedLaterModel", "kept", "[I", true)
  | 2 => ("WantedLaterModel", "isKept", "[Z", true)
  | 3 => ("WantedLaterModel", "refused", "[I", true)
  | 4 => ("WantedLaterModel", "above", "J", false)
  | 5 => ("WantedLaterModel", "below", "J", false)
  | 6 => ("WantedLaterModel", "tempers", "[I", true)
  | 7 => ("WantedLaterModel", "listed", "I", false)
  | 8 => ("WantedLaterModel", "following", "I", false)
  | 9 => ("WantedLaterModel", "dayThen", "I", false)
  | 10 => ("WantedLaterModel", "his", "[I", true)
  | 11 => ("WantedLaterModel", "theirs", "[I", true)
  | 12 => ("WantedLaterModel", "manyBy", "[I", true)
  | 13 => ("WantedLaterModel", "bytes", "[I", true)
  | 14 => ("WantedLaterModel", "bytesLong", "I", false)
  | 15 => ("WantedLaterModel", "tokenAt", "I", false)
  | 16 => ("WantedLaterModel", "tokenLong", "I", false)
  | 17 => ("WantedLaterModel", "token", "I", false)
  | 18 => ("WantedLaterModel", "value", "I", false)
  | 19 => ("WantedLaterModel", "anew", "[I", true)
  | _ => ("WantedLaterModel", "values", "[I", true)
def tyX4 : Nat → FieldType := fun k => match k with
  | 0 => .array .int
  | 1 => .array .int
  | 2 => .array .boolean
  | 3 => .array .int
  | 4 => .long
  | 5 => .long
  | 6 => .array .int
  | 7 => .int
  | 8 => .int
  | 9 => .int
  | 10 => .array .int
  | 11 => .array .int
  | 12 => .array .int
  | 13 => .array .int
  | 14 => .int
  | 15 => .int
  | 16 => .int
  | 17 => .int
  | 18 => .int
  | 19 => .array .int
  | _ => .array .int
abbrev wsX40 : List Cond := u_ws RX4 TX4 21
theorem nmX4 : ∀ a, a < 21 → ∀ b, b < 21 → a ≠ b → (TX4 a).2.1 ≠ (TX4 b).2.1 := by decide +kernel
theorem tyX4_ok : ∀ k, k < 21 → parseFieldDescriptor (TX4 k).2.2.1 = some (tyX4 k) := by decide +kernel
abbrev cX4_init : ByteArray := prog_6_method_1_code
def yX4_init : MethodName := ⟨RX4, "<init>", "()V"⟩
abbrev cX4_in : ByteArray := prog_6_method_3_code
def yX4_in : MethodName := ⟨RX4, "in", "(JJJ)Z"⟩
abbrev cX4_bad : ByteArray := prog_6_method_4_code
def yX4_bad : MethodName := ⟨RX4, "bad", "(I)I"⟩
abbrev cX4_no : ByteArray := prog_6_method_5_code
def yX4_no : MethodName := ⟨RX4, "no", "()I"⟩
abbrev cX4_full : ByteArray := prog_6_method_6_code
def yX4_full : MethodName := ⟨RX4, "full", "()I"⟩
abbrev cX4_bits : ByteArray := prog_6_method_7_code
def yX4_bits : MethodName := ⟨RX4, "bits", "(I)I"⟩
abbrev cX4_has : ByteArray := prog_6_method_8_code
def yX4_has : MethodName := ⟨RX4, "has", "(II)Z"⟩
abbrev cX4_begin : ByteArray := prog_6_method_9_code
def yX4_begin : MethodName := ⟨RX4, "begin", "([II)V"⟩
abbrev cX4_many : ByteArray := prog_6_method_10_code
def yX4_many : MethodName := ⟨RX4, "many", "()I"⟩
abbrev cX4_isOne : ByteArray := prog_6_method_11_code
def yX4_isOne : MethodName := ⟨RX4, "isOne", "(I)Z"⟩
abbrev cX4_town : ByteArray := prog_6_method_12_code
def yX4_town : MethodName := ⟨RX4, "town", "(I)I"⟩
abbrev cX4_layOne : ByteArray := prog_6_method_13_code
def yX4_layOne : MethodName := ⟨RX4, "layOne", "([III)V"⟩
abbrev cX4_one : ByteArray := prog_6_method_14_code
def yX4_one : MethodName := ⟨RX4, "one", "(II)I"⟩
abbrev cX4_actAs : ByteArray := prog_6_method_15_code
def yX4_actAs : MethodName := ⟨RX4, "actAs", "(IIIZ)I"⟩
abbrev cX4_moreAs : ByteArray := prog_6_method_16_code
def yX4_moreAs : MethodName := ⟨RX4, "moreAs", "(I)I"⟩
abbrev cX4_temperBehind : ByteArray := prog_6_method_17_code
def yX4_temperBehind : MethodName := ⟨RX4, "temperBehind", "(IIZ)I"⟩
abbrev cX4_layHand : ByteArray := prog_6_method_18_code
def yX4_layHand : MethodName := ⟨RX4, "layHand", "()V"⟩
abbrev cX4_kindOf : ByteArray := prog_6_method_19_code
def yX4_kindOf : MethodName := ⟨RX4, "kindOf", "(I)I"⟩
abbrev cX4_actOf : ByteArray := prog_6_method_20_code
def yX4_actOf : MethodName := ⟨RX4, "actOf", "(I)I"⟩
abbrev cX4_doesIt : ByteArray := prog_6_method_21_code
def yX4_doesIt : MethodName := ⟨RX4, "doesIt", "(I)Z"⟩
abbrev cX4_goDay : ByteArray := prog_6_method_22_code
def yX4_goDay : MethodName := ⟨RX4, "goDay", "()I"⟩
abbrev cX4_keep : ByteArray := prog_6_method_23_code
def yX4_keep : MethodName := ⟨RX4, "keep", "()V"⟩
abbrev cX4_turn : ByteArray := prog_6_method_24_code
def yX4_turn : MethodName := ⟨RX4, "turn", "(III)I"⟩
abbrev cX4_list : ByteArray := prog_6_method_25_code
def yX4_list : MethodName := ⟨RX4, "list", "(II)I"⟩
abbrev cX4_follow : ByteArray := prog_6_method_26_code
def yX4_follow : MethodName := ⟨RX4, "follow", "(II)I"⟩
abbrev cX4_day : ByteArray := prog_6_method_27_code
def yX4_day : MethodName := ⟨RX4, "day", "(I)I"⟩
abbrev cX4_undo : ByteArray := prog_6_method_28_code
def yX4_undo : MethodName := ⟨RX4, "undo", "()I"⟩
abbrev cX4_of : ByteArray := prog_6_method_29_code
def yX4_of : MethodName := ⟨RX4, "of", "(II)I"⟩
abbrev cX4_then : ByteArray := prog_6_method_30_code
def yX4_then : MethodName := ⟨RX4, "then", "(III)I"⟩
abbrev cX4_when : ByteArray := prog_6_method_31_code
def yX4_when : MethodName := ⟨RX4, "when", "(I)I"⟩
abbrev cX4_doesItIn : ByteArray := prog_6_method_32_code
def yX4_doesItIn : MethodName := ⟨RX4, "doesItIn", "(IIZ)Z"⟩
abbrev cX4_lack : ByteArray := prog_6_method_33_code
def yX4_lack : MethodName := ⟨RX4, "lack", "()I"⟩
abbrev cX4_comesTrue : ByteArray := prog_6_method_34_code
def yX4_comesTrue : MethodName := ⟨RX4, "comesTrue", "(II)I"⟩
abbrev cX4_readings : ByteArray := prog_6_method_35_code
def yX4_readings : MethodName := ⟨RX4, "readings", "()I"⟩
abbrev cX4_roster : ByteArray := prog_6_method_36_code
def yX4_roster : MethodName := ⟨RX4, "roster", "(II)I"⟩
abbrev cX4_isStruck : ByteArray := prog_6_method_37_code
def yX4_isStruck : MethodName := ⟨RX4, "isStruck", "(III)Z"⟩
abbrev cX4_off : ByteArray := prog_6_method_38_code
def yX4_off : MethodName := ⟨RX4, "off", "(III)I"⟩
abbrev cX4_rests : ByteArray := prog_6_method_39_code
def yX4_rests : MethodName := ⟨RX4, "rests", "(I)I"⟩
abbrev cX4_note : ByteArray := prog_6_method_40_code
def yX4_note : MethodName := ⟨RX4, "note", "(IIIII)I"⟩
abbrev cX4_forget : ByteArray := prog_6_method_41_code
def yX4_forget : MethodName := ⟨RX4, "forget", "()I"⟩
abbrev cX4_kindsOf : ByteArray := prog_6_method_42_code
def yX4_kindsOf : MethodName := ⟨RX4, "kindsOf", "(I)I"⟩
abbrev cX4_is : ByteArray := prog_6_method_43_code
def yX4_is : MethodName := ⟨RX4, "is", "(I)I"⟩
abbrev cX4_look : ByteArray := prog_6_method_44_code
def yX4_look : MethodName := ⟨RX4, "look", "(II)I"⟩
abbrev cX4_manySources : ByteArray := prog_6_method_45_code
def yX4_manySources : MethodName := ⟨RX4, "manySources", "()I"⟩
abbrev cX4_areKindsEven : ByteArray := prog_6_method_46_code
def yX4_areKindsEven : MethodName := ⟨RX4, "areKindsEven", "()Z"⟩
abbrev cX4_source : ByteArray := prog_6_method_47_code
def yX4_source : MethodName := ⟨RX4, "source", "(I)I"⟩
abbrev cX4_fraction : ByteArray := prog_6_method_48_code
def yX4_fraction : MethodName := ⟨RX4, "fraction", "(JJ)V"⟩
abbrev cX4_odds : ByteArray := prog_6_method_49_code
def yX4_odds : MethodName := ⟨RX4, "odds", "(III)I"⟩
abbrev cX4_years : ByteArray := prog_6_method_50_code
def yX4_years : MethodName := ⟨RX4, "years", "(II)I"⟩
abbrev cX4_type : ByteArray := prog_6_method_51_code
def yX4_type : MethodName := ⟨RX4, "type", "(I)I"⟩
abbrev cX4_clear : ByteArray := prog_6_method_52_code
def yX4_clear : MethodName := ⟨RX4, "clear", "()I"⟩
abbrev cX4_isSmall : ByteArray := prog_6_method_53_code
def yX4_isSmall : MethodName := ⟨RX4, "isSmall", "(I)Z"⟩
abbrev cX4_isFigure : ByteArray := prog_6_method_54_code
def yX4_isFigure : MethodName := ⟨RX4, "isFigure", "(I)Z"⟩
abbrev cX4_lookAt : ByteArray := prog_6_method_55_code
def yX4_lookAt : MethodName := ⟨RX4, "lookAt", "(I)V"⟩
abbrev cX4_goBehind : ByteArray := prog_6_method_56_code
def yX4_goBehind : MethodName := ⟨RX4, "goBehind", "()V"⟩
abbrev cX4_spells : ByteArray := prog_6_method_57_code
def yX4_spells : MethodName := ⟨RX4, "spells", "(IIIIIII)Z"⟩
abbrev cX4_takes : ByteArray := prog_6_method_58_code
def yX4_takes : MethodName := ⟨RX4, "takes", "(III)Z"⟩
abbrev cX4_takesTown : ByteArray := prog_6_method_59_code
def yX4_takesTown : MethodName := ⟨RX4, "takesTown", "()Z"⟩
abbrev cX4_takesOne : ByteArray := prog_6_method_60_code
def yX4_takesOne : MethodName := ⟨RX4, "takesOne", "()Z"⟩
abbrev cX4_takesBit : ByteArray := prog_6_method_61_code
def yX4_takesBit : MethodName := ⟨RX4, "takesBit", "(I)Z"⟩
abbrev cX4_takesItem : ByteArray := prog_6_method_62_code
def yX4_takesItem : MethodName := ⟨RX4, "takesItem", "()Z"⟩
abbrev cX4_read : ByteArray := prog_6_method_63_code
def yX4_read : MethodName := ⟨RX4, "read", "()I"⟩
abbrev cX4_part : ByteArray := prog_6_method_64_code
def yX4_part : MethodName := ⟨RX4, "part", "(I)J"⟩
abbrev cX4_image : ByteArray := prog_6_method_65_code
def yX4_image : MethodName := ⟨RX4, "image", "(I)I"⟩
abbrev cX4_from : ByteArray := prog_6_method_66_code
def yX4_from : MethodName := ⟨RX4, "from", "(I)I"⟩
abbrev cX4_status : ByteArray := prog_6_method_67_code
def yX4_status : MethodName := ⟨RX4, "status", "(I)I"⟩
abbrev cX4_counted : ByteArray := prog_6_method_68_code
def yX4_counted : MethodName := ⟨RX4, "counted", "(I)I"⟩
abbrev cX4_count : ByteArray := prog_6_method_69_code
def yX4_count : MethodName := ⟨RX4, "count", "(I)I"⟩
abbrev cX4_sums : ByteArray := prog_6_method_70_code
def yX4_sums : MethodName := ⟨RX4, "sums", "(JII)J"⟩
abbrev cX4_digest : ByteArray := prog_6_method_71_code
def yX4_digest : MethodName := ⟨RX4, "digest", "()J"⟩
def RJ6 : String := "java/lang/Integer"
def TJ6 : u_T := fun k => match k with
  | _ => ("", "", "", false)
def tyJ6 : Nat → FieldType := fun k => match k with
  | _ => .int
abbrev wsJ60 : List Cond := u_ws RJ6 TJ6 0
theorem nmJ6 : ∀ a, a < 0 → ∀ b, b < 0 → a ≠ b → (TJ6 a).2.1 ≠ (TJ6 b).2.1 := by decide +kernel
theorem tyJ6_ok : ∀ k, k < 0 → parseFieldDescriptor (TJ6 k).2.2.1 = some (tyJ6 k) := by decide +kernel
abbrev cJ6_bitCount_0f7a4 : ByteArray := prog_7_method_49_code
def yJ6_bitCount_0f7a4 : MethodName := ⟨RJ6, "bitCount", "(I)I"⟩
def RJ9 : String := "java/lang/Math"
def TJ9 : u_T := fun k => match k with
  | _ => ("", "", "", false)
def tyJ9 : Nat → FieldType := fun k => match k with
  | _ => .int
abbrev wsJ90 : List Cond := u_ws RJ9 TJ9 0
theorem nmJ9 : ∀ a, a < 0 → ∀ b, b < 0 → a ≠ b → (TJ9 a).2.1 ≠ (TJ9 b).2.1 := by decide +kernel
theorem tyJ9_ok : ∀ k, k < 0 → parseFieldDescriptor (TJ9 k).2.2.1 = some (tyJ9 k) := by decide +kernel
abbrev cJ9_max_7cf53 : ByteArray := prog_8_method_65_code
def yJ9_max_7cf53 : MethodName := ⟨RJ9, "max", "(II)I"⟩
abbrev cJ9_min_7cf53 : ByteArray := prog_8_method_69_code
def yJ9_min_7cf53 : MethodName := ⟨RJ9, "min", "(II)I"⟩
def RJ0 : String := "java/lang/String"
def TJ0 : u_T := fun k => match k with
  | _ => ("", "", "", false)
def tyJ0 : Nat → FieldType := fun k => match k with
  | _ => .int
abbrev wsJ00 : List Cond := u_ws RJ0 TJ0 0
theorem nmJ0 : ∀ a, a < 0 → ∀ b, b < 0 → a ≠ b → (TJ0 a).2.1 ≠ (TJ0 b).2.1 := by decide +kernel
theorem tyJ0_ok : ∀ k, k < 0 → parseFieldDescriptor (TJ0 k).2.2.1 = some (tyJ0 k) := by decide +kernel
abbrev cJ0_length_8abf5 : ByteArray := prog_9_method_54_code
def yJ0_length_8abf5 : MethodName := ⟨RJ0, "length", "()I"⟩
abbrev cJ0_charAt_5068e : ByteArray := prog_9_method_56_code
def yJ0_charAt_5068e : MethodName := ⟨RJ0, "charAt", "(I)C"⟩
abbrev cJ0_coder_7d493 : ByteArray := prog_9_method_152_code
def yJ0_coder_7d493 : MethodName := ⟨RJ0, "coder", "()B"⟩
abbrev cJ0_isLatin1_aae02 : ByteArray := prog_9_method_154_code
def yJ0_isLatin1_aae02 : MethodName := ⟨RJ0, "isLatin1", "()Z"⟩
abbrev cJ0_checkIndex_df160 : ByteArray := prog_9_method_155_code
def yJ0_checkIndex_df160 : MethodName := ⟨RJ0, "checkIndex", "(II)V"⟩
def RJ1 : String := "java/lang/StringLatin1"
def TJ1 : u_T := fun k => match k with
  | _ => ("", "", "", false)
def tyJ1 : Nat → FieldType := fun k => match k with
  | _ => .int
abbrev wsJ10 : List Cond := u_ws RJ1 TJ1 0
theorem nmJ1 : ∀ a, a < 0 → ∀ b, b < 0 → a ≠ b → (TJ1 a).2.1 ≠ (TJ1 b).2.1 := by decide +kernel
theorem tyJ1_ok : ∀ k, k < 0 → parseFieldDescriptor (TJ1 k).2.2.1 = some (tyJ1 k) := by decide +kernel
abbrev cJ1_charAt_3b067 : ByteArray := prog_10_method_2_code
def yJ1_charAt_3b067 : MethodName := ⟨RJ1, "charAt", "([BI)C"⟩
def RJ2 : String := "java/lang/StringUTF16"
def TJ2 : u_T := fun k => match k with
  | _ => ("", "", "", false)
def tyJ2 : Nat → FieldType := fun k => match k with
  | _ => .int
abbrev wsJ20 : List Cond := u_ws RJ2 TJ2 0
theorem nmJ2 : ∀ a, a < 0 → ∀ b, b < 0 → a ≠ b → (TJ2 a).2.1 ≠ (TJ2 b).2.1 := by decide +kernel
theorem tyJ2_ok : ∀ k, k < 0 → parseFieldDescriptor (TJ2 k).2.2.1 = some (tyJ2 k) := by decide +kernel
abbrev cJ2_getChar_3b067 : ByteArray := prog_11_method_5_code
def yJ2_getChar_3b067 : MethodName := ⟨RJ2, "getChar", "([BI)C"⟩
abbrev cJ2_length_9d52b : ByteArray := prog_11_method_6_code
def yJ2_length_9d52b : MethodName := ⟨RJ2, "length", "([B)I"⟩
abbrev cJ2_charAt_3b067 : ByteArray := prog_11_method_83_code
def yJ2_charAt_3b067 : MethodName := ⟨RJ2, "charAt", "([BI)C"⟩
abbrev cJ2_checkIndex_2214a : ByteArray := prog_11_method_91_code
def yJ2_checkIndex_2214a : MethodName := ⟨RJ2, "checkIndex", "(I[B)V"⟩
def RJ10 : String := "java/lang/System"
def TJ10 : u_T := fun k => match k with
  | _ => ("", "", "", false)
def tyJ10 : Nat → FieldType := fun k => match k with
  | _ => .int
abbrev wsJ100 : List Cond := u_ws RJ10 TJ10 0
theorem nmJ10 : ∀ a, a < 0 → ∀ b, b < 0 → a ≠ b → (TJ10 a).2.1 ≠ (TJ10 b).2.1 := by decide +kernel
theorem tyJ10_ok : ∀ k, k < 0 → parseFieldDescriptor (TJ10 k).2.2.1 = some (tyJ10 k) := by decide +kernel
def RJ3 : String := "jdk/internal/util/Preconditions"
def TJ3 : u_T := fun k => match k with
  | _ => ("", "", "", false)
def tyJ3 : Nat → FieldType := fun k => match k with
  | _ => .int
abbrev wsJ30 : List Cond := u_ws RJ3 TJ3 0
theorem nmJ3 : ∀ a, a < 0 → ∀ b, b < 0 → a ≠ b → (TJ3 a).2.1 ≠ (TJ3 b).2.1 := by decide +kernel
theorem tyJ3_ok : ∀ k, k < 0 → parseFieldDescriptor (TJ3 k).2.2.1 = some (tyJ3 k) := by decide +kernel
abbrev cJ3_checkIndex_8e157 : ByteArray := prog_13_method_11_code
def yJ3_checkIndex_8e157 : MethodName := ⟨RJ3, "checkIndex", "(IILjava/util/function/BiFunction;)I"⟩
def RL : String := "WantedLaterLaw"
abbrev cL_law : ByteArray := code
def yL_law : MethodName := ⟨RL, "law", "([I)Z"⟩
abbrev vwCl : List vw_C := [(RX0, TX0, 6), (RX1, TX1, 12), (RX2, TX2, 6), (RX3, TX3, 11), (RX4, TX4, 21)]
end
section
theorem dX0_init_0 : decode cX0_init 0 = .ok (.aload_n 0, 1) := by decide +kernel
theorem dX0_init_1 : decode cX0_init 1 = .ok (.invokespecial 3, 3) := by decide +kernel
theorem dX0_init_4 : decode cX0_init 4 = .ok (.aload_n 0, 1) := by decide +kernel
theorem dX0_init_5 : decode cX0_init 5 = .ok (.sipush 150, 3) := by decide +kernel
theorem dX0_init_8 : decode cX0_init 8 = .ok (.newarray .byte, 2) := by decide +kernel
theorem dX0_init_10 : decode cX0_init 10 = .ok (.putfield 9, 3) := by decide +kernel
theorem dX0_init_13 : decode cX0_init 13 = .ok (.return_, 1) := by decide +kernel
theorem dX0_add_0 : decode cX0_add 0 = .ok (.aload_n 0, 1) := by decide +kernel
theorem dX0_add_1 : decode cX0_add 1 = .ok (.getfield 15, 3) := by decide +kernel
theorem dX0_add_4 : decode cX0_add 4 = .ok (.sipush 150, 3) := by decide +kernel
theorem dX0_add_7 : decode cX0_add 7 = .ok (.if_icmp .ge 24, 3) := by decide +kernel
theorem dX0_add_10 : decode cX0_add 10 = .ok (.aload_n 0, 1) := by decide +kernel
theorem dX0_add_11 : decode cX0_add 11 = .ok (.getfield 9, 3) := by decide +kernel
theorem dX0_add_14 : decode cX0_add 14 = .ok (.aload_n 0, 1) := by decide +kernel
theorem dX0_add_15 : decode cX0_add 15 = .ok (.getfield 15, 3) := by decide +kernel
theorem dX0_add_18 : decode cX0_add 18 = .ok (.iload_n 1, 1) := by decide +kernel
theorem dX0_add_19 : decode cX0_add 19 = .ok (.i2b, 1) := by decide +kernel
theorem dX0_add_20 : decode cX0_add 20 = .ok (.bastore, 1) := by decide +kernel
theorem dX0_add_21 : decode cX0_add 21 = .ok (.aload_n 0, 1) := by decide +kernel
theorem dX0_add_22 : decode cX0_add 22 = .ok (.dup, 1) := by decide +kernel
theorem dX0_add_23 : decode cX0_add 23 = .ok (.getfield 15, 3) := by decide +kernel
theorem dX0_add_26 : decode cX0_add 26 = .ok (.iconst 1, 1) := by decide +kernel
theorem dX0_add_27 : decode cX0_add 27 = .ok (.iadd, 1) := by decide +kernel
theorem dX0_add_28 : decode cX0_add 28 = .ok (.putfield 15, 3) := by decide +kernel
theorem dX0_add_31 : decode cX0_add 31 = .ok (.aload_n 0, 1) := by decide +kernel
theorem dX0_add_32 : decode cX0_add 32 = .ok (.getfield 15, 3) := by decide +kernel
theorem dX0_add_35 : decode cX0_add 35 = .ok (.ireturn, 1) := by decide +kernel
theorem dX0_readInto_0 : decode cX0_readInto 0 = .ok (.aload_n 1, 1) := by decide +kernel
theorem dX0_readInto_1 : decode cX0_readInto 1 = .ok (.iconst 3, 1) := by decide +kernel
theorem dX0_readInto_2 : decode cX0_readInto 2 = .ok (.invokevirtual 19, 3) := by decide +kernel
theorem dX0_readInto_5 : decode cX0_readInto 5 = .ok (.aload_n 0, 1) := by decide +kernel
theorem dX0_readInto_6 : decode cX0_readInto 6 = .ok (.iconst 0, 1) := by decide +kernel
theorem dX0_readInto_7 : decode cX0_readInto 7 = .ok (.putfield 25, 3) := by decide +kernel
theorem dX0_readInto_10 : decode cX0_readInto 10 = .ok (.iconst 0, 1) := by decide +kernel
theorem dX0_readInto_11 : decode cX0_readInto 11 = .ok (.istore_n 2, 1) := by decide +kernel
theorem dX0_readInto_12 : decode cX0_readInto 12 = .ok (.iload_n 2, 1) := by decide +kernel
theorem dX0_readInto_13 : decode cX0_readInto 13 = .ok (.sipush 150, 3) := by decide +kernel
theorem dX0_readInto_16 : decode cX0_readInto 16 = .ok (.if_icmp .gt 46, 3) := by decide +kernel
theorem dX0_readInto_19 : decode cX0_readInto 19 = .ok (.aload_n 0, 1) := by decide +kernel
theorem dX0_readInto_20 : decode cX0_readInto 20 = .ok (.invokevirtual 28, 3) := by decide +kernel
theorem dX0_readInto_23 : decode cX0_readInto 23 = .ok (.iload_n 2, 1) := by decide +kernel
theorem dX0_readInto_24 : decode cX0_readInto 24 = .ok (.ifCond .le 12, 3) := by decide +kernel
theorem dX0_readInto_27 : decode cX0_readInto 27 = .ok (.aload_n 0, 1) := by decide +kernel
theorem dX0_readInto_28 : decode cX0_readInto 28 = .ok (.getfield 31, 3) := by decide +kernel
theorem dX0_readInto_31 : decode cX0_readInto 31 = .ok (.ifCond .ne 5, 3) := by decide +kernel
theorem dX0_readInto_34 : decode cX0_readInto 34 = .ok (.iload_n 2, 1) := by decide +kernel
theorem dX0_readInto_35 : decode cX0_readInto 35 = .ok (.ireturn, 1) := by decide +kernel
theorem dX0_readInto_36 : decode cX0_readInto 36 = .ok (.aload_n 0, 1) := by decide +kernel
theorem dX0_readInto_37 : decode cX0_readInto 37 = .ok (.aload_n 1, 1) := by decide +kernel
theorem dX0_readInto_38 : decode cX0_readInto 38 = .ok (.iload_n 2, 1) := by decide +kernel
theorem dX0_readInto_39 : decode cX0_readInto 39 = .ok (.ifCond .ne 7, 3) := by decide +kernel
theorem dX0_readInto_42 : decode cX0_readInto 42 = .ok (.iconst 1, 1) := by decide +kernel
theorem dX0_readInto_43 : decode cX0_readInto 43 = .ok (.goto 4, 3) := by decide +kernel
theorem dX0_readInto_46 : decode cX0_readInto 46 = .ok (.iconst 0, 1) := by decide +kernel
theorem dX0_readInto_47 : decode cX0_readInto 47 = .ok (.invokevirtual 34, 3) := by decide +kernel
theorem dX0_readInto_50 : decode cX0_readInto 50 = .ok (.ifCond .ne 6, 3) := by decide +kernel
theorem dX0_readInto_53 : decode cX0_readInto 53 = .ok (.goto 9, 3) := by decide +kernel
theorem dX0_readInto_56 : decode cX0_readInto 56 = .ok (.iinc 2 1, 3) := by decide +kernel
theorem dX0_readInto_59 : decode cX0_readInto 59 = .ok (.goto (-47), 3) := by decide +kernel
theorem dX0_readInto_62 : decode cX0_readInto 62 = .ok (.bipush (-10), 2) := by decide +kernel
theorem dX0_readInto_64 : decode cX0_readInto 64 = .ok (.aload_n 0, 1) := by decide +kernel
theorem dX0_readInto_65 : decode cX0_readInto 65 = .ok (.getfield 38, 3) := by decide +kernel
theorem dX0_readInto_68 : decode cX0_readInto 68 = .ok (.isub, 1) := by decide +kernel
theorem dX0_readInto_69 : decode cX0_readInto 69 = .ok (.ireturn, 1) := by decide +kernel
theorem dX0_takesItem_0 : decode cX0_takesItem 0 = .ok (.aload_n 0, 1) := by decide +kernel
theorem dX0_takesItem_1 : decode cX0_takesItem 1 = .ok (.ldc 41, 2) := by decide +kernel
theorem dX0_takesItem_3 : decode cX0_takesItem 3 = .ok (.invokevirtual 43, 3) := by decide +kernel
theorem dX0_takesItem_6 : decode cX0_takesItem 6 = .ok (.iload_n 2, 1) := by decide +kernel
theorem dX0_takesItem_7 : decode cX0_takesItem 7 = .ok (.if_icmp .eq 5, 3) := by decide +kernel
theorem dX0_takesItem_10 : decode cX0_takesItem 10 = .ok (.iconst 0, 1) := by decide +kernel
theorem dX0_takesItem_11 : decode cX0_takesItem 11 = .ok (.ireturn, 1) := by decide +kernel
theorem dX0_takesItem_12 : decode cX0_takesItem 12 = .ok (.iload_n 2, 1) := by decide +kernel
theorem dX0_takesItem_13 : decode cX0_takesItem 13 = .ok (.ifCond .eq 9, 3) := by decide +kernel
theorem dX0_takesItem_16 : decode cX0_takesItem 16 = .ok (.aload_n 0, 1) := by decide +kernel
theorem dX0_takesItem_17 : decode cX0_takesItem 17 = .ok (.aload_n 1, 1) := by decide +kernel
theorem dX0_takesItem_18 : decode cX0_takesItem 18 = .ok (.invokevirtual 47, 3) := by decide +kernel
theorem dX0_takesItem_21 : decode cX0_takesItem 21 = .ok (.ireturn, 1) := by decide +kernel
theorem dX0_takesItem_22 : decode cX0_takesItem 22 = .ok (.aload_n 0, 1) := by decide +kernel
theorem dX0_takesItem_23 : decode cX0_takesItem 23 = .ok (.ldc 51, 2) := by decide +kernel
theorem dX0_takesItem_25 : decode cX0_takesItem 25 = .ok (.invokevirtual 43, 3) := by decide +kernel
theorem dX0_takesItem_28 : decode cX0_takesItem 28 = .ok (.ifCond .eq 9, 3) := by decide +kernel
theorem dX0_takesItem_31 : decode cX0_takesItem 31 = .ok (.aload_n 0, 1) := by decide +kernel
theorem dX0_takesItem_32 : decode cX0_takesItem 32 = .ok (.aload_n 1, 1) := by decide +kernel
theorem dX0_takesItem_33 : decode cX0_takesItem 33 = .ok (.invokevirtual 53, 3) := by decide +kernel
theorem dX0_takesItem_36 : decode cX0_takesItem 36 = .ok (.ireturn, 1) := by decide +kernel
theorem dX0_takesItem_37 : decode cX0_takesItem 37 = .ok (.aload_n 0, 1) := by decide +kernel
theorem dX0_takesItem_38 : decode cX0_takesItem 38 = .ok (.ldc 56, 2) := by decide +kernel
theorem dX0_takesItem_40 : decode cX0_takesItem 40 = .ok (.invokevirtual 43, 3) := by decide +kernel
theorem dX0_takesItem_43 : decode cX0_takesItem 43 = .ok (.ifCond .eq 9, 3) := by decide +kernel
theorem dX0_takesItem_46 : decode cX0_takesItem 46 = .ok (.aload_n 0, 1) := by decide +kernel
theorem dX0_takesItem_47 : decode cX0_takesItem 47 = .ok (.aload_n 1, 1) := by decide +kernel
theorem dX0_takesItem_48 : decode cX0_takesItem 48 = .ok (.invokevirtual 58, 3) := by decide +kernel
theorem dX0_takesItem_51 : decode cX0_takesItem 51 = .ok (.ireturn, 1) := by decide +kernel
theorem dX0_takesItem_52 : decode cX0_takesItem 52 = .ok (.aload_n 0, 1) := by decide +kernel
theorem dX0_takesItem_53 : decode cX0_takesItem 53 = .ok (.ldc 61, 2) := by decide +kernel
theorem dX0_takesItem_55 : decode cX0_takesItem 55 = .ok (.invokevirtual 43, 3) := by decide +kernel
theorem dX0_takesItem_58 : decode cX0_takesItem 58 = .ok (.ifCond .eq 15, 3) := by decide +kernel
theorem dX0_takesItem_61 : decode cX0_takesItem 61 = .ok (.aload_n 0, 1) := by decide +kernel
theorem dX0_takesItem_62 : decode cX0_takesItem 62 = .ok (.aload_n 1, 1) := by decide +kernel
theorem dX0_takesItem_63 : decode cX0_takesItem 63 = .ok (.invokevirtual 63, 3) := by decide +kernel
theorem dX0_takesItem_66 : decode cX0_takesItem 66 = .ok (.ifCond .eq 7, 3) := by decide +kernel
theorem dX0_takesItem_69 : decode cX0_takesItem 69 = .ok (.iconst 1, 1) := by decide +kernel
theorem dX0_takesItem_70 : decode cX0_takesItem 70 = .ok (.goto 4, 3) := by decide +kernel
theorem dX0_takesItem_73 : decode cX0_takesItem 73 = .ok (.iconst 0, 1) := by decide +kernel
theorem dX0_takesItem_74 : decode cX0_takesItem 74 = .ok (.ireturn, 1) := by decide +kernel
theorem dX0_takesTown_0 : decode cX0_takesTown 0 = .ok (.aload_n 0, 1) := by decide +kernel
theorem dX0_takesTown_1 : decode cX0_takesTown 1 = .ok (.iconst 1, 1) := by decide +kernel
theorem dX0_takesTown_2 : decode cX0_takesTown 2 = .ok (.iconst 5, 1) := by decide +kernel
theorem dX0_takesTown_3 : decode cX0_takesTown 3 = .ok (.invokevirtual 66, 3) := by decide +kernel
theorem dX0_takesTown_6 : decode cX0_takesTown 6 = .ok (.ifCond .ne 5, 3) := by decide +kernel
theorem dX0_takesTown_9 : decode cX0_takesTown 9 = .ok (.iconst 0, 1) := by decide +kernel
theorem dX0_takesTown_10 : decode cX0_takesTown 10 = .ok (.ireturn, 1) := by decide +kernel
theorem dX0_takesTown_11 : decode cX0_takesTown 11 = .ok (.aload_n 1, 1) := by decide +kernel
theorem dX0_takesTown_12 : decode cX0_takesTown 12 = .ok (.aload_n 0, 1) := by decide +kernel
theorem dX0_takesTown_13 : decode cX0_takesTown 13 = .ok (.getfield 70, 3) := by decide +kernel
theorem dX0_takesTown_16 : decode cX0_takesTown 16 = .ok (.putfield 73, 3) := by decide +kernel
theorem dX0_takesTown_19 : decode cX0_takesTown 19 = .ok (.aload_n 0, 1) := by decide +kernel
theorem dX0_takesTown_20 : decode cX0_takesTown 20 = .ok (.invokevirtual 76, 3) := by decide +kernel
theorem dX0_takesTown_23 : decode cX0_takesTown 23 = .ok (.ireturn, 1) := by decide +kernel
theorem dX0_takesOne_0 : decode cX0_takesOne 0 = .ok (.aload_n 1, 1) := by decide +kernel
theorem dX0_takesOne_1 : decode cX0_takesOne 1 = .ok (.getfield 80, 3) := by decide +kernel
theorem dX0_takesOne_4 : decode cX0_takesOne 4 = .ok (.bipush 7, 2) := by decide +kernel
theorem dX0_takesOne_6 : decode cX0_takesOne 6 = .ok (.if_icmp .ge 12, 3) := by decide +kernel
theorem dX0_takesOne_9 : decode cX0_takesOne 9 = .ok (.aload_n 0, 1) := by decide +kernel
theorem dX0_takesOne_10 : decode cX0_takesOne 10 = .ok (.iconst 0, 1) := by decide +kernel
theorem dX0_takesOne_11 : decode cX0_takesOne 11 = .ok (.iconst 5, 1) := by decide +kernel
theorem dX0_takesOne_12 : decode cX0_takesOne 12 = .ok (.invokevirtual 66, 3) := by decide +kernel
theorem dX0_takesOne_15 : decode cX0_takesOne 15 = .ok (.ifCond .ne 5, 3) := by decide +kernel
theorem dX0_takesOne_18 : decode cX0_takesOne 18 = .ok (.iconst 0, 1) := by decide +kernel
theorem dX0_takesOne_19 : decode cX0_takesOne 19 = .ok (.ireturn, 1) := by decide +kernel
theorem dX0_takesOne_20 : decode cX0_takesOne 20 = .ok (.aload_n 0, 1) := by decide +kernel
theorem dX0_takesOne_21 : decode cX0_takesOne 21 = .ok (.getfield 70, 3) := by decide +kernel
theorem dX0_takesOne_24 : decode cX0_takesOne 24 = .ok (.istore_n 2, 1) := by decide +kernel
theorem dX0_takesOne_25 : decode cX0_takesOne 25 = .ok (.aload_n 0, 1) := by decide +kernel
theorem dX0_takesOne_26 : decode cX0_takesOne 26 = .ok (.iconst 0, 1) := by decide +kernel
theorem dX0_takesOne_27 : decode cX0_takesOne 27 = .ok (.bipush 30, 2) := by decide +kernel
theorem dX0_takesOne_29 : decode cX0_takesOne 29 = .ok (.invokevirtual 66, 3) := by decide +kernel
theorem dX0_takesOne_32 : decode cX0_takesOne 32 = .ok (.ifCond .ne 5, 3) := by decide +kernel
theorem dX0_takesOne_35 : decode cX0_takesOne 35 = .ok (.iconst 0, 1) := by decide +kernel
theorem dX0_takesOne_36 : decode cX0_takesOne 36 = .ok (.ireturn, 1) := by decide +kernel
theorem dX0_takesOne_37 : decode cX0_takesOne 37 = .ok (.aload_n 1, 1) := by decide +kernel
theorem dX0_takesOne_38 : decode cX0_takesOne 38 = .ok (.iload_n 2, 1) := by decide +kernel
theorem dX0_takesOne_39 : decode cX0_takesOne 39 = .ok (.aload_n 0, 1) := by decide +kernel
theorem dX0_takesOne_40 : decode cX0_takesOne 40 = .ok (.getfield 70, 3) := by decide +kernel
theorem dX0_takesOne_43 : decode cX0_takesOne 43 = .ok (.invokevirtual 83, 3) := by decide +kernel
theorem dX0_takesOne_46 : decode cX0_takesOne 46 = .ok (.pop, 1) := by decide +kernel
theorem dX0_takesOne_47 : decode cX0_takesOne 47 = .ok (.aload_n 0, 1) := by decide +kernel
theorem dX0_takesOne_48 : decode cX0_takesOne 48 = .ok (.invokevirtual 76, 3) := by decide +kernel
theorem dX0_takesOne_51 : decode cX0_takesOne 51 = .ok (.ireturn, 1) := by decide +kernel
theorem dX0_takesListed_0 : decode cX0_takesListed 0 = .ok (.aload_n 0, 1) := by decide +kernel
theorem dX0_takesListed_1 : decode cX0_takesListed 1 = .ok (.iconst 0, 1) := by decide +kernel
theorem dX0_takesListed_2 : decode cX0_takesListed 2 = .ok (.aload_n 1, 1) := by decide +kernel
theorem dX0_takesListed_3 : decode cX0_takesListed 3 = .ok (.getfield 80, 3) := by decide +kernel
theorem dX0_takesListed_6 : decode cX0_takesListed 6 = .ok (.iconst 1, 1) := by decide +kernel
theorem dX0_takesListed_7 : decode cX0_takesListed 7 = .ok (.isub, 1) := by decide +kernel
theorem dX0_takesListed_8 : decode cX0_takesListed 8 = .ok (.invokevirtual 66, 3) := by decide +kernel
theorem dX0_takesListed_11 : decode cX0_takesListed 11 = .ok (.ifCond .ne 5, 3) := by decide +kernel
theorem dX0_takesListed_14 : decode cX0_takesListed 14 = .ok (.iconst 0, 1) := by decide +kernel
theorem dX0_takesListed_15 : decode cX0_takesListed 15 = .ok (.ireturn, 1) := by decide +kernel
theorem dX0_takesListed_16 : decode cX0_takesListed 16 = .ok (.aload_n 1, 1) := by decide +kernel
theorem dX0_takesListed_17 : decode cX0_takesListed 17 = .ok (.aload_n 1, 1) := by decide +kernel
theorem dX0_takesListed_18 : decode cX0_takesListed 18 = .ok (.getfield 87, 3) := by decide +kernel
theorem dX0_takesListed_21 : decode cX0_takesListed 21 = .ok (.aload_n 0, 1) := by decide +kernel
theorem dX0_takesListed_22 : decode cX0_takesListed 22 = .ok (.getfield 70, 3) := by decide +kernel
theorem dX0_takesListed_25 : decode cX0_takesListed 25 = .ok (.iconst 1, 1) := by decide +kernel
theorem dX0_takesListed_26 : decode cX0_takesListed 26 = .ok (.invokestatic 90, 3) := by decide +kernel
theorem dX0_takesListed_29 : decode cX0_takesListed 29 = .ok (.putfield 87, 3) := by decide +kernel
theorem dX0_takesListed_32 : decode cX0_takesListed 32 = .ok (.aload_n 0, 1) := by decide +kernel
theorem dX0_takesListed_33 : decode cX0_takesListed 33 = .ok (.invokevirtual 76, 3) := by decide +kernel
theorem dX0_takesListed_36 : decode cX0_takesListed 36 = .ok (.ireturn, 1) := by decide +kernel
theorem dX0_takesFollowed_0 : decode cX0_takesFollowed 0 = .ok (.aload_n 0, 1) := by decide +kernel
theorem dX0_takesFollowed_1 : decode cX0_takesFollowed 1 = .ok (.iconst 0, 1) := by decide +kernel
theorem dX0_takesFollowed_2 : decode cX0_takesFollowed 2 = .ok (.aload_n 1, 1) := by decide +kernel
theorem dX0_takesFollowed_3 : decode cX0_takesFollowed 3 = .ok (.getfield 80, 3) := by decide +kernel
theorem dX0_takesFollowed_6 : decode cX0_takesFollowed 6 = .ok (.iconst 1, 1) := by decide +kernel
theorem dX0_takesFollowed_7 : decode cX0_takesFollowed 7 = .ok (.isub, 1) := by decide +kernel
theorem dX0_takesFollowed_8 : decode cX0_takesFollowed 8 = .ok (.invokevirtual 66, 3) := by decide +kernel
theorem dX0_takesFollowed_11 : decode cX0_takesFollowed 11 = .ok (.ifCond .ne 5, 3) := by decide +kernel
theorem dX0_takesFollowed_14 : decode cX0_takesFollowed 14 = .ok (.iconst 0, 1) := by decide +kernel
theorem dX0_takesFollowed_15 : decode cX0_takesFollowed 15 = .ok (.ireturn, 1) := by decide +kernel
theorem dX0_takesFollowed_16 : decode cX0_takesFollowed 16 = .ok (.aload_n 1, 1) := by decide +kernel
theorem dX0_takesFollowed_17 : decode cX0_takesFollowed 17 = .ok (.aload_n 1, 1) := by decide +kernel
theorem dX0_takesFollowed_18 : decode cX0_takesFollowed 18 = .ok (.getfield 94, 3) := by decide +kernel
theorem dX0_takesFollowed_21 : decode cX0_takesFollowed 21 = .ok (.aload_n 0, 1) := by decide +kernel
theorem dX0_takesFollowed_22 : decode cX0_takesFollowed 22 = .ok (.getfield 70, 3) := by decide +kernel
theorem dX0_takesFollowed_25 : decode cX0_takesFollowed 25 = .ok (.iconst 1, 1) := by decide +kernel
theorem dX0_takesFollowed_26 : decode cX0_takesFollowed 26 = .ok (.invokestatic 90, 3) := by decide +kernel
theorem dX0_takesFollowed_29 : decode cX0_takesFollowed 29 = .ok (.putfield 94, 3) := by decide +kernel
theorem dX0_takesFollowed_32 : decode cX0_takesFollowed 32 = .ok (.aload_n 0, 1) := by decide +kernel
theorem dX0_takesFollowed_33 : decode cX0_takesFollowed 33 = .ok (.invokevirtual 76, 3) := by decide +kernel
theorem dX0_takesFollowed_36 : decode cX0_takesFollowed 36 = .ok (.ireturn, 1) := by decide +kernel
theorem dX0_takesNumber_0 : decode cX0_takesNumber 0 = .ok (.aload_n 0, 1) := by decide +kernel
theorem dX0_takesNumber_1 : decode cX0_takesNumber 1 = .ok (.invokevirtual 28, 3) := by decide +kernel
theorem dX0_takesNumber_4 : decode cX0_takesNumber 4 = .ok (.aload_n 0, 1) := by decide +kernel
theorem dX0_takesNumber_5 : decode cX0_takesNumber 5 = .ok (.getfield 31, 3) := by decide +kernel
theorem dX0_takesNumber_8 : decode cX0_takesNumber 8 = .ok (.iconst 2, 1) := by decide +kernel
theorem dX0_takesNumber_9 : decode cX0_takesNumber 9 = .ok (.if_icmp .eq 5, 3) := by decide +kernel
theorem dX0_takesNumber_12 : decode cX0_takesNumber 12 = .ok (.iconst 0, 1) := by decide +kernel
theorem dX0_takesNumber_13 : decode cX0_takesNumber 13 = .ok (.ireturn, 1) := by decide +kernel
theorem dX0_takesNumber_14 : decode cX0_takesNumber 14 = .ok (.aload_n 0, 1) := by decide +kernel
theorem dX0_takesNumber_15 : decode cX0_takesNumber 15 = .ok (.iconst 0, 1) := by decide +kernel
theorem dX0_takesNumber_16 : decode cX0_takesNumber 16 = .ok (.putfield 70, 3) := by decide +kernel
theorem dX0_takesNumber_19 : decode cX0_takesNumber 19 = .ok (.aload_n 0, 1) := by decide +kernel
theorem dX0_takesNumber_20 : decode cX0_takesNumber 20 = .ok (.getfield 38, 3) := by decide +kernel
theorem dX0_takesNumber_23 : decode cX0_takesNumber 23 = .ok (.istore_n 3, 1) := by decide +kernel
theorem dX0_takesNumber_24 : decode cX0_takesNumber 24 = .ok (.iload_n 3, 1) := by decide +kernel
theorem dX0_takesNumber_25 : decode cX0_takesNumber 25 = .ok (.aload_n 0, 1) := by decide +kernel
theorem dX0_takesNumber_26 : decode cX0_takesNumber 26 = .ok (.getfield 25, 3) := by decide +kernel
theorem dX0_takesNumber_29 : decode cX0_takesNumber 29 = .ok (.if_icmp .ge 30, 3) := by decide +kernel
theorem dX0_takesNumber_32 : decode cX0_takesNumber 32 = .ok (.aload_n 0, 1) := by decide +kernel
theorem dX0_takesNumber_33 : decode cX0_takesNumber 33 = .ok (.bipush 10, 2) := by decide +kernel
theorem dX0_takesNumber_35 : decode cX0_takesNumber 35 = .ok (.aload_n 0, 1) := by decide +kernel
theorem dX0_takesNumber_36 : decode cX0_takesNumber 36 = .ok (.getfield 70, 3) := by decide +kernel
theorem dX0_takesNumber_39 : decode cX0_takesNumber 39 = .ok (.imul, 1) := by decide +kernel
theorem dX0_takesNumber_40 : decode cX0_takesNumber 40 = .ok (.aload_n 0, 1) := by decide +kernel
theorem dX0_takesNumber_41 : decode cX0_takesNumber 41 = .ok (.getfield 9, 3) := by decide +kernel
theorem dX0_takesNumber_44 : decode cX0_takesNumber 44 = .ok (.iload_n 3, 1) := by decide +kernel
theorem dX0_takesNumber_45 : decode cX0_takesNumber 45 = .ok (.baload, 1) := by decide +kernel
theorem dX0_takesNumber_46 : decode cX0_takesNumber 46 = .ok (.bipush 48, 2) := by decide +kernel
theorem dX0_takesNumber_48 : decode cX0_takesNumber 48 = .ok (.isub, 1) := by decide +kernel
theorem dX0_takesNumber_49 : decode cX0_takesNumber 49 = .ok (.iadd, 1) := by decide +kernel
theorem dX0_takesNumber_50 : decode cX0_takesNumber 50 = .ok (.putfield 70, 3) := by decide +kernel
theorem dX0_takesNumber_53 : decode cX0_takesNumber 53 = .ok (.iinc 3 1, 3) := by decide +kernel
theorem dX0_takesNumber_56 : decode cX0_takesNumber 56 = .ok (.goto (-32), 3) := by decide +kernel
theorem dX0_takesNumber_59 : decode cX0_takesNumber 59 = .ok (.aload_n 0, 1) := by decide +kernel
theorem dX0_takesNumber_60 : decode cX0_takesNumber 60 = .ok (.getfield 70, 3) := by decide +kernel
theorem dX0_takesNumber_63 : decode cX0_takesNumber 63 = .ok (.iload_n 1, 1) := by decide +kernel
theorem dX0_takesNumber_64 : decode cX0_takesNumber 64 = .ok (.iload_n 2, 1) := by decide +kernel
theorem dX0_takesNumber_65 : decode cX0_takesNumber 65 = .ok (.invokestatic 97, 3) := by decide +kernel
theorem dX0_takesNumber_68 : decode cX0_takesNumber 68 = .ok (.ireturn, 1) := by decide +kernel
theorem dX0_takesStop_0 : decode cX0_takesStop 0 = .ok (.aload_n 0, 1) := by decide +kernel
theorem dX0_takesStop_1 : decode cX0_takesStop 1 = .ok (.invokevirtual 28, 3) := by decide +kernel
theorem dX0_takesStop_4 : decode cX0_takesStop 4 = .ok (.aload_n 0, 1) := by decide +kernel
theorem dX0_takesStop_5 : decode cX0_takesStop 5 = .ok (.getfield 31, 3) := by decide +kernel
theorem dX0_takesStop_8 : decode cX0_takesStop 8 = .ok (.iconst 3, 1) := by decide +kernel
theorem dX0_takesStop_9 : decode cX0_takesStop 9 = .ok (.if_icmp .ne 7, 3) := by decide +kernel
theorem dX0_takesStop_12 : decode cX0_takesStop 12 = .ok (.iconst 1, 1) := by decide +kernel
theorem dX0_takesStop_13 : decode cX0_takesStop 13 = .ok (.goto 4, 3) := by decide +kernel
theorem dX0_takesStop_16 : decode cX0_takesStop 16 = .ok (.iconst 0, 1) := by decide +kernel
theorem dX0_takesStop_17 : decode cX0_takesStop 17 = .ok (.ireturn, 1) := by decide +kernel
theorem dX0_isWord_0 : decode cX0_isWord 0 = .ok (.aload_n 0, 1) := by decide +kernel
theorem dX0_isWord_1 : decode cX0_isWord 1 = .ok (.getfield 31, 3) := by decide +kernel
theorem dX0_isWord_4 : decode cX0_isWord 4 = .ok (.iconst 1, 1) := by decide +kernel
theorem dX0_isWord_5 : decode cX0_isWord 5 = .ok (.if_icmp .ne 19, 3) := by decide +kernel
theorem dX0_isWord_8 : decode cX0_isWord 8 = .ok (.aload_n 0, 1) := by decide +kernel
theorem dX0_isWord_9 : decode cX0_isWord 9 = .ok (.getfield 25, 3) := by decide +kernel
theorem dX0_isWord_12 : decode cX0_isWord 12 = .ok (.aload_n 0, 1) := by decide +kernel
theorem dX0_isWord_13 : decode cX0_isWord 13 = .ok (.getfield 38, 3) := by decide +kernel
theorem dX0_isWord_16 : decode cX0_isWord 16 = .ok (.isub, 1) := by decide +kernel
theorem dX0_isWord_17 : decode cX0_isWord 17 = .ok (.aload_n 1, 1) := by decide +kernel
theorem dX0_isWord_18 : decode cX0_isWord 18 = .ok (.invokevirtual 101, 3) := by decide +kernel
theorem dX0_isWord_21 : decode cX0_isWord 21 = .ok (.if_icmp .eq 5, 3) := by decide +kernel
theorem dX0_isWord_24 : decode cX0_isWord 24 = .ok (.iconst 0, 1) := by decide +kernel
theorem dX0_isWord_25 : decode cX0_isWord 25 = .ok (.ireturn, 1) := by decide +kernel
theorem dX0_isWord_26 : decode cX0_isWord 26 = .ok (.iconst 0, 1) := by decide +kernel
theorem dX0_isWord_27 : decode cX0_isWord 27 = .ok (.istore_n 2, 1) := by decide +kernel
theorem dX0_isWord_28 : decode cX0_isWord 28 = .ok (.iload_n 2, 1) := by decide +kernel
theorem dX0_isWord_29 : decode cX0_isWord 29 = .ok (.aload_n 1, 1) := by decide +kernel
theorem dX0_isWord_30 : decode cX0_isWord 30 = .ok (.invokevirtual 101, 3) := by decide +kernel
theorem dX0_isWord_33 : decode cX0_isWord 33 = .ok (.if_icmp .ge 30, 3) := by decide +kernel
theorem dX0_isWord_36 : decode cX0_isWord 36 = .ok (.aload_n 0, 1) := by decide +kernel
theorem dX0_isWord_37 : decode cX0_isWord 37 = .ok (.getfield 9, 3) := by decide +kernel
theorem dX0_isWord_40 : decode cX0_isWord 40 = .ok (.aload_n 0, 1) := by decide +kernel
theorem dX0_isWord_41 : decode cX0_isWord 41 = .ok (.getfield 38, 3) := by decide +kernel
theorem dX0_isWord_44 : decode cX0_isWord 44 = .ok (.iload_n 2, 1) := by decide +kernel
theorem dX0_isWord_45 : decode cX0_isWord 45 = .ok (.iadd, 1) := by decide +kernel
theorem dX0_isWord_46 : decode cX0_isWord 46 = .ok (.baload, 1) := by decide +kernel
theorem dX0_isWord_47 : decode cX0_isWord 47 = .ok (.aload_n 1, 1) := by decide +kernel
theorem dX0_isWord_48 : decode cX0_isWord 48 = .ok (.iload_n 2, 1) := by decide +kernel
theorem dX0_isWord_49 : decode cX0_isWord 49 = .ok (.invokevirtual 106, 3) := by decide +kernel
theorem dX0_isWord_52 : decode cX0_isWord 52 = .ok (.if_icmp .eq 5, 3) := by decide +kernel
theorem dX0_isWord_55 : decode cX0_isWord 55 = .ok (.iconst 0, 1) := by decide +kernel
theorem dX0_isWord_56 : decode cX0_isWord 56 = .ok (.ireturn, 1) := by decide +kernel
theorem dX0_isWord_57 : decode cX0_isWord 57 = .ok (.iinc 2 1, 3) := by decide +kernel
theorem dX0_isWord_60 : decode cX0_isWord 60 = .ok (.goto (-32), 3) := by decide +kernel
theorem dX0_isWord_63 : decode cX0_isWord 63 = .ok (.iconst 1, 1) := by decide +kernel
theorem dX0_isWord_64 : decode cX0_isWord 64 = .ok (.ireturn, 1) := by decide +kernel
theorem dX0_takeToken_0 : decode cX0_takeToken 0 = .ok (.aload_n 0, 1) := by decide +kernel
theorem dX0_takeToken_1 : decode cX0_takeToken 1 = .ok (.aload_n 0, 1) := by decide +kernel
theorem dX0_takeToken_2 : decode cX0_takeToken 2 = .ok (.getfield 25, 3) := by decide +kernel
theorem dX0_takeToken_5 : decode cX0_takeToken 5 = .ok (.putfield 38, 3) := by decide +kernel
theorem dX0_takeToken_8 : decode cX0_takeToken 8 = .ok (.aload_n 0, 1) := by decide +kernel
theorem dX0_takeToken_9 : decode cX0_takeToken 9 = .ok (.getfield 38, 3) := by decide +kernel
theorem dX0_takeToken_12 : decode cX0_takeToken 12 = .ok (.aload_n 0, 1) := by decide +kernel
theorem dX0_takeToken_13 : decode cX0_takeToken 13 = .ok (.getfield 15, 3) := by decide +kernel
theorem dX0_takeToken_16 : decode cX0_takeToken 16 = .ok (.if_icmp .ge 30, 3) := by decide +kernel
theorem dX0_takeToken_19 : decode cX0_takeToken 19 = .ok (.aload_n 0, 1) := by decide +kernel
theorem dX0_takeToken_20 : decode cX0_takeToken 20 = .ok (.getfield 9, 3) := by decide +kernel
theorem dX0_takeToken_23 : decode cX0_takeToken 23 = .ok (.aload_n 0, 1) := by decide +kernel
theorem dX0_takeToken_24 : decode cX0_takeToken 24 = .ok (.getfield 38, 3) := by decide +kernel
theorem dX0_takeToken_27 : decode cX0_takeToken 27 = .ok (.baload, 1) := by decide +kernel
theorem dX0_takeToken_28 : decode cX0_takeToken 28 = .ok (.bipush 32, 2) := by decide +kernel
theorem dX0_takeToken_30 : decode cX0_takeToken 30 = .ok (.if_icmp .ne 16, 3) := by decide +kernel
theorem dX0_takeToken_33 : decode cX0_takeToken 33 = .ok (.aload_n 0, 1) := by decide +kernel
theorem dX0_takeToken_34 : decode cX0_takeToken 34 = .ok (.dup, 1) := by decide +kernel
theorem dX0_takeToken_35 : decode cX0_takeToken 35 = .ok (.getfield 38, 3) := by decide +kernel
theorem dX0_takeToken_38 : decode cX0_takeToken 38 = .ok (.iconst 1, 1) := by decide +kernel
theorem dX0_takeToken_39 : decode cX0_takeToken 39 = .ok (.iadd, 1) := by decide +kernel
theorem dX0_takeToken_40 : decode cX0_takeToken 40 = .ok (.putfield 38, 3) := by decide +kernel
theorem dX0_takeToken_43 : decode cX0_takeToken 43 = .ok (.goto (-35), 3) := by decide +kernel
theorem dX0_takeToken_46 : decode cX0_takeToken 46 = .ok (.aload_n 0, 1) := by decide +kernel
theorem dX0_takeToken_47 : decode cX0_takeToken 47 = .ok (.aload_n 0, 1) := by decide +kernel
theorem dX0_takeToken_48 : decode cX0_takeToken 48 = .ok (.getfield 38, 3) := by decide +kernel
theorem dX0_takeToken_51 : decode cX0_takeToken 51 = .ok (.putfield 25, 3) := by decide +kernel
theorem dX0_takeToken_54 : decode cX0_takeToken 54 = .ok (.aload_n 0, 1) := by decide +kernel
theorem dX0_takeToken_55 : decode cX0_takeToken 55 = .ok (.aload_n 0, 1) := by decide +kernel
theorem dX0_takeToken_56 : decode cX0_takeToken 56 = .ok (.getfield 38, 3) := by decide +kernel
theorem dX0_takeToken_59 : decode cX0_takeToken 59 = .ok (.aload_n 0, 1) := by decide +kernel
theorem dX0_takeToken_60 : decode cX0_takeToken 60 = .ok (.getfield 15, 3) := by decide +kernel
theorem dX0_takeToken_63 : decode cX0_takeToken 63 = .ok (.if_icmp .ge 18, 3) := by decide +kernel
theorem dX0_takeToken_66 : decode cX0_takeToken 66 = .ok (.aload_n 0, 1) := by decide +kernel
theorem dX0_takeToken_67 : decode cX0_takeToken 67 = .ok (.getfield 9, 3) := by decide +kernel
theorem dX0_takeToken_70 : decode cX0_takeToken 70 = .ok (.aload_n 0, 1) := by decide +kernel
theorem dX0_takeToken_71 : decode cX0_takeToken 71 = .ok (.getfield 38, 3) := by decide +kernel
theorem dX0_takeToken_74 : decode cX0_takeToken 74 = .ok (.baload, 1) := by decide +kernel
theorem dX0_takeToken_75 : decode cX0_takeToken 75 = .ok (.invokestatic 110, 3) := by decide +kernel
theorem dX0_takeToken_78 : decode cX0_takeToken 78 = .ok (.goto 4, 3) := by decide +kernel
theorem dX0_takeToken_81 : decode cX0_takeToken 81 = .ok (.iconst 0, 1) := by decide +kernel
theorem dX0_takeToken_82 : decode cX0_takeToken 82 = .ok (.putfield 31, 3) := by decide +kernel
theorem dX0_takeToken_85 : decode cX0_takeToken 85 = .ok (.aload_n 0, 1) := by decide +kernel
theorem dX0_takeToken_86 : decode cX0_takeToken 86 = .ok (.getfield 31, 3) := by decide +kernel
theorem dX0_takeToken_89 : decode cX0_takeToken 89 = .ok (.iconst 3, 1) := by decide +kernel
theorem dX0_takeToken_90 : decode cX0_takeToken 90 = .ok (.if_icmp .eq 11, 3) := by decide +kernel
theorem dX0_takeToken_93 : decode cX0_takeToken 93 = .ok (.aload_n 0, 1) := by decide +kernel
theorem dX0_takeToken_94 : decode cX0_takeToken 94 = .ok (.getfield 31, 3) := by decide +kernel
theorem dX0_takeToken_97 : decode cX0_takeToken 97 = .ok (.iconst 4, 1) := by decide +kernel
theorem dX0_takeToken_98 : decode cX0_takeToken 98 = .ok (.if_icmp .ne 14, 3) := by decide +kernel
theorem dX0_takeToken_101 : decode cX0_takeToken 101 = .ok (.aload_n 0, 1) := by decide +kernel
theorem dX0_takeToken_102 : decode cX0_takeToken 102 = .ok (.dup, 1) := by decide +kernel
theorem dX0_takeToken_103 : decode cX0_takeToken 103 = .ok (.getfield 25, 3) := by decide +kernel
theorem dX0_takeToken_106 : decode cX0_takeToken 106 = .ok (.iconst 1, 1) := by decide +kernel
theorem dX0_takeToken_107 : decode cX0_takeToken 107 = .ok (.iadd, 1) := by decide +kernel
theorem dX0_takeToken_108 : decode cX0_takeToken 108 = .ok (.putfield 25, 3) := by decide +kernel
theorem dX0_takeToken_111 : decode cX0_takeToken 111 = .ok (.return_, 1) := by decide +kernel
theorem dX0_takeToken_112 : decode cX0_takeToken 112 = .ok (.aload_n 0, 1) := by decide +kernel
theorem dX0_takeToken_113 : decode cX0_takeToken 113 = .ok (.getfield 25, 3) := by decide +kernel
theorem dX0_takeToken_116 : decode cX0_takeToken 116 = .ok (.aload_n 0, 1) := by decide +kernel
theorem dX0_takeToken_117 : decode cX0_takeToken 117 = .ok (.getfield 15, 3) := by decide +kernel
theorem dX0_takeToken_120 : decode cX0_takeToken 120 = .ok (.if_icmp .ge 35, 3) := by decide +kernel
theorem dX0_takeToken_123 : decode cX0_takeToken 123 = .ok (.aload_n 0, 1) := by decide +kernel
theorem dX0_takeToken_124 : decode cX0_takeToken 124 = .ok (.getfield 9, 3) := by decide +kernel
theorem dX0_takeToken_127 : decode cX0_takeToken 127 = .ok (.aload_n 0, 1) := by decide +kernel
theorem dX0_takeToken_128 : decode cX0_takeToken 128 = .ok (.getfield 25, 3) := by decide +kernel
theorem dX0_takeToken_131 : decode cX0_takeToken 131 = .ok (.baload, 1) := by decide +kernel
theorem dX0_takeToken_132 : decode cX0_takeToken 132 = .ok (.invokestatic 110, 3) := by decide +kernel
theorem dX0_takeToken_135 : decode cX0_takeToken 135 = .ok (.aload_n 0, 1) := by decide +kernel
theorem dX0_takeToken_136 : decode cX0_takeToken 136 = .ok (.getfield 31, 3) := by decide +kernel
theorem dX0_takeToken_139 : decode cX0_takeToken 139 = .ok (.if_icmp .ne 16, 3) := by decide +kernel
theorem dX0_takeToken_142 : decode cX0_takeToken 142 = .ok (.aload_n 0, 1) := by decide +kernel
theorem dX0_takeToken_143 : decode cX0_takeToken 143 = .ok (.dup, 1) := by decide +kernel
theorem dX0_takeToken_144 : decode cX0_takeToken 144 = .ok (.getfield 25, 3) := by decide +kernel
theorem dX0_takeToken_147 : decode cX0_takeToken 147 = .ok (.iconst 1, 1) := by decide +kernel
theorem dX0_takeToken_148 : decode cX0_takeToken 148 = .ok (.iadd, 1) := by decide +kernel
theorem dX0_takeToken_149 : decode cX0_takeToken 149 = .ok (.putfield 25, 3) := by decide +kernel
theorem dX0_takeToken_152 : decode cX0_takeToken 152 = .ok (.goto (-40), 3) := by decide +kernel
theorem dX0_takeToken_155 : decode cX0_takeToken 155 = .ok (.aload_n 0, 1) := by decide +kernel
theorem dX0_takeToken_156 : decode cX0_takeToken 156 = .ok (.getfield 31, 3) := by decide +kernel
theorem dX0_takeToken_159 : decode cX0_takeToken 159 = .ok (.iconst 2, 1) := by decide +kernel
theorem dX0_takeToken_160 : decode cX0_takeToken 160 = .ok (.if_icmp .ne 21, 3) := by decide +kernel
theorem dX0_takeToken_163 : decode cX0_takeToken 163 = .ok (.aload_n 0, 1) := by decide +kernel
theorem dX0_takeToken_164 : decode cX0_takeToken 164 = .ok (.getfield 25, 3) := by decide +kernel
theorem dX0_takeToken_167 : decode cX0_takeToken 167 = .ok (.aload_n 0, 1) := by decide +kernel
theorem dX0_takeToken_168 : decode cX0_takeToken 168 = .ok (.getfield 38, 3) := by decide +kernel
theorem dX0_takeToken_171 : decode cX0_takeToken 171 = .ok (.isub, 1) := by decide +kernel
theorem dX0_takeToken_172 : decode cX0_takeToken 172 = .ok (.iconst 2, 1) := by decide +kernel
theorem dX0_takeToken_173 : decode cX0_takeToken 173 = .ok (.if_icmp .le 8, 3) := by decide +kernel
theorem dX0_takeToken_176 : decode cX0_takeToken 176 = .ok (.aload_n 0, 1) := by decide +kernel
theorem dX0_takeToken_177 : decode cX0_takeToken 177 = .ok (.iconst 4, 1) := by decide +kernel
theorem dX0_takeToken_178 : decode cX0_takeToken 178 = .ok (.putfield 31, 3) := by decide +kernel
theorem dX0_takeToken_181 : decode cX0_takeToken 181 = .ok (.return_, 1) := by decide +kernel
theorem dX0_sortOf_0 : decode cX0_sortOf 0 = .ok (.iload_n 0, 1) := by decide +kernel
theorem dX0_sortOf_1 : decode cX0_sortOf 1 = .ok (.bipush 97, 2) := by decide +kernel
theorem dX0_sortOf_3 : decode cX0_sortOf 3 = .ok (.if_icmp .lt 11, 3) := by decide +kernel
theorem dX0_sortOf_6 : decode cX0_sortOf 6 = .ok (.iload_n 0, 1) := by decide +kernel
theorem dX0_sortOf_7 : decode cX0_sortOf 7 = .ok (.bipush 122, 2) := by decide +kernel
theorem dX0_sortOf_9 : decode cX0_sortOf 9 = .ok (.if_icmp .gt 5, 3) := by decide +kernel
theorem dX0_sortOf_12 : decode cX0_sortOf 12 = .ok (.iconst 1, 1) := by decide +kernel
theorem dX0_sortOf_13 : decode cX0_sortOf 13 = .ok (.ireturn, 1) := by decide +kernel
theorem dX0_sortOf_14 : decode cX0_sortOf 14 = .ok (.iload_n 0, 1) := by decide +kernel
theorem dX0_sortOf_15 : decode cX0_sortOf 15 = .ok (.bipush 48, 2) := by decide +kernel
theorem dX0_sortOf_17 : decode cX0_sortOf 17 = .ok (.if_icmp .lt 11, 3) := by decide +kernel
theorem dX0_sortOf_20 : decode cX0_sortOf 20 = .ok (.iload_n 0, 1) := by decide +kernel
theorem dX0_sortOf_21 : decode cX0_sortOf 21 = .ok (.bipush 57, 2) := by decide +kernel
theorem dX0_sortOf_23 : decode cX0_sortOf 23 = .ok (.if_icmp .gt 5, 3) := by decide +kernel
theorem dX0_sortOf_26 : decode cX0_sortOf 26 = .ok (.iconst 2, 1) := by decide +kernel
theorem dX0_sortOf_27 : decode cX0_sortOf 27 = .ok (.ireturn, 1) := by decide +kernel
theorem dX0_sortOf_28 : decode cX0_sortOf 28 = .ok (.iload_n 0, 1) := by decide +kernel
theorem dX0_sortOf_29 : decode cX0_sortOf 29 = .ok (.bipush 59, 2) := by decide +kernel
theorem dX0_sortOf_31 : decode cX0_sortOf 31 = .ok (.if_icmp .ne 7, 3) := by decide +kernel
theorem dX0_sortOf_34 : decode cX0_sortOf 34 = .ok (.iconst 3, 1) := by decide +kernel
theorem dX0_sortOf_35 : decode cX0_sortOf 35 = .ok (.goto 4, 3) := by decide +kernel
theorem dX0_sortOf_38 : decode cX0_sortOf 38 = .ok (.iconst 4, 1) := by decide +kernel
theorem dX0_sortOf_39 : decode cX0_sortOf 39 = .ok (.ireturn, 1) := by decide +kernel
theorem dX1_init_0 : decode cX1_init 0 = .ok (.aload_n 0, 1) := by decide +kernel
theorem dX1_init_1 : decode cX1_init 1 = .ok (.invokespecial 3, 3) := by decide +kernel
theorem dX1_init_4 : decode cX1_init 4 = .ok (.aload_n 0, 1) := by decide +kernel
theorem dX1_init_5 : decode cX1_init 5 = .ok (.iconst 3, 1) := by decide +kernel
theorem dX1_init_6 : decode cX1_init 6 = .ok (.putfield 9, 3) := by decide +kernel
theorem dX1_init_9 : decode cX1_init 9 = .ok (.aload_n 0, 1) := by decide +kernel
theorem dX1_init_10 : decode cX1_init 10 = .ok (.bipush 7, 2) := by decide +kernel
theorem dX1_init_12 : decode cX1_init 12 = .ok (.newarray .int, 2) := by decide +kernel
theorem dX1_init_14 : decode cX1_init 14 = .ok (.putfield 15, 3) := by decide +kernel
theorem dX1_init_17 : decode cX1_init 17 = .ok (.aload_n 0, 1) := by decide +kernel
theorem dX1_init_18 : decode cX1_init 18 = .ok (.bipush 7, 2) := by decide +kernel
theorem dX1_init_20 : decode cX1_init 20 = .ok (.newarray .int, 2) := by decide +kernel
theorem dX1_init_22 : decode cX1_init 22 = .ok (.putfield 19, 3) := by decide +kernel
theorem dX1_init_25 : decode cX1_init 25 = .ok (.aload_n 0, 1) := by decide +kernel
theorem dX1_init_26 : decode cX1_init 26 = .ok (.bipush 30, 2) := by decide +kernel
theorem dX1_init_28 : decode cX1_init 28 = .ok (.newarray .int, 2) := by decide +kernel
theorem dX1_init_30 : decode cX1_init 30 = .ok (.putfield 22, 3) := by decide +kernel
theorem dX1_init_33 : decode cX1_init 33 = .ok (.aload_n 0, 1) := by decide +kernel
theorem dX1_init_34 : decode cX1_init 34 = .ok (.bipush 88, 2) := by decide +kernel
theorem dX1_init_36 : decode cX1_init 36 = .ok (.newarray .int, 2) := by decide +kernel
theorem dX1_init_38 : decode cX1_init 38 = .ok (.putfield 25, 3) := by decide +kernel
theorem dX1_init_41 : decode cX1_init 41 = .ok (.return_, 1) := by decide +kernel
theorem dX1_begin_0 : decode cX1_begin 0 = .ok (.aload_n 0, 1) := by decide +kernel
theorem dX1_begin_1 : decode cX1_begin 1 = .ok (.iload_n 1, 1) := by decide +kernel
theorem dX1_begin_2 : decode cX1_begin 2 = .ok (.putfield 9, 3) := by decide +kernel
theorem dX1_begin_5 : decode cX1_begin 5 = .ok (.aload_n 0, 1) := by decide +kernel
theorem dX1_begin_6 : decode cX1_begin 6 = .ok (.iconst 0, 1) := by decide +kernel
theorem dX1_begin_7 : decode cX1_begin 7 = .ok (.putfield 28, 3) := by decide +kernel
theorem dX1_begin_10 : decode cX1_begin 10 = .ok (.aload_n 0, 1) := by decide +kernel
theorem dX1_begin_11 : decode cX1_begin 11 = .ok (.iconst 0, 1) := by decide +kernel
theorem dX1_begin_12 : decode cX1_begin 12 = .ok (.putfield 31, 3) := by decide +kernel
theorem dX1_begin_15 : decode cX1_begin 15 = .ok (.aload_n 0, 1) := by decide +kernel
theorem dX1_begin_16 : decode cX1_begin 16 = .ok (.iconst 0, 1) := by decide +kernel
theorem dX1_begin_17 : decode cX1_begin 17 = .ok (.putfield 34, 3) := by decide +kernel
theorem dX1_begin_20 : decode cX1_begin 20 = .ok (.aload_n 0, 1) := by decide +kernel
theorem dX1_begin_21 : decode cX1_begin 21 = .ok (.iconst 0, 1) := by decide +kernel
theorem dX1_begin_22 : decode cX1_begin 22 = .ok (.putfield 37, 3) := by decide +kernel
theorem dX1_begin_25 : decode cX1_begin 25 = .ok (.aload_n 0, 1) := by decide +kernel
theorem dX1_begin_26 : decode cX1_begin 26 = .ok (.iconst 0, 1) := by decide +kernel
theorem dX1_begin_27 : decode cX1_begin 27 = .ok (.putfield 40, 3) := by decide +kernel
theorem dX1_begin_30 : decode cX1_begin 30 = .ok (.aload_n 0, 1) := by decide +kernel
theorem dX1_begin_31 : decode cX1_begin 31 = .ok (.iconst 0, 1) := by decide +kernel
theorem dX1_begin_32 : decode cX1_begin 32 = .ok (.putfield 43, 3) := by decide +kernel
theorem dX1_begin_35 : decode cX1_begin 35 = .ok (.aload_n 0, 1) := by decide +kernel
theorem dX1_begin_36 : decode cX1_begin 36 = .ok (.iconst 0, 1) := by decide +kernel
theorem dX1_begin_37 : decode cX1_begin 37 = .ok (.putfield 46, 3) := by decide +kernel
theorem dX1_begin_40 : decode cX1_begin 40 = .ok (.return_, 1) := by decide +kernel
theorem dX1_copyFrom_0 : decode cX1_copyFrom 0 = .ok (.aload_n 0, 1) := by decide +kernel
theorem dX1_copyFrom_1 : decode cX1_copyFrom 1 = .ok (.aload_n 1, 1) := by decide +kernel
theorem dX1_copyFrom_2 : decode cX1_copyFrom 2 = .ok (.getfield 9, 3) := by decide +kernel
theorem dX1_copyFrom_5 : decode cX1_copyFrom 5 = .ok (.putfield 9, 3) := by decide +kernel
theorem dX1_copyFrom_8 : decode cX1_copyFrom 8 = .ok (.aload_n 0, 1) := by decide +kernel
theorem dX1_copyFrom_9 : decode cX1_copyFrom 9 = .ok (.aload_n 1, 1) := by decide +kernel
theorem dX1_copyFrom_10 : decode cX1_copyFrom 10 = .ok (.getfield 28, 3) := by decide +kernel
theorem dX1_copyFrom_13 : decode cX1_copyFrom 13 = .ok (.putfield 28, 3) := by decide +kernel
theorem dX1_copyFrom_16 : decode cX1_copyFrom 16 = .ok (.aload_n 0, 1) := by decide +kernel
theorem dX1_copyFrom_17 : decode cX1_copyFrom 17 = .ok (.aload_n 1, 1) := by decide +kernel
theorem dX1_copyFrom_18 : decode cX1_copyFrom 18 = .ok (.getfield 31, 3) := by decide +kernel
theorem dX1_copyFrom_21 : decode cX1_copyFrom 21 = .ok (.putfield 31, 3) := by decide +kernel
theorem dX1_copyFrom_24 : decode cX1_copyFrom 24 = .ok (.aload_n 0, 1) := by decide +kernel
theorem dX1_copyFrom_25 : decode cX1_copyFrom 25 = .ok (.aload_n 1, 1) := by decide +kernel
theorem dX1_copyFrom_26 : decode cX1_copyFrom 26 = .ok (.getfield 34, 3) := by decide +kernel
theorem dX1_copyFrom_29 : decode cX1_copyFrom 29 = .ok (.putfield 34, 3) := by decide +kernel
theorem dX1_copyFrom_32 : decode cX1_copyFrom 32 = .ok (.aload_n 0, 1) := by decide +kernel
theorem dX1_copyFrom_33 : decode cX1_copyFrom 33 = .ok (.aload_n 1, 1) := by decide +kernel
theorem dX1_copyFrom_34 : decode cX1_copyFrom 34 = .ok (.getfield 37, 3) := by decide +kernel
theorem dX1_copyFrom_37 : decode cX1_copyFrom 37 = .ok (.putfield 37, 3) := by decide +kernel
theorem dX1_copyFrom_40 : decode cX1_copyFrom 40 = .ok (.aload_n 0, 1) := by decide +kernel
theorem dX1_copyFrom_41 : decode cX1_copyFrom 41 = .ok (.aload_n 1, 1) := by decide +kernel
theorem dX1_copyFrom_42 : decode cX1_copyFrom 42 = .ok (.getfield 40, 3) := by decide +kernel
theorem dX1_copyFrom_45 : decode cX1_copyFrom 45 = .ok (.putfield 40, 3) := by decide +kernel
theorem dX1_copyFrom_48 : decode cX1_copyFrom 48 = .ok (.aload_n 0, 1) := by decide +kernel
theorem dX1_copyFrom_49 : decode cX1_copyFrom 49 = .ok (.aload_n 1, 1) := by decide +kernel
theorem dX1_copyFrom_50 : decode cX1_copyFrom 50 = .ok (.getfield 43, 3) := by decide +kernel
theorem dX1_copyFrom_53 : decode cX1_copyFrom 53 = .ok (.putfield 43, 3) := by decide +kernel
theorem dX1_copyFrom_56 : decode cX1_copyFrom 56 = .ok (.aload_n 0, 1) := by decide +kernel
theorem dX1_copyFrom_57 : decode cX1_copyFrom 57 = .ok (.aload_n 1, 1) := by decide +kernel
theorem dX1_copyFrom_58 : decode cX1_copyFrom 58 = .ok (.getfield 46, 3) := by decide +kernel
theorem dX1_copyFrom_61 : decode cX1_copyFrom 61 = .ok (.putfield 46, 3) := by decide +kernel
theorem dX1_copyFrom_64 : decode cX1_copyFrom 64 = .ok (.aload_n 1, 1) := by decide +kernel
theorem dX1_copyFrom_65 : decode cX1_copyFrom 65 = .ok (.getfield 15, 3) := by decide +kernel
theorem dX1_copyFrom_68 : decode cX1_copyFrom 68 = .ok (.iconst 0, 1) := by decide +kernel
theorem dX1_copyFrom_69 : decode cX1_copyFrom 69 = .ok (.aload_n 0, 1) := by decide +kernel
theorem dX1_copyFrom_70 : decode cX1_copyFrom 70 = .ok (.getfield 15, 3) := by decide +kernel
theorem dX1_copyFrom_73 : decode cX1_copyFrom 73 = .ok (.iconst 0, 1) := by decide +kernel
theorem dX1_copyFrom_74 : decode cX1_copyFrom 74 = .ok (.aload_n 0, 1) := by decide +kernel
theorem dX1_copyFrom_75 : decode cX1_copyFrom 75 = .ok (.getfield 15, 3) := by decide +kernel
theorem dX1_copyFrom_78 : decode cX1_copyFrom 78 = .ok (.arraylength, 1) := by decide +kernel
theorem dX1_copyFrom_79 : decode cX1_copyFrom 79 = .ok (.invokestatic 49, 3) := by decide +kernel
theorem dX1_copyFrom_82 : decode cX1_copyFrom 82 = .ok (.aload_n 1, 1) := by decide +kernel
theorem dX1_copyFrom_83 : decode cX1_copyFrom 83 = .ok (.getfield 19, 3) := by decide +kernel
theorem dX1_copyFrom_86 : decode cX1_copyFrom 86 = .ok (.iconst 0, 1) := by decide +kernel
theorem dX1_copyFrom_87 : decode cX1_copyFrom 87 = .ok (.aload_n 0, 1) := by decide +kernel
theorem dX1_copyFrom_88 : decode cX1_copyFrom 88 = .ok (.getfield 19, 3) := by decide +kernel
theorem dX1_copyFrom_91 : decode cX1_copyFrom 91 = .ok (.iconst 0, 1) := by decide +kernel
theorem dX1_copyFrom_92 : decode cX1_copyFrom 92 = .ok (.aload_n 0, 1) := by decide +kernel
theorem dX1_copyFrom_93 : decode cX1_copyFrom 93 = .ok (.getfield 19, 3) := by decide +kernel
theorem dX1_copyFrom_96 : decode cX1_copyFrom 96 = .ok (.arraylength, 1) := by decide +kernel
theorem dX1_copyFrom_97 : decode cX1_copyFrom 97 = .ok (.invokestatic 49, 3) := by decide +kernel
theorem dX1_copyFrom_100 : decode cX1_copyFrom 100 = .ok (.aload_n 1, 1) := by decide +kernel
theorem dX1_copyFrom_101 : decode cX1_copyFrom 101 = .ok (.getfield 22, 3) := by decide +kernel
theorem dX1_copyFrom_104 : decode cX1_copyFrom 104 = .ok (.iconst 0, 1) := by decide +kernel
theorem dX1_copyFrom_105 : decode cX1_copyFrom 105 = .ok (.aload_n 0, 1) := by decide +kernel
theorem dX1_copyFrom_106 : decode cX1_copyFrom 106 = .ok (.getfield 22, 3) := by decide +kernel
theorem dX1_copyFrom_109 : decode cX1_copyFrom 109 = .ok (.iconst 0, 1) := by decide +kernel
theorem dX1_copyFrom_110 : decode cX1_copyFrom 110 = .ok (.aload_n 0, 1) := by decide +kernel
theorem dX1_copyFrom_111 : decode cX1_copyFrom 111 = .ok (.getfield 22, 3) := by decide +kernel
theorem dX1_copyFrom_114 : decode cX1_copyFrom 114 = .ok (.arraylength, 1) := by decide +kernel
theorem dX1_copyFrom_115 : decode cX1_copyFrom 115 = .ok (.invokestatic 49, 3) := by decide +kernel
theorem dX1_copyFrom_118 : decode cX1_copyFrom 118 = .ok (.aload_n 1, 1) := by decide +kernel
theorem dX1_copyFrom_119 : decode cX1_copyFrom 119 = .ok (.getfield 25, 3) := by decide +kernel
theorem dX1_copyFrom_122 : decode cX1_copyFrom 122 = .ok (.iconst 0, 1) := by decide +kernel
theorem dX1_copyFrom_123 : decode cX1_copyFrom 123 = .ok (.aload_n 0, 1) := by decide +kernel
theorem dX1_copyFrom_124 : decode cX1_copyFrom 124 = .ok (.getfield 25, 3) := by decide +kernel
theorem dX1_copyFrom_127 : decode cX1_copyFrom 127 = .ok (.iconst 0, 1) := by decide +kernel
theorem dX1_copyFrom_128 : decode cX1_copyFrom 128 = .ok (.aload_n 0, 1) := by decide +kernel
theorem dX1_copyFrom_129 : decode cX1_copyFrom 129 = .ok (.getfield 25, 3) := by decide +kernel
theorem dX1_copyFrom_132 : decode cX1_copyFrom 132 = .ok (.arraylength, 1) := by decide +kernel
theorem dX1_copyFrom_133 : decode cX1_copyFrom 133 = .ok (.invokestatic 49, 3) := by decide +kernel
theorem dX1_copyFrom_136 : decode cX1_copyFrom 136 = .ok (.return_, 1) := by decide +kernel
theorem dX1_addOne_0 : decode cX1_addOne 0 = .ok (.aload_n 0, 1) := by decide +kernel
theorem dX1_addOne_1 : decode cX1_addOne 1 = .ok (.getfield 28, 3) := by decide +kernel
theorem dX1_addOne_4 : decode cX1_addOne 4 = .ok (.bipush 7, 2) := by decide +kernel
theorem dX1_addOne_6 : decode cX1_addOne 6 = .ok (.if_icmp .lt 5, 3) := by decide +kernel
theorem dX1_addOne_9 : decode cX1_addOne 9 = .ok (.iconst (-1), 1) := by decide +kernel
theorem dX1_addOne_10 : decode cX1_addOne 10 = .ok (.ireturn, 1) := by decide +kernel
theorem dX1_addOne_11 : decode cX1_addOne 11 = .ok (.aload_n 0, 1) := by decide +kernel
theorem dX1_addOne_12 : decode cX1_addOne 12 = .ok (.getfield 15, 3) := by decide +kernel
theorem dX1_addOne_15 : decode cX1_addOne 15 = .ok (.aload_n 0, 1) := by decide +kernel
theorem dX1_addOne_16 : decode cX1_addOne 16 = .ok (.getfield 28, 3) := by decide +kernel
theorem dX1_addOne_19 : decode cX1_addOne 19 = .ok (.iload_n 1, 1) := by decide +kernel
theorem dX1_addOne_20 : decode cX1_addOne 20 = .ok (.iastore, 1) := by decide +kernel
theorem dX1_addOne_21 : decode cX1_addOne 21 = .ok (.aload_n 0, 1) := by decide +kernel
theorem dX1_addOne_22 : decode cX1_addOne 22 = .ok (.getfield 19, 3) := by decide +kernel
theorem dX1_addOne_25 : decode cX1_addOne 25 = .ok (.aload_n 0, 1) := by decide +kernel
theorem dX1_addOne_26 : decode cX1_addOne 26 = .ok (.getfield 28, 3) := by decide +kernel
theorem dX1_addOne_29 : decode cX1_addOne 29 = .ok (.iload_n 2, 1) := by decide +kernel
theorem dX1_addOne_30 : decode cX1_addOne 30 = .ok (.iastore, 1) := by decide +kernel
theorem dX1_addOne_31 : decode cX1_addOne 31 = .ok (.aload_n 0, 1) := by decide +kernel
theorem dX1_addOne_32 : decode cX1_addOne 32 = .ok (.iconst 0, 1) := by decide +kernel
theorem dX1_addOne_33 : decode cX1_addOne 33 = .ok (.putfield 46, 3) := by decide +kernel
theorem dX1_addOne_36 : decode cX1_addOne 36 = .ok (.aload_n 0, 1) := by decide +kernel
theorem dX1_addOne_37 : decode cX1_addOne 37 = .ok (.dup, 1) := by decide +kernel
theorem dX1_addOne_38 : decode cX1_addOne 38 = .ok (.getfield 28, 3) := by decide +kernel
theorem dX1_addOne_41 : decode cX1_addOne 41 = .ok (.iconst 1, 1) := by decide +kernel
theorem dX1_addOne_42 : decode cX1_addOne 42 = .ok (.iadd, 1) := by decide +kernel
theorem dX1_addOne_43 : decode cX1_addOne 43 = .ok (.putfield 28, 3) := by decide +kernel
theorem dX1_addOne_46 : decode cX1_addOne 46 = .ok (.aload_n 0, 1) := by decide +kernel
theorem dX1_addOne_47 : decode cX1_addOne 47 = .ok (.getfield 28, 3) := by decide +kernel
theorem dX1_addOne_50 : decode cX1_addOne 50 = .ok (.iconst 1, 1) := by decide +kernel
theorem dX1_addOne_51 : decode cX1_addOne 51 = .ok (.isub, 1) := by decide +kernel
theorem dX1_addOne_52 : decode cX1_addOne 52 = .ok (.ireturn, 1) := by decide +kernel
theorem dX1_addNote_0 : decode cX1_addNote 0 = .ok (.aload_n 0, 1) := by decide +kernel
theorem dX1_addNote_1 : decode cX1_addNote 1 = .ok (.getfield 43, 3) := by decide +kernel
theorem dX1_addNote_4 : decode cX1_addNote 4 = .ok (.bipush 6, 2) := by decide +kernel
theorem dX1_addNote_6 : decode cX1_addNote 6 = .ok (.if_icmp .lt 8, 3) := by decide +kernel
theorem dX1_addNote_9 : decode cX1_addNote 9 = .ok (.aload_n 0, 1) := by decide +kernel
theorem dX1_addNote_10 : decode cX1_addNote 10 = .ok (.getfield 43, 3) := by decide +kernel
theorem dX1_addNote_13 : decode cX1_addNote 13 = .ok (.ireturn, 1) := by decide +kernel
theorem dX1_addNote_14 : decode cX1_addNote 14 = .ok (.aload_n 0, 1) := by decide +kernel
theorem dX1_addNote_15 : decode cX1_addNote 15 = .ok (.getfield 43, 3) := by decide +kernel
theorem dX1_addNote_18 : decode cX1_addNote 18 = .ok (.iconst 5, 1) := by decide +kernel
theorem dX1_addNote_19 : decode cX1_addNote 19 = .ok (.imul, 1) := by decide +kernel
theorem dX1_addNote_20 : decode cX1_addNote 20 = .ok (.istore 6, 2) := by decide +kernel
theorem dX1_addNote_22 : decode cX1_addNote 22 = .ok (.aload_n 0, 1) := by decide +kernel
theorem dX1_addNote_23 : decode cX1_addNote 23 = .ok (.getfield 22, 3) := by decide +kernel
theorem dX1_addNote_26 : decode cX1_addNote 26 = .ok (.iload 6, 2) := by decide +kernel
theorem dX1_addNote_28 : decode cX1_addNote 28 = .ok (.iload_n 1, 1) := by decide +kernel
theorem dX1_addNote_29 : decode cX1_addNote 29 = .ok (.iastore, 1) := by decide +kernel
theorem dX1_addNote_30 : decode cX1_addNote 30 = .ok (.aload_n 0, 1) := by decide +kernel
theorem dX1_addNote_31 : decode cX1_addNote 31 = .ok (.getfield 22, 3) := by decide +kernel
theorem dX1_addNote_34 : decode cX1_addNote 34 = .ok (.iload 6, 2) := by decide +kernel
theorem dX1_addNote_36 : decode cX1_addNote 36 = .ok (.iconst 1, 1) := by decide +kernel
theorem dX1_addNote_37 : decode cX1_addNote 37 = .ok (.iadd, 1) := by decide +kernel
theorem dX1_addNote_38 : decode cX1_addNote 38 = .ok (.iload_n 2, 1) := by decide +kernel
theorem dX1_addNote_39 : decode cX1_addNote 39 = .ok (.iastore, 1) := by decide +kernel
theorem dX1_addNote_40 : decode cX1_addNote 40 = .ok (.aload_n 0, 1) := by decide +kernel
theorem dX1_addNote_41 : decode cX1_addNote 41 = .ok (.getfield 22, 3) := by decide +kernel
theorem dX1_addNote_44 : decode cX1_addNote 44 = .ok (.iload 6, 2) := by decide +kernel
theorem dX1_addNote_46 : decode cX1_addNote 46 = .ok (.iconst 2, 1) := by decide +kernel
theorem dX1_addNote_47 : decode cX1_addNote 47 = .ok (.iadd, 1) := by decide +kernel
theorem dX1_addNote_48 : decode cX1_addNote 48 = .ok (.iload_n 3, 1) := by decide +kernel
theorem dX1_addNote_49 : decode cX1_addNote 49 = .ok (.iastore, 1) := by decide +kernel
theorem dX1_addNote_50 : decode cX1_addNote 50 = .ok (.aload_n 0, 1) := by decide +kernel
theorem dX1_addNote_51 : decode cX1_addNote 51 = .ok (.getfield 22, 3) := by decide +kernel
theorem dX1_addNote_54 : decode cX1_addNote 54 = .ok (.iload 6, 2) := by decide +kernel
theorem dX1_addNote_56 : decode cX1_addNote 56 = .ok (.iconst 3, 1) := by decide +kernel
theorem dX1_addNote_57 : decode cX1_addNote 57 = .ok (.iadd, 1) := by decide +kernel
theorem dX1_addNote_58 : decode cX1_addNote 58 = .ok (.iload 4, 2) := by decide +kernel
theorem dX1_addNote_60 : decode cX1_addNote 60 = .ok (.iastore, 1) := by decide +kernel
theorem dX1_addNote_61 : decode cX1_addNote 61 = .ok (.aload_n 0, 1) := by decide +kernel
theorem dX1_addNote_62 : decode cX1_addNote 62 = .ok (.getfield 22, 3) := by decide +kernel
theorem dX1_addNote_65 : decode cX1_addNote 65 = .ok (.iload 6, 2) := by decide +kernel
theorem dX1_addNote_67 : decode cX1_addNote 67 = .ok (.iconst 4, 1) := by decide +kernel
theorem dX1_addNote_68 : decode cX1_addNote 68 = .ok (.iadd, 1) := by decide +kernel
theorem dX1_addNote_69 : decode cX1_addNote 69 = .ok (.iload 5, 2) := by decide +kernel
theorem dX1_addNote_71 : decode cX1_addNote 71 = .ok (.iastore, 1) := by decide +kernel
theorem dX1_addNote_72 : decode cX1_addNote 72 = .ok (.aload_n 0, 1) := by decide +kernel
theorem dX1_addNote_73 : decode cX1_addNote 73 = .ok (.dup, 1) := by decide +kernel
theorem dX1_addNote_74 : decode cX1_addNote 74 = .ok (.getfield 43, 3) := by decide +kernel
theorem dX1_addNote_77 : decode cX1_addNote 77 = .ok (.iconst 1, 1) := by decide +kernel
theorem dX1_addNote_78 : decode cX1_addNote 78 = .ok (.iadd, 1) := by decide +kernel
theorem dX1_addNote_79 : decode cX1_addNote 79 = .ok (.putfield 43, 3) := by decide +kernel
theorem dX1_addNote_82 : decode cX1_addNote 82 = .ok (.aload_n 0, 1) := by decide +kernel
theorem dX1_addNote_83 : decode cX1_addNote 83 = .ok (.getfield 43, 3) := by decide +kernel
theorem dX1_addNote_86 : decode cX1_addNote 86 = .ok (.ireturn, 1) := by decide +kernel
theorem dX1_isNoteSo_0 : decode cX1_isNoteSo 0 = .ok (.iload_n 1, 1) := by decide +kernel
theorem dX1_isNoteSo_1 : decode cX1_isNoteSo 1 = .ok (.iconst 5, 1) := by decide +kernel
theorem dX1_isNoteSo_2 : decode cX1_isNoteSo 2 = .ok (.imul, 1) := by decide +kernel
theorem dX1_isNoteSo_3 : decode cX1_isNoteSo 3 = .ok (.istore_n 3, 1) := by decide +kernel
theorem dX1_isNoteSo_4 : decode cX1_isNoteSo 4 = .ok (.iload_n 2, 1) := by decide +kernel
theorem dX1_isNoteSo_5 : decode cX1_isNoteSo 5 = .ok (.aload_n 0, 1) := by decide +kernel
theorem dX1_isNoteSo_6 : decode cX1_isNoteSo 6 = .ok (.getfield 22, 3) := by decide +kernel
theorem dX1_isNoteSo_9 : decode cX1_isNoteSo 9 = .ok (.iload_n 3, 1) := by decide +kernel
theorem dX1_isNoteSo_10 : decode cX1_isNoteSo 10 = .ok (.iconst 1, 1) := by decide +kernel
theorem dX1_isNoteSo_11 : decode cX1_isNoteSo 11 = .ok (.iadd, 1) := by decide +kernel
theorem dX1_isNoteSo_12 : decode cX1_isNoteSo 12 = .ok (.iaload, 1) := by decide +kernel
theorem dX1_isNoteSo_13 : decode cX1_isNoteSo 13 = .ok (.aload_n 0, 1) := by decide +kernel
theorem dX1_isNoteSo_14 : decode cX1_isNoteSo 14 = .ok (.getfield 22, 3) := by decide +kernel
theorem dX1_isNoteSo_17 : decode cX1_isNoteSo 17 = .ok (.iload_n 3, 1) := by decide +kernel
theorem dX1_isNoteSo_18 : decode cX1_isNoteSo 18 = .ok (.iconst 2, 1) := by decide +kernel
theorem dX1_isNoteSo_19 : decode cX1_isNoteSo 19 = .ok (.iadd, 1) := by decide +kernel
theorem dX1_isNoteSo_20 : decode cX1_isNoteSo 20 = .ok (.iaload, 1) := by decide +kernel
theorem dX1_isNoteSo_21 : decode cX1_isNoteSo 21 = .ok (.iconst 1, 1) := by decide +kernel
theorem dX1_isNoteSo_22 : decode cX1_isNoteSo 22 = .ok (.if_icmp .ne 7, 3) := by decide +kernel
theorem dX1_isNoteSo_25 : decode cX1_isNoteSo 25 = .ok (.iconst 1, 1) := by decide +kernel
theorem dX1_isNoteSo_26 : decode cX1_isNoteSo 26 = .ok (.goto 4, 3) := by decide +kernel
theorem dX1_isNoteSo_29 : decode cX1_isNoteSo 29 = .ok (.iconst 0, 1) := by decide +kernel
theorem dX1_isNoteSo_30 : decode cX1_isNoteSo 30 = .ok (.aload_n 0, 1) := by decide +kernel
theorem dX1_isNoteSo_31 : decode cX1_isNoteSo 31 = .ok (.getfield 22, 3) := by decide +kernel
theorem dX1_isNoteSo_34 : decode cX1_isNoteSo 34 = .ok (.iload_n 3, 1) := by decide +kernel
theorem dX1_isNoteSo_35 : decode cX1_isNoteSo 35 = .ok (.iconst 3, 1) := by decide +kernel
theorem dX1_isNoteSo_36 : decode cX1_isNoteSo 36 = .ok (.iadd, 1) := by decide +kernel
theorem dX1_isNoteSo_37 : decode cX1_isNoteSo 37 = .ok (.iaload, 1) := by decide +kernel
theorem dX1_isNoteSo_38 : decode cX1_isNoteSo 38 = .ok (.invokestatic 55, 3) := by decide +kernel
theorem dX1_isNoteSo_41 : decode cX1_isNoteSo 41 = .ok (.aload_n 0, 1) := by decide +kernel
theorem dX1_isNoteSo_42 : decode cX1_isNoteSo 42 = .ok (.getfield 22, 3) := by decide +kernel
theorem dX1_isNoteSo_45 : decode cX1_isNoteSo 45 = .ok (.iload_n 3, 1) := by decide +kernel
theorem dX1_isNoteSo_46 : decode cX1_isNoteSo 46 = .ok (.iconst 4, 1) := by decide +kernel
theorem dX1_isNoteSo_47 : decode cX1_isNoteSo 47 = .ok (.iadd, 1) := by decide +kernel
theorem dX1_isNoteSo_48 : decode cX1_isNoteSo 48 = .ok (.iaload, 1) := by decide +kernel
theorem dX1_isNoteSo_49 : decode cX1_isNoteSo 49 = .ok (.if_icmp .ne 7, 3) := by decide +kernel
theorem dX1_isNoteSo_52 : decode cX1_isNoteSo 52 = .ok (.iconst 1, 1) := by decide +kernel
theorem dX1_isNoteSo_53 : decode cX1_isNoteSo 53 = .ok (.goto 4, 3) := by decide +kernel
theorem dX1_isNoteSo_56 : decode cX1_isNoteSo 56 = .ok (.iconst 0, 1) := by decide +kernel
theorem dX1_isNoteSo_57 : decode cX1_isNoteSo 57 = .ok (.ireturn, 1) := by decide +kernel
theorem dX1_kindsByNotes_0 : decode cX1_kindsByNotes 0 = .ok (.iconst 0, 1) := by decide +kernel
theorem dX1_kindsByNotes_1 : decode cX1_kindsByNotes 1 = .ok (.istore_n 2, 1) := by decide +kernel
theorem dX1_kindsByNotes_2 : decode cX1_kindsByNotes 2 = .ok (.iconst 0, 1) := by decide +kernel
theorem dX1_kindsByNotes_3 : decode cX1_kindsByNotes 3 = .ok (.istore_n 3, 1) := by decide +kernel
theorem dX1_kindsByNotes_4 : decode cX1_kindsByNotes 4 = .ok (.iload_n 3, 1) := by decide +kernel
theorem dX1_kindsByNotes_5 : decode cX1_kindsByNotes 5 = .ok (.bipush 6, 2) := by decide +kernel
theorem dX1_kindsByNotes_7 : decode cX1_kindsByNotes 7 = .ok (.if_icmp .ge 81, 3) := by decide +kernel
theorem dX1_kindsByNotes_10 : decode cX1_kindsByNotes 10 = .ok (.iconst 1, 1) := by decide +kernel
theorem dX1_kindsByNotes_11 : decode cX1_kindsByNotes 11 = .ok (.istore 4, 2) := by decide +kernel
theorem dX1_kindsByNotes_13 : decode cX1_kindsByNotes 13 = .ok (.iconst 0, 1) := by decide +kernel
theorem dX1_kindsByNotes_14 : decode cX1_kindsByNotes 14 = .ok (.istore 5, 2) := by decide +kernel
theorem dX1_kindsByNotes_16 : decode cX1_kindsByNotes 16 = .ok (.iload 5, 2) := by decide +kernel
theorem dX1_kindsByNotes_18 : decode cX1_kindsByNotes 18 = .ok (.aload_n 0, 1) := by decide +kernel
theorem dX1_kindsByNotes_19 : decode cX1_kindsByNotes 19 = .ok (.getfield 43, 3) := by decide +kernel
theorem dX1_kindsByNotes_22 : decode cX1_kindsByNotes 22 = .ok (.if_icmp .ge 44, 3) := by decide +kernel
theorem dX1_kindsByNotes_25 : decode cX1_kindsByNotes 25 = .ok (.iload 4, 2) := by decide +kernel
theorem dX1_kindsByNotes_27 : decode cX1_kindsByNotes 27 = .ok (.ifCond .eq 30, 3) := by decide +kernel
theorem dX1_kindsByNotes_30 : decode cX1_kindsByNotes 30 = .ok (.aload_n 0, 1) := by decide +kernel
theorem dX1_kindsByNotes_31 : decode cX1_kindsByNotes 31 = .ok (.getfield 22, 3) := by decide +kernel
theorem dX1_kindsByNotes_34 : decode cX1_kindsByNotes 34 = .ok (.iload 5, 2) := by decide +kernel
theorem dX1_kindsByNotes_36 : decode cX1_kindsByNotes 36 = .ok (.iconst 5, 1) := by decide +kernel
theorem dX1_kindsByNotes_37 : decode cX1_kindsByNotes 37 = .ok (.imul, 1) := by decide +kernel
theorem dX1_kindsByNotes_38 : decode cX1_kindsByNotes 38 = .ok (.iaload, 1) := by decide +kernel
theorem dX1_kindsByNotes_39 : decode cX1_kindsByNotes 39 = .ok (.iload_n 1, 1) := by decide +kernel
theorem dX1_kindsByNotes_40 : decode cX1_kindsByNotes 40 = .ok (.if_icmp .ne 13, 3) := by decide +kernel
theorem dX1_kindsByNotes_43 : decode cX1_kindsByNotes 43 = .ok (.aload_n 0, 1) := by decide +kernel
theorem dX1_kindsByNotes_44 : decode cX1_kindsByNotes 44 = .ok (.iload 5, 2) := by decide +kernel
theorem dX1_kindsByNotes_46 : decode cX1_kindsByNotes 46 = .ok (.iload_n 3, 1) := by decide +kernel
theorem dX1_kindsByNotes_47 : decode cX1_kindsByNotes 47 = .ok (.invokevirtual 59, 3) := by decide +kernel
theorem dX1_kindsByNotes_50 : decode cX1_kindsByNotes 50 = .ok (.ifCond .eq 7, 3) := by decide +kernel
theorem dX1_kindsByNotes_53 : decode cX1_kindsByNotes 53 = .ok (.iconst 1, 1) := by decide +kernel
theorem dX1_kindsByNotes_54 : decode cX1_kindsByNotes 54 = .ok (.goto 4, 3) := by decide +kernel
theorem dX1_kindsByNotes_57 : decode cX1_kindsByNotes 57 = .ok (.iconst 0, 1) := by decide +kernel
theorem dX1_kindsByNotes_58 : decode cX1_kindsByNotes 58 = .ok (.istore 4, 2) := by decide +kernel
theorem dX1_kindsByNotes_60 : decode cX1_kindsByNotes 60 = .ok (.iinc 5 1, 3) := by decide +kernel
theorem dX1_kindsByNotes_63 : decode cX1_kindsByNotes 63 = .ok (.goto (-47), 3) := by decide +kernel
theorem dX1_kindsByNotes_66 : decode cX1_kindsByNotes 66 = .ok (.iload_n 2, 1) := by decide +kernel
theorem dX1_kindsByNotes_67 : decode cX1_kindsByNotes 67 = .ok (.iload_n 3, 1) := by decide +kernel
theorem dX1_kindsByNotes_68 : decode cX1_kindsByNotes 68 = .ok (.iload 4, 2) := by decide +kernel
theorem dX1_kindsByNotes_70 : decode cX1_kindsByNotes 70 = .ok (.ifCond .eq 7, 3) := by decide +kernel
theorem dX1_kindsByNotes_73 : decode cX1_kindsByNotes 73 = .ok (.iconst 1, 1) := by decide +kernel
theorem dX1_kindsByNotes_74 : decode cX1_kindsByNotes 74 = .ok (.goto 4, 3) := by decide +kernel
theorem dX1_kindsByNotes_77 : decode cX1_kindsByNotes 77 = .ok (.iconst 0, 1) := by decide +kernel
theorem dX1_kindsByNotes_78 : decode cX1_kindsByNotes 78 = .ok (.invokestatic 63, 3) := by decide +kernel
theorem dX1_kindsByNotes_81 : decode cX1_kindsByNotes 81 = .ok (.istore_n 2, 1) := by decide +kernel
theorem dX1_kindsByNotes_82 : decode cX1_kindsByNotes 82 = .ok (.iinc 3 1, 3) := by decide +kernel
theorem dX1_kindsByNotes_85 : decode cX1_kindsByNotes 85 = .ok (.goto (-81), 3) := by decide +kernel
theorem dX1_kindsByNotes_88 : decode cX1_kindsByNotes 88 = .ok (.iload_n 2, 1) := by decide +kernel
theorem dX1_kindsByNotes_89 : decode cX1_kindsByNotes 89 = .ok (.ireturn, 1) := by decide +kernel
theorem dX1_startWalk_0 : decode cX1_startWalk 0 = .ok (.aload_n 1, 1) := by decide +kernel
theorem dX1_startWalk_1 : decode cX1_startWalk 1 = .ok (.aload_n 0, 1) := by decide +kernel
theorem dX1_startWalk_2 : decode cX1_startWalk 2 = .ok (.getfield 15, 3) := by decide +kernel
theorem dX1_startWalk_5 : decode cX1_startWalk 5 = .ok (.iload_n 2, 1) := by decide +kernel
theorem dX1_startWalk_6 : decode cX1_startWalk 6 = .ok (.iaload, 1) := by decide +kernel
theorem dX1_startWalk_7 : decode cX1_startWalk 7 = .ok (.putfield 67, 3) := by decide +kernel
theorem dX1_startWalk_10 : decode cX1_startWalk 10 = .ok (.aload_n 1, 1) := by decide +kernel
theorem dX1_startWalk_11 : decode cX1_startWalk 11 = .ok (.aload_n 0, 1) := by decide +kernel
theorem dX1_startWalk_12 : decode cX1_startWalk 12 = .ok (.getfield 19, 3) := by decide +kernel
theorem dX1_startWalk_15 : decode cX1_startWalk 15 = .ok (.iload_n 2, 1) := by decide +kernel
theorem dX1_startWalk_16 : decode cX1_startWalk 16 = .ok (.iaload, 1) := by decide +kernel
theorem dX1_startWalk_17 : decode cX1_startWalk 17 = .ok (.putfield 72, 3) := by decide +kernel
theorem dX1_startWalk_20 : decode cX1_startWalk 20 = .ok (.aload_n 1, 1) := by decide +kernel
theorem dX1_startWalk_21 : decode cX1_startWalk 21 = .ok (.aload_n 0, 1) := by decide +kernel
theorem dX1_startWalk_22 : decode cX1_startWalk 22 = .ok (.getfield 9, 3) := by decide +kernel
theorem dX1_startWalk_25 : decode cX1_startWalk 25 = .ok (.putfield 75, 3) := by decide +kernel
theorem dX1_startWalk_28 : decode cX1_startWalk 28 = .ok (.aload_n 1, 1) := by decide +kernel
theorem dX1_startWalk_29 : decode cX1_startWalk 29 = .ok (.aload_n 0, 1) := by decide +kernel
theorem dX1_startWalk_30 : decode cX1_startWalk 30 = .ok (.getfield 31, 3) := by decide +kernel
theorem dX1_startWalk_33 : decode cX1_startWalk 33 = .ok (.putfield 76, 3) := by decide +kernel
theorem dX1_startWalk_36 : decode cX1_startWalk 36 = .ok (.aload_n 1, 1) := by decide +kernel
theorem dX1_startWalk_37 : decode cX1_startWalk 37 = .ok (.aload_n 0, 1) := by decide +kernel
theorem dX1_startWalk_38 : decode cX1_startWalk 38 = .ok (.getfield 34, 3) := by decide +kernel
theorem dX1_startWalk_41 : decode cX1_startWalk 41 = .ok (.iload_n 2, 1) := by decide +kernel
theorem dX1_startWalk_42 : decode cX1_startWalk 42 = .ok (.invokestatic 77, 3) := by decide +kernel
theorem dX1_startWalk_45 : decode cX1_startWalk 45 = .ok (.iconst 1, 1) := by decide +kernel
theorem dX1_startWalk_46 : decode cX1_startWalk 46 = .ok (.if_icmp .ne 7, 3) := by decide +kernel
theorem dX1_startWalk_49 : decode cX1_startWalk 49 = .ok (.iconst 1, 1) := by decide +kernel
theorem dX1_startWalk_50 : decode cX1_startWalk 50 = .ok (.goto 4, 3) := by decide +kernel
theorem dX1_startWalk_53 : decode cX1_startWalk 53 = .ok (.iconst 0, 1) := by decide +kernel
theorem dX1_startWalk_54 : decode cX1_startWalk 54 = .ok (.putfield 81, 3) := by decide +kernel
theorem dX1_startWalk_57 : decode cX1_startWalk 57 = .ok (.aload_n 1, 1) := by decide +kernel
theorem dX1_startWalk_58 : decode cX1_startWalk 58 = .ok (.aload_n 0, 1) := by decide +kernel
theorem dX1_startWalk_59 : decode cX1_startWalk 59 = .ok (.getfield 37, 3) := by decide +kernel
theorem dX1_startWalk_62 : decode cX1_startWalk 62 = .ok (.iload_n 2, 1) := by decide +kernel
theorem dX1_startWalk_63 : decode cX1_startWalk 63 = .ok (.invokestatic 77, 3) := by decide +kernel
theorem dX1_startWalk_66 : decode cX1_startWalk 66 = .ok (.iconst 1, 1) := by decide +kernel
theorem dX1_startWalk_67 : decode cX1_startWalk 67 = .ok (.if_icmp .ne 7, 3) := by decide +kernel
theorem dX1_startWalk_70 : decode cX1_startWalk 70 = .ok (.iconst 1, 1) := by decide +kernel
theorem dX1_startWalk_71 : decode cX1_startWalk 71 = .ok (.goto 4, 3) := by decide +kernel
theorem dX1_startWalk_74 : decode cX1_startWalk 74 = .ok (.iconst 0, 1) := by decide +kernel
theorem dX1_startWalk_75 : decode cX1_startWalk 75 = .ok (.putfield 84, 3) := by decide +kernel
theorem dX1_startWalk_78 : decode cX1_startWalk 78 = .ok (.return_, 1) := by decide +kernel
theorem dX1_goBy_0 : decode cX1_goBy 0 = .ok (.iconst 0, 1) := by decide +kernel
theorem dX1_goBy_1 : decode cX1_goBy 1 = .ok (.istore_n 2, 1) := by decide +kernel
theorem dX1_goBy_2 : decode cX1_goBy 2 = .ok (.iconst 0, 1) := by decide +kernel
theorem dX1_goBy_3 : decode cX1_goBy 3 = .ok (.istore_n 3, 1) := by decide +kernel
theorem dX1_goBy_4 : decode cX1_goBy 4 = .ok (.iload_n 3, 1) := by decide +kernel
theorem dX1_goBy_5 : decode cX1_goBy 5 = .ok (.aload_n 0, 1) := by decide +kernel
theorem dX1_goBy_6 : decode cX1_goBy 6 = .ok (.getfield 28, 3) := by decide +kernel
theorem dX1_goBy_9 : decode cX1_goBy 9 = .ok (.if_icmp .ge 43, 3) := by decide +kernel
theorem dX1_goBy_12 : decode cX1_goBy 12 = .ok (.aload_n 0, 1) := by decide +kernel
theorem dX1_goBy_13 : decode cX1_goBy 13 = .ok (.aload_n 1, 1) := by decide +kernel
theorem dX1_goBy_14 : decode cX1_goBy 14 = .ok (.iload_n 3, 1) := by decide +kernel
theorem dX1_goBy_15 : decode cX1_goBy 15 = .ok (.invokevirtual 86, 3) := by decide +kernel
theorem dX1_goBy_18 : decode cX1_goBy 18 = .ok (.iload_n 2, 1) := by decide +kernel
theorem dX1_goBy_19 : decode cX1_goBy 19 = .ok (.iload_n 3, 1) := by decide +kernel
theorem dX1_goBy_20 : decode cX1_goBy 20 = .ok (.aload_n 1, 1) := by decide +kernel
theorem dX1_goBy_21 : decode cX1_goBy 21 = .ok (.invokevirtual 90, 3) := by decide +kernel
theorem dX1_goBy_24 : decode cX1_goBy 24 = .ok (.ifCond .eq 7, 3) := by decide +kernel
theorem dX1_goBy_27 : decode cX1_goBy 27 = .ok (.iconst 1, 1) := by decide +kernel
theorem dX1_goBy_28 : decode cX1_goBy 28 = .ok (.goto 4, 3) := by decide +kernel
theorem dX1_goBy_31 : decode cX1_goBy 31 = .ok (.iconst 0, 1) := by decide +kernel
theorem dX1_goBy_32 : decode cX1_goBy 32 = .ok (.invokestatic 63, 3) := by decide +kernel
theorem dX1_goBy_35 : decode cX1_goBy 35 = .ok (.istore_n 2, 1) := by decide +kernel
theorem dX1_goBy_36 : decode cX1_goBy 36 = .ok (.aload_n 0, 1) := by decide +kernel
theorem dX1_goBy_37 : decode cX1_goBy 37 = .ok (.getfield 19, 3) := by decide +kernel
theorem dX1_goBy_40 : decode cX1_goBy 40 = .ok (.iload_n 3, 1) := by decide +kernel
theorem dX1_goBy_41 : decode cX1_goBy 41 = .ok (.aload_n 1, 1) := by decide +kernel
theorem dX1_goBy_42 : decode cX1_goBy 42 = .ok (.getfield 72, 3) := by decide +kernel
theorem dX1_goBy_45 : decode cX1_goBy 45 = .ok (.iastore, 1) := by decide +kernel
theorem dX1_goBy_46 : decode cX1_goBy 46 = .ok (.iinc 3 1, 3) := by decide +kernel
theorem dX1_goBy_49 : decode cX1_goBy 49 = .ok (.goto (-45), 3) := by decide +kernel
theorem dX1_goBy_52 : decode cX1_goBy 52 = .ok (.aload_n 0, 1) := by decide +kernel
theorem dX1_goBy_53 : decode cX1_goBy 53 = .ok (.dup, 1) := by decide +kernel
theorem dX1_goBy_54 : decode cX1_goBy 54 = .ok (.getfield 34, 3) := by decide +kernel
theorem dX1_goBy_57 : decode cX1_goBy 57 = .ok (.iload_n 2, 1) := by decide +kernel
theorem dX1_goBy_58 : decode cX1_goBy 58 = .ok (.iconst (-1), 1) := by decide +kernel
theorem dX1_goBy_59 : decode cX1_goBy 59 = .ok (.ixor, 1) := by decide +kernel
theorem dX1_goBy_60 : decode cX1_goBy 60 = .ok (.iand, 1) := by decide +kernel
theorem dX1_goBy_61 : decode cX1_goBy 61 = .ok (.putfield 34, 3) := by decide +kernel
theorem dX1_goBy_64 : decode cX1_goBy 64 = .ok (.aload_n 0, 1) := by decide +kernel
theorem dX1_goBy_65 : decode cX1_goBy 65 = .ok (.dup, 1) := by decide +kernel
theorem dX1_goBy_66 : decode cX1_goBy 66 = .ok (.getfield 37, 3) := by decide +kernel
theorem dX1_goBy_69 : decode cX1_goBy 69 = .ok (.iload_n 2, 1) := by decide +kernel
theorem dX1_goBy_70 : decode cX1_goBy 70 = .ok (.iconst (-1), 1) := by decide +kernel
theorem dX1_goBy_71 : decode cX1_goBy 71 = .ok (.ixor, 1) := by decide +kernel
theorem dX1_goBy_72 : decode cX1_goBy 72 = .ok (.iand, 1) := by decide +kernel
theorem dX1_goBy_73 : decode cX1_goBy 73 = .ok (.putfield 37, 3) := by decide +kernel
theorem dX1_goBy_76 : decode cX1_goBy 76 = .ok (.aload_n 0, 1) := by decide +kernel
theorem dX1_goBy_77 : decode cX1_goBy 77 = .ok (.dup, 1) := by decide +kernel
theorem dX1_goBy_78 : decode cX1_goBy 78 = .ok (.getfield 40, 3) := by decide +kernel
theorem dX1_goBy_81 : decode cX1_goBy 81 = .ok (.iload_n 2, 1) := by decide +kernel
theorem dX1_goBy_82 : decode cX1_goBy 82 = .ok (.invokestatic 94, 3) := by decide +kernel
theorem dX1_goBy_85 : decode cX1_goBy 85 = .ok (.iadd, 1) := by decide +kernel
theorem dX1_goBy_86 : decode cX1_goBy 86 = .ok (.putfield 40, 3) := by decide +kernel
theorem dX1_goBy_89 : decode cX1_goBy 89 = .ok (.aload_n 0, 1) := by decide +kernel
theorem dX1_goBy_90 : decode cX1_goBy 90 = .ok (.dup, 1) := by decide +kernel
theorem dX1_goBy_91 : decode cX1_goBy 91 = .ok (.getfield 31, 3) := by decide +kernel
theorem dX1_goBy_94 : decode cX1_goBy 94 = .ok (.iconst 1, 1) := by decide +kernel
theorem dX1_goBy_95 : decode cX1_goBy 95 = .ok (.iadd, 1) := by decide +kernel
theorem dX1_goBy_96 : decode cX1_goBy 96 = .ok (.putfield 31, 3) := by decide +kernel
theorem dX1_goBy_99 : decode cX1_goBy 99 = .ok (.iload_n 2, 1) := by decide +kernel
theorem dX1_goBy_100 : decode cX1_goBy 100 = .ok (.ireturn, 1) := by decide +kernel
theorem dX1_keepPast_0 : decode cX1_keepPast 0 = .ok (.aload_n 0, 1) := by decide +kernel
theorem dX1_keepPast_1 : decode cX1_keepPast 1 = .ok (.getfield 46, 3) := by decide +kernel
theorem dX1_keepPast_4 : decode cX1_keepPast 4 = .ok (.bipush 8, 2) := by decide +kernel
theorem dX1_keepPast_6 : decode cX1_keepPast 6 = .ok (.if_icmp .lt 25, 3) := by decide +kernel
theorem dX1_keepPast_9 : decode cX1_keepPast 9 = .ok (.aload_n 0, 1) := by decide +kernel
theorem dX1_keepPast_10 : decode cX1_keepPast 10 = .ok (.getfield 25, 3) := by decide +kernel
theorem dX1_keepPast_13 : decode cX1_keepPast 13 = .ok (.bipush 11, 2) := by decide +kernel
theorem dX1_keepPast_15 : decode cX1_keepPast 15 = .ok (.aload_n 0, 1) := by decide +kernel
theorem dX1_keepPast_16 : decode cX1_keepPast 16 = .ok (.getfield 25, 3) := by decide +kernel
theorem dX1_keepPast_19 : decode cX1_keepPast 19 = .ok (.iconst 0, 1) := by decide +kernel
theorem dX1_keepPast_20 : decode cX1_keepPast 20 = .ok (.bipush 77, 2) := by decide +kernel
theorem dX1_keepPast_22 : decode cX1_keepPast 22 = .ok (.invokestatic 49, 3) := by decide +kernel
theorem dX1_keepPast_25 : decode cX1_keepPast 25 = .ok (.aload_n 0, 1) := by decide +kernel
theorem dX1_keepPast_26 : decode cX1_keepPast 26 = .ok (.bipush 7, 2) := by decide +kernel
theorem dX1_keepPast_28 : decode cX1_keepPast 28 = .ok (.putfield 46, 3) := by decide +kernel
theorem dX1_keepPast_31 : decode cX1_keepPast 31 = .ok (.aload_n 0, 1) := by decide +kernel
theorem dX1_keepPast_32 : decode cX1_keepPast 32 = .ok (.getfield 46, 3) := by decide +kernel
theorem dX1_keepPast_35 : decode cX1_keepPast 35 = .ok (.bipush 11, 2) := by decide +kernel
theorem dX1_keepPast_37 : decode cX1_keepPast 37 = .ok (.imul, 1) := by decide +kernel
theorem dX1_keepPast_38 : decode cX1_keepPast 38 = .ok (.istore_n 1, 1) := by decide +kernel
theorem dX1_keepPast_39 : decode cX1_keepPast 39 = .ok (.aload_n 0, 1) := by decide +kernel
theorem dX1_keepPast_40 : decode cX1_keepPast 40 = .ok (.getfield 19, 3) := by decide +kernel
theorem dX1_keepPast_43 : decode cX1_keepPast 43 = .ok (.iconst 0, 1) := by decide +kernel
theorem dX1_keepPast_44 : decode cX1_keepPast 44 = .ok (.aload_n 0, 1) := by decide +kernel
theorem dX1_keepPast_45 : decode cX1_keepPast 45 = .ok (.getfield 25, 3) := by decide +kernel
theorem dX1_keepPast_48 : decode cX1_keepPast 48 = .ok (.iload_n 1, 1) := by decide +kernel
theorem dX1_keepPast_49 : decode cX1_keepPast 49 = .ok (.bipush 7, 2) := by decide +kernel
theorem dX1_keepPast_51 : decode cX1_keepPast 51 = .ok (.invokestatic 49, 3) := by decide +kernel
theorem dX1_keepPast_54 : decode cX1_keepPast 54 = .ok (.aload_n 0, 1) := by decide +kernel
theorem dX1_keepPast_55 : decode cX1_keepPast 55 = .ok (.getfield 25, 3) := by decide +kernel
theorem dX1_keepPast_58 : decode cX1_keepPast 58 = .ok (.iload_n 1, 1) := by decide +kernel
theorem dX1_keepPast_59 : decode cX1_keepPast 59 = .ok (.bipush 7, 2) := by decide +kernel
theorem dX1_keepPast_61 : decode cX1_keepPast 61 = .ok (.iadd, 1) := by decide +kernel
theorem dX1_keepPast_62 : decode cX1_keepPast 62 = .ok (.aload_n 0, 1) := by decide +kernel
theorem dX1_keepPast_63 : decode cX1_keepPast 63 = .ok (.getfield 34, 3) := by decide +kernel
theorem dX1_keepPast_66 : decode cX1_keepPast 66 = .ok (.iastore, 1) := by decide +kernel
theorem dX1_keepPast_67 : decode cX1_keepPast 67 = .ok (.aload_n 0, 1) := by decide +kernel
theorem dX1_keepPast_68 : decode cX1_keepPast 68 = .ok (.getfield 25, 3) := by decide +kernel
theorem dX1_keepPast_71 : decode cX1_keepPast 71 = .ok (.iload_n 1, 1) := by decide +kernel
theorem dX1_keepPast_72 : decode cX1_keepPast 72 = .ok (.bipush 7, 2) := by decide +kernel
theorem dX1_keepPast_74 : decode cX1_keepPast 74 = .ok (.iadd, 1) := by decide +kernel
theorem dX1_keepPast_75 : decode cX1_keepPast 75 = .ok (.iconst 1, 1) := by decide +kernel
theorem dX1_keepPast_76 : decode cX1_keepPast 76 = .ok (.iadd, 1) := by decide +kernel
theorem dX1_keepPast_77 : decode cX1_keepPast 77 = .ok (.aload_n 0, 1) := by decide +kernel
theorem dX1_keepPast_78 : decode cX1_keepPast 78 = .ok (.getfield 37, 3) := by decide +kernel
theorem dX1_keepPast_81 : decode cX1_keepPast 81 = .ok (.iastore, 1) := by decide +kernel
theorem dX1_keepPast_82 : decode cX1_keepPast 82 = .ok (.aload_n 0, 1) := by decide +kernel
theorem dX1_keepPast_83 : decode cX1_keepPast 83 = .ok (.getfield 25, 3) := by decide +kernel
theorem dX1_keepPast_86 : decode cX1_keepPast 86 = .ok (.iload_n 1, 1) := by decide +kernel
theorem dX1_keepPast_87 : decode cX1_keepPast 87 = .ok (.bipush 7, 2) := by decide +kernel
theorem dX1_keepPast_89 : decode cX1_keepPast 89 = .ok (.iadd, 1) := by decide +kernel
theorem dX1_keepPast_90 : decode cX1_keepPast 90 = .ok (.iconst 2, 1) := by decide +kernel
theorem dX1_keepPast_91 : decode cX1_keepPast 91 = .ok (.iadd, 1) := by decide +kernel
theorem dX1_keepPast_92 : decode cX1_keepPast 92 = .ok (.aload_n 0, 1) := by decide +kernel
theorem dX1_keepPast_93 : decode cX1_keepPast 93 = .ok (.getfield 40, 3) := by decide +kernel
theorem dX1_keepPast_96 : decode cX1_keepPast 96 = .ok (.iastore, 1) := by decide +kernel
theorem dX1_keepPast_97 : decode cX1_keepPast 97 = .ok (.aload_n 0, 1) := by decide +kernel
theorem dX1_keepPast_98 : decode cX1_keepPast 98 = .ok (.getfield 25, 3) := by decide +kernel
theorem dX1_keepPast_101 : decode cX1_keepPast 101 = .ok (.iload_n 1, 1) := by decide +kernel
theorem dX1_keepPast_102 : decode cX1_keepPast 102 = .ok (.bipush 7, 2) := by decide +kernel
theorem dX1_keepPast_104 : decode cX1_keepPast 104 = .ok (.iadd, 1) := by decide +kernel
theorem dX1_keepPast_105 : decode cX1_keepPast 105 = .ok (.iconst 3, 1) := by decide +kernel
theorem dX1_keepPast_106 : decode cX1_keepPast 106 = .ok (.iadd, 1) := by decide +kernel
theorem dX1_keepPast_107 : decode cX1_keepPast 107 = .ok (.aload_n 0, 1) := by decide +kernel
theorem dX1_keepPast_108 : decode cX1_keepPast 108 = .ok (.getfield 31, 3) := by decide +kernel
theorem dX1_keepPast_111 : decode cX1_keepPast 111 = .ok (.iastore, 1) := by decide +kernel
theorem dX1_keepPast_112 : decode cX1_keepPast 112 = .ok (.aload_n 0, 1) := by decide +kernel
theorem dX1_keepPast_113 : decode cX1_keepPast 113 = .ok (.dup, 1) := by decide +kernel
theorem dX1_keepPast_114 : decode cX1_keepPast 114 = .ok (.getfield 46, 3) := by decide +kernel
theorem dX1_keepPast_117 : decode cX1_keepPast 117 = .ok (.iconst 1, 1) := by decide +kernel
theorem dX1_keepPast_118 : decode cX1_keepPast 118 = .ok (.iadd, 1) := by decide +kernel
theorem dX1_keepPast_119 : decode cX1_keepPast 119 = .ok (.putfield 46, 3) := by decide +kernel
theorem dX1_keepPast_122 : decode cX1_keepPast 122 = .ok (.return_, 1) := by decide +kernel
theorem dX1_takePast_0 : decode cX1_takePast 0 = .ok (.aload_n 0, 1) := by decide +kernel
theorem dX1_takePast_1 : decode cX1_takePast 1 = .ok (.getfield 46, 3) := by decide +kernel
theorem dX1_takePast_4 : decode cX1_takePast 4 = .ok (.ifCond .gt 4, 3) := by decide +kernel
theorem dX1_takePast_7 : decode cX1_takePast 7 = .ok (.return_, 1) := by decide +kernel
theorem dX1_takePast_8 : decode cX1_takePast 8 = .ok (.aload_n 0, 1) := by decide +kernel
theorem dX1_takePast_9 : decode cX1_takePast 9 = .ok (.dup, 1) := by decide +kernel
theorem dX1_takePast_10 : decode cX1_takePast 10 = .ok (.getfield 46, 3) := by decide +kernel
theorem dX1_takePast_13 : decode cX1_takePast 13 = .ok (.iconst 1, 1) := by decide +kernel
theorem dX1_takePast_14 : decode cX1_takePast 14 = .ok (.isub, 1) := by decide +kernel
theorem dX1_takePast_15 : decode cX1_takePast 15 = .ok (.putfield 46, 3) := by decide +kernel
theorem dX1_takePast_18 : decode cX1_takePast 18 = .ok (.aload_n 0, 1) := by decide +kernel
theorem dX1_takePast_19 : decode cX1_takePast 19 = .ok (.getfield 46, 3) := by decide +kernel
theorem dX1_takePast_22 : decode cX1_takePast 22 = .ok (.bipush 11, 2) := by decide +kernel
theorem dX1_takePast_24 : decode cX1_takePast 24 = .ok (.imul, 1) := by decide +kernel
theorem dX1_takePast_25 : decode cX1_takePast 25 = .ok (.istore_n 1, 1) := by decide +kernel
theorem dX1_takePast_26 : decode cX1_takePast 26 = .ok (.aload_n 0, 1) := by decide +kernel
theorem dX1_takePast_27 : decode cX1_takePast 27 = .ok (.getfield 25, 3) := by decide +kernel
theorem dX1_takePast_30 : decode cX1_takePast 30 = .ok (.iload_n 1, 1) := by decide +kernel
theorem dX1_takePast_31 : decode cX1_takePast 31 = .ok (.aload_n 0, 1) := by decide +kernel
theorem dX1_takePast_32 : decode cX1_takePast 32 = .ok (.getfield 19, 3) := by decide +kernel
theorem dX1_takePast_35 : decode cX1_takePast 35 = .ok (.iconst 0, 1) := by decide +kernel
theorem dX1_takePast_36 : decode cX1_takePast 36 = .ok (.bipush 7, 2) := by decide +kernel
theorem dX1_takePast_38 : decode cX1_takePast 38 = .ok (.invokestatic 49, 3) := by decide +kernel
theorem dX1_takePast_41 : decode cX1_takePast 41 = .ok (.aload_n 0, 1) := by decide +kernel
theorem dX1_takePast_42 : decode cX1_takePast 42 = .ok (.aload_n 0, 1) := by decide +kernel
theorem dX1_takePast_43 : decode cX1_takePast 43 = .ok (.getfield 25, 3) := by decide +kernel
theorem dX1_takePast_46 : decode cX1_takePast 46 = .ok (.iload_n 1, 1) := by decide +kernel
theorem dX1_takePast_47 : decode cX1_takePast 47 = .ok (.bipush 7, 2) := by decide +kernel
theorem dX1_takePast_49 : decode cX1_takePast 49 = .ok (.iadd, 1) := by decide +kernel
theorem dX1_takePast_50 : decode cX1_takePast 50 = .ok (.iaload, 1) := by decide +kernel
theorem dX1_takePast_51 : decode cX1_takePast 51 = .ok (.putfield 34, 3) := by decide +kernel
theorem dX1_takePast_54 : decode cX1_takePast 54 = .ok (.aload_n 0, 1) := by decide +kernel
theorem dX1_takePast_55 : decode cX1_takePast 55 = .ok (.aload_n 0, 1) := by decide +kernel
theorem dX1_takePast_56 : decode cX1_takePast 56 = .ok (.getfield 25, 3) := by decide +kernel
theorem dX1_takePast_59 : decode cX1_takePast 59 = .ok (.iload_n 1, 1) := by decide +kernel
theorem dX1_takePast_60 : decode cX1_takePast 60 = .ok (.bipush 7, 2) := by decide +kernel
theorem dX1_takePast_62 : decode cX1_takePast 62 = .ok (.iadd, 1) := by decide +kernel
theorem dX1_takePast_63 : decode cX1_takePast 63 = .ok (.iconst 1, 1) := by decide +kernel
theorem dX1_takePast_64 : decode cX1_takePast 64 = .ok (.iadd, 1) := by decide +kernel
theorem dX1_takePast_65 : decode cX1_takePast 65 = .ok (.iaload, 1) := by decide +kernel
theorem dX1_takePast_66 : decode cX1_takePast 66 = .ok (.putfield 37, 3) := by decide +kernel
theorem dX1_takePast_69 : decode cX1_takePast 69 = .ok (.aload_n 0, 1) := by decide +kernel
theorem dX1_takePast_70 : decode cX1_takePast 70 = .ok (.aload_n 0, 1) := by decide +kernel
theorem dX1_takePast_71 : decode cX1_takePast 71 = .ok (.getfield 25, 3) := by decide +kernel
theorem dX1_takePast_74 : decode cX1_takePast 74 = .ok (.iload_n 1, 1) := by decide +kernel
theorem dX1_takePast_75 : decode cX1_takePast 75 = .ok (.bipush 7, 2) := by decide +kernel
theorem dX1_takePast_77 : decode cX1_takePast 77 = .ok (.iadd, 1) := by decide +kernel
theorem dX1_takePast_78 : decode cX1_takePast 78 = .ok (.iconst 2, 1) := by decide +kernel
theorem dX1_takePast_79 : decode cX1_takePast 79 = .ok (.iadd, 1) := by decide +kernel
theorem dX1_takePast_80 : decode cX1_takePast 80 = .ok (.iaload, 1) := by decide +kernel
theorem dX1_takePast_81 : decode cX1_takePast 81 = .ok (.putfield 40, 3) := by decide +kernel
theorem dX1_takePast_84 : decode cX1_takePast 84 = .ok (.aload_n 0, 1) := by decide +kernel
theorem dX1_takePast_85 : decode cX1_takePast 85 = .ok (.aload_n 0, 1) := by decide +kernel
theorem dX1_takePast_86 : decode cX1_takePast 86 = .ok (.getfield 25, 3) := by decide +kernel
theorem dX1_takePast_89 : decode cX1_takePast 89 = .ok (.iload_n 1, 1) := by decide +kernel
theorem dX1_takePast_90 : decode cX1_takePast 90 = .ok (.bipush 7, 2) := by decide +kernel
theorem dX1_takePast_92 : decode cX1_takePast 92 = .ok (.iadd, 1) := by decide +kernel
theorem dX1_takePast_93 : decode cX1_takePast 93 = .ok (.iconst 3, 1) := by decide +kernel
theorem dX1_takePast_94 : decode cX1_takePast 94 = .ok (.iadd, 1) := by decide +kernel
theorem dX1_takePast_95 : decode cX1_takePast 95 = .ok (.iaload, 1) := by decide +kernel
theorem dX1_takePast_96 : decode cX1_takePast 96 = .ok (.putfield 31, 3) := by decide +kernel
theorem dX1_takePast_99 : decode cX1_takePast 99 = .ok (.return_, 1) := by decide +kernel
theorem dX2_init_0 : decode cX2_init 0 = .ok (.aload_n 0, 1) := by decide +kernel
theorem dX2_init_1 : decode cX2_init 1 = .ok (.invokespecial 3, 3) := by decide +kernel
theorem dX2_init_4 : decode cX2_init 4 = .ok (.return_, 1) := by decide +kernel
theorem dX2_actOfDay_0 : decode cX2_actOfDay 0 = .ok (.aload_n 0, 1) := by decide +kernel
theorem dX2_actOfDay_1 : decode cX2_actOfDay 1 = .ok (.getfield 9, 3) := by decide +kernel
theorem dX2_actOfDay_4 : decode cX2_actOfDay 4 = .ok (.aload_n 0, 1) := by decide +kernel
theorem dX2_actOfDay_5 : decode cX2_actOfDay 5 = .ok (.getfield 15, 3) := by decide +kernel
theorem dX2_actOfDay_8 : decode cX2_actOfDay 8 = .ok (.aload_n 0, 1) := by decide +kernel
theorem dX2_actOfDay_9 : decode cX2_actOfDay 9 = .ok (.getfield 18, 3) := by decide +kernel
theorem dX2_actOfDay_12 : decode cX2_actOfDay 12 = .ok (.aload_n 0, 1) := by decide +kernel
theorem dX2_actOfDay_13 : decode cX2_actOfDay 13 = .ok (.getfield 22, 3) := by decide +kernel
theorem dX2_actOfDay_16 : decode cX2_actOfDay 16 = .ok (.invokestatic 25, 3) := by decide +kernel
theorem dX2_actOfDay_19 : decode cX2_actOfDay 19 = .ok (.ireturn, 1) := by decide +kernel
theorem dX2_doesIt_0 : decode cX2_doesIt 0 = .ok (.aload_n 0, 1) := by decide +kernel
theorem dX2_doesIt_1 : decode cX2_doesIt 1 = .ok (.getfield 9, 3) := by decide +kernel
theorem dX2_doesIt_4 : decode cX2_doesIt 4 = .ok (.aload_n 0, 1) := by decide +kernel
theorem dX2_doesIt_5 : decode cX2_doesIt 5 = .ok (.getfield 15, 3) := by decide +kernel
theorem dX2_doesIt_8 : decode cX2_doesIt 8 = .ok (.aload_n 0, 1) := by decide +kernel
theorem dX2_doesIt_9 : decode cX2_doesIt 9 = .ok (.getfield 18, 3) := by decide +kernel
theorem dX2_doesIt_12 : decode cX2_doesIt 12 = .ok (.aload_n 0, 1) := by decide +kernel
theorem dX2_doesIt_13 : decode cX2_doesIt 13 = .ok (.getfield 22, 3) := by decide +kernel
theorem dX2_doesIt_16 : decode cX2_doesIt 16 = .ok (.invokestatic 25, 3) := by decide +kernel
theorem dX2_doesIt_19 : decode cX2_doesIt 19 = .ok (.aload_n 0, 1) := by decide +kernel
theorem dX2_doesIt_20 : decode cX2_doesIt 20 = .ok (.getfield 29, 3) := by decide +kernel
theorem dX2_doesIt_23 : decode cX2_doesIt 23 = .ok (.if_icmp .lt 7, 3) := by decide +kernel
theorem dX2_doesIt_26 : decode cX2_doesIt 26 = .ok (.iconst 1, 1) := by decide +kernel
theorem dX2_doesIt_27 : decode cX2_doesIt 27 = .ok (.goto 4, 3) := by decide +kernel
theorem dX2_doesIt_30 : decode cX2_doesIt 30 = .ok (.iconst 0, 1) := by decide +kernel
theorem dX2_doesIt_31 : decode cX2_doesIt 31 = .ok (.ireturn, 1) := by decide +kernel
theorem dX2_goBy_0 : decode cX2_goBy 0 = .ok (.aload_n 0, 1) := by decide +kernel
theorem dX2_goBy_1 : decode cX2_goBy 1 = .ok (.getfield 32, 3) := by decide +kernel
theorem dX2_goBy_4 : decode cX2_goBy 4 = .ok (.ifCond .eq 21, 3) := by decide +kernel
theorem dX2_goBy_7 : decode cX2_goBy 7 = .ok (.aload_n 0, 1) := by decide +kernel
theorem dX2_goBy_8 : decode cX2_goBy 8 = .ok (.getfield 18, 3) := by decide +kernel
theorem dX2_goBy_11 : decode cX2_goBy 11 = .ok (.ifCond .eq 14, 3) := by decide +kernel
theorem dX2_goBy_14 : decode cX2_goBy 14 = .ok (.aload_n 0, 1) := by decide +kernel
theorem dX2_goBy_15 : decode cX2_goBy 15 = .ok (.invokevirtual 35, 3) := by decide +kernel
theorem dX2_goBy_18 : decode cX2_goBy 18 = .ok (.ifCond .eq 7, 3) := by decide +kernel
theorem dX2_goBy_21 : decode cX2_goBy 21 = .ok (.iconst 1, 1) := by decide +kernel
theorem dX2_goBy_22 : decode cX2_goBy 22 = .ok (.goto 4, 3) := by decide +kernel
theorem dX2_goBy_25 : decode cX2_goBy 25 = .ok (.iconst 0, 1) := by decide +kernel
theorem dX2_goBy_26 : decode cX2_goBy 26 = .ok (.istore_n 1, 1) := by decide +kernel
theorem dX2_goBy_27 : decode cX2_goBy 27 = .ok (.aload_n 0, 1) := by decide +kernel
theorem dX2_goBy_28 : decode cX2_goBy 28 = .ok (.getfield 18, 3) := by decide +kernel
theorem dX2_goBy_31 : decode cX2_goBy 31 = .ok (.ifCond .eq 18, 3) := by decide +kernel
theorem dX2_goBy_34 : decode cX2_goBy 34 = .ok (.aload_n 0, 1) := by decide +kernel
theorem dX2_goBy_35 : decode cX2_goBy 35 = .ok (.getfield 22, 3) := by decide +kernel
theorem dX2_goBy_38 : decode cX2_goBy 38 = .ok (.aload_n 0, 1) := by decide +kernel
theorem dX2_goBy_39 : decode cX2_goBy 39 = .ok (.getfield 9, 3) := by decide +kernel
theorem dX2_goBy_42 : decode cX2_goBy 42 = .ok (.invokestatic 39, 3) := by decide +kernel
theorem dX2_goBy_45 : decode cX2_goBy 45 = .ok (.iadd, 1) := by decide +kernel
theorem dX2_goBy_46 : decode cX2_goBy 46 = .ok (.goto 9, 3) := by decide +kernel
theorem dX2_goBy_49 : decode cX2_goBy 49 = .ok (.aload_n 0, 1) := by decide +kernel
theorem dX2_goBy_50 : decode cX2_goBy 50 = .ok (.getfield 22, 3) := by decide +kernel
theorem dX2_goBy_53 : decode cX2_goBy 53 = .ok (.iconst 1, 1) := by decide +kernel
theorem dX2_goBy_54 : decode cX2_goBy 54 = .ok (.isub, 1) := by decide +kernel
theorem dX2_goBy_55 : decode cX2_goBy 55 = .ok (.istore_n 2, 1) := by decide +kernel
theorem dX2_goBy_56 : decode cX2_goBy 56 = .ok (.aload_n 0, 1) := by decide +kernel
theorem dX2_goBy_57 : decode cX2_goBy 57 = .ok (.iconst 0, 1) := by decide +kernel
theorem dX2_goBy_58 : decode cX2_goBy 58 = .ok (.iload_n 2, 1) := by decide +kernel
theorem dX2_goBy_59 : decode cX2_goBy 59 = .ok (.bipush 99, 2) := by decide +kernel
theorem dX2_goBy_61 : decode cX2_goBy 61 = .ok (.invokestatic 43, 3) := by decide +kernel
theorem dX2_goBy_64 : decode cX2_goBy 64 = .ok (.invokestatic 49, 3) := by decide +kernel
theorem dX2_goBy_67 : decode cX2_goBy 67 = .ok (.putfield 22, 3) := by decide +kernel
theorem dX2_goBy_70 : decode cX2_goBy 70 = .ok (.aload_n 0, 1) := by decide +kernel
theorem dX2_goBy_71 : decode cX2_goBy 71 = .ok (.dup, 1) := by decide +kernel
theorem dX2_goBy_72 : decode cX2_goBy 72 = .ok (.getfield 15, 3) := by decide +kernel
theorem dX2_goBy_75 : decode cX2_goBy 75 = .ok (.iconst 1, 1) := by decide +kernel
theorem dX2_goBy_76 : decode cX2_goBy 76 = .ok (.iadd, 1) := by decide +kernel
theorem dX2_goBy_77 : decode cX2_goBy 77 = .ok (.putfield 15, 3) := by decide +kernel
theorem dX2_goBy_80 : decode cX2_goBy 80 = .ok (.iload_n 1, 1) := by decide +kernel
theorem dX2_goBy_81 : decode cX2_goBy 81 = .ok (.ifCond .eq 13, 3) := by decide +kernel
theorem dX2_goBy_84 : decode cX2_goBy 84 = .ok (.aload_n 0, 1) := by decide +kernel
theorem dX2_goBy_85 : decode cX2_goBy 85 = .ok (.iconst 0, 1) := by decide +kernel
theorem dX2_goBy_86 : decode cX2_goBy 86 = .ok (.putfield 32, 3) := by decide +kernel
theorem dX2_goBy_89 : decode cX2_goBy 89 = .ok (.aload_n 0, 1) := by decide +kernel
theorem dX2_goBy_90 : decode cX2_goBy 90 = .ok (.iconst 0, 1) := by decide +kernel
theorem dX2_goBy_91 : decode cX2_goBy 91 = .ok (.putfield 18, 3) := by decide +kernel
theorem dX2_goBy_94 : decode cX2_goBy 94 = .ok (.iload_n 1, 1) := by decide +kernel
theorem dX2_goBy_95 : decode cX2_goBy 95 = .ok (.ireturn, 1) := by decide +kernel
end
section
theorem dX3_init_0 : decode cX3_init 0 = .ok (.aload_n 0, 1) := by decide +kernel
theorem dX3_init_1 : decode cX3_init 1 = .ok (.invokespecial 3, 3) := by decide +kernel
theorem dX3_init_4 : decode cX3_init 4 = .ok (.aload_n 0, 1) := by decide +kernel
theorem dX3_init_5 : decode cX3_init 5 = .ok (.new 9, 3) := by decide +kernel
theorem dX3_init_8 : decode cX3_init 8 = .ok (.dup, 1) := by decide +kernel
theorem dX3_init_9 : decode cX3_init 9 = .ok (.invokespecial 11, 3) := by decide +kernel
theorem dX3_init_12 : decode cX3_init 12 = .ok (.putfield 12, 3) := by decide +kernel
theorem dX3_init_15 : decode cX3_init 15 = .ok (.aload_n 0, 1) := by decide +kernel
theorem dX3_init_16 : decode cX3_init 16 = .ok (.new 9, 3) := by decide +kernel
theorem dX3_init_19 : decode cX3_init 19 = .ok (.dup, 1) := by decide +kernel
theorem dX3_init_20 : decode cX3_init 20 = .ok (.invokespecial 11, 3) := by decide +kernel
theorem dX3_init_23 : decode cX3_init 23 = .ok (.putfield 16, 3) := by decide +kernel
theorem dX3_init_26 : decode cX3_init 26 = .ok (.aload_n 0, 1) := by decide +kernel
theorem dX3_init_27 : decode cX3_init 27 = .ok (.iconst 2, 1) := by decide +kernel
theorem dX3_init_28 : decode cX3_init 28 = .ok (.anewarray 9, 3) := by decide +kernel
theorem dX3_init_31 : decode cX3_init 31 = .ok (.putfield 19, 3) := by decide +kernel
theorem dX3_init_34 : decode cX3_init 34 = .ok (.iconst 0, 1) := by decide +kernel
theorem dX3_init_35 : decode cX3_init 35 = .ok (.istore_n 1, 1) := by decide +kernel
theorem dX3_init_36 : decode cX3_init 36 = .ok (.iload_n 1, 1) := by decide +kernel
theorem dX3_init_37 : decode cX3_init 37 = .ok (.iconst 2, 1) := by decide +kernel
theorem dX3_init_38 : decode cX3_init 38 = .ok (.if_icmp .ge 22, 3) := by decide +kernel
theorem dX3_init_41 : decode cX3_init 41 = .ok (.aload_n 0, 1) := by decide +kernel
theorem dX3_init_42 : decode cX3_init 42 = .ok (.getfield 19, 3) := by decide +kernel
theorem dX3_init_45 : decode cX3_init 45 = .ok (.iload_n 1, 1) := by decide +kernel
theorem dX3_init_46 : decode cX3_init 46 = .ok (.new 9, 3) := by decide +kernel
theorem dX3_init_49 : decode cX3_init 49 = .ok (.dup, 1) := by decide +kernel
theorem dX3_init_50 : decode cX3_init 50 = .ok (.invokespecial 11, 3) := by decide +kernel
theorem dX3_init_53 : decode cX3_init 53 = .ok (.aastore, 1) := by decide +kernel
theorem dX3_init_54 : decode cX3_init 54 = .ok (.iinc 1 1, 3) := by decide +kernel
theorem dX3_init_57 : decode cX3_init 57 = .ok (.goto (-21), 3) := by decide +kernel
theorem dX3_init_60 : decode cX3_init 60 = .ok (.aload_n 0, 1) := by decide +kernel
theorem dX3_init_61 : decode cX3_init 61 = .ok (.iconst 2, 1) := by decide +kernel
theorem dX3_init_62 : decode cX3_init 62 = .ok (.newarray .boolean, 2) := by decide +kernel
theorem dX3_init_64 : decode cX3_init 64 = .ok (.putfield 23, 3) := by decide +kernel
theorem dX3_init_67 : decode cX3_init 67 = .ok (.aload_n 0, 1) := by decide +kernel
theorem dX3_init_68 : decode cX3_init 68 = .ok (.new 27, 3) := by decide +kernel
theorem dX3_init_71 : decode cX3_init 71 = .ok (.dup, 1) := by decide +kernel
theorem dX3_init_72 : decode cX3_init 72 = .ok (.invokespecial 29, 3) := by decide +kernel
theorem dX3_init_75 : decode cX3_init 75 = .ok (.putfield 30, 3) := by decide +kernel
theorem dX3_init_78 : decode cX3_init 78 = .ok (.aload_n 0, 1) := by decide +kernel
theorem dX3_init_79 : decode cX3_init 79 = .ok (.new 34, 3) := by decide +kernel
theorem dX3_init_82 : decode cX3_init 82 = .ok (.dup, 1) := by decide +kernel
theorem dX3_init_83 : decode cX3_init 83 = .ok (.invokespecial 36, 3) := by decide +kernel
theorem dX3_init_86 : decode cX3_init 86 = .ok (.putfield 37, 3) := by decide +kernel
theorem dX3_init_89 : decode cX3_init 89 = .ok (.aload_n 0, 1) := by decide +kernel
theorem dX3_init_90 : decode cX3_init 90 = .ok (.lconst 0, 1) := by decide +kernel
theorem dX3_init_91 : decode cX3_init 91 = .ok (.putfield 41, 3) := by decide +kernel
theorem dX3_init_94 : decode cX3_init 94 = .ok (.aload_n 0, 1) := by decide +kernel
theorem dX3_init_95 : decode cX3_init 95 = .ok (.lconst 1, 1) := by decide +kernel
theorem dX3_init_96 : decode cX3_init 96 = .ok (.putfield 45, 3) := by decide +kernel
theorem dX3_init_99 : decode cX3_init 99 = .ok (.return_, 1) := by decide +kernel
theorem dX3_town_0 : decode cX3_town 0 = .ok (.iload_n 1, 1) := by decide +kernel
theorem dX3_town_1 : decode cX3_town 1 = .ok (.iconst 1, 1) := by decide +kernel
theorem dX3_town_2 : decode cX3_town 2 = .ok (.iconst 5, 1) := by decide +kernel
theorem dX3_town_3 : decode cX3_town 3 = .ok (.invokestatic 48, 3) := by decide +kernel
theorem dX3_town_6 : decode cX3_town 6 = .ok (.ifCond .ne 8, 3) := by decide +kernel
theorem dX3_town_9 : decode cX3_town 9 = .ok (.aload_n 0, 1) := by decide +kernel
theorem dX3_town_10 : decode cX3_town 10 = .ok (.invokevirtual 52, 3) := by decide +kernel
theorem dX3_town_13 : decode cX3_town 13 = .ok (.ireturn, 1) := by decide +kernel
theorem dX3_town_14 : decode cX3_town 14 = .ok (.aload_n 0, 1) := by decide +kernel
theorem dX3_town_15 : decode cX3_town 15 = .ok (.getfield 12, 3) := by decide +kernel
theorem dX3_town_18 : decode cX3_town 18 = .ok (.getfield 56, 3) := by decide +kernel
theorem dX3_town_21 : decode cX3_town 21 = .ok (.istore_n 2, 1) := by decide +kernel
theorem dX3_town_22 : decode cX3_town 22 = .ok (.aload_n 0, 1) := by decide +kernel
theorem dX3_town_23 : decode cX3_town 23 = .ok (.getfield 12, 3) := by decide +kernel
theorem dX3_town_26 : decode cX3_town 26 = .ok (.iload_n 1, 1) := by decide +kernel
theorem dX3_town_27 : decode cX3_town 27 = .ok (.invokevirtual 60, 3) := by decide +kernel
theorem dX3_town_30 : decode cX3_town 30 = .ok (.iload_n 2, 1) := by decide +kernel
theorem dX3_town_31 : decode cX3_town 31 = .ok (.ireturn, 1) := by decide +kernel
theorem dX3_one_0 : decode cX3_one 0 = .ok (.iload_n 1, 1) := by decide +kernel
theorem dX3_one_1 : decode cX3_one 1 = .ok (.iconst 0, 1) := by decide +kernel
theorem dX3_one_2 : decode cX3_one 2 = .ok (.iconst 5, 1) := by decide +kernel
theorem dX3_one_3 : decode cX3_one 3 = .ok (.invokestatic 48, 3) := by decide +kernel
theorem dX3_one_6 : decode cX3_one 6 = .ok (.ifCond .eq 13, 3) := by decide +kernel
theorem dX3_one_9 : decode cX3_one 9 = .ok (.iload_n 2, 1) := by decide +kernel
theorem dX3_one_10 : decode cX3_one 10 = .ok (.iconst 0, 1) := by decide +kernel
theorem dX3_one_11 : decode cX3_one 11 = .ok (.bipush 30, 2) := by decide +kernel
theorem dX3_one_13 : decode cX3_one 13 = .ok (.invokestatic 48, 3) := by decide +kernel
theorem dX3_one_16 : decode cX3_one 16 = .ok (.ifCond .ne 8, 3) := by decide +kernel
theorem dX3_one_19 : decode cX3_one 19 = .ok (.aload_n 0, 1) := by decide +kernel
theorem dX3_one_20 : decode cX3_one 20 = .ok (.invokevirtual 52, 3) := by decide +kernel
theorem dX3_one_23 : decode cX3_one 23 = .ok (.ireturn, 1) := by decide +kernel
theorem dX3_one_24 : decode cX3_one 24 = .ok (.aload_n 0, 1) := by decide +kernel
theorem dX3_one_25 : decode cX3_one 25 = .ok (.getfield 12, 3) := by decide +kernel
theorem dX3_one_28 : decode cX3_one 28 = .ok (.getfield 56, 3) := by decide +kernel
theorem dX3_one_31 : decode cX3_one 31 = .ok (.bipush 7, 2) := by decide +kernel
theorem dX3_one_33 : decode cX3_one 33 = .ok (.if_icmp .lt 8, 3) := by decide +kernel
theorem dX3_one_36 : decode cX3_one 36 = .ok (.aload_n 0, 1) := by decide +kernel
theorem dX3_one_37 : decode cX3_one 37 = .ok (.invokevirtual 64, 3) := by decide +kernel
theorem dX3_one_40 : decode cX3_one 40 = .ok (.ireturn, 1) := by decide +kernel
theorem dX3_one_41 : decode cX3_one 41 = .ok (.aload_n 0, 1) := by decide +kernel
theorem dX3_one_42 : decode cX3_one 42 = .ok (.getfield 12, 3) := by decide +kernel
theorem dX3_one_45 : decode cX3_one 45 = .ok (.iload_n 1, 1) := by decide +kernel
theorem dX3_one_46 : decode cX3_one 46 = .ok (.iload_n 2, 1) := by decide +kernel
theorem dX3_one_47 : decode cX3_one 47 = .ok (.invokevirtual 67, 3) := by decide +kernel
theorem dX3_one_50 : decode cX3_one 50 = .ok (.ireturn, 1) := by decide +kernel
theorem dX3_type_0 : decode cX3_type 0 = .ok (.iload_n 1, 1) := by decide +kernel
theorem dX3_type_1 : decode cX3_type 1 = .ok (.iconst 0, 1) := by decide +kernel
theorem dX3_type_2 : decode cX3_type 2 = .ok (.bipush 127, 2) := by decide +kernel
theorem dX3_type_4 : decode cX3_type 4 = .ok (.invokestatic 48, 3) := by decide +kernel
theorem dX3_type_7 : decode cX3_type 7 = .ok (.ifCond .ne 8, 3) := by decide +kernel
theorem dX3_type_10 : decode cX3_type 10 = .ok (.aload_n 0, 1) := by decide +kernel
theorem dX3_type_11 : decode cX3_type 11 = .ok (.invokevirtual 52, 3) := by decide +kernel
theorem dX3_type_14 : decode cX3_type 14 = .ok (.ireturn, 1) := by decide +kernel
theorem dX3_type_15 : decode cX3_type 15 = .ok (.aload_n 0, 1) := by decide +kernel
theorem dX3_type_16 : decode cX3_type 16 = .ok (.getfield 37, 3) := by decide +kernel
theorem dX3_type_19 : decode cX3_type 19 = .ok (.getfield 71, 3) := by decide +kernel
theorem dX3_type_22 : decode cX3_type 22 = .ok (.sipush 150, 3) := by decide +kernel
theorem dX3_type_25 : decode cX3_type 25 = .ok (.if_icmp .lt 8, 3) := by decide +kernel
theorem dX3_type_28 : decode cX3_type 28 = .ok (.aload_n 0, 1) := by decide +kernel
theorem dX3_type_29 : decode cX3_type 29 = .ok (.invokevirtual 64, 3) := by decide +kernel
theorem dX3_type_32 : decode cX3_type 32 = .ok (.ireturn, 1) := by decide +kernel
theorem dX3_type_33 : decode cX3_type 33 = .ok (.aload_n 0, 1) := by decide +kernel
theorem dX3_type_34 : decode cX3_type 34 = .ok (.getfield 37, 3) := by decide +kernel
theorem dX3_type_37 : decode cX3_type 37 = .ok (.iload_n 1, 1) := by decide +kernel
theorem dX3_type_38 : decode cX3_type 38 = .ok (.invokevirtual 74, 3) := by decide +kernel
theorem dX3_type_41 : decode cX3_type 41 = .ok (.ireturn, 1) := by decide +kernel
theorem dX3_clear_0 : decode cX3_clear 0 = .ok (.aload_n 0, 1) := by decide +kernel
theorem dX3_clear_1 : decode cX3_clear 1 = .ok (.getfield 37, 3) := by decide +kernel
theorem dX3_clear_4 : decode cX3_clear 4 = .ok (.getfield 71, 3) := by decide +kernel
theorem dX3_clear_7 : decode cX3_clear 7 = .ok (.istore_n 1, 1) := by decide +kernel
theorem dX3_clear_8 : decode cX3_clear 8 = .ok (.aload_n 0, 1) := by decide +kernel
theorem dX3_clear_9 : decode cX3_clear 9 = .ok (.getfield 37, 3) := by decide +kernel
theorem dX3_clear_12 : decode cX3_clear 12 = .ok (.iconst 0, 1) := by decide +kernel
theorem dX3_clear_13 : decode cX3_clear 13 = .ok (.putfield 71, 3) := by decide +kernel
theorem dX3_clear_16 : decode cX3_clear 16 = .ok (.iload_n 1, 1) := by decide +kernel
theorem dX3_clear_17 : decode cX3_clear 17 = .ok (.ireturn, 1) := by decide +kernel
theorem dX3_read_0 : decode cX3_read 0 = .ok (.aload_n 0, 1) := by decide +kernel
theorem dX3_read_1 : decode cX3_read 1 = .ok (.getfield 37, 3) := by decide +kernel
theorem dX3_read_4 : decode cX3_read 4 = .ok (.aload_n 0, 1) := by decide +kernel
theorem dX3_read_5 : decode cX3_read 5 = .ok (.getfield 16, 3) := by decide +kernel
theorem dX3_read_8 : decode cX3_read 8 = .ok (.invokevirtual 78, 3) := by decide +kernel
theorem dX3_read_11 : decode cX3_read 11 = .ok (.istore_n 1, 1) := by decide +kernel
theorem dX3_read_12 : decode cX3_read 12 = .ok (.iload_n 1, 1) := by decide +kernel
theorem dX3_read_13 : decode cX3_read 13 = .ok (.ifCond .lt 14, 3) := by decide +kernel
theorem dX3_read_16 : decode cX3_read 16 = .ok (.aload_n 0, 1) := by decide +kernel
theorem dX3_read_17 : decode cX3_read 17 = .ok (.getfield 12, 3) := by decide +kernel
theorem dX3_read_20 : decode cX3_read 20 = .ok (.aload_n 0, 1) := by decide +kernel
theorem dX3_read_21 : decode cX3_read 21 = .ok (.getfield 16, 3) := by decide +kernel
theorem dX3_read_24 : decode cX3_read 24 = .ok (.invokevirtual 82, 3) := by decide +kernel
theorem dX3_read_27 : decode cX3_read 27 = .ok (.iload_n 1, 1) := by decide +kernel
theorem dX3_read_28 : decode cX3_read 28 = .ok (.ireturn, 1) := by decide +kernel
theorem dX3_list_0 : decode cX3_list 0 = .ok (.aload_n 0, 1) := by decide +kernel
theorem dX3_list_1 : decode cX3_list 1 = .ok (.iload_n 1, 1) := by decide +kernel
theorem dX3_list_2 : decode cX3_list 2 = .ok (.invokevirtual 86, 3) := by decide +kernel
theorem dX3_list_5 : decode cX3_list 5 = .ok (.ifCond .eq 12, 3) := by decide +kernel
theorem dX3_list_8 : decode cX3_list 8 = .ok (.iload_n 2, 1) := by decide +kernel
theorem dX3_list_9 : decode cX3_list 9 = .ok (.iconst 0, 1) := by decide +kernel
theorem dX3_list_10 : decode cX3_list 10 = .ok (.iconst 1, 1) := by decide +kernel
theorem dX3_list_11 : decode cX3_list 11 = .ok (.invokestatic 48, 3) := by decide +kernel
theorem dX3_list_14 : decode cX3_list 14 = .ok (.ifCond .ne 8, 3) := by decide +kernel
theorem dX3_list_17 : decode cX3_list 17 = .ok (.aload_n 0, 1) := by decide +kernel
theorem dX3_list_18 : decode cX3_list 18 = .ok (.invokevirtual 52, 3) := by decide +kernel
theorem dX3_list_21 : decode cX3_list 21 = .ok (.ireturn, 1) := by decide +kernel
theorem dX3_list_22 : decode cX3_list 22 = .ok (.aload_n 0, 1) := by decide +kernel
theorem dX3_list_23 : decode cX3_list 23 = .ok (.getfield 12, 3) := by decide +kernel
theorem dX3_list_26 : decode cX3_list 26 = .ok (.getfield 90, 3) := by decide +kernel
theorem dX3_list_29 : decode cX3_list 29 = .ok (.iload_n 1, 1) := by decide +kernel
theorem dX3_list_30 : decode cX3_list 30 = .ok (.invokestatic 93, 3) := by decide +kernel
theorem dX3_list_33 : decode cX3_list 33 = .ok (.istore_n 3, 1) := by decide +kernel
theorem dX3_list_34 : decode cX3_list 34 = .ok (.aload_n 0, 1) := by decide +kernel
theorem dX3_list_35 : decode cX3_list 35 = .ok (.getfield 12, 3) := by decide +kernel
theorem dX3_list_38 : decode cX3_list 38 = .ok (.invokevirtual 96, 3) := by decide +kernel
theorem dX3_list_41 : decode cX3_list 41 = .ok (.aload_n 0, 1) := by decide +kernel
theorem dX3_list_42 : decode cX3_list 42 = .ok (.getfield 12, 3) := by decide +kernel
theorem dX3_list_45 : decode cX3_list 45 = .ok (.aload_n 0, 1) := by decide +kernel
theorem dX3_list_46 : decode cX3_list 46 = .ok (.getfield 12, 3) := by decide +kernel
theorem dX3_list_49 : decode cX3_list 49 = .ok (.getfield 90, 3) := by decide +kernel
theorem dX3_list_52 : decode cX3_list 52 = .ok (.iload_n 1, 1) := by decide +kernel
theorem dX3_list_53 : decode cX3_list 53 = .ok (.iload_n 2, 1) := by decide +kernel
theorem dX3_list_54 : decode cX3_list 54 = .ok (.invokestatic 99, 3) := by decide +kernel
theorem dX3_list_57 : decode cX3_list 57 = .ok (.putfield 90, 3) := by decide +kernel
theorem dX3_list_60 : decode cX3_list 60 = .ok (.iload_n 3, 1) := by decide +kernel
theorem dX3_list_61 : decode cX3_list 61 = .ok (.ireturn, 1) := by decide +kernel
theorem dX3_follow_0 : decode cX3_follow 0 = .ok (.aload_n 0, 1) := by decide +kernel
theorem dX3_follow_1 : decode cX3_follow 1 = .ok (.iload_n 1, 1) := by decide +kernel
theorem dX3_follow_2 : decode cX3_follow 2 = .ok (.invokevirtual 86, 3) := by decide +kernel
theorem dX3_follow_5 : decode cX3_follow 5 = .ok (.ifCond .eq 12, 3) := by decide +kernel
theorem dX3_follow_8 : decode cX3_follow 8 = .ok (.iload_n 2, 1) := by decide +kernel
theorem dX3_follow_9 : decode cX3_follow 9 = .ok (.iconst 0, 1) := by decide +kernel
theorem dX3_follow_10 : decode cX3_follow 10 = .ok (.iconst 1, 1) := by decide +kernel
theorem dX3_follow_11 : decode cX3_follow 11 = .ok (.invokestatic 48, 3) := by decide +kernel
theorem dX3_follow_14 : decode cX3_follow 14 = .ok (.ifCond .ne 8, 3) := by decide +kernel
theorem dX3_follow_17 : decode cX3_follow 17 = .ok (.aload_n 0, 1) := by decide +kernel
theorem dX3_follow_18 : decode cX3_follow 18 = .ok (.invokevirtual 52, 3) := by decide +kernel
theorem dX3_follow_21 : decode cX3_follow 21 = .ok (.ireturn, 1) := by decide +kernel
theorem dX3_follow_22 : decode cX3_follow 22 = .ok (.aload_n 0, 1) := by decide +kernel
theorem dX3_follow_23 : decode cX3_follow 23 = .ok (.getfield 12, 3) := by decide +kernel
theorem dX3_follow_26 : decode cX3_follow 26 = .ok (.getfield 103, 3) := by decide +kernel
theorem dX3_follow_29 : decode cX3_follow 29 = .ok (.iload_n 1, 1) := by decide +kernel
theorem dX3_follow_30 : decode cX3_follow 30 = .ok (.invokestatic 93, 3) := by decide +kernel
theorem dX3_follow_33 : decode cX3_follow 33 = .ok (.istore_n 3, 1) := by decide +kernel
theorem dX3_follow_34 : decode cX3_follow 34 = .ok (.aload_n 0, 1) := by decide +kernel
theorem dX3_follow_35 : decode cX3_follow 35 = .ok (.getfield 12, 3) := by decide +kernel
theorem dX3_follow_38 : decode cX3_follow 38 = .ok (.invokevirtual 96, 3) := by decide +kernel
theorem dX3_follow_41 : decode cX3_follow 41 = .ok (.aload_n 0, 1) := by decide +kernel
theorem dX3_follow_42 : decode cX3_follow 42 = .ok (.getfield 12, 3) := by decide +kernel
theorem dX3_follow_45 : decode cX3_follow 45 = .ok (.aload_n 0, 1) := by decide +kernel
theorem dX3_follow_46 : decode cX3_follow 46 = .ok (.getfield 12, 3) := by decide +kernel
theorem dX3_follow_49 : decode cX3_follow 49 = .ok (.getfield 103, 3) := by decide +kernel
theorem dX3_follow_52 : decode cX3_follow 52 = .ok (.iload_n 1, 1) := by decide +kernel
theorem dX3_follow_53 : decode cX3_follow 53 = .ok (.iload_n 2, 1) := by decide +kernel
theorem dX3_follow_54 : decode cX3_follow 54 = .ok (.invokestatic 99, 3) := by decide +kernel
theorem dX3_follow_57 : decode cX3_follow 57 = .ok (.putfield 103, 3) := by decide +kernel
theorem dX3_follow_60 : decode cX3_follow 60 = .ok (.iload_n 3, 1) := by decide +kernel
theorem dX3_follow_61 : decode cX3_follow 61 = .ok (.ireturn, 1) := by decide +kernel
theorem dX3_day_0 : decode cX3_day 0 = .ok (.iload_n 1, 1) := by decide +kernel
theorem dX3_day_1 : decode cX3_day 1 = .ok (.iconst 1, 1) := by decide +kernel
theorem dX3_day_2 : decode cX3_day 2 = .ok (.bipush 60, 2) := by decide +kernel
theorem dX3_day_4 : decode cX3_day 4 = .ok (.invokestatic 48, 3) := by decide +kernel
theorem dX3_day_7 : decode cX3_day 7 = .ok (.ifCond .ne 8, 3) := by decide +kernel
theorem dX3_day_10 : decode cX3_day 10 = .ok (.aload_n 0, 1) := by decide +kernel
theorem dX3_day_11 : decode cX3_day 11 = .ok (.invokevirtual 52, 3) := by decide +kernel
theorem dX3_day_14 : decode cX3_day 14 = .ok (.ireturn, 1) := by decide +kernel
theorem dX3_day_15 : decode cX3_day 15 = .ok (.iconst 0, 1) := by decide +kernel
theorem dX3_day_16 : decode cX3_day 16 = .ok (.istore_n 2, 1) := by decide +kernel
theorem dX3_day_17 : decode cX3_day 17 = .ok (.iconst 0, 1) := by decide +kernel
theorem dX3_day_18 : decode cX3_day 18 = .ok (.istore_n 3, 1) := by decide +kernel
theorem dX3_day_19 : decode cX3_day 19 = .ok (.iload_n 3, 1) := by decide +kernel
theorem dX3_day_20 : decode cX3_day 20 = .ok (.iload_n 1, 1) := by decide +kernel
theorem dX3_day_21 : decode cX3_day 21 = .ok (.if_icmp .ge 30, 3) := by decide +kernel
theorem dX3_day_24 : decode cX3_day 24 = .ok (.aload_n 0, 1) := by decide +kernel
theorem dX3_day_25 : decode cX3_day 25 = .ok (.getfield 12, 3) := by decide +kernel
theorem dX3_day_28 : decode cX3_day 28 = .ok (.invokevirtual 96, 3) := by decide +kernel
theorem dX3_day_31 : decode cX3_day 31 = .ok (.iload_n 2, 1) := by decide +kernel
theorem dX3_day_32 : decode cX3_day 32 = .ok (.aload_n 0, 1) := by decide +kernel
theorem dX3_day_33 : decode cX3_day 33 = .ok (.getfield 12, 3) := by decide +kernel
theorem dX3_day_36 : decode cX3_day 36 = .ok (.aload_n 0, 1) := by decide +kernel
theorem dX3_day_37 : decode cX3_day 37 = .ok (.getfield 30, 3) := by decide +kernel
theorem dX3_day_40 : decode cX3_day 40 = .ok (.invokevirtual 106, 3) := by decide +kernel
theorem dX3_day_43 : decode cX3_day 43 = .ok (.ior, 1) := by decide +kernel
theorem dX3_day_44 : decode cX3_day 44 = .ok (.istore_n 2, 1) := by decide +kernel
theorem dX3_day_45 : decode cX3_day 45 = .ok (.iinc 3 1, 3) := by decide +kernel
theorem dX3_day_48 : decode cX3_day 48 = .ok (.goto (-29), 3) := by decide +kernel
theorem dX3_day_51 : decode cX3_day 51 = .ok (.iload_n 2, 1) := by decide +kernel
theorem dX3_day_52 : decode cX3_day 52 = .ok (.ireturn, 1) := by decide +kernel
theorem dX3_undo_0 : decode cX3_undo 0 = .ok (.aload_n 0, 1) := by decide +kernel
theorem dX3_undo_1 : decode cX3_undo 1 = .ok (.getfield 12, 3) := by decide +kernel
theorem dX3_undo_4 : decode cX3_undo 4 = .ok (.getfield 110, 3) := by decide +kernel
theorem dX3_undo_7 : decode cX3_undo 7 = .ok (.ifCond .gt 8, 3) := by decide +kernel
theorem dX3_undo_10 : decode cX3_undo 10 = .ok (.aload_n 0, 1) := by decide +kernel
theorem dX3_undo_11 : decode cX3_undo 11 = .ok (.invokevirtual 113, 3) := by decide +kernel
theorem dX3_undo_14 : decode cX3_undo 14 = .ok (.ireturn, 1) := by decide +kernel
theorem dX3_undo_15 : decode cX3_undo 15 = .ok (.aload_n 0, 1) := by decide +kernel
theorem dX3_undo_16 : decode cX3_undo 16 = .ok (.getfield 12, 3) := by decide +kernel
theorem dX3_undo_19 : decode cX3_undo 19 = .ok (.invokevirtual 116, 3) := by decide +kernel
theorem dX3_undo_22 : decode cX3_undo 22 = .ok (.aload_n 0, 1) := by decide +kernel
theorem dX3_undo_23 : decode cX3_undo 23 = .ok (.getfield 12, 3) := by decide +kernel
theorem dX3_undo_26 : decode cX3_undo 26 = .ok (.getfield 119, 3) := by decide +kernel
theorem dX3_undo_29 : decode cX3_undo 29 = .ok (.ireturn, 1) := by decide +kernel
theorem dX3_of_0 : decode cX3_of 0 = .ok (.aload_n 0, 1) := by decide +kernel
theorem dX3_of_1 : decode cX3_of 1 = .ok (.iload_n 1, 1) := by decide +kernel
theorem dX3_of_2 : decode cX3_of 2 = .ok (.invokevirtual 86, 3) := by decide +kernel
theorem dX3_of_5 : decode cX3_of 5 = .ok (.ifCond .eq 12, 3) := by decide +kernel
theorem dX3_of_8 : decode cX3_of 8 = .ok (.iload_n 2, 1) := by decide +kernel
theorem dX3_of_9 : decode cX3_of 9 = .ok (.iconst 0, 1) := by decide +kernel
theorem dX3_of_10 : decode cX3_of 10 = .ok (.iconst 4, 1) := by decide +kernel
theorem dX3_of_11 : decode cX3_of 11 = .ok (.invokestatic 48, 3) := by decide +kernel
theorem dX3_of_14 : decode cX3_of 14 = .ok (.ifCond .ne 8, 3) := by decide +kernel
theorem dX3_of_17 : decode cX3_of 17 = .ok (.aload_n 0, 1) := by decide +kernel
theorem dX3_of_18 : decode cX3_of 18 = .ok (.invokevirtual 52, 3) := by decide +kernel
theorem dX3_of_21 : decode cX3_of 21 = .ok (.ireturn, 1) := by decide +kernel
theorem dX3_of_22 : decode cX3_of 22 = .ok (.iload_n 2, 1) := by decide +kernel
theorem dX3_of_23 : decode cX3_of 23 = .ok (.tableswitch 73 0 3 #[29, 39, 49, 61], 29) := by decide +kernel
theorem dX3_of_52 : decode cX3_of 52 = .ok (.aload_n 0, 1) := by decide +kernel
theorem dX3_of_53 : decode cX3_of 53 = .ok (.getfield 12, 3) := by decide +kernel
theorem dX3_of_56 : decode cX3_of 56 = .ok (.getfield 122, 3) := by decide +kernel
theorem dX3_of_59 : decode cX3_of 59 = .ok (.iload_n 1, 1) := by decide +kernel
theorem dX3_of_60 : decode cX3_of 60 = .ok (.iaload, 1) := by decide +kernel
theorem dX3_of_61 : decode cX3_of 61 = .ok (.ireturn, 1) := by decide +kernel
theorem dX3_of_62 : decode cX3_of 62 = .ok (.aload_n 0, 1) := by decide +kernel
theorem dX3_of_63 : decode cX3_of 63 = .ok (.getfield 12, 3) := by decide +kernel
theorem dX3_of_66 : decode cX3_of 66 = .ok (.getfield 126, 3) := by decide +kernel
theorem dX3_of_69 : decode cX3_of 69 = .ok (.iload_n 1, 1) := by decide +kernel
theorem dX3_of_70 : decode cX3_of 70 = .ok (.iaload, 1) := by decide +kernel
theorem dX3_of_71 : decode cX3_of 71 = .ok (.ireturn, 1) := by decide +kernel
theorem dX3_of_72 : decode cX3_of 72 = .ok (.aload_n 0, 1) := by decide +kernel
theorem dX3_of_73 : decode cX3_of 73 = .ok (.getfield 12, 3) := by decide +kernel
theorem dX3_of_76 : decode cX3_of 76 = .ok (.getfield 90, 3) := by decide +kernel
theorem dX3_of_79 : decode cX3_of 79 = .ok (.iload_n 1, 1) := by decide +kernel
theorem dX3_of_80 : decode cX3_of 80 = .ok (.invokestatic 93, 3) := by decide +kernel
theorem dX3_of_83 : decode cX3_of 83 = .ok (.ireturn, 1) := by decide +kernel
theorem dX3_of_84 : decode cX3_of 84 = .ok (.aload_n 0, 1) := by decide +kernel
theorem dX3_of_85 : decode cX3_of 85 = .ok (.getfield 12, 3) := by decide +kernel
theorem dX3_of_88 : decode cX3_of 88 = .ok (.getfield 103, 3) := by decide +kernel
theorem dX3_of_91 : decode cX3_of 91 = .ok (.iload_n 1, 1) := by decide +kernel
theorem dX3_of_92 : decode cX3_of 92 = .ok (.invokestatic 93, 3) := by decide +kernel
theorem dX3_of_95 : decode cX3_of 95 = .ok (.ireturn, 1) := by decide +kernel
theorem dX3_of_96 : decode cX3_of 96 = .ok (.aload_n 0, 1) := by decide +kernel
theorem dX3_of_97 : decode cX3_of 97 = .ok (.iload_n 1, 1) := by decide +kernel
theorem dX3_of_98 : decode cX3_of 98 = .ok (.invokevirtual 129, 3) := by decide +kernel
theorem dX3_of_101 : decode cX3_of 101 = .ok (.ireturn, 1) := by decide +kernel
theorem dX3_then_0 : decode cX3_then 0 = .ok (.aload_n 0, 1) := by decide +kernel
theorem dX3_then_1 : decode cX3_then 1 = .ok (.iload_n 1, 1) := by decide +kernel
theorem dX3_then_2 : decode cX3_then 2 = .ok (.invokevirtual 86, 3) := by decide +kernel
theorem dX3_then_5 : decode cX3_then 5 = .ok (.ifCond .eq 22, 3) := by decide +kernel
theorem dX3_then_8 : decode cX3_then 8 = .ok (.iload_n 2, 1) := by decide +kernel
theorem dX3_then_9 : decode cX3_then 9 = .ok (.iconst 0, 1) := by decide +kernel
theorem dX3_then_10 : decode cX3_then 10 = .ok (.bipush 60, 2) := by decide +kernel
theorem dX3_then_12 : decode cX3_then 12 = .ok (.invokestatic 48, 3) := by decide +kernel
theorem dX3_then_15 : decode cX3_then 15 = .ok (.ifCond .eq 12, 3) := by decide +kernel
theorem dX3_then_18 : decode cX3_then 18 = .ok (.iload_n 3, 1) := by decide +kernel
theorem dX3_then_19 : decode cX3_then 19 = .ok (.iconst 0, 1) := by decide +kernel
theorem dX3_then_20 : decode cX3_then 20 = .ok (.iconst 1, 1) := by decide +kernel
theorem dX3_then_21 : decode cX3_then 21 = .ok (.invokestatic 48, 3) := by decide +kernel
theorem dX3_then_24 : decode cX3_then 24 = .ok (.ifCond .ne 8, 3) := by decide +kernel
theorem dX3_then_27 : decode cX3_then 27 = .ok (.aload_n 0, 1) := by decide +kernel
theorem dX3_then_28 : decode cX3_then 28 = .ok (.invokevirtual 52, 3) := by decide +kernel
theorem dX3_then_31 : decode cX3_then 31 = .ok (.ireturn, 1) := by decide +kernel
theorem dX3_then_32 : decode cX3_then 32 = .ok (.aload_n 0, 1) := by decide +kernel
theorem dX3_then_33 : decode cX3_then 33 = .ok (.getfield 12, 3) := by decide +kernel
theorem dX3_then_36 : decode cX3_then 36 = .ok (.aload_n 0, 1) := by decide +kernel
theorem dX3_then_37 : decode cX3_then 37 = .ok (.getfield 30, 3) := by decide +kernel
theorem dX3_then_40 : decode cX3_then 40 = .ok (.iload_n 1, 1) := by decide +kernel
theorem dX3_then_41 : decode cX3_then 41 = .ok (.invokevirtual 132, 3) := by decide +kernel
theorem dX3_then_44 : decode cX3_then 44 = .ok (.iconst 0, 1) := by decide +kernel
theorem dX3_then_45 : decode cX3_then 45 = .ok (.istore 4, 2) := by decide +kernel
theorem dX3_then_47 : decode cX3_then 47 = .ok (.iload 4, 2) := by decide +kernel
theorem dX3_then_49 : decode cX3_then 49 = .ok (.iload_n 2, 1) := by decide +kernel
theorem dX3_then_50 : decode cX3_then 50 = .ok (.if_icmp .ge 17, 3) := by decide +kernel
theorem dX3_then_53 : decode cX3_then 53 = .ok (.aload_n 0, 1) := by decide +kernel
theorem dX3_then_54 : decode cX3_then 54 = .ok (.getfield 30, 3) := by decide +kernel
theorem dX3_then_57 : decode cX3_then 57 = .ok (.invokevirtual 136, 3) := by decide +kernel
theorem dX3_then_60 : decode cX3_then 60 = .ok (.pop, 1) := by decide +kernel
theorem dX3_then_61 : decode cX3_then 61 = .ok (.iinc 4 1, 3) := by decide +kernel
theorem dX3_then_64 : decode cX3_then 64 = .ok (.goto (-17), 3) := by decide +kernel
theorem dX3_then_67 : decode cX3_then 67 = .ok (.iload_n 3, 1) := by decide +kernel
theorem dX3_then_68 : decode cX3_then 68 = .ok (.ifCond .ne 13, 3) := by decide +kernel
theorem dX3_then_71 : decode cX3_then 71 = .ok (.aload_n 0, 1) := by decide +kernel
theorem dX3_then_72 : decode cX3_then 72 = .ok (.getfield 30, 3) := by decide +kernel
theorem dX3_then_75 : decode cX3_then 75 = .ok (.invokevirtual 139, 3) := by decide +kernel
theorem dX3_then_78 : decode cX3_then 78 = .ok (.goto 10, 3) := by decide +kernel
theorem dX3_then_81 : decode cX3_then 81 = .ok (.aload_n 0, 1) := by decide +kernel
theorem dX3_then_82 : decode cX3_then 82 = .ok (.getfield 30, 3) := by decide +kernel
theorem dX3_then_85 : decode cX3_then 85 = .ok (.getfield 142, 3) := by decide +kernel
theorem dX3_then_88 : decode cX3_then 88 = .ok (.ireturn, 1) := by decide +kernel
theorem dX3_when_0 : decode cX3_when 0 = .ok (.aload_n 0, 1) := by decide +kernel
theorem dX3_when_1 : decode cX3_when 1 = .ok (.iload_n 1, 1) := by decide +kernel
theorem dX3_when_2 : decode cX3_when 2 = .ok (.invokevirtual 86, 3) := by decide +kernel
theorem dX3_when_5 : decode cX3_when 5 = .ok (.ifCond .ne 8, 3) := by decide +kernel
theorem dX3_when_8 : decode cX3_when 8 = .ok (.aload_n 0, 1) := by decide +kernel
theorem dX3_when_9 : decode cX3_when 9 = .ok (.invokevirtual 52, 3) := by decide +kernel
theorem dX3_when_12 : decode cX3_when 12 = .ok (.ireturn, 1) := by decide +kernel
theorem dX3_when_13 : decode cX3_when 13 = .ok (.aload_n 0, 1) := by decide +kernel
theorem dX3_when_14 : decode cX3_when 14 = .ok (.getfield 12, 3) := by decide +kernel
theorem dX3_when_17 : decode cX3_when 17 = .ok (.aload_n 0, 1) := by decide +kernel
theorem dX3_when_18 : decode cX3_when 18 = .ok (.getfield 30, 3) := by decide +kernel
theorem dX3_when_21 : decode cX3_when 21 = .ok (.iload_n 1, 1) := by decide +kernel
theorem dX3_when_22 : decode cX3_when 22 = .ok (.invokevirtual 132, 3) := by decide +kernel
theorem dX3_when_25 : decode cX3_when 25 = .ok (.iconst 1, 1) := by decide +kernel
theorem dX3_when_26 : decode cX3_when 26 = .ok (.istore_n 2, 1) := by decide +kernel
theorem dX3_when_27 : decode cX3_when 27 = .ok (.iload_n 2, 1) := by decide +kernel
theorem dX3_when_28 : decode cX3_when 28 = .ok (.bipush 60, 2) := by decide +kernel
theorem dX3_when_30 : decode cX3_when 30 = .ok (.if_icmp .gt 21, 3) := by decide +kernel
theorem dX3_when_33 : decode cX3_when 33 = .ok (.aload_n 0, 1) := by decide +kernel
theorem dX3_when_34 : decode cX3_when 34 = .ok (.getfield 30, 3) := by decide +kernel
theorem dX3_when_37 : decode cX3_when 37 = .ok (.invokevirtual 136, 3) := by decide +kernel
theorem dX3_when_40 : decode cX3_when 40 = .ok (.ifCond .eq 5, 3) := by decide +kernel
theorem dX3_when_43 : decode cX3_when 43 = .ok (.iload_n 2, 1) := by decide +kernel
theorem dX3_when_44 : decode cX3_when 44 = .ok (.ireturn, 1) := by decide +kernel
theorem dX3_when_45 : decode cX3_when 45 = .ok (.iinc 2 1, 3) := by decide +kernel
theorem dX3_when_48 : decode cX3_when 48 = .ok (.goto (-21), 3) := by decide +kernel
theorem dX3_when_51 : decode cX3_when 51 = .ok (.iconst (-1), 1) := by decide +kernel
theorem dX3_when_52 : decode cX3_when 52 = .ok (.ireturn, 1) := by decide +kernel
theorem dX3_lack_0 : decode cX3_lack 0 = .ok (.aload_n 0, 1) := by decide +kernel
theorem dX3_lack_1 : decode cX3_lack 1 = .ok (.bipush 30, 2) := by decide +kernel
theorem dX3_lack_3 : decode cX3_lack 3 = .ok (.iconst 1, 1) := by decide +kernel
theorem dX3_lack_4 : decode cX3_lack 4 = .ok (.invokevirtual 145, 3) := by decide +kernel
theorem dX3_lack_7 : decode cX3_lack 7 = .ok (.aload_n 0, 1) := by decide +kernel
theorem dX3_lack_8 : decode cX3_lack 8 = .ok (.bipush 30, 2) := by decide +kernel
theorem dX3_lack_10 : decode cX3_lack 10 = .ok (.iconst 0, 1) := by decide +kernel
theorem dX3_lack_11 : decode cX3_lack 11 = .ok (.invokevirtual 145, 3) := by decide +kernel
theorem dX3_lack_14 : decode cX3_lack 14 = .ok (.iconst (-1), 1) := by decide +kernel
theorem dX3_lack_15 : decode cX3_lack 15 = .ok (.ixor, 1) := by decide +kernel
theorem dX3_lack_16 : decode cX3_lack 16 = .ok (.iand, 1) := by decide +kernel
theorem dX3_lack_17 : decode cX3_lack 17 = .ok (.ireturn, 1) := by decide +kernel
theorem dX3_comesTrue_0 : decode cX3_comesTrue 0 = .ok (.iload_n 1, 1) := by decide +kernel
theorem dX3_comesTrue_1 : decode cX3_comesTrue 1 = .ok (.iconst 1, 1) := by decide +kernel
theorem dX3_comesTrue_2 : decode cX3_comesTrue 2 = .ok (.bipush 30, 2) := by decide +kernel
theorem dX3_comesTrue_4 : decode cX3_comesTrue 4 = .ok (.invokestatic 48, 3) := by decide +kernel
theorem dX3_comesTrue_7 : decode cX3_comesTrue 7 = .ok (.ifCond .eq 12, 3) := by decide +kernel
theorem dX3_comesTrue_10 : decode cX3_comesTrue 10 = .ok (.iload_n 2, 1) := by decide +kernel
theorem dX3_comesTrue_11 : decode cX3_comesTrue 11 = .ok (.iconst 0, 1) := by decide +kernel
theorem dX3_comesTrue_12 : decode cX3_comesTrue 12 = .ok (.iconst 1, 1) := by decide +kernel
theorem dX3_comesTrue_13 : decode cX3_comesTrue 13 = .ok (.invokestatic 48, 3) := by decide +kernel
theorem dX3_comesTrue_16 : decode cX3_comesTrue 16 = .ok (.ifCond .ne 8, 3) := by decide +kernel
theorem dX3_comesTrue_19 : decode cX3_comesTrue 19 = .ok (.aload_n 0, 1) := by decide +kernel
theorem dX3_comesTrue_20 : decode cX3_comesTrue 20 = .ok (.invokevirtual 52, 3) := by decide +kernel
theorem dX3_comesTrue_23 : decode cX3_comesTrue 23 = .ok (.ireturn, 1) := by decide +kernel
theorem dX3_comesTrue_24 : decode cX3_comesTrue 24 = .ok (.aload_n 0, 1) := by decide +kernel
theorem dX3_comesTrue_25 : decode cX3_comesTrue 25 = .ok (.iload_n 1, 1) := by decide +kernel
theorem dX3_comesTrue_26 : decode cX3_comesTrue 26 = .ok (.iconst 1, 1) := by decide +kernel
theorem dX3_comesTrue_27 : decode cX3_comesTrue 27 = .ok (.invokevirtual 145, 3) := by decide +kernel
theorem dX3_comesTrue_30 : decode cX3_comesTrue 30 = .ok (.istore_n 3, 1) := by decide +kernel
theorem dX3_comesTrue_31 : decode cX3_comesTrue 31 = .ok (.aload_n 0, 1) := by decide +kernel
theorem dX3_comesTrue_32 : decode cX3_comesTrue 32 = .ok (.iload_n 1, 1) := by decide +kernel
theorem dX3_comesTrue_33 : decode cX3_comesTrue 33 = .ok (.iconst 0, 1) := by decide +kernel
theorem dX3_comesTrue_34 : decode cX3_comesTrue 34 = .ok (.invokevirtual 145, 3) := by decide +kernel
theorem dX3_comesTrue_37 : decode cX3_comesTrue 37 = .ok (.istore 4, 2) := by decide +kernel
theorem dX3_comesTrue_39 : decode cX3_comesTrue 39 = .ok (.iconst 0, 1) := by decide +kernel
theorem dX3_comesTrue_40 : decode cX3_comesTrue 40 = .ok (.istore 5, 2) := by decide +kernel
theorem dX3_comesTrue_42 : decode cX3_comesTrue 42 = .ok (.iconst (-1), 1) := by decide +kernel
theorem dX3_comesTrue_43 : decode cX3_comesTrue 43 = .ok (.istore 6, 2) := by decide +kernel
theorem dX3_comesTrue_45 : decode cX3_comesTrue 45 = .ok (.iconst 0, 1) := by decide +kernel
theorem dX3_comesTrue_46 : decode cX3_comesTrue 46 = .ok (.istore 7, 2) := by decide +kernel
theorem dX3_comesTrue_48 : decode cX3_comesTrue 48 = .ok (.iload 7, 2) := by decide +kernel
theorem dX3_comesTrue_50 : decode cX3_comesTrue 50 = .ok (.iconst 1, 1) := by decide +kernel
theorem dX3_comesTrue_51 : decode cX3_comesTrue 51 = .ok (.aload_n 0, 1) := by decide +kernel
theorem dX3_comesTrue_52 : decode cX3_comesTrue 52 = .ok (.getfield 12, 3) := by decide +kernel
theorem dX3_comesTrue_55 : decode cX3_comesTrue 55 = .ok (.getfield 56, 3) := by decide +kernel
theorem dX3_comesTrue_58 : decode cX3_comesTrue 58 = .ok (.ishl, 1) := by decide +kernel
theorem dX3_comesTrue_59 : decode cX3_comesTrue 59 = .ok (.if_icmp .ge 46, 3) := by decide +kernel
theorem dX3_comesTrue_62 : decode cX3_comesTrue 62 = .ok (.iload 7, 2) := by decide +kernel
theorem dX3_comesTrue_64 : decode cX3_comesTrue 64 = .ok (.iload_n 3, 1) := by decide +kernel
theorem dX3_comesTrue_65 : decode cX3_comesTrue 65 = .ok (.iconst (-1), 1) := by decide +kernel
theorem dX3_comesTrue_66 : decode cX3_comesTrue 66 = .ok (.ixor, 1) := by decide +kernel
theorem dX3_comesTrue_67 : decode cX3_comesTrue 67 = .ok (.iand, 1) := by decide +kernel
theorem dX3_comesTrue_68 : decode cX3_comesTrue 68 = .ok (.ifCond .ne 31, 3) := by decide +kernel
theorem dX3_comesTrue_71 : decode cX3_comesTrue 71 = .ok (.iload 4, 2) := by decide +kernel
theorem dX3_comesTrue_73 : decode cX3_comesTrue 73 = .ok (.iload 7, 2) := by decide +kernel
theorem dX3_comesTrue_75 : decode cX3_comesTrue 75 = .ok (.iconst (-1), 1) := by decide +kernel
theorem dX3_comesTrue_76 : decode cX3_comesTrue 76 = .ok (.ixor, 1) := by decide +kernel
theorem dX3_comesTrue_77 : decode cX3_comesTrue 77 = .ok (.iand, 1) := by decide +kernel
theorem dX3_comesTrue_78 : decode cX3_comesTrue 78 = .ok (.ifCond .ne 21, 3) := by decide +kernel
theorem dX3_comesTrue_81 : decode cX3_comesTrue 81 = .ok (.iinc 5 1, 3) := by decide +kernel
theorem dX3_comesTrue_84 : decode cX3_comesTrue 84 = .ok (.iload 6, 2) := by decide +kernel
theorem dX3_comesTrue_86 : decode cX3_comesTrue 86 = .ok (.iconst (-1), 1) := by decide +kernel
theorem dX3_comesTrue_87 : decode cX3_comesTrue 87 = .ok (.if_icmp .ne 8, 3) := by decide +kernel
theorem dX3_comesTrue_90 : decode cX3_comesTrue 90 = .ok (.iload 7, 2) := by decide +kernel
theorem dX3_comesTrue_92 : decode cX3_comesTrue 92 = .ok (.goto 5, 3) := by decide +kernel
theorem dX3_comesTrue_95 : decode cX3_comesTrue 95 = .ok (.iload 6, 2) := by decide +kernel
theorem dX3_comesTrue_97 : decode cX3_comesTrue 97 = .ok (.istore 6, 2) := by decide +kernel
theorem dX3_comesTrue_99 : decode cX3_comesTrue 99 = .ok (.iinc 7 1, 3) := by decide +kernel
theorem dX3_comesTrue_102 : decode cX3_comesTrue 102 = .ok (.goto (-54), 3) := by decide +kernel
theorem dX3_comesTrue_105 : decode cX3_comesTrue 105 = .ok (.iload_n 2, 1) := by decide +kernel
theorem dX3_comesTrue_106 : decode cX3_comesTrue 106 = .ok (.ifCond .ne 8, 3) := by decide +kernel
theorem dX3_comesTrue_109 : decode cX3_comesTrue 109 = .ok (.iload 5, 2) := by decide +kernel
theorem dX3_comesTrue_111 : decode cX3_comesTrue 111 = .ok (.goto 5, 3) := by decide +kernel
theorem dX3_comesTrue_114 : decode cX3_comesTrue 114 = .ok (.iload 6, 2) := by decide +kernel
theorem dX3_comesTrue_116 : decode cX3_comesTrue 116 = .ok (.ireturn, 1) := by decide +kernel
theorem dX3_readings_0 : decode cX3_readings 0 = .ok (.iconst 0, 1) := by decide +kernel
theorem dX3_readings_1 : decode cX3_readings 1 = .ok (.istore_n 1, 1) := by decide +kernel
theorem dX3_readings_2 : decode cX3_readings 2 = .ok (.iconst 1, 1) := by decide +kernel
theorem dX3_readings_3 : decode cX3_readings 3 = .ok (.istore_n 2, 1) := by decide +kernel
theorem dX3_readings_4 : decode cX3_readings 4 = .ok (.iload_n 2, 1) := by decide +kernel
theorem dX3_readings_5 : decode cX3_readings 5 = .ok (.iconst 5, 1) := by decide +kernel
theorem dX3_readings_6 : decode cX3_readings 6 = .ok (.if_icmp .gt 76, 3) := by decide +kernel
theorem dX3_readings_9 : decode cX3_readings 9 = .ok (.iconst 0, 1) := by decide +kernel
theorem dX3_readings_10 : decode cX3_readings 10 = .ok (.istore_n 3, 1) := by decide +kernel
theorem dX3_readings_11 : decode cX3_readings 11 = .ok (.iconst 0, 1) := by decide +kernel
theorem dX3_readings_12 : decode cX3_readings 12 = .ok (.istore 4, 2) := by decide +kernel
theorem dX3_readings_14 : decode cX3_readings 14 = .ok (.iload 4, 2) := by decide +kernel
theorem dX3_readings_16 : decode cX3_readings 16 = .ok (.aload_n 0, 1) := by decide +kernel
theorem dX3_readings_17 : decode cX3_readings 17 = .ok (.getfield 12, 3) := by decide +kernel
theorem dX3_readings_20 : decode cX3_readings 20 = .ok (.getfield 56, 3) := by decide +kernel
theorem dX3_readings_23 : decode cX3_readings 23 = .ok (.if_icmp .ge 31, 3) := by decide +kernel
theorem dX3_readings_26 : decode cX3_readings 26 = .ok (.iload_n 3, 1) := by decide +kernel
theorem dX3_readings_27 : decode cX3_readings 27 = .ok (.iload 4, 2) := by decide +kernel
theorem dX3_readings_29 : decode cX3_readings 29 = .ok (.aload_n 0, 1) := by decide +kernel
theorem dX3_readings_30 : decode cX3_readings 30 = .ok (.iload 4, 2) := by decide +kernel
theorem dX3_readings_32 : decode cX3_readings 32 = .ok (.invokevirtual 129, 3) := by decide +kernel
theorem dX3_readings_35 : decode cX3_readings 35 = .ok (.iload_n 2, 1) := by decide +kernel
theorem dX3_readings_36 : decode cX3_readings 36 = .ok (.if_icmp .lt 7, 3) := by decide +kernel
theorem dX3_readings_39 : decode cX3_readings 39 = .ok (.iconst 1, 1) := by decide +kernel
theorem dX3_readings_40 : decode cX3_readings 40 = .ok (.goto 4, 3) := by decide +kernel
theorem dX3_readings_43 : decode cX3_readings 43 = .ok (.iconst 0, 1) := by decide +kernel
theorem dX3_readings_44 : decode cX3_readings 44 = .ok (.invokestatic 99, 3) := by decide +kernel
theorem dX3_readings_47 : decode cX3_readings 47 = .ok (.istore_n 3, 1) := by decide +kernel
theorem dX3_readings_48 : decode cX3_readings 48 = .ok (.iinc 4 1, 3) := by decide +kernel
theorem dX3_readings_51 : decode cX3_readings 51 = .ok (.goto (-37), 3) := by decide +kernel
theorem dX3_readings_54 : decode cX3_readings 54 = .ok (.iload_n 1, 1) := by decide +kernel
theorem dX3_readings_55 : decode cX3_readings 55 = .ok (.iload_n 2, 1) := by decide +kernel
theorem dX3_readings_56 : decode cX3_readings 56 = .ok (.iload_n 3, 1) := by decide +kernel
theorem dX3_readings_57 : decode cX3_readings 57 = .ok (.aload_n 0, 1) := by decide +kernel
theorem dX3_readings_58 : decode cX3_readings 58 = .ok (.getfield 12, 3) := by decide +kernel
theorem dX3_readings_61 : decode cX3_readings 61 = .ok (.getfield 90, 3) := by decide +kernel
theorem dX3_readings_64 : decode cX3_readings 64 = .ok (.if_icmp .ne 7, 3) := by decide +kernel
theorem dX3_readings_67 : decode cX3_readings 67 = .ok (.iconst 1, 1) := by decide +kernel
theorem dX3_readings_68 : decode cX3_readings 68 = .ok (.goto 4, 3) := by decide +kernel
theorem dX3_readings_71 : decode cX3_readings 71 = .ok (.iconst 0, 1) := by decide +kernel
theorem dX3_readings_72 : decode cX3_readings 72 = .ok (.invokestatic 99, 3) := by decide +kernel
theorem dX3_readings_75 : decode cX3_readings 75 = .ok (.istore_n 1, 1) := by decide +kernel
theorem dX3_readings_76 : decode cX3_readings 76 = .ok (.iinc 2 1, 3) := by decide +kernel
theorem dX3_readings_79 : decode cX3_readings 79 = .ok (.goto (-75), 3) := by decide +kernel
theorem dX3_readings_82 : decode cX3_readings 82 = .ok (.iload_n 1, 1) := by decide +kernel
theorem dX3_readings_83 : decode cX3_readings 83 = .ok (.ireturn, 1) := by decide +kernel
theorem dX3_roster_0 : decode cX3_roster 0 = .ok (.iload_n 1, 1) := by decide +kernel
theorem dX3_roster_1 : decode cX3_roster 1 = .ok (.iconst 1, 1) := by decide +kernel
theorem dX3_roster_2 : decode cX3_roster 2 = .ok (.bipush 9, 2) := by decide +kernel
theorem dX3_roster_4 : decode cX3_roster 4 = .ok (.invokestatic 48, 3) := by decide +kernel
theorem dX3_roster_7 : decode cX3_roster 7 = .ok (.ifCond .eq 13, 3) := by decide +kernel
theorem dX3_roster_10 : decode cX3_roster 10 = .ok (.iload_n 2, 1) := by decide +kernel
theorem dX3_roster_11 : decode cX3_roster 11 = .ok (.iconst 0, 1) := by decide +kernel
theorem dX3_roster_12 : decode cX3_roster 12 = .ok (.bipush 9, 2) := by decide +kernel
theorem dX3_roster_14 : decode cX3_roster 14 = .ok (.invokestatic 48, 3) := by decide +kernel
theorem dX3_roster_17 : decode cX3_roster 17 = .ok (.ifCond .ne 8, 3) := by decide +kernel
theorem dX3_roster_20 : decode cX3_roster 20 = .ok (.aload_n 0, 1) := by decide +kernel
theorem dX3_roster_21 : decode cX3_roster 21 = .ok (.invokevirtual 52, 3) := by decide +kernel
theorem dX3_roster_24 : decode cX3_roster 24 = .ok (.ireturn, 1) := by decide +kernel
theorem dX3_roster_25 : decode cX3_roster 25 = .ok (.iload_n 2, 1) := by decide +kernel
theorem dX3_roster_26 : decode cX3_roster 26 = .ok (.iload_n 1, 1) := by decide +kernel
theorem dX3_roster_27 : decode cX3_roster 27 = .ok (.if_icmp .le 5, 3) := by decide +kernel
theorem dX3_roster_30 : decode cX3_roster 30 = .ok (.iconst (-1), 1) := by decide +kernel
theorem dX3_roster_31 : decode cX3_roster 31 = .ok (.ireturn, 1) := by decide +kernel
theorem dX3_roster_32 : decode cX3_roster 32 = .ok (.aload_n 0, 1) := by decide +kernel
theorem dX3_roster_33 : decode cX3_roster 33 = .ok (.getfield 12, 3) := by decide +kernel
theorem dX3_roster_36 : decode cX3_roster 36 = .ok (.getfield 90, 3) := by decide +kernel
theorem dX3_roster_39 : decode cX3_roster 39 = .ok (.invokestatic 149, 3) := by decide +kernel
theorem dX3_roster_42 : decode cX3_roster 42 = .ok (.iload_n 2, 1) := by decide +kernel
theorem dX3_roster_43 : decode cX3_roster 43 = .ok (.imul, 1) := by decide +kernel
theorem dX3_roster_44 : decode cX3_roster 44 = .ok (.iload_n 1, 1) := by decide +kernel
theorem dX3_roster_45 : decode cX3_roster 45 = .ok (.iadd, 1) := by decide +kernel
theorem dX3_roster_46 : decode cX3_roster 46 = .ok (.iconst 1, 1) := by decide +kernel
theorem dX3_roster_47 : decode cX3_roster 47 = .ok (.isub, 1) := by decide +kernel
theorem dX3_roster_48 : decode cX3_roster 48 = .ok (.iload_n 1, 1) := by decide +kernel
theorem dX3_roster_49 : decode cX3_roster 49 = .ok (.idiv, 1) := by decide +kernel
theorem dX3_roster_50 : decode cX3_roster 50 = .ok (.ireturn, 1) := by decide +kernel
theorem dX3_off_0 : decode cX3_off 0 = .ok (.aload_n 0, 1) := by decide +kernel
theorem dX3_off_1 : decode cX3_off 1 = .ok (.iload_n 1, 1) := by decide +kernel
theorem dX3_off_2 : decode cX3_off 2 = .ok (.invokevirtual 86, 3) := by decide +kernel
theorem dX3_off_5 : decode cX3_off 5 = .ok (.ifCond .eq 22, 3) := by decide +kernel
theorem dX3_off_8 : decode cX3_off 8 = .ok (.iload_n 2, 1) := by decide +kernel
theorem dX3_off_9 : decode cX3_off 9 = .ok (.iconst 1, 1) := by decide +kernel
theorem dX3_off_10 : decode cX3_off 10 = .ok (.bipush 8, 2) := by decide +kernel
theorem dX3_off_12 : decode cX3_off 12 = .ok (.invokestatic 48, 3) := by decide +kernel
theorem dX3_off_15 : decode cX3_off 15 = .ok (.ifCond .eq 12, 3) := by decide +kernel
theorem dX3_off_18 : decode cX3_off 18 = .ok (.iload_n 3, 1) := by decide +kernel
theorem dX3_off_19 : decode cX3_off 19 = .ok (.iconst 0, 1) := by decide +kernel
theorem dX3_off_20 : decode cX3_off 20 = .ok (.iconst 1, 1) := by decide +kernel
theorem dX3_off_21 : decode cX3_off 21 = .ok (.invokestatic 48, 3) := by decide +kernel
theorem dX3_off_24 : decode cX3_off 24 = .ok (.ifCond .ne 8, 3) := by decide +kernel
theorem dX3_off_27 : decode cX3_off 27 = .ok (.aload_n 0, 1) := by decide +kernel
theorem dX3_off_28 : decode cX3_off 28 = .ok (.invokevirtual 52, 3) := by decide +kernel
theorem dX3_off_31 : decode cX3_off 31 = .ok (.ireturn, 1) := by decide +kernel
theorem dX3_off_32 : decode cX3_off 32 = .ok (.aload_n 0, 1) := by decide +kernel
theorem dX3_off_33 : decode cX3_off 33 = .ok (.getfield 12, 3) := by decide +kernel
theorem dX3_off_36 : decode cX3_off 36 = .ok (.getfield 90, 3) := by decide +kernel
theorem dX3_off_39 : decode cX3_off 39 = .ok (.iload_n 1, 1) := by decide +kernel
theorem dX3_off_40 : decode cX3_off 40 = .ok (.invokestatic 93, 3) := by decide +kernel
theorem dX3_off_43 : decode cX3_off 43 = .ok (.ifCond .ne 8, 3) := by decide +kernel
theorem dX3_off_46 : decode cX3_off 46 = .ok (.aload_n 0, 1) := by decide +kernel
theorem dX3_off_47 : decode cX3_off 47 = .ok (.invokevirtual 113, 3) := by decide +kernel
theorem dX3_off_50 : decode cX3_off 50 = .ok (.ireturn, 1) := by decide +kernel
theorem dX3_off_51 : decode cX3_off 51 = .ok (.aload_n 0, 1) := by decide +kernel
theorem dX3_off_52 : decode cX3_off 52 = .ok (.iload_n 1, 1) := by decide +kernel
theorem dX3_off_53 : decode cX3_off 53 = .ok (.iload_n 2, 1) := by decide +kernel
theorem dX3_off_54 : decode cX3_off 54 = .ok (.invokevirtual 154, 3) := by decide +kernel
theorem dX3_off_57 : decode cX3_off 57 = .ok (.istore 4, 2) := by decide +kernel
theorem dX3_off_59 : decode cX3_off 59 = .ok (.iload_n 3, 1) := by decide +kernel
theorem dX3_off_60 : decode cX3_off 60 = .ok (.iconst 1, 1) := by decide +kernel
theorem dX3_off_61 : decode cX3_off 61 = .ok (.if_icmp .eq 9, 3) := by decide +kernel
theorem dX3_off_64 : decode cX3_off 64 = .ok (.iload 4, 2) := by decide +kernel
theorem dX3_off_66 : decode cX3_off 66 = .ok (.iconst (-1), 1) := by decide +kernel
theorem dX3_off_67 : decode cX3_off 67 = .ok (.if_icmp .ne 8, 3) := by decide +kernel
theorem dX3_off_70 : decode cX3_off 70 = .ok (.iload 4, 2) := by decide +kernel
theorem dX3_off_72 : decode cX3_off 72 = .ok (.goto 8, 3) := by decide +kernel
theorem dX3_off_75 : decode cX3_off 75 = .ok (.iload 4, 2) := by decide +kernel
theorem dX3_off_77 : decode cX3_off 77 = .ok (.invokestatic 149, 3) := by decide +kernel
theorem dX3_off_80 : decode cX3_off 80 = .ok (.ireturn, 1) := by decide +kernel
theorem dX3_rests_0 : decode cX3_rests 0 = .ok (.aload_n 0, 1) := by decide +kernel
theorem dX3_rests_1 : decode cX3_rests 1 = .ok (.iload_n 1, 1) := by decide +kernel
theorem dX3_rests_2 : decode cX3_rests 2 = .ok (.invokevirtual 86, 3) := by decide +kernel
theorem dX3_rests_5 : decode cX3_rests 5 = .ok (.ifCond .ne 8, 3) := by decide +kernel
theorem dX3_rests_8 : decode cX3_rests 8 = .ok (.aload_n 0, 1) := by decide +kernel
theorem dX3_rests_9 : decode cX3_rests 9 = .ok (.invokevirtual 52, 3) := by decide +kernel
theorem dX3_rests_12 : decode cX3_rests 12 = .ok (.ireturn, 1) := by decide +kernel
theorem dX3_rests_13 : decode cX3_rests 13 = .ok (.iconst 0, 1) := by decide +kernel
theorem dX3_rests_14 : decode cX3_rests 14 = .ok (.istore_n 2, 1) := by decide +kernel
theorem dX3_rests_15 : decode cX3_rests 15 = .ok (.iconst 0, 1) := by decide +kernel
theorem dX3_rests_16 : decode cX3_rests 16 = .ok (.istore_n 3, 1) := by decide +kernel
theorem dX3_rests_17 : decode cX3_rests 17 = .ok (.iload_n 3, 1) := by decide +kernel
theorem dX3_rests_18 : decode cX3_rests 18 = .ok (.iconst 4, 1) := by decide +kernel
theorem dX3_rests_19 : decode cX3_rests 19 = .ok (.if_icmp .ge 78, 3) := by decide +kernel
theorem dX3_rests_22 : decode cX3_rests 22 = .ok (.aload_n 0, 1) := by decide +kernel
theorem dX3_rests_23 : decode cX3_rests 23 = .ok (.iload_n 1, 1) := by decide +kernel
theorem dX3_rests_24 : decode cX3_rests 24 = .ok (.iload_n 3, 1) := by decide +kernel
theorem dX3_rests_25 : decode cX3_rests 25 = .ok (.iconst 1, 1) := by decide +kernel
theorem dX3_rests_26 : decode cX3_rests 26 = .ok (.ixor, 1) := by decide +kernel
theorem dX3_rests_27 : decode cX3_rests 27 = .ok (.invokevirtual 157, 3) := by decide +kernel
theorem dX3_rests_30 : decode cX3_rests 30 = .ok (.aload_n 0, 1) := by decide +kernel
theorem dX3_rests_31 : decode cX3_rests 31 = .ok (.iload_n 1, 1) := by decide +kernel
theorem dX3_rests_32 : decode cX3_rests 32 = .ok (.iload_n 3, 1) := by decide +kernel
theorem dX3_rests_33 : decode cX3_rests 33 = .ok (.invokevirtual 157, 3) := by decide +kernel
theorem dX3_rests_36 : decode cX3_rests 36 = .ok (.if_icmp .gt 7, 3) := by decide +kernel
theorem dX3_rests_39 : decode cX3_rests 39 = .ok (.iconst 1, 1) := by decide +kernel
theorem dX3_rests_40 : decode cX3_rests 40 = .ok (.goto 4, 3) := by decide +kernel
theorem dX3_rests_43 : decode cX3_rests 43 = .ok (.iconst 0, 1) := by decide +kernel
theorem dX3_rests_44 : decode cX3_rests 44 = .ok (.istore 4, 2) := by decide +kernel
theorem dX3_rests_46 : decode cX3_rests 46 = .ok (.aload_n 0, 1) := by decide +kernel
theorem dX3_rests_47 : decode cX3_rests 47 = .ok (.iload_n 1, 1) := by decide +kernel
theorem dX3_rests_48 : decode cX3_rests 48 = .ok (.iload_n 3, 1) := by decide +kernel
theorem dX3_rests_49 : decode cX3_rests 49 = .ok (.iconst 2, 1) := by decide +kernel
theorem dX3_rests_50 : decode cX3_rests 50 = .ok (.ixor, 1) := by decide +kernel
theorem dX3_rests_51 : decode cX3_rests 51 = .ok (.invokevirtual 160, 3) := by decide +kernel
theorem dX3_rests_54 : decode cX3_rests 54 = .ok (.aload_n 0, 1) := by decide +kernel
theorem dX3_rests_55 : decode cX3_rests 55 = .ok (.iload_n 1, 1) := by decide +kernel
theorem dX3_rests_56 : decode cX3_rests 56 = .ok (.iload_n 3, 1) := by decide +kernel
theorem dX3_rests_57 : decode cX3_rests 57 = .ok (.invokevirtual 160, 3) := by decide +kernel
theorem dX3_rests_60 : decode cX3_rests 60 = .ok (.if_icmp .gt 7, 3) := by decide +kernel
theorem dX3_rests_63 : decode cX3_rests 63 = .ok (.iconst 1, 1) := by decide +kernel
theorem dX3_rests_64 : decode cX3_rests 64 = .ok (.goto 4, 3) := by decide +kernel
theorem dX3_rests_67 : decode cX3_rests 67 = .ok (.iconst 0, 1) := by decide +kernel
theorem dX3_rests_68 : decode cX3_rests 68 = .ok (.istore 5, 2) := by decide +kernel
theorem dX3_rests_70 : decode cX3_rests 70 = .ok (.iload_n 2, 1) := by decide +kernel
theorem dX3_rests_71 : decode cX3_rests 71 = .ok (.iload_n 3, 1) := by decide +kernel
theorem dX3_rests_72 : decode cX3_rests 72 = .ok (.iload 4, 2) := by decide +kernel
theorem dX3_rests_74 : decode cX3_rests 74 = .ok (.ifCond .eq 12, 3) := by decide +kernel
theorem dX3_rests_77 : decode cX3_rests 77 = .ok (.iload 5, 2) := by decide +kernel
theorem dX3_rests_79 : decode cX3_rests 79 = .ok (.ifCond .eq 7, 3) := by decide +kernel
theorem dX3_rests_82 : decode cX3_rests 82 = .ok (.iconst 1, 1) := by decide +kernel
theorem dX3_rests_83 : decode cX3_rests 83 = .ok (.goto 4, 3) := by decide +kernel
theorem dX3_rests_86 : decode cX3_rests 86 = .ok (.iconst 0, 1) := by decide +kernel
theorem dX3_rests_87 : decode cX3_rests 87 = .ok (.invokestatic 99, 3) := by decide +kernel
theorem dX3_rests_90 : decode cX3_rests 90 = .ok (.istore_n 2, 1) := by decide +kernel
theorem dX3_rests_91 : decode cX3_rests 91 = .ok (.iinc 3 1, 3) := by decide +kernel
theorem dX3_rests_94 : decode cX3_rests 94 = .ok (.goto (-77), 3) := by decide +kernel
theorem dX3_rests_97 : decode cX3_rests 97 = .ok (.iload_n 2, 1) := by decide +kernel
theorem dX3_rests_98 : decode cX3_rests 98 = .ok (.ireturn, 1) := by decide +kernel
theorem dX3_note_0 : decode cX3_note 0 = .ok (.aload_n 0, 1) := by decide +kernel
theorem dX3_note_1 : decode cX3_note 1 = .ok (.iload_n 1, 1) := by decide +kernel
theorem dX3_note_2 : decode cX3_note 2 = .ok (.invokevirtual 86, 3) := by decide +kernel
theorem dX3_note_5 : decode cX3_note 5 = .ok (.ifCond .eq 43, 3) := by decide +kernel
theorem dX3_note_8 : decode cX3_note 8 = .ok (.iload_n 2, 1) := by decide +kernel
theorem dX3_note_9 : decode cX3_note 9 = .ok (.iconst 0, 1) := by decide +kernel
theorem dX3_note_10 : decode cX3_note 10 = .ok (.bipush 99, 2) := by decide +kernel
theorem dX3_note_12 : decode cX3_note 12 = .ok (.invokestatic 48, 3) := by decide +kernel
theorem dX3_note_15 : decode cX3_note 15 = .ok (.ifCond .eq 33, 3) := by decide +kernel
theorem dX3_note_18 : decode cX3_note 18 = .ok (.iload_n 3, 1) := by decide +kernel
theorem dX3_note_19 : decode cX3_note 19 = .ok (.iconst 0, 1) := by decide +kernel
theorem dX3_note_20 : decode cX3_note 20 = .ok (.iconst 1, 1) := by decide +kernel
theorem dX3_note_21 : decode cX3_note 21 = .ok (.invokestatic 48, 3) := by decide +kernel
theorem dX3_note_24 : decode cX3_note 24 = .ok (.ifCond .eq 24, 3) := by decide +kernel
theorem dX3_note_27 : decode cX3_note 27 = .ok (.iload 4, 2) := by decide +kernel
theorem dX3_note_29 : decode cX3_note 29 = .ok (.iconst 0, 1) := by decide +kernel
theorem dX3_note_30 : decode cX3_note 30 = .ok (.bipush 99, 2) := by decide +kernel
theorem dX3_note_32 : decode cX3_note 32 = .ok (.invokestatic 48, 3) := by decide +kernel
theorem dX3_note_35 : decode cX3_note 35 = .ok (.ifCond .eq 13, 3) := by decide +kernel
theorem dX3_note_38 : decode cX3_note 38 = .ok (.iload 5, 2) := by decide +kernel
theorem dX3_note_40 : decode cX3_note 40 = .ok (.iconst 0, 1) := by decide +kernel
theorem dX3_note_41 : decode cX3_note 41 = .ok (.iconst 5, 1) := by decide +kernel
theorem dX3_note_42 : decode cX3_note 42 = .ok (.invokestatic 48, 3) := by decide +kernel
theorem dX3_note_45 : decode cX3_note 45 = .ok (.ifCond .ne 8, 3) := by decide +kernel
theorem dX3_note_48 : decode cX3_note 48 = .ok (.aload_n 0, 1) := by decide +kernel
theorem dX3_note_49 : decode cX3_note 49 = .ok (.invokevirtual 52, 3) := by decide +kernel
theorem dX3_note_52 : decode cX3_note 52 = .ok (.ireturn, 1) := by decide +kernel
theorem dX3_note_53 : decode cX3_note 53 = .ok (.aload_n 0, 1) := by decide +kernel
theorem dX3_note_54 : decode cX3_note 54 = .ok (.getfield 12, 3) := by decide +kernel
theorem dX3_note_57 : decode cX3_note 57 = .ok (.getfield 163, 3) := by decide +kernel
theorem dX3_note_60 : decode cX3_note 60 = .ok (.bipush 6, 2) := by decide +kernel
theorem dX3_note_62 : decode cX3_note 62 = .ok (.if_icmp .lt 8, 3) := by decide +kernel
theorem dX3_note_65 : decode cX3_note 65 = .ok (.aload_n 0, 1) := by decide +kernel
theorem dX3_note_66 : decode cX3_note 66 = .ok (.invokevirtual 64, 3) := by decide +kernel
theorem dX3_note_69 : decode cX3_note 69 = .ok (.ireturn, 1) := by decide +kernel
theorem dX3_note_70 : decode cX3_note 70 = .ok (.aload_n 0, 1) := by decide +kernel
theorem dX3_note_71 : decode cX3_note 71 = .ok (.getfield 12, 3) := by decide +kernel
theorem dX3_note_74 : decode cX3_note 74 = .ok (.iload_n 1, 1) := by decide +kernel
theorem dX3_note_75 : decode cX3_note 75 = .ok (.iload_n 2, 1) := by decide +kernel
theorem dX3_note_76 : decode cX3_note 76 = .ok (.iload_n 3, 1) := by decide +kernel
theorem dX3_note_77 : decode cX3_note 77 = .ok (.iload 4, 2) := by decide +kernel
theorem dX3_note_79 : decode cX3_note 79 = .ok (.iload 5, 2) := by decide +kernel
theorem dX3_note_81 : decode cX3_note 81 = .ok (.invokevirtual 166, 3) := by decide +kernel
theorem dX3_note_84 : decode cX3_note 84 = .ok (.ireturn, 1) := by decide +kernel
theorem dX3_forget_0 : decode cX3_forget 0 = .ok (.aload_n 0, 1) := by decide +kernel
theorem dX3_forget_1 : decode cX3_forget 1 = .ok (.getfield 12, 3) := by decide +kernel
theorem dX3_forget_4 : decode cX3_forget 4 = .ok (.getfield 163, 3) := by decide +kernel
theorem dX3_forget_7 : decode cX3_forget 7 = .ok (.istore_n 1, 1) := by decide +kernel
theorem dX3_forget_8 : decode cX3_forget 8 = .ok (.aload_n 0, 1) := by decide +kernel
theorem dX3_forget_9 : decode cX3_forget 9 = .ok (.getfield 12, 3) := by decide +kernel
theorem dX3_forget_12 : decode cX3_forget 12 = .ok (.iconst 0, 1) := by decide +kernel
theorem dX3_forget_13 : decode cX3_forget 13 = .ok (.putfield 163, 3) := by decide +kernel
theorem dX3_forget_16 : decode cX3_forget 16 = .ok (.iload_n 1, 1) := by decide +kernel
theorem dX3_forget_17 : decode cX3_forget 17 = .ok (.ireturn, 1) := by decide +kernel
theorem dX3_is_0 : decode cX3_is 0 = .ok (.aload_n 0, 1) := by decide +kernel
theorem dX3_is_1 : decode cX3_is 1 = .ok (.iload_n 1, 1) := by decide +kernel
theorem dX3_is_2 : decode cX3_is 2 = .ok (.invokevirtual 86, 3) := by decide +kernel
theorem dX3_is_5 : decode cX3_is 5 = .ok (.ifCond .ne 8, 3) := by decide +kernel
theorem dX3_is_8 : decode cX3_is 8 = .ok (.aload_n 0, 1) := by decide +kernel
theorem dX3_is_9 : decode cX3_is 9 = .ok (.invokevirtual 52, 3) := by decide +kernel
theorem dX3_is_12 : decode cX3_is 12 = .ok (.ireturn, 1) := by decide +kernel
theorem dX3_is_13 : decode cX3_is 13 = .ok (.aload_n 0, 1) := by decide +kernel
theorem dX3_is_14 : decode cX3_is 14 = .ok (.getfield 12, 3) := by decide +kernel
theorem dX3_is_17 : decode cX3_is 17 = .ok (.iload_n 1, 1) := by decide +kernel
theorem dX3_is_18 : decode cX3_is 18 = .ok (.invokevirtual 170, 3) := by decide +kernel
theorem dX3_is_21 : decode cX3_is 21 = .ok (.ireturn, 1) := by decide +kernel
theorem dX3_look_0 : decode cX3_look 0 = .ok (.aload_n 0, 1) := by decide +kernel
theorem dX3_look_1 : decode cX3_look 1 = .ok (.iload_n 1, 1) := by decide +kernel
theorem dX3_look_2 : decode cX3_look 2 = .ok (.invokevirtual 86, 3) := by decide +kernel
theorem dX3_look_5 : decode cX3_look 5 = .ok (.ifCond .eq 13, 3) := by decide +kernel
theorem dX3_look_8 : decode cX3_look 8 = .ok (.iload_n 2, 1) := by decide +kernel
theorem dX3_look_9 : decode cX3_look 9 = .ok (.iconst 0, 1) := by decide +kernel
theorem dX3_look_10 : decode cX3_look 10 = .ok (.bipush 99, 2) := by decide +kernel
theorem dX3_look_12 : decode cX3_look 12 = .ok (.invokestatic 48, 3) := by decide +kernel
theorem dX3_look_15 : decode cX3_look 15 = .ok (.ifCond .ne 8, 3) := by decide +kernel
theorem dX3_look_18 : decode cX3_look 18 = .ok (.aload_n 0, 1) := by decide +kernel
theorem dX3_look_19 : decode cX3_look 19 = .ok (.invokevirtual 52, 3) := by decide +kernel
theorem dX3_look_22 : decode cX3_look 22 = .ok (.ireturn, 1) := by decide +kernel
theorem dX3_look_23 : decode cX3_look 23 = .ok (.aload_n 0, 1) := by decide +kernel
theorem dX3_look_24 : decode cX3_look 24 = .ok (.getfield 12, 3) := by decide +kernel
theorem dX3_look_27 : decode cX3_look 27 = .ok (.iload_n 1, 1) := by decide +kernel
theorem dX3_look_28 : decode cX3_look 28 = .ok (.invokevirtual 170, 3) := by decide +kernel
theorem dX3_look_31 : decode cX3_look 31 = .ok (.istore_n 3, 1) := by decide +kernel
theorem dX3_look_32 : decode cX3_look 32 = .ok (.iload_n 3, 1) := by decide +kernel
theorem dX3_look_33 : decode cX3_look 33 = .ok (.ifCond .ne 5, 3) := by decide +kernel
theorem dX3_look_36 : decode cX3_look 36 = .ok (.iconst (-1), 1) := by decide +kernel
theorem dX3_look_37 : decode cX3_look 37 = .ok (.ireturn, 1) := by decide +kernel
theorem dX3_look_38 : decode cX3_look 38 = .ok (.iconst 0, 1) := by decide +kernel
theorem dX3_look_39 : decode cX3_look 39 = .ok (.istore 4, 2) := by decide +kernel
theorem dX3_look_41 : decode cX3_look 41 = .ok (.bipush 7, 2) := by decide +kernel
theorem dX3_look_43 : decode cX3_look 43 = .ok (.istore 5, 2) := by decide +kernel
theorem dX3_look_45 : decode cX3_look 45 = .ok (.iconst 0, 1) := by decide +kernel
theorem dX3_look_46 : decode cX3_look 46 = .ok (.istore 6, 2) := by decide +kernel
theorem dX3_look_48 : decode cX3_look 48 = .ok (.iload 6, 2) := by decide +kernel
theorem dX3_look_50 : decode cX3_look 50 = .ok (.bipush 12, 2) := by decide +kernel
theorem dX3_look_52 : decode cX3_look 52 = .ok (.if_icmp .ge 48, 3) := by decide +kernel
theorem dX3_look_55 : decode cX3_look 55 = .ok (.iload_n 3, 1) := by decide +kernel
theorem dX3_look_56 : decode cX3_look 56 = .ok (.iload 6, 2) := by decide +kernel
theorem dX3_look_58 : decode cX3_look 58 = .ok (.bipush 6, 2) := by decide +kernel
theorem dX3_look_60 : decode cX3_look 60 = .ok (.irem, 1) := by decide +kernel
theorem dX3_look_61 : decode cX3_look 61 = .ok (.iload 6, 2) := by decide +kernel
theorem dX3_look_63 : decode cX3_look 63 = .ok (.bipush 6, 2) := by decide +kernel
theorem dX3_look_65 : decode cX3_look 65 = .ok (.if_icmp .lt 7, 3) := by decide +kernel
theorem dX3_look_68 : decode cX3_look 68 = .ok (.iconst 1, 1) := by decide +kernel
theorem dX3_look_69 : decode cX3_look 69 = .ok (.goto 4, 3) := by decide +kernel
theorem dX3_look_72 : decode cX3_look 72 = .ok (.iconst 0, 1) := by decide +kernel
theorem dX3_look_73 : decode cX3_look 73 = .ok (.iload_n 2, 1) := by decide +kernel
theorem dX3_look_74 : decode cX3_look 74 = .ok (.invokestatic 173, 3) := by decide +kernel
theorem dX3_look_77 : decode cX3_look 77 = .ok (.istore 7, 2) := by decide +kernel
theorem dX3_look_79 : decode cX3_look 79 = .ok (.iload 7, 2) := by decide +kernel
theorem dX3_look_81 : decode cX3_look 81 = .ok (.iload 5, 2) := by decide +kernel
theorem dX3_look_83 : decode cX3_look 83 = .ok (.if_icmp .ge 11, 3) := by decide +kernel
theorem dX3_look_86 : decode cX3_look 86 = .ok (.iload 7, 2) := by decide +kernel
theorem dX3_look_88 : decode cX3_look 88 = .ok (.istore 5, 2) := by decide +kernel
theorem dX3_look_90 : decode cX3_look 90 = .ok (.iload 6, 2) := by decide +kernel
theorem dX3_look_92 : decode cX3_look 92 = .ok (.istore 4, 2) := by decide +kernel
theorem dX3_look_94 : decode cX3_look 94 = .ok (.iinc 6 1, 3) := by decide +kernel
theorem dX3_look_97 : decode cX3_look 97 = .ok (.goto (-49), 3) := by decide +kernel
theorem dX3_look_100 : decode cX3_look 100 = .ok (.iload 4, 2) := by decide +kernel
theorem dX3_look_102 : decode cX3_look 102 = .ok (.ireturn, 1) := by decide +kernel
theorem dX3_source_0 : decode cX3_source 0 = .ok (.iload_n 1, 1) := by decide +kernel
theorem dX3_source_1 : decode cX3_source 1 = .ok (.iconst 0, 1) := by decide +kernel
theorem dX3_source_2 : decode cX3_source 2 = .ok (.iconst 1, 1) := by decide +kernel
theorem dX3_source_3 : decode cX3_source 3 = .ok (.invokestatic 48, 3) := by decide +kernel
theorem dX3_source_6 : decode cX3_source 6 = .ok (.ifCond .ne 8, 3) := by decide +kernel
theorem dX3_source_9 : decode cX3_source 9 = .ok (.aload_n 0, 1) := by decide +kernel
theorem dX3_source_10 : decode cX3_source 10 = .ok (.invokevirtual 52, 3) := by decide +kernel
theorem dX3_source_13 : decode cX3_source 13 = .ok (.ireturn, 1) := by decide +kernel
theorem dX3_source_14 : decode cX3_source 14 = .ok (.iload_n 1, 1) := by decide +kernel
theorem dX3_source_15 : decode cX3_source 15 = .ok (.ifCond .ne 10, 3) := by decide +kernel
theorem dX3_source_18 : decode cX3_source 18 = .ok (.aload_n 0, 1) := by decide +kernel
theorem dX3_source_19 : decode cX3_source 19 = .ok (.invokevirtual 177, 3) := by decide +kernel
theorem dX3_source_22 : decode cX3_source 22 = .ok (.goto 7, 3) := by decide +kernel
theorem dX3_source_25 : decode cX3_source 25 = .ok (.aload_n 0, 1) := by decide +kernel
theorem dX3_source_26 : decode cX3_source 26 = .ok (.invokevirtual 180, 3) := by decide +kernel
theorem dX3_source_29 : decode cX3_source 29 = .ok (.ireturn, 1) := by decide +kernel
theorem dX3_odds_0 : decode cX3_odds 0 = .ok (.aload_n 0, 1) := by decide +kernel
theorem dX3_odds_1 : decode cX3_odds 1 = .ok (.iload_n 1, 1) := by decide +kernel
theorem dX3_odds_2 : decode cX3_odds 2 = .ok (.invokevirtual 86, 3) := by decide +kernel
theorem dX3_odds_5 : decode cX3_odds 5 = .ok (.ifCond .eq 23, 3) := by decide +kernel
theorem dX3_odds_8 : decode cX3_odds 8 = .ok (.iload_n 2, 1) := by decide +kernel
theorem dX3_odds_9 : decode cX3_odds 9 = .ok (.iconst 0, 1) := by decide +kernel
theorem dX3_odds_10 : decode cX3_odds 10 = .ok (.bipush 8, 2) := by decide +kernel
theorem dX3_odds_12 : decode cX3_odds 12 = .ok (.invokestatic 48, 3) := by decide +kernel
theorem dX3_odds_15 : decode cX3_odds 15 = .ok (.ifCond .eq 13, 3) := by decide +kernel
theorem dX3_odds_18 : decode cX3_odds 18 = .ok (.iload_n 3, 1) := by decide +kernel
theorem dX3_odds_19 : decode cX3_odds 19 = .ok (.iconst 0, 1) := by decide +kernel
theorem dX3_odds_20 : decode cX3_odds 20 = .ok (.bipush 10, 2) := by decide +kernel
theorem dX3_odds_22 : decode cX3_odds 22 = .ok (.invokestatic 48, 3) := by decide +kernel
theorem dX3_odds_25 : decode cX3_odds 25 = .ok (.ifCond .ne 8, 3) := by decide +kernel
theorem dX3_odds_28 : decode cX3_odds 28 = .ok (.aload_n 0, 1) := by decide +kernel
theorem dX3_odds_29 : decode cX3_odds 29 = .ok (.invokevirtual 52, 3) := by decide +kernel
theorem dX3_odds_32 : decode cX3_odds 32 = .ok (.ireturn, 1) := by decide +kernel
theorem dX3_odds_33 : decode cX3_odds 33 = .ok (.aload_n 0, 1) := by decide +kernel
theorem dX3_odds_34 : decode cX3_odds 34 = .ok (.getfield 12, 3) := by decide +kernel
theorem dX3_odds_37 : decode cX3_odds 37 = .ok (.getfield 90, 3) := by decide +kernel
theorem dX3_odds_40 : decode cX3_odds 40 = .ok (.iload_n 1, 1) := by decide +kernel
theorem dX3_odds_41 : decode cX3_odds 41 = .ok (.invokestatic 93, 3) := by decide +kernel
theorem dX3_odds_44 : decode cX3_odds 44 = .ok (.ifCond .ne 8, 3) := by decide +kernel
theorem dX3_odds_47 : decode cX3_odds 47 = .ok (.aload_n 0, 1) := by decide +kernel
theorem dX3_odds_48 : decode cX3_odds 48 = .ok (.invokevirtual 113, 3) := by decide +kernel
theorem dX3_odds_51 : decode cX3_odds 51 = .ok (.ireturn, 1) := by decide +kernel
theorem dX3_odds_52 : decode cX3_odds 52 = .ok (.lconst 0, 1) := by decide +kernel
theorem dX3_odds_53 : decode cX3_odds 53 = .ok (.lstore 4, 2) := by decide +kernel
theorem dX3_odds_55 : decode cX3_odds 55 = .ok (.lconst 0, 1) := by decide +kernel
theorem dX3_odds_56 : decode cX3_odds 56 = .ok (.lstore 6, 2) := by decide +kernel
theorem dX3_odds_58 : decode cX3_odds 58 = .ok (.iconst 0, 1) := by decide +kernel
theorem dX3_odds_59 : decode cX3_odds 59 = .ok (.istore 8, 2) := by decide +kernel
theorem dX3_odds_61 : decode cX3_odds 61 = .ok (.iload 8, 2) := by decide +kernel
theorem dX3_odds_63 : decode cX3_odds 63 = .ok (.iconst 1, 1) := by decide +kernel
theorem dX3_odds_64 : decode cX3_odds 64 = .ok (.iload_n 2, 1) := by decide +kernel
theorem dX3_odds_65 : decode cX3_odds 65 = .ok (.ishl, 1) := by decide +kernel
theorem dX3_odds_66 : decode cX3_odds 66 = .ok (.if_icmp .ge 82, 3) := by decide +kernel
theorem dX3_odds_69 : decode cX3_odds 69 = .ok (.lconst 1, 1) := by decide +kernel
theorem dX3_odds_70 : decode cX3_odds 70 = .ok (.lstore 9, 2) := by decide +kernel
theorem dX3_odds_72 : decode cX3_odds 72 = .ok (.iconst 0, 1) := by decide +kernel
theorem dX3_odds_73 : decode cX3_odds 73 = .ok (.istore 11, 2) := by decide +kernel
theorem dX3_odds_75 : decode cX3_odds 75 = .ok (.iload 11, 2) := by decide +kernel
theorem dX3_odds_77 : decode cX3_odds 77 = .ok (.iload_n 2, 1) := by decide +kernel
theorem dX3_odds_78 : decode cX3_odds 78 = .ok (.if_icmp .ge 35, 3) := by decide +kernel
theorem dX3_odds_81 : decode cX3_odds 81 = .ok (.lload 9, 2) := by decide +kernel
theorem dX3_odds_83 : decode cX3_odds 83 = .ok (.iload 8, 2) := by decide +kernel
theorem dX3_odds_85 : decode cX3_odds 85 = .ok (.iload 11, 2) := by decide +kernel
theorem dX3_odds_87 : decode cX3_odds 87 = .ok (.invokestatic 93, 3) := by decide +kernel
theorem dX3_odds_90 : decode cX3_odds 90 = .ok (.iconst 1, 1) := by decide +kernel
theorem dX3_odds_91 : decode cX3_odds 91 = .ok (.if_icmp .ne 8, 3) := by decide +kernel
theorem dX3_odds_94 : decode cX3_odds 94 = .ok (.iload_n 3, 1) := by decide +kernel
theorem dX3_odds_95 : decode cX3_odds 95 = .ok (.i2l, 1) := by decide +kernel
theorem dX3_odds_96 : decode cX3_odds 96 = .ok (.goto 8, 3) := by decide +kernel
theorem dX3_odds_99 : decode cX3_odds 99 = .ok (.bipush 10, 2) := by decide +kernel
theorem dX3_odds_101 : decode cX3_odds 101 = .ok (.iload_n 3, 1) := by decide +kernel
theorem dX3_odds_102 : decode cX3_odds 102 = .ok (.isub, 1) := by decide +kernel
theorem dX3_odds_103 : decode cX3_odds 103 = .ok (.i2l, 1) := by decide +kernel
theorem dX3_odds_104 : decode cX3_odds 104 = .ok (.lmul, 1) := by decide +kernel
theorem dX3_odds_105 : decode cX3_odds 105 = .ok (.lstore 9, 2) := by decide +kernel
theorem dX3_odds_107 : decode cX3_odds 107 = .ok (.iinc 11 1, 3) := by decide +kernel
theorem dX3_odds_110 : decode cX3_odds 110 = .ok (.goto (-35), 3) := by decide +kernel
theorem dX3_odds_113 : decode cX3_odds 113 = .ok (.lload 6, 2) := by decide +kernel
theorem dX3_odds_115 : decode cX3_odds 115 = .ok (.lload 9, 2) := by decide +kernel
theorem dX3_odds_117 : decode cX3_odds 117 = .ok (.ladd, 1) := by decide +kernel
theorem dX3_odds_118 : decode cX3_odds 118 = .ok (.lstore 6, 2) := by decide +kernel
theorem dX3_odds_120 : decode cX3_odds 120 = .ok (.lload 4, 2) := by decide +kernel
theorem dX3_odds_122 : decode cX3_odds 122 = .ok (.aload_n 0, 1) := by decide +kernel
theorem dX3_odds_123 : decode cX3_odds 123 = .ok (.iload_n 1, 1) := by decide +kernel
theorem dX3_odds_124 : decode cX3_odds 124 = .ok (.iload_n 2, 1) := by decide +kernel
theorem dX3_odds_125 : decode cX3_odds 125 = .ok (.iload 8, 2) := by decide +kernel
theorem dX3_odds_127 : decode cX3_odds 127 = .ok (.invokevirtual 183, 3) := by decide +kernel
theorem dX3_odds_130 : decode cX3_odds 130 = .ok (.ifCond .eq 8, 3) := by decide +kernel
theorem dX3_odds_133 : decode cX3_odds 133 = .ok (.lload 9, 2) := by decide +kernel
theorem dX3_odds_135 : decode cX3_odds 135 = .ok (.goto 4, 3) := by decide +kernel
theorem dX3_odds_138 : decode cX3_odds 138 = .ok (.lconst 0, 1) := by decide +kernel
theorem dX3_odds_139 : decode cX3_odds 139 = .ok (.ladd, 1) := by decide +kernel
theorem dX3_odds_140 : decode cX3_odds 140 = .ok (.lstore 4, 2) := by decide +kernel
theorem dX3_odds_142 : decode cX3_odds 142 = .ok (.iinc 8 1, 3) := by decide +kernel
theorem dX3_odds_145 : decode cX3_odds 145 = .ok (.goto (-84), 3) := by decide +kernel
theorem dX3_odds_148 : decode cX3_odds 148 = .ok (.aload_n 0, 1) := by decide +kernel
theorem dX3_odds_149 : decode cX3_odds 149 = .ok (.lload 4, 2) := by decide +kernel
theorem dX3_odds_151 : decode cX3_odds 151 = .ok (.lload 6, 2) := by decide +kernel
theorem dX3_odds_153 : decode cX3_odds 153 = .ok (.invokevirtual 186, 3) := by decide +kernel
theorem dX3_odds_156 : decode cX3_odds 156 = .ok (.iconst 1, 1) := by decide +kernel
theorem dX3_odds_157 : decode cX3_odds 157 = .ok (.ireturn, 1) := by decide +kernel
theorem dX3_years_0 : decode cX3_years 0 = .ok (.iload_n 1, 1) := by decide +kernel
theorem dX3_years_1 : decode cX3_years 1 = .ok (.iconst 0, 1) := by decide +kernel
theorem dX3_years_2 : decode cX3_years 2 = .ok (.ldc 190, 2) := by decide +kernel
theorem dX3_years_4 : decode cX3_years 4 = .ok (.invokestatic 48, 3) := by decide +kernel
theorem dX3_years_7 : decode cX3_years 7 = .ok (.ifCond .eq 13, 3) := by decide +kernel
theorem dX3_years_10 : decode cX3_years 10 = .ok (.iload_n 2, 1) := by decide +kernel
theorem dX3_years_11 : decode cX3_years 11 = .ok (.iconst 0, 1) := by decide +kernel
theorem dX3_years_12 : decode cX3_years 12 = .ok (.bipush 60, 2) := by decide +kernel
theorem dX3_years_14 : decode cX3_years 14 = .ok (.invokestatic 48, 3) := by decide +kernel
theorem dX3_years_17 : decode cX3_years 17 = .ok (.ifCond .ne 8, 3) := by decide +kernel
theorem dX3_years_20 : decode cX3_years 20 = .ok (.aload_n 0, 1) := by decide +kernel
theorem dX3_years_21 : decode cX3_years 21 = .ok (.invokevirtual 52, 3) := by decide +kernel
theorem dX3_years_24 : decode cX3_years 24 = .ok (.ireturn, 1) := by decide +kernel
theorem dX3_years_25 : decode cX3_years 25 = .ok (.aload_n 0, 1) := by decide +kernel
theorem dX3_years_26 : decode cX3_years 26 = .ok (.getfield 16, 3) := by decide +kernel
theorem dX3_years_29 : decode cX3_years 29 = .ok (.aload_n 0, 1) := by decide +kernel
theorem dX3_years_30 : decode cX3_years 30 = .ok (.getfield 12, 3) := by decide +kernel
theorem dX3_years_33 : decode cX3_years 33 = .ok (.invokevirtual 82, 3) := by decide +kernel
theorem dX3_years_36 : decode cX3_years 36 = .ok (.iload_n 1, 1) := by decide +kernel
theorem dX3_years_37 : decode cX3_years 37 = .ok (.i2l, 1) := by decide +kernel
theorem dX3_years_38 : decode cX3_years 38 = .ok (.lstore_n 3, 1) := by decide +kernel
theorem dX3_years_39 : decode cX3_years 39 = .ok (.iconst 0, 1) := by decide +kernel
theorem dX3_years_40 : decode cX3_years 40 = .ok (.istore 5, 2) := by decide +kernel
theorem dX3_years_42 : decode cX3_years 42 = .ok (.iconst 0, 1) := by decide +kernel
theorem dX3_years_43 : decode cX3_years 43 = .ok (.istore 6, 2) := by decide +kernel
theorem dX3_years_45 : decode cX3_years 45 = .ok (.iload 6, 2) := by decide +kernel
theorem dX3_years_47 : decode cX3_years 47 = .ok (.iload_n 2, 1) := by decide +kernel
theorem dX3_years_48 : decode cX3_years 48 = .ok (.if_icmp .ge 92, 3) := by decide +kernel
theorem dX3_years_51 : decode cX3_years 51 = .ok (.iconst 0, 1) := by decide +kernel
theorem dX3_years_52 : decode cX3_years 52 = .ok (.istore 7, 2) := by decide +kernel
theorem dX3_years_54 : decode cX3_years 54 = .ok (.iload 7, 2) := by decide +kernel
theorem dX3_years_56 : decode cX3_years 56 = .ok (.aload_n 0, 1) := by decide +kernel
theorem dX3_years_57 : decode cX3_years 57 = .ok (.getfield 16, 3) := by decide +kernel
theorem dX3_years_60 : decode cX3_years 60 = .ok (.getfield 56, 3) := by decide +kernel
theorem dX3_years_63 : decode cX3_years 63 = .ok (.if_icmp .ge 52, 3) := by decide +kernel
theorem dX3_years_66 : decode cX3_years 66 = .ok (.lload_n 3, 1) := by decide +kernel
theorem dX3_years_67 : decode cX3_years 67 = .ok (.ldc2_w 191, 3) := by decide +kernel
theorem dX3_years_70 : decode cX3_years 70 = .ok (.lmul, 1) := by decide +kernel
theorem dX3_years_71 : decode cX3_years 71 = .ok (.ldc2_w 193, 3) := by decide +kernel
theorem dX3_years_74 : decode cX3_years 74 = .ok (.ladd, 1) := by decide +kernel
theorem dX3_years_75 : decode cX3_years 75 = .ok (.ldc2_w 195, 3) := by decide +kernel
theorem dX3_years_78 : decode cX3_years 78 = .ok (.lrem, 1) := by decide +kernel
theorem dX3_years_79 : decode cX3_years 79 = .ok (.lstore_n 3, 1) := by decide +kernel
theorem dX3_years_80 : decode cX3_years 80 = .ok (.aload_n 0, 1) := by decide +kernel
theorem dX3_years_81 : decode cX3_years 81 = .ok (.getfield 16, 3) := by decide +kernel
theorem dX3_years_84 : decode cX3_years 84 = .ok (.aload_n 0, 1) := by decide +kernel
theorem dX3_years_85 : decode cX3_years 85 = .ok (.getfield 16, 3) := by decide +kernel
theorem dX3_years_88 : decode cX3_years 88 = .ok (.getfield 103, 3) := by decide +kernel
theorem dX3_years_91 : decode cX3_years 91 = .ok (.iload 7, 2) := by decide +kernel
theorem dX3_years_93 : decode cX3_years 93 = .ok (.lload_n 3, 1) := by decide +kernel
theorem dX3_years_94 : decode cX3_years 94 = .ok (.ldc2_w 197, 3) := by decide +kernel
theorem dX3_years_97 : decode cX3_years 97 = .ok (.ldiv, 1) := by decide +kernel
theorem dX3_years_98 : decode cX3_years 98 = .ok (.ldc2_w 199, 3) := by decide +kernel
theorem dX3_years_101 : decode cX3_years 101 = .ok (.lrem, 1) := by decide +kernel
theorem dX3_years_102 : decode cX3_years 102 = .ok (.l2i, 1) := by decide +kernel
theorem dX3_years_103 : decode cX3_years 103 = .ok (.invokestatic 99, 3) := by decide +kernel
theorem dX3_years_106 : decode cX3_years 106 = .ok (.putfield 103, 3) := by decide +kernel
theorem dX3_years_109 : decode cX3_years 109 = .ok (.iinc 7 1, 3) := by decide +kernel
theorem dX3_years_112 : decode cX3_years 112 = .ok (.goto (-58), 3) := by decide +kernel
theorem dX3_years_115 : decode cX3_years 115 = .ok (.iload 5, 2) := by decide +kernel
theorem dX3_years_117 : decode cX3_years 117 = .ok (.aload_n 0, 1) := by decide +kernel
theorem dX3_years_118 : decode cX3_years 118 = .ok (.getfield 16, 3) := by decide +kernel
theorem dX3_years_121 : decode cX3_years 121 = .ok (.aload_n 0, 1) := by decide +kernel
theorem dX3_years_122 : decode cX3_years 122 = .ok (.getfield 30, 3) := by decide +kernel
theorem dX3_years_125 : decode cX3_years 125 = .ok (.invokevirtual 106, 3) := by decide +kernel
theorem dX3_years_128 : decode cX3_years 128 = .ok (.invokestatic 149, 3) := by decide +kernel
theorem dX3_years_131 : decode cX3_years 131 = .ok (.iadd, 1) := by decide +kernel
theorem dX3_years_132 : decode cX3_years 132 = .ok (.istore 5, 2) := by decide +kernel
theorem dX3_years_134 : decode cX3_years 134 = .ok (.iinc 6 1, 3) := by decide +kernel
theorem dX3_years_137 : decode cX3_years 137 = .ok (.goto (-92), 3) := by decide +kernel
theorem dX3_years_140 : decode cX3_years 140 = .ok (.iload 5, 2) := by decide +kernel
theorem dX3_years_142 : decode cX3_years 142 = .ok (.ireturn, 1) := by decide +kernel
theorem dX3_part_0 : decode cX3_part 0 = .ok (.iload_n 1, 1) := by decide +kernel
theorem dX3_part_1 : decode cX3_part 1 = .ok (.iconst 0, 1) := by decide +kernel
theorem dX3_part_2 : decode cX3_part 2 = .ok (.iconst 1, 1) := by decide +kernel
theorem dX3_part_3 : decode cX3_part 3 = .ok (.invokestatic 48, 3) := by decide +kernel
theorem dX3_part_6 : decode cX3_part 6 = .ok (.ifCond .ne 9, 3) := by decide +kernel
theorem dX3_part_9 : decode cX3_part 9 = .ok (.aload_n 0, 1) := by decide +kernel
theorem dX3_part_10 : decode cX3_part 10 = .ok (.invokevirtual 52, 3) := by decide +kernel
theorem dX3_part_13 : decode cX3_part 13 = .ok (.i2l, 1) := by decide +kernel
theorem dX3_part_14 : decode cX3_part 14 = .ok (.lreturn, 1) := by decide +kernel
theorem dX3_part_15 : decode cX3_part 15 = .ok (.iload_n 1, 1) := by decide +kernel
theorem dX3_part_16 : decode cX3_part 16 = .ok (.ifCond .ne 10, 3) := by decide +kernel
theorem dX3_part_19 : decode cX3_part 19 = .ok (.aload_n 0, 1) := by decide +kernel
theorem dX3_part_20 : decode cX3_part 20 = .ok (.getfield 41, 3) := by decide +kernel
theorem dX3_part_23 : decode cX3_part 23 = .ok (.goto 7, 3) := by decide +kernel
theorem dX3_part_26 : decode cX3_part 26 = .ok (.aload_n 0, 1) := by decide +kernel
theorem dX3_part_27 : decode cX3_part 27 = .ok (.getfield 45, 3) := by decide +kernel
theorem dX3_part_30 : decode cX3_part 30 = .ok (.lreturn, 1) := by decide +kernel
theorem dX3_image_0 : decode cX3_image 0 = .ok (.iload_n 1, 1) := by decide +kernel
theorem dX3_image_1 : decode cX3_image 1 = .ok (.iconst 0, 1) := by decide +kernel
theorem dX3_image_2 : decode cX3_image 2 = .ok (.iconst 1, 1) := by decide +kernel
theorem dX3_image_3 : decode cX3_image 3 = .ok (.invokestatic 48, 3) := by decide +kernel
theorem dX3_image_6 : decode cX3_image 6 = .ok (.ifCond .ne 8, 3) := by decide +kernel
theorem dX3_image_9 : decode cX3_image 9 = .ok (.aload_n 0, 1) := by decide +kernel
theorem dX3_image_10 : decode cX3_image 10 = .ok (.invokevirtual 52, 3) := by decide +kernel
theorem dX3_image_13 : decode cX3_image 13 = .ok (.ireturn, 1) := by decide +kernel
theorem dX3_image_14 : decode cX3_image 14 = .ok (.aload_n 0, 1) := by decide +kernel
theorem dX3_image_15 : decode cX3_image 15 = .ok (.getfield 19, 3) := by decide +kernel
theorem dX3_image_18 : decode cX3_image 18 = .ok (.iload_n 1, 1) := by decide +kernel
theorem dX3_image_19 : decode cX3_image 19 = .ok (.aaload, 1) := by decide +kernel
theorem dX3_image_20 : decode cX3_image 20 = .ok (.aload_n 0, 1) := by decide +kernel
theorem dX3_image_21 : decode cX3_image 21 = .ok (.getfield 12, 3) := by decide +kernel
theorem dX3_image_24 : decode cX3_image 24 = .ok (.invokevirtual 82, 3) := by decide +kernel
theorem dX3_image_27 : decode cX3_image 27 = .ok (.aload_n 0, 1) := by decide +kernel
theorem dX3_image_28 : decode cX3_image 28 = .ok (.getfield 23, 3) := by decide +kernel
theorem dX3_image_31 : decode cX3_image 31 = .ok (.iload_n 1, 1) := by decide +kernel
theorem dX3_image_32 : decode cX3_image 32 = .ok (.iconst 1, 1) := by decide +kernel
theorem dX3_image_33 : decode cX3_image 33 = .ok (.bastore, 1) := by decide +kernel
theorem dX3_image_34 : decode cX3_image 34 = .ok (.iconst 1, 1) := by decide +kernel
theorem dX3_image_35 : decode cX3_image 35 = .ok (.ireturn, 1) := by decide +kernel
theorem dX3_from_0 : decode cX3_from 0 = .ok (.iload_n 1, 1) := by decide +kernel
theorem dX3_from_1 : decode cX3_from 1 = .ok (.iconst 0, 1) := by decide +kernel
theorem dX3_from_2 : decode cX3_from 2 = .ok (.iconst 1, 1) := by decide +kernel
theorem dX3_from_3 : decode cX3_from 3 = .ok (.invokestatic 48, 3) := by decide +kernel
theorem dX3_from_6 : decode cX3_from 6 = .ok (.ifCond .ne 8, 3) := by decide +kernel
theorem dX3_from_9 : decode cX3_from 9 = .ok (.aload_n 0, 1) := by decide +kernel
theorem dX3_from_10 : decode cX3_from 10 = .ok (.invokevirtual 52, 3) := by decide +kernel
theorem dX3_from_13 : decode cX3_from 13 = .ok (.ireturn, 1) := by decide +kernel
theorem dX3_from_14 : decode cX3_from 14 = .ok (.aload_n 0, 1) := by decide +kernel
theorem dX3_from_15 : decode cX3_from 15 = .ok (.getfield 23, 3) := by decide +kernel
theorem dX3_from_18 : decode cX3_from 18 = .ok (.iload_n 1, 1) := by decide +kernel
theorem dX3_from_19 : decode cX3_from 19 = .ok (.baload, 1) := by decide +kernel
theorem dX3_from_20 : decode cX3_from 20 = .ok (.ifCond .ne 8, 3) := by decide +kernel
theorem dX3_from_23 : decode cX3_from 23 = .ok (.aload_n 0, 1) := by decide +kernel
theorem dX3_from_24 : decode cX3_from 24 = .ok (.invokevirtual 113, 3) := by decide +kernel
theorem dX3_from_27 : decode cX3_from 27 = .ok (.ireturn, 1) := by decide +kernel
theorem dX3_from_28 : decode cX3_from 28 = .ok (.aload_n 0, 1) := by decide +kernel
theorem dX3_from_29 : decode cX3_from 29 = .ok (.getfield 12, 3) := by decide +kernel
theorem dX3_from_32 : decode cX3_from 32 = .ok (.aload_n 0, 1) := by decide +kernel
theorem dX3_from_33 : decode cX3_from 33 = .ok (.getfield 19, 3) := by decide +kernel
theorem dX3_from_36 : decode cX3_from 36 = .ok (.iload_n 1, 1) := by decide +kernel
theorem dX3_from_37 : decode cX3_from 37 = .ok (.aaload, 1) := by decide +kernel
theorem dX3_from_38 : decode cX3_from 38 = .ok (.invokevirtual 82, 3) := by decide +kernel
theorem dX3_from_41 : decode cX3_from 41 = .ok (.iconst 1, 1) := by decide +kernel
theorem dX3_from_42 : decode cX3_from 42 = .ok (.ireturn, 1) := by decide +kernel
theorem dX3_status_0 : decode cX3_status 0 = .ok (.iload_n 1, 1) := by decide +kernel
theorem dX3_status_1 : decode cX3_status 1 = .ok (.tableswitch 42 0 2 #[27, 32, 37], 27) := by decide +kernel
theorem dX3_status_28 : decode cX3_status 28 = .ok (.aload_n 0, 1) := by decide +kernel
theorem dX3_status_29 : decode cX3_status 29 = .ok (.getfield 201, 3) := by decide +kernel
theorem dX3_status_32 : decode cX3_status 32 = .ok (.ireturn, 1) := by decide +kernel
theorem dX3_status_33 : decode cX3_status 33 = .ok (.aload_n 0, 1) := by decide +kernel
theorem dX3_status_34 : decode cX3_status 34 = .ok (.getfield 204, 3) := by decide +kernel
theorem dX3_status_37 : decode cX3_status 37 = .ok (.ireturn, 1) := by decide +kernel
theorem dX3_status_38 : decode cX3_status 38 = .ok (.aload_n 0, 1) := by decide +kernel
theorem dX3_status_39 : decode cX3_status 39 = .ok (.getfield 207, 3) := by decide +kernel
theorem dX3_status_42 : decode cX3_status 42 = .ok (.ireturn, 1) := by decide +kernel
theorem dX3_status_43 : decode cX3_status 43 = .ok (.aload_n 0, 1) := by decide +kernel
theorem dX3_status_44 : decode cX3_status 44 = .ok (.invokevirtual 52, 3) := by decide +kernel
theorem dX3_status_47 : decode cX3_status 47 = .ok (.pop, 1) := by decide +kernel
theorem dX3_status_48 : decode cX3_status 48 = .ok (.iconst (-1), 1) := by decide +kernel
theorem dX3_status_49 : decode cX3_status 49 = .ok (.ireturn, 1) := by decide +kernel
theorem dX3_count_0 : decode cX3_count 0 = .ok (.iload_n 1, 1) := by decide +kernel
theorem dX3_count_1 : decode cX3_count 1 = .ok (.iconst 0, 1) := by decide +kernel
theorem dX3_count_2 : decode cX3_count 2 = .ok (.bipush 7, 2) := by decide +kernel
theorem dX3_count_4 : decode cX3_count 4 = .ok (.invokestatic 48, 3) := by decide +kernel
theorem dX3_count_7 : decode cX3_count 7 = .ok (.ifCond .ne 8, 3) := by decide +kernel
theorem dX3_count_10 : decode cX3_count 10 = .ok (.aload_n 0, 1) := by decide +kernel
theorem dX3_count_11 : decode cX3_count 11 = .ok (.invokevirtual 52, 3) := by decide +kernel
theorem dX3_count_14 : decode cX3_count 14 = .ok (.ireturn, 1) := by decide +kernel
theorem dX3_count_15 : decode cX3_count 15 = .ok (.aload_n 0, 1) := by decide +kernel
theorem dX3_count_16 : decode cX3_count 16 = .ok (.iload_n 1, 1) := by decide +kernel
theorem dX3_count_17 : decode cX3_count 17 = .ok (.invokevirtual 210, 3) := by decide +kernel
theorem dX3_count_20 : decode cX3_count 20 = .ok (.ireturn, 1) := by decide +kernel
theorem dX3_digest_0 : decode cX3_digest 0 = .ok (.ldc2_w 213, 3) := by decide +kernel
theorem dX3_digest_3 : decode cX3_digest 3 = .ok (.lstore_n 1, 1) := by decide +kernel
theorem dX3_digest_4 : decode cX3_digest 4 = .ok (.iconst 0, 1) := by decide +kernel
theorem dX3_digest_5 : decode cX3_digest 5 = .ok (.istore_n 3, 1) := by decide +kernel
theorem dX3_digest_6 : decode cX3_digest 6 = .ok (.iload_n 3, 1) := by decide +kernel
theorem dX3_digest_7 : decode cX3_digest 7 = .ok (.bipush 8, 2) := by decide +kernel
theorem dX3_digest_9 : decode cX3_digest 9 = .ok (.if_icmp .ge 22, 3) := by decide +kernel
theorem dX3_digest_12 : decode cX3_digest 12 = .ok (.ldc2_w 215, 3) := by decide +kernel
theorem dX3_digest_15 : decode cX3_digest 15 = .ok (.lload_n 1, 1) := by decide +kernel
theorem dX3_digest_16 : decode cX3_digest 16 = .ok (.lmul, 1) := by decide +kernel
theorem dX3_digest_17 : decode cX3_digest 17 = .ok (.aload_n 0, 1) := by decide +kernel
theorem dX3_digest_18 : decode cX3_digest 18 = .ok (.iload_n 3, 1) := by decide +kernel
theorem dX3_digest_19 : decode cX3_digest 19 = .ok (.invokevirtual 210, 3) := by decide +kernel
theorem dX3_digest_22 : decode cX3_digest 22 = .ok (.i2l, 1) := by decide +kernel
theorem dX3_digest_23 : decode cX3_digest 23 = .ok (.ladd, 1) := by decide +kernel
theorem dX3_digest_24 : decode cX3_digest 24 = .ok (.lstore_n 1, 1) := by decide +kernel
theorem dX3_digest_25 : decode cX3_digest 25 = .ok (.iinc 3 1, 3) := by decide +kernel
theorem dX3_digest_28 : decode cX3_digest 28 = .ok (.goto (-22), 3) := by decide +kernel
theorem dX3_digest_31 : decode cX3_digest 31 = .ok (.ldc2_w 215, 3) := by decide +kernel
theorem dX3_digest_34 : decode cX3_digest 34 = .ok (.lload_n 1, 1) := by decide +kernel
theorem dX3_digest_35 : decode cX3_digest 35 = .ok (.lmul, 1) := by decide +kernel
theorem dX3_digest_36 : decode cX3_digest 36 = .ok (.aload_n 0, 1) := by decide +kernel
theorem dX3_digest_37 : decode cX3_digest 37 = .ok (.getfield 12, 3) := by decide +kernel
theorem dX3_digest_40 : decode cX3_digest 40 = .ok (.getfield 217, 3) := by decide +kernel
theorem dX3_digest_43 : decode cX3_digest 43 = .ok (.i2l, 1) := by decide +kernel
theorem dX3_digest_44 : decode cX3_digest 44 = .ok (.ladd, 1) := by decide +kernel
theorem dX3_digest_45 : decode cX3_digest 45 = .ok (.lstore_n 1, 1) := by decide +kernel
theorem dX3_digest_46 : decode cX3_digest 46 = .ok (.iconst 0, 1) := by decide +kernel
theorem dX3_digest_47 : decode cX3_digest 47 = .ok (.istore_n 3, 1) := by decide +kernel
theorem dX3_digest_48 : decode cX3_digest 48 = .ok (.iload_n 3, 1) := by decide +kernel
theorem dX3_digest_49 : decode cX3_digest 49 = .ok (.aload_n 0, 1) := by decide +kernel
theorem dX3_digest_50 : decode cX3_digest 50 = .ok (.getfield 12, 3) := by decide +kernel
theorem dX3_digest_53 : decode cX3_digest 53 = .ok (.getfield 56, 3) := by decide +kernel
theorem dX3_digest_56 : decode cX3_digest 56 = .ok (.if_icmp .ge 81, 3) := by decide +kernel
theorem dX3_digest_59 : decode cX3_digest 59 = .ok (.ldc2_w 215, 3) := by decide +kernel
theorem dX3_digest_62 : decode cX3_digest 62 = .ok (.lload_n 1, 1) := by decide +kernel
theorem dX3_digest_63 : decode cX3_digest 63 = .ok (.lmul, 1) := by decide +kernel
theorem dX3_digest_64 : decode cX3_digest 64 = .ok (.aload_n 0, 1) := by decide +kernel
theorem dX3_digest_65 : decode cX3_digest 65 = .ok (.getfield 12, 3) := by decide +kernel
theorem dX3_digest_68 : decode cX3_digest 68 = .ok (.getfield 122, 3) := by decide +kernel
theorem dX3_digest_71 : decode cX3_digest 71 = .ok (.iload_n 3, 1) := by decide +kernel
theorem dX3_digest_72 : decode cX3_digest 72 = .ok (.iaload, 1) := by decide +kernel
theorem dX3_digest_73 : decode cX3_digest 73 = .ok (.i2l, 1) := by decide +kernel
theorem dX3_digest_74 : decode cX3_digest 74 = .ok (.ladd, 1) := by decide +kernel
theorem dX3_digest_75 : decode cX3_digest 75 = .ok (.lstore_n 1, 1) := by decide +kernel
theorem dX3_digest_76 : decode cX3_digest 76 = .ok (.ldc2_w 215, 3) := by decide +kernel
theorem dX3_digest_79 : decode cX3_digest 79 = .ok (.lload_n 1, 1) := by decide +kernel
theorem dX3_digest_80 : decode cX3_digest 80 = .ok (.lmul, 1) := by decide +kernel
theorem dX3_digest_81 : decode cX3_digest 81 = .ok (.aload_n 0, 1) := by decide +kernel
theorem dX3_digest_82 : decode cX3_digest 82 = .ok (.getfield 12, 3) := by decide +kernel
theorem dX3_digest_85 : decode cX3_digest 85 = .ok (.getfield 126, 3) := by decide +kernel
theorem dX3_digest_88 : decode cX3_digest 88 = .ok (.iload_n 3, 1) := by decide +kernel
theorem dX3_digest_89 : decode cX3_digest 89 = .ok (.iaload, 1) := by decide +kernel
theorem dX3_digest_90 : decode cX3_digest 90 = .ok (.i2l, 1) := by decide +kernel
theorem dX3_digest_91 : decode cX3_digest 91 = .ok (.ladd, 1) := by decide +kernel
theorem dX3_digest_92 : decode cX3_digest 92 = .ok (.lstore_n 1, 1) := by decide +kernel
theorem dX3_digest_93 : decode cX3_digest 93 = .ok (.ldc2_w 215, 3) := by decide +kernel
theorem dX3_digest_96 : decode cX3_digest 96 = .ok (.lload_n 1, 1) := by decide +kernel
theorem dX3_digest_97 : decode cX3_digest 97 = .ok (.lmul, 1) := by decide +kernel
theorem dX3_digest_98 : decode cX3_digest 98 = .ok (.aload_n 0, 1) := by decide +kernel
theorem dX3_digest_99 : decode cX3_digest 99 = .ok (.getfield 12, 3) := by decide +kernel
theorem dX3_digest_102 : decode cX3_digest 102 = .ok (.getfield 90, 3) := by decide +kernel
theorem dX3_digest_105 : decode cX3_digest 105 = .ok (.iload_n 3, 1) := by decide +kernel
theorem dX3_digest_106 : decode cX3_digest 106 = .ok (.invokestatic 93, 3) := by decide +kernel
theorem dX3_digest_109 : decode cX3_digest 109 = .ok (.i2l, 1) := by decide +kernel
theorem dX3_digest_110 : decode cX3_digest 110 = .ok (.ladd, 1) := by decide +kernel
theorem dX3_digest_111 : decode cX3_digest 111 = .ok (.lstore_n 1, 1) := by decide +kernel
theorem dX3_digest_112 : decode cX3_digest 112 = .ok (.ldc2_w 215, 3) := by decide +kernel
theorem dX3_digest_115 : decode cX3_digest 115 = .ok (.lload_n 1, 1) := by decide +kernel
theorem dX3_digest_116 : decode cX3_digest 116 = .ok (.lmul, 1) := by decide +kernel
theorem dX3_digest_117 : decode cX3_digest 117 = .ok (.aload_n 0, 1) := by decide +kernel
theorem dX3_digest_118 : decode cX3_digest 118 = .ok (.getfield 12, 3) := by decide +kernel
theorem dX3_digest_121 : decode cX3_digest 121 = .ok (.getfield 103, 3) := by decide +kernel
theorem dX3_digest_124 : decode cX3_digest 124 = .ok (.iload_n 3, 1) := by decide +kernel
theorem dX3_digest_125 : decode cX3_digest 125 = .ok (.invokestatic 93, 3) := by decide +kernel
theorem dX3_digest_128 : decode cX3_digest 128 = .ok (.i2l, 1) := by decide +kernel
theorem dX3_digest_129 : decode cX3_digest 129 = .ok (.ladd, 1) := by decide +kernel
theorem dX3_digest_130 : decode cX3_digest 130 = .ok (.lstore_n 1, 1) := by decide +kernel
theorem dX3_digest_131 : decode cX3_digest 131 = .ok (.iinc 3 1, 3) := by decide +kernel
theorem dX3_digest_134 : decode cX3_digest 134 = .ok (.goto (-86), 3) := by decide +kernel
theorem dX3_digest_137 : decode cX3_digest 137 = .ok (.iconst 0, 1) := by decide +kernel
theorem dX3_digest_138 : decode cX3_digest 138 = .ok (.istore_n 3, 1) := by decide +kernel
theorem dX3_digest_139 : decode cX3_digest 139 = .ok (.iload_n 3, 1) := by decide +kernel
theorem dX3_digest_140 : decode cX3_digest 140 = .ok (.aload_n 0, 1) := by decide +kernel
theorem dX3_digest_141 : decode cX3_digest 141 = .ok (.getfield 12, 3) := by decide +kernel
theorem dX3_digest_144 : decode cX3_digest 144 = .ok (.getfield 163, 3) := by decide +kernel
theorem dX3_digest_147 : decode cX3_digest 147 = .ok (.iconst 5, 1) := by decide +kernel
theorem dX3_digest_148 : decode cX3_digest 148 = .ok (.imul, 1) := by decide +kernel
theorem dX3_digest_149 : decode cX3_digest 149 = .ok (.if_icmp .ge 26, 3) := by decide +kernel
theorem dX3_digest_152 : decode cX3_digest 152 = .ok (.ldc2_w 215, 3) := by decide +kernel
theorem dX3_digest_155 : decode cX3_digest 155 = .ok (.lload_n 1, 1) := by decide +kernel
theorem dX3_digest_156 : decode cX3_digest 156 = .ok (.lmul, 1) := by decide +kernel
theorem dX3_digest_157 : decode cX3_digest 157 = .ok (.aload_n 0, 1) := by decide +kernel
theorem dX3_digest_158 : decode cX3_digest 158 = .ok (.getfield 12, 3) := by decide +kernel
theorem dX3_digest_161 : decode cX3_digest 161 = .ok (.getfield 220, 3) := by decide +kernel
theorem dX3_digest_164 : decode cX3_digest 164 = .ok (.iload_n 3, 1) := by decide +kernel
theorem dX3_digest_165 : decode cX3_digest 165 = .ok (.iaload, 1) := by decide +kernel
theorem dX3_digest_166 : decode cX3_digest 166 = .ok (.i2l, 1) := by decide +kernel
theorem dX3_digest_167 : decode cX3_digest 167 = .ok (.ladd, 1) := by decide +kernel
theorem dX3_digest_168 : decode cX3_digest 168 = .ok (.lstore_n 1, 1) := by decide +kernel
theorem dX3_digest_169 : decode cX3_digest 169 = .ok (.iinc 3 1, 3) := by decide +kernel
theorem dX3_digest_172 : decode cX3_digest 172 = .ok (.goto (-33), 3) := by decide +kernel
theorem dX3_digest_175 : decode cX3_digest 175 = .ok (.ldc2_w 215, 3) := by decide +kernel
theorem dX3_digest_178 : decode cX3_digest 178 = .ok (.lload_n 1, 1) := by decide +kernel
theorem dX3_digest_179 : decode cX3_digest 179 = .ok (.lmul, 1) := by decide +kernel
theorem dX3_digest_180 : decode cX3_digest 180 = .ok (.aload_n 0, 1) := by decide +kernel
theorem dX3_digest_181 : decode cX3_digest 181 = .ok (.getfield 41, 3) := by decide +kernel
theorem dX3_digest_184 : decode cX3_digest 184 = .ok (.ladd, 1) := by decide +kernel
theorem dX3_digest_185 : decode cX3_digest 185 = .ok (.lstore_n 1, 1) := by decide +kernel
theorem dX3_digest_186 : decode cX3_digest 186 = .ok (.ldc2_w 215, 3) := by decide +kernel
theorem dX3_digest_189 : decode cX3_digest 189 = .ok (.lload_n 1, 1) := by decide +kernel
theorem dX3_digest_190 : decode cX3_digest 190 = .ok (.lmul, 1) := by decide +kernel
theorem dX3_digest_191 : decode cX3_digest 191 = .ok (.aload_n 0, 1) := by decide +kernel
theorem dX3_digest_192 : decode cX3_digest 192 = .ok (.getfield 45, 3) := by decide +kernel
theorem dX3_digest_195 : decode cX3_digest 195 = .ok (.ladd, 1) := by decide +kernel
theorem dX3_digest_196 : decode cX3_digest 196 = .ok (.lreturn, 1) := by decide +kernel
theorem dX3_refuseBad_0 : decode cX3_refuseBad 0 = .ok (.aload_n 0, 1) := by decide +kernel
theorem dX3_refuseBad_1 : decode cX3_refuseBad 1 = .ok (.dup, 1) := by decide +kernel
theorem dX3_refuseBad_2 : decode cX3_refuseBad 2 = .ok (.getfield 201, 3) := by decide +kernel
theorem dX3_refuseBad_5 : decode cX3_refuseBad 5 = .ok (.iconst 1, 1) := by decide +kernel
theorem dX3_refuseBad_6 : decode cX3_refuseBad 6 = .ok (.iadd, 1) := by decide +kernel
theorem dX3_refuseBad_7 : decode cX3_refuseBad 7 = .ok (.putfield 201, 3) := by decide +kernel
theorem dX3_refuseBad_10 : decode cX3_refuseBad 10 = .ok (.bipush (-2), 2) := by decide +kernel
theorem dX3_refuseBad_12 : decode cX3_refuseBad 12 = .ok (.ireturn, 1) := by decide +kernel
theorem dX3_refuseNo_0 : decode cX3_refuseNo 0 = .ok (.aload_n 0, 1) := by decide +kernel
theorem dX3_refuseNo_1 : decode cX3_refuseNo 1 = .ok (.dup, 1) := by decide +kernel
theorem dX3_refuseNo_2 : decode cX3_refuseNo 2 = .ok (.getfield 204, 3) := by decide +kernel
theorem dX3_refuseNo_5 : decode cX3_refuseNo 5 = .ok (.iconst 1, 1) := by decide +kernel
theorem dX3_refuseNo_6 : decode cX3_refuseNo 6 = .ok (.iadd, 1) := by decide +kernel
theorem dX3_refuseNo_7 : decode cX3_refuseNo 7 = .ok (.putfield 204, 3) := by decide +kernel
theorem dX3_refuseNo_10 : decode cX3_refuseNo 10 = .ok (.bipush (-3), 2) := by decide +kernel
theorem dX3_refuseNo_12 : decode cX3_refuseNo 12 = .ok (.ireturn, 1) := by decide +kernel
theorem dX3_refuseFull_0 : decode cX3_refuseFull 0 = .ok (.aload_n 0, 1) := by decide +kernel
theorem dX3_refuseFull_1 : decode cX3_refuseFull 1 = .ok (.dup, 1) := by decide +kernel
theorem dX3_refuseFull_2 : decode cX3_refuseFull 2 = .ok (.getfield 207, 3) := by decide +kernel
theorem dX3_refuseFull_5 : decode cX3_refuseFull 5 = .ok (.iconst 1, 1) := by decide +kernel
theorem dX3_refuseFull_6 : decode cX3_refuseFull 6 = .ok (.iadd, 1) := by decide +kernel
theorem dX3_refuseFull_7 : decode cX3_refuseFull 7 = .ok (.putfield 207, 3) := by decide +kernel
theorem dX3_refuseFull_10 : decode cX3_refuseFull 10 = .ok (.bipush (-4), 2) := by decide +kernel
theorem dX3_refuseFull_12 : decode cX3_refuseFull 12 = .ok (.ireturn, 1) := by decide +kernel
theorem dX3_isThere_0 : decode cX3_isThere 0 = .ok (.iload_n 1, 1) := by decide +kernel
theorem dX3_isThere_1 : decode cX3_isThere 1 = .ok (.iconst 0, 1) := by decide +kernel
theorem dX3_isThere_2 : decode cX3_isThere 2 = .ok (.aload_n 0, 1) := by decide +kernel
theorem dX3_isThere_3 : decode cX3_isThere 3 = .ok (.getfield 12, 3) := by decide +kernel
theorem dX3_isThere_6 : decode cX3_isThere 6 = .ok (.getfield 56, 3) := by decide +kernel
theorem dX3_isThere_9 : decode cX3_isThere 9 = .ok (.iconst 1, 1) := by decide +kernel
theorem dX3_isThere_10 : decode cX3_isThere 10 = .ok (.isub, 1) := by decide +kernel
theorem dX3_isThere_11 : decode cX3_isThere 11 = .ok (.invokestatic 48, 3) := by decide +kernel
theorem dX3_isThere_14 : decode cX3_isThere 14 = .ok (.ireturn, 1) := by decide +kernel
theorem dX3_isWithin_0 : decode cX3_isWithin 0 = .ok (.iload_n 0, 1) := by decide +kernel
theorem dX3_isWithin_1 : decode cX3_isWithin 1 = .ok (.iload_n 1, 1) := by decide +kernel
theorem dX3_isWithin_2 : decode cX3_isWithin 2 = .ok (.if_icmp .lt 12, 3) := by decide +kernel
theorem dX3_isWithin_5 : decode cX3_isWithin 5 = .ok (.iload_n 0, 1) := by decide +kernel
theorem dX3_isWithin_6 : decode cX3_isWithin 6 = .ok (.iload_n 2, 1) := by decide +kernel
theorem dX3_isWithin_7 : decode cX3_isWithin 7 = .ok (.if_icmp .gt 7, 3) := by decide +kernel
theorem dX3_isWithin_10 : decode cX3_isWithin 10 = .ok (.iconst 1, 1) := by decide +kernel
theorem dX3_isWithin_11 : decode cX3_isWithin 11 = .ok (.goto 4, 3) := by decide +kernel
theorem dX3_isWithin_14 : decode cX3_isWithin 14 = .ok (.iconst 0, 1) := by decide +kernel
theorem dX3_isWithin_15 : decode cX3_isWithin 15 = .ok (.ireturn, 1) := by decide +kernel
theorem dX3_bitOf_0 : decode cX3_bitOf 0 = .ok (.iload_n 0, 1) := by decide +kernel
theorem dX3_bitOf_1 : decode cX3_bitOf 1 = .ok (.iload_n 1, 1) := by decide +kernel
theorem dX3_bitOf_2 : decode cX3_bitOf 2 = .ok (.ishr, 1) := by decide +kernel
theorem dX3_bitOf_3 : decode cX3_bitOf 3 = .ok (.iconst 1, 1) := by decide +kernel
theorem dX3_bitOf_4 : decode cX3_bitOf 4 = .ok (.iand, 1) := by decide +kernel
theorem dX3_bitOf_5 : decode cX3_bitOf 5 = .ok (.ireturn, 1) := by decide +kernel
theorem dX3_withBit_0 : decode cX3_withBit 0 = .ok (.iload_n 2, 1) := by decide +kernel
theorem dX3_withBit_1 : decode cX3_withBit 1 = .ok (.iconst 1, 1) := by decide +kernel
theorem dX3_withBit_2 : decode cX3_withBit 2 = .ok (.if_icmp .ne 11, 3) := by decide +kernel
theorem dX3_withBit_5 : decode cX3_withBit 5 = .ok (.iload_n 0, 1) := by decide +kernel
theorem dX3_withBit_6 : decode cX3_withBit 6 = .ok (.iconst 1, 1) := by decide +kernel
theorem dX3_withBit_7 : decode cX3_withBit 7 = .ok (.iload_n 1, 1) := by decide +kernel
theorem dX3_withBit_8 : decode cX3_withBit 8 = .ok (.ishl, 1) := by decide +kernel
theorem dX3_withBit_9 : decode cX3_withBit 9 = .ok (.ior, 1) := by decide +kernel
theorem dX3_withBit_10 : decode cX3_withBit 10 = .ok (.goto 10, 3) := by decide +kernel
theorem dX3_withBit_13 : decode cX3_withBit 13 = .ok (.iload_n 0, 1) := by decide +kernel
theorem dX3_withBit_14 : decode cX3_withBit 14 = .ok (.iconst 1, 1) := by decide +kernel
theorem dX3_withBit_15 : decode cX3_withBit 15 = .ok (.iload_n 1, 1) := by decide +kernel
theorem dX3_withBit_16 : decode cX3_withBit 16 = .ok (.ishl, 1) := by decide +kernel
theorem dX3_withBit_17 : decode cX3_withBit 17 = .ok (.iconst (-1), 1) := by decide +kernel
theorem dX3_withBit_18 : decode cX3_withBit 18 = .ok (.ixor, 1) := by decide +kernel
theorem dX3_withBit_19 : decode cX3_withBit 19 = .ok (.iand, 1) := by decide +kernel
theorem dX3_withBit_20 : decode cX3_withBit 20 = .ok (.ireturn, 1) := by decide +kernel
theorem dX3_howMany_0 : decode cX3_howMany 0 = .ok (.iload_n 1, 1) := by decide +kernel
theorem dX3_howMany_1 : decode cX3_howMany 1 = .ok (.tableswitch 105 0 6 #[43, 51, 59, 70, 81, 89, 97], 43) := by decide +kernel
theorem dX3_howMany_44 : decode cX3_howMany 44 = .ok (.aload_n 0, 1) := by decide +kernel
theorem dX3_howMany_45 : decode cX3_howMany 45 = .ok (.getfield 12, 3) := by decide +kernel
theorem dX3_howMany_48 : decode cX3_howMany 48 = .ok (.getfield 56, 3) := by decide +kernel
theorem dX3_howMany_51 : decode cX3_howMany 51 = .ok (.ireturn, 1) := by decide +kernel
theorem dX3_howMany_52 : decode cX3_howMany 52 = .ok (.aload_n 0, 1) := by decide +kernel
theorem dX3_howMany_53 : decode cX3_howMany 53 = .ok (.getfield 12, 3) := by decide +kernel
theorem dX3_howMany_56 : decode cX3_howMany 56 = .ok (.getfield 119, 3) := by decide +kernel
theorem dX3_howMany_59 : decode cX3_howMany 59 = .ok (.ireturn, 1) := by decide +kernel
theorem dX3_howMany_60 : decode cX3_howMany 60 = .ok (.aload_n 0, 1) := by decide +kernel
theorem dX3_howMany_61 : decode cX3_howMany 61 = .ok (.getfield 12, 3) := by decide +kernel
theorem dX3_howMany_64 : decode cX3_howMany 64 = .ok (.getfield 90, 3) := by decide +kernel
theorem dX3_howMany_67 : decode cX3_howMany 67 = .ok (.invokestatic 149, 3) := by decide +kernel
theorem dX3_howMany_70 : decode cX3_howMany 70 = .ok (.ireturn, 1) := by decide +kernel
theorem dX3_howMany_71 : decode cX3_howMany 71 = .ok (.aload_n 0, 1) := by decide +kernel
theorem dX3_howMany_72 : decode cX3_howMany 72 = .ok (.getfield 12, 3) := by decide +kernel
theorem dX3_howMany_75 : decode cX3_howMany 75 = .ok (.getfield 103, 3) := by decide +kernel
theorem dX3_howMany_78 : decode cX3_howMany 78 = .ok (.invokestatic 149, 3) := by decide +kernel
theorem dX3_howMany_81 : decode cX3_howMany 81 = .ok (.ireturn, 1) := by decide +kernel
theorem dX3_howMany_82 : decode cX3_howMany 82 = .ok (.aload_n 0, 1) := by decide +kernel
theorem dX3_howMany_83 : decode cX3_howMany 83 = .ok (.getfield 12, 3) := by decide +kernel
theorem dX3_howMany_86 : decode cX3_howMany 86 = .ok (.getfield 223, 3) := by decide +kernel
theorem dX3_howMany_89 : decode cX3_howMany 89 = .ok (.ireturn, 1) := by decide +kernel
theorem dX3_howMany_90 : decode cX3_howMany 90 = .ok (.aload_n 0, 1) := by decide +kernel
theorem dX3_howMany_91 : decode cX3_howMany 91 = .ok (.getfield 12, 3) := by decide +kernel
theorem dX3_howMany_94 : decode cX3_howMany 94 = .ok (.getfield 163, 3) := by decide +kernel
theorem dX3_howMany_97 : decode cX3_howMany 97 = .ok (.ireturn, 1) := by decide +kernel
theorem dX3_howMany_98 : decode cX3_howMany 98 = .ok (.aload_n 0, 1) := by decide +kernel
theorem dX3_howMany_99 : decode cX3_howMany 99 = .ok (.getfield 12, 3) := by decide +kernel
theorem dX3_howMany_102 : decode cX3_howMany 102 = .ok (.getfield 110, 3) := by decide +kernel
theorem dX3_howMany_105 : decode cX3_howMany 105 = .ok (.ireturn, 1) := by decide +kernel
theorem dX3_howMany_106 : decode cX3_howMany 106 = .ok (.aload_n 0, 1) := by decide +kernel
theorem dX3_howMany_107 : decode cX3_howMany 107 = .ok (.getfield 37, 3) := by decide +kernel
theorem dX3_howMany_110 : decode cX3_howMany 110 = .ok (.getfield 71, 3) := by decide +kernel
theorem dX3_howMany_113 : decode cX3_howMany 113 = .ok (.ireturn, 1) := by decide +kernel
theorem dX3_actToday_0 : decode cX3_actToday 0 = .ok (.aload_n 0, 1) := by decide +kernel
theorem dX3_actToday_1 : decode cX3_actToday 1 = .ok (.getfield 12, 3) := by decide +kernel
theorem dX3_actToday_4 : decode cX3_actToday 4 = .ok (.aload_n 0, 1) := by decide +kernel
theorem dX3_actToday_5 : decode cX3_actToday 5 = .ok (.getfield 30, 3) := by decide +kernel
theorem dX3_actToday_8 : decode cX3_actToday 8 = .ok (.iload_n 1, 1) := by decide +kernel
theorem dX3_actToday_9 : decode cX3_actToday 9 = .ok (.invokevirtual 132, 3) := by decide +kernel
theorem dX3_actToday_12 : decode cX3_actToday 12 = .ok (.aload_n 0, 1) := by decide +kernel
theorem dX3_actToday_13 : decode cX3_actToday 13 = .ok (.getfield 30, 3) := by decide +kernel
theorem dX3_actToday_16 : decode cX3_actToday 16 = .ok (.invokevirtual 139, 3) := by decide +kernel
theorem dX3_actToday_19 : decode cX3_actToday 19 = .ok (.ireturn, 1) := by decide +kernel
theorem dX3_whoDoIt_0 : decode cX3_whoDoIt 0 = .ok (.iconst 0, 1) := by decide +kernel
theorem dX3_whoDoIt_1 : decode cX3_whoDoIt 1 = .ok (.istore_n 3, 1) := by decide +kernel
theorem dX3_whoDoIt_2 : decode cX3_whoDoIt 2 = .ok (.iconst 0, 1) := by decide +kernel
theorem dX3_whoDoIt_3 : decode cX3_whoDoIt 3 = .ok (.istore 4, 2) := by decide +kernel
theorem dX3_whoDoIt_5 : decode cX3_whoDoIt 5 = .ok (.iload 4, 2) := by decide +kernel
theorem dX3_whoDoIt_7 : decode cX3_whoDoIt 7 = .ok (.aload_n 0, 1) := by decide +kernel
theorem dX3_whoDoIt_8 : decode cX3_whoDoIt 8 = .ok (.getfield 12, 3) := by decide +kernel
theorem dX3_whoDoIt_11 : decode cX3_whoDoIt 11 = .ok (.getfield 56, 3) := by decide +kernel
theorem dX3_whoDoIt_14 : decode cX3_whoDoIt 14 = .ok (.if_icmp .ge 32, 3) := by decide +kernel
theorem dX3_whoDoIt_17 : decode cX3_whoDoIt 17 = .ok (.iload_n 3, 1) := by decide +kernel
theorem dX3_whoDoIt_18 : decode cX3_whoDoIt 18 = .ok (.iload 4, 2) := by decide +kernel
theorem dX3_whoDoIt_20 : decode cX3_whoDoIt 20 = .ok (.aload_n 0, 1) := by decide +kernel
theorem dX3_whoDoIt_21 : decode cX3_whoDoIt 21 = .ok (.iload 4, 2) := by decide +kernel
theorem dX3_whoDoIt_23 : decode cX3_whoDoIt 23 = .ok (.iload_n 1, 1) := by decide +kernel
theorem dX3_whoDoIt_24 : decode cX3_whoDoIt 24 = .ok (.iload_n 2, 1) := by decide +kernel
theorem dX3_whoDoIt_25 : decode cX3_whoDoIt 25 = .ok (.invokevirtual 226, 3) := by decide +kernel
theorem dX3_whoDoIt_28 : decode cX3_whoDoIt 28 = .ok (.ifCond .eq 7, 3) := by decide +kernel
theorem dX3_whoDoIt_31 : decode cX3_whoDoIt 31 = .ok (.iconst 1, 1) := by decide +kernel
theorem dX3_whoDoIt_32 : decode cX3_whoDoIt 32 = .ok (.goto 4, 3) := by decide +kernel
theorem dX3_whoDoIt_35 : decode cX3_whoDoIt 35 = .ok (.iconst 0, 1) := by decide +kernel
theorem dX3_whoDoIt_36 : decode cX3_whoDoIt 36 = .ok (.invokestatic 99, 3) := by decide +kernel
theorem dX3_whoDoIt_39 : decode cX3_whoDoIt 39 = .ok (.istore_n 3, 1) := by decide +kernel
theorem dX3_whoDoIt_40 : decode cX3_whoDoIt 40 = .ok (.iinc 4 1, 3) := by decide +kernel
theorem dX3_whoDoIt_43 : decode cX3_whoDoIt 43 = .ok (.goto (-38), 3) := by decide +kernel
theorem dX3_whoDoIt_46 : decode cX3_whoDoIt 46 = .ok (.iload_n 3, 1) := by decide +kernel
theorem dX3_whoDoIt_47 : decode cX3_whoDoIt 47 = .ok (.ireturn, 1) := by decide +kernel
theorem dX3_wouldDoIt_0 : decode cX3_wouldDoIt 0 = .ok (.aload_n 0, 1) := by decide +kernel
theorem dX3_wouldDoIt_1 : decode cX3_wouldDoIt 1 = .ok (.getfield 12, 3) := by decide +kernel
theorem dX3_wouldDoIt_4 : decode cX3_wouldDoIt 4 = .ok (.aload_n 0, 1) := by decide +kernel
theorem dX3_wouldDoIt_5 : decode cX3_wouldDoIt 5 = .ok (.getfield 30, 3) := by decide +kernel
theorem dX3_wouldDoIt_8 : decode cX3_wouldDoIt 8 = .ok (.iload_n 1, 1) := by decide +kernel
theorem dX3_wouldDoIt_9 : decode cX3_wouldDoIt 9 = .ok (.invokevirtual 132, 3) := by decide +kernel
theorem dX3_wouldDoIt_12 : decode cX3_wouldDoIt 12 = .ok (.aload_n 0, 1) := by decide +kernel
theorem dX3_wouldDoIt_13 : decode cX3_wouldDoIt 13 = .ok (.getfield 30, 3) := by decide +kernel
theorem dX3_wouldDoIt_16 : decode cX3_wouldDoIt 16 = .ok (.iconst 0, 1) := by decide +kernel
theorem dX3_wouldDoIt_17 : decode cX3_wouldDoIt 17 = .ok (.putfield 230, 3) := by decide +kernel
theorem dX3_wouldDoIt_20 : decode cX3_wouldDoIt 20 = .ok (.aload_n 0, 1) := by decide +kernel
theorem dX3_wouldDoIt_21 : decode cX3_wouldDoIt 21 = .ok (.getfield 30, 3) := by decide +kernel
theorem dX3_wouldDoIt_24 : decode cX3_wouldDoIt 24 = .ok (.iload_n 3, 1) := by decide +kernel
theorem dX3_wouldDoIt_25 : decode cX3_wouldDoIt 25 = .ok (.putfield 233, 3) := by decide +kernel
theorem dX3_wouldDoIt_28 : decode cX3_wouldDoIt 28 = .ok (.iconst 0, 1) := by decide +kernel
theorem dX3_wouldDoIt_29 : decode cX3_wouldDoIt 29 = .ok (.istore 4, 2) := by decide +kernel
theorem dX3_wouldDoIt_31 : decode cX3_wouldDoIt 31 = .ok (.iload 4, 2) := by decide +kernel
theorem dX3_wouldDoIt_33 : decode cX3_wouldDoIt 33 = .ok (.iload_n 2, 1) := by decide +kernel
theorem dX3_wouldDoIt_34 : decode cX3_wouldDoIt 34 = .ok (.if_icmp .ge 29, 3) := by decide +kernel
theorem dX3_wouldDoIt_37 : decode cX3_wouldDoIt 37 = .ok (.aload_n 0, 1) := by decide +kernel
theorem dX3_wouldDoIt_38 : decode cX3_wouldDoIt 38 = .ok (.getfield 30, 3) := by decide +kernel
theorem dX3_wouldDoIt_41 : decode cX3_wouldDoIt 41 = .ok (.invokevirtual 235, 3) := by decide +kernel
theorem dX3_wouldDoIt_44 : decode cX3_wouldDoIt 44 = .ok (.ifCond .eq 5, 3) := by decide +kernel
theorem dX3_wouldDoIt_47 : decode cX3_wouldDoIt 47 = .ok (.iconst 1, 1) := by decide +kernel
theorem dX3_wouldDoIt_48 : decode cX3_wouldDoIt 48 = .ok (.ireturn, 1) := by decide +kernel
theorem dX3_wouldDoIt_49 : decode cX3_wouldDoIt 49 = .ok (.aload_n 0, 1) := by decide +kernel
theorem dX3_wouldDoIt_50 : decode cX3_wouldDoIt 50 = .ok (.getfield 30, 3) := by decide +kernel
theorem dX3_wouldDoIt_53 : decode cX3_wouldDoIt 53 = .ok (.invokevirtual 136, 3) := by decide +kernel
theorem dX3_wouldDoIt_56 : decode cX3_wouldDoIt 56 = .ok (.pop, 1) := by decide +kernel
theorem dX3_wouldDoIt_57 : decode cX3_wouldDoIt 57 = .ok (.iinc 4 1, 3) := by decide +kernel
theorem dX3_wouldDoIt_60 : decode cX3_wouldDoIt 60 = .ok (.goto (-29), 3) := by decide +kernel
theorem dX3_wouldDoIt_63 : decode cX3_wouldDoIt 63 = .ok (.iconst 0, 1) := by decide +kernel
theorem dX3_wouldDoIt_64 : decode cX3_wouldDoIt 64 = .ok (.ireturn, 1) := by decide +kernel
theorem dX3_isStruckBy_0 : decode cX3_isStruckBy 0 = .ok (.aload_n 0, 1) := by decide +kernel
theorem dX3_isStruckBy_1 : decode cX3_isStruckBy 1 = .ok (.getfield 12, 3) := by decide +kernel
theorem dX3_isStruckBy_4 : decode cX3_isStruckBy 4 = .ok (.aload_n 0, 1) := by decide +kernel
theorem dX3_isStruckBy_5 : decode cX3_isStruckBy 5 = .ok (.getfield 30, 3) := by decide +kernel
theorem dX3_isStruckBy_8 : decode cX3_isStruckBy 8 = .ok (.iload_n 1, 1) := by decide +kernel
theorem dX3_isStruckBy_9 : decode cX3_isStruckBy 9 = .ok (.invokevirtual 132, 3) := by decide +kernel
theorem dX3_isStruckBy_12 : decode cX3_isStruckBy 12 = .ok (.iconst 0, 1) := by decide +kernel
theorem dX3_isStruckBy_13 : decode cX3_isStruckBy 13 = .ok (.istore 4, 2) := by decide +kernel
theorem dX3_isStruckBy_15 : decode cX3_isStruckBy 15 = .ok (.iload 4, 2) := by decide +kernel
theorem dX3_isStruckBy_17 : decode cX3_isStruckBy 17 = .ok (.iload_n 2, 1) := by decide +kernel
theorem dX3_isStruckBy_18 : decode cX3_isStruckBy 18 = .ok (.if_icmp .ge 43, 3) := by decide +kernel
theorem dX3_isStruckBy_21 : decode cX3_isStruckBy 21 = .ok (.aload_n 0, 1) := by decide +kernel
theorem dX3_isStruckBy_22 : decode cX3_isStruckBy 22 = .ok (.getfield 30, 3) := by decide +kernel
theorem dX3_isStruckBy_25 : decode cX3_isStruckBy 25 = .ok (.iload_n 3, 1) := by decide +kernel
theorem dX3_isStruckBy_26 : decode cX3_isStruckBy 26 = .ok (.iload 4, 2) := by decide +kernel
theorem dX3_isStruckBy_28 : decode cX3_isStruckBy 28 = .ok (.invokestatic 93, 3) := by decide +kernel
theorem dX3_isStruckBy_31 : decode cX3_isStruckBy 31 = .ok (.iconst 1, 1) := by decide +kernel
theorem dX3_isStruckBy_32 : decode cX3_isStruckBy 32 = .ok (.if_icmp .ne 7, 3) := by decide +kernel
theorem dX3_isStruckBy_35 : decode cX3_isStruckBy 35 = .ok (.iconst 1, 1) := by decide +kernel
theorem dX3_isStruckBy_36 : decode cX3_isStruckBy 36 = .ok (.goto 4, 3) := by decide +kernel
theorem dX3_isStruckBy_39 : decode cX3_isStruckBy 39 = .ok (.iconst 0, 1) := by decide +kernel
theorem dX3_isStruckBy_40 : decode cX3_isStruckBy 40 = .ok (.putfield 233, 3) := by decide +kernel
theorem dX3_isStruckBy_43 : decode cX3_isStruckBy 43 = .ok (.aload_n 0, 1) := by decide +kernel
theorem dX3_isStruckBy_44 : decode cX3_isStruckBy 44 = .ok (.getfield 30, 3) := by decide +kernel
theorem dX3_isStruckBy_47 : decode cX3_isStruckBy 47 = .ok (.invokevirtual 136, 3) := by decide +kernel
theorem dX3_isStruckBy_50 : decode cX3_isStruckBy 50 = .ok (.ifCond .eq 5, 3) := by decide +kernel
theorem dX3_isStruckBy_53 : decode cX3_isStruckBy 53 = .ok (.iconst 1, 1) := by decide +kernel
theorem dX3_isStruckBy_54 : decode cX3_isStruckBy 54 = .ok (.ireturn, 1) := by decide +kernel
theorem dX3_isStruckBy_55 : decode cX3_isStruckBy 55 = .ok (.iinc 4 1, 3) := by decide +kernel
theorem dX3_isStruckBy_58 : decode cX3_isStruckBy 58 = .ok (.goto (-43), 3) := by decide +kernel
theorem dX3_isStruckBy_61 : decode cX3_isStruckBy 61 = .ok (.iconst 0, 1) := by decide +kernel
theorem dX3_isStruckBy_62 : decode cX3_isStruckBy 62 = .ok (.ireturn, 1) := by decide +kernel
theorem dX3_fewestDays_0 : decode cX3_fewestDays 0 = .ok (.iconst (-1), 1) := by decide +kernel
theorem dX3_fewestDays_1 : decode cX3_fewestDays 1 = .ok (.istore_n 3, 1) := by decide +kernel
theorem dX3_fewestDays_2 : decode cX3_fewestDays 2 = .ok (.iconst 0, 1) := by decide +kernel
theorem dX3_fewestDays_3 : decode cX3_fewestDays 3 = .ok (.istore 4, 2) := by decide +kernel
theorem dX3_fewestDays_5 : decode cX3_fewestDays 5 = .ok (.iload 4, 2) := by decide +kernel
theorem dX3_fewestDays_7 : decode cX3_fewestDays 7 = .ok (.iconst 1, 1) := by decide +kernel
theorem dX3_fewestDays_8 : decode cX3_fewestDays 8 = .ok (.iload_n 2, 1) := by decide +kernel
theorem dX3_fewestDays_9 : decode cX3_fewestDays 9 = .ok (.ishl, 1) := by decide +kernel
theorem dX3_fewestDays_10 : decode cX3_fewestDays 10 = .ok (.if_icmp .ge 52, 3) := by decide +kernel
theorem dX3_fewestDays_13 : decode cX3_fewestDays 13 = .ok (.iload_n 3, 1) := by decide +kernel
theorem dX3_fewestDays_14 : decode cX3_fewestDays 14 = .ok (.iconst (-1), 1) := by decide +kernel
theorem dX3_fewestDays_15 : decode cX3_fewestDays 15 = .ok (.if_icmp .eq 15, 3) := by decide +kernel
theorem dX3_fewestDays_18 : decode cX3_fewestDays 18 = .ok (.iload 4, 2) := by decide +kernel
theorem dX3_fewestDays_20 : decode cX3_fewestDays 20 = .ok (.invokestatic 149, 3) := by decide +kernel
theorem dX3_fewestDays_23 : decode cX3_fewestDays 23 = .ok (.iload_n 3, 1) := by decide +kernel
theorem dX3_fewestDays_24 : decode cX3_fewestDays 24 = .ok (.invokestatic 149, 3) := by decide +kernel
theorem dX3_fewestDays_27 : decode cX3_fewestDays 27 = .ok (.if_icmp .ge 7, 3) := by decide +kernel
theorem dX3_fewestDays_30 : decode cX3_fewestDays 30 = .ok (.iconst 1, 1) := by decide +kernel
theorem dX3_fewestDays_31 : decode cX3_fewestDays 31 = .ok (.goto 4, 3) := by decide +kernel
theorem dX3_fewestDays_34 : decode cX3_fewestDays 34 = .ok (.iconst 0, 1) := by decide +kernel
theorem dX3_fewestDays_35 : decode cX3_fewestDays 35 = .ok (.istore 5, 2) := by decide +kernel
theorem dX3_fewestDays_37 : decode cX3_fewestDays 37 = .ok (.iload 5, 2) := by decide +kernel
theorem dX3_fewestDays_39 : decode cX3_fewestDays 39 = .ok (.ifCond .eq 17, 3) := by decide +kernel
theorem dX3_fewestDays_42 : decode cX3_fewestDays 42 = .ok (.aload_n 0, 1) := by decide +kernel
theorem dX3_fewestDays_43 : decode cX3_fewestDays 43 = .ok (.iload_n 1, 1) := by decide +kernel
theorem dX3_fewestDays_44 : decode cX3_fewestDays 44 = .ok (.iload_n 2, 1) := by decide +kernel
theorem dX3_fewestDays_45 : decode cX3_fewestDays 45 = .ok (.iload 4, 2) := by decide +kernel
theorem dX3_fewestDays_47 : decode cX3_fewestDays 47 = .ok (.invokevirtual 183, 3) := by decide +kernel
theorem dX3_fewestDays_50 : decode cX3_fewestDays 50 = .ok (.ifCond .eq 6, 3) := by decide +kernel
theorem dX3_fewestDays_53 : decode cX3_fewestDays 53 = .ok (.iload 4, 2) := by decide +kernel
theorem dX3_fewestDays_55 : decode cX3_fewestDays 55 = .ok (.istore_n 3, 1) := by decide +kernel
theorem dX3_fewestDays_56 : decode cX3_fewestDays 56 = .ok (.iinc 4 1, 3) := by decide +kernel
theorem dX3_fewestDays_59 : decode cX3_fewestDays 59 = .ok (.goto (-54), 3) := by decide +kernel
theorem dX3_fewestDays_62 : decode cX3_fewestDays 62 = .ok (.iload_n 3, 1) := by decide +kernel
theorem dX3_fewestDays_63 : decode cX3_fewestDays 63 = .ok (.ireturn, 1) := by decide +kernel
theorem dX3_isFollowedIn_0 : decode cX3_isFollowedIn 0 = .ok (.iload_n 0, 1) := by decide +kernel
theorem dX3_isFollowedIn_1 : decode cX3_isFollowedIn 1 = .ok (.iconst 2, 1) := by decide +kernel
theorem dX3_isFollowedIn_2 : decode cX3_isFollowedIn 2 = .ok (.iand, 1) := by decide +kernel
theorem dX3_isFollowedIn_3 : decode cX3_isFollowedIn 3 = .ok (.ifCond .ne 7, 3) := by decide +kernel
theorem dX3_isFollowedIn_6 : decode cX3_isFollowedIn 6 = .ok (.iconst 1, 1) := by decide +kernel
theorem dX3_isFollowedIn_7 : decode cX3_isFollowedIn 7 = .ok (.goto 4, 3) := by decide +kernel
theorem dX3_isFollowedIn_10 : decode cX3_isFollowedIn 10 = .ok (.iconst 0, 1) := by decide +kernel
theorem dX3_isFollowedIn_11 : decode cX3_isFollowedIn 11 = .ok (.ireturn, 1) := by decide +kernel
theorem dX3_isItIn_0 : decode cX3_isItIn 0 = .ok (.iload_n 2, 1) := by decide +kernel
theorem dX3_isItIn_1 : decode cX3_isItIn 1 = .ok (.iconst 1, 1) := by decide +kernel
theorem dX3_isItIn_2 : decode cX3_isItIn 2 = .ok (.iand, 1) := by decide +kernel
theorem dX3_isItIn_3 : decode cX3_isItIn 3 = .ok (.ifCond .ne 7, 3) := by decide +kernel
theorem dX3_isItIn_6 : decode cX3_isItIn 6 = .ok (.iconst 1, 1) := by decide +kernel
theorem dX3_isItIn_7 : decode cX3_isItIn 7 = .ok (.goto 4, 3) := by decide +kernel
theorem dX3_isItIn_10 : decode cX3_isItIn 10 = .ok (.iconst 0, 1) := by decide +kernel
theorem dX3_isItIn_11 : decode cX3_isItIn 11 = .ok (.istore_n 3, 1) := by decide +kernel
theorem dX3_isItIn_12 : decode cX3_isItIn 12 = .ok (.iload_n 3, 1) := by decide +kernel
theorem dX3_isItIn_13 : decode cX3_isItIn 13 = .ok (.ifCond .eq 38, 3) := by decide +kernel
theorem dX3_isItIn_16 : decode cX3_isItIn 16 = .ok (.aload_n 0, 1) := by decide +kernel
theorem dX3_isItIn_17 : decode cX3_isItIn 17 = .ok (.getfield 12, 3) := by decide +kernel
theorem dX3_isItIn_20 : decode cX3_isItIn 20 = .ok (.getfield 122, 3) := by decide +kernel
theorem dX3_isItIn_23 : decode cX3_isItIn 23 = .ok (.iload_n 1, 1) := by decide +kernel
theorem dX3_isItIn_24 : decode cX3_isItIn 24 = .ok (.iaload, 1) := by decide +kernel
theorem dX3_isItIn_25 : decode cX3_isItIn 25 = .ok (.aload_n 0, 1) := by decide +kernel
theorem dX3_isItIn_26 : decode cX3_isItIn 26 = .ok (.getfield 12, 3) := by decide +kernel
theorem dX3_isItIn_29 : decode cX3_isItIn 29 = .ok (.getfield 119, 3) := by decide +kernel
theorem dX3_isItIn_32 : decode cX3_isItIn 32 = .ok (.iload_n 2, 1) := by decide +kernel
theorem dX3_isItIn_33 : decode cX3_isItIn 33 = .ok (.invokestatic 238, 3) := by decide +kernel
theorem dX3_isItIn_36 : decode cX3_isItIn 36 = .ok (.aload_n 0, 1) := by decide +kernel
theorem dX3_isItIn_37 : decode cX3_isItIn 37 = .ok (.getfield 12, 3) := by decide +kernel
theorem dX3_isItIn_40 : decode cX3_isItIn 40 = .ok (.getfield 126, 3) := by decide +kernel
theorem dX3_isItIn_43 : decode cX3_isItIn 43 = .ok (.iload_n 1, 1) := by decide +kernel
theorem dX3_isItIn_44 : decode cX3_isItIn 44 = .ok (.iaload, 1) := by decide +kernel
theorem dX3_isItIn_45 : decode cX3_isItIn 45 = .ok (.invokestatic 241, 3) := by decide +kernel
theorem dX3_isItIn_48 : decode cX3_isItIn 48 = .ok (.goto 4, 3) := by decide +kernel
theorem dX3_isItIn_51 : decode cX3_isItIn 51 = .ok (.iconst 0, 1) := by decide +kernel
theorem dX3_isItIn_52 : decode cX3_isItIn 52 = .ok (.istore 4, 2) := by decide +kernel
theorem dX3_isItIn_54 : decode cX3_isItIn 54 = .ok (.iload 4, 2) := by decide +kernel
theorem dX3_isItIn_56 : decode cX3_isItIn 56 = .ok (.aload_n 0, 1) := by decide +kernel
theorem dX3_isItIn_57 : decode cX3_isItIn 57 = .ok (.getfield 12, 3) := by decide +kernel
theorem dX3_isItIn_60 : decode cX3_isItIn 60 = .ok (.getfield 217, 3) := by decide +kernel
theorem dX3_isItIn_63 : decode cX3_isItIn 63 = .ok (.if_icmp .lt 7, 3) := by decide +kernel
theorem dX3_isItIn_66 : decode cX3_isItIn 66 = .ok (.iconst 1, 1) := by decide +kernel
theorem dX3_isItIn_67 : decode cX3_isItIn 67 = .ok (.goto 4, 3) := by decide +kernel
theorem dX3_isItIn_70 : decode cX3_isItIn 70 = .ok (.iconst 0, 1) := by decide +kernel
theorem dX3_isItIn_71 : decode cX3_isItIn 71 = .ok (.ireturn, 1) := by decide +kernel
theorem dX3_paysOne_0 : decode cX3_paysOne 0 = .ok (.iload_n 2, 1) := by decide +kernel
theorem dX3_paysOne_1 : decode cX3_paysOne 1 = .ok (.invokestatic 238, 3) := by decide +kernel
theorem dX3_paysOne_4 : decode cX3_paysOne 4 = .ok (.ifCond .ne 5, 3) := by decide +kernel
theorem dX3_paysOne_7 : decode cX3_paysOne 7 = .ok (.iconst 1, 1) := by decide +kernel
theorem dX3_paysOne_8 : decode cX3_paysOne 8 = .ok (.ireturn, 1) := by decide +kernel
theorem dX3_paysOne_9 : decode cX3_paysOne 9 = .ok (.aload_n 0, 1) := by decide +kernel
theorem dX3_paysOne_10 : decode cX3_paysOne 10 = .ok (.iload_n 1, 1) := by decide +kernel
theorem dX3_paysOne_11 : decode cX3_paysOne 11 = .ok (.iload_n 2, 1) := by decide +kernel
theorem dX3_paysOne_12 : decode cX3_paysOne 12 = .ok (.invokevirtual 244, 3) := by decide +kernel
theorem dX3_paysOne_15 : decode cX3_paysOne 15 = .ok (.ifCond .eq 7, 3) := by decide +kernel
theorem dX3_paysOne_18 : decode cX3_paysOne 18 = .ok (.iconst 2, 1) := by decide +kernel
theorem dX3_paysOne_19 : decode cX3_paysOne 19 = .ok (.goto 4, 3) := by decide +kernel
theorem dX3_paysOne_22 : decode cX3_paysOne 22 = .ok (.iconst 0, 1) := by decide +kernel
theorem dX3_paysOne_23 : decode cX3_paysOne 23 = .ok (.ireturn, 1) := by decide +kernel
theorem dX3_paysFollower_0 : decode cX3_paysFollower 0 = .ok (.iload_n 2, 1) := by decide +kernel
theorem dX3_paysFollower_1 : decode cX3_paysFollower 1 = .ok (.invokestatic 238, 3) := by decide +kernel
theorem dX3_paysFollower_4 : decode cX3_paysFollower 4 = .ok (.ifCond .eq 5, 3) := by decide +kernel
theorem dX3_paysFollower_7 : decode cX3_paysFollower 7 = .ok (.iconst 0, 1) := by decide +kernel
theorem dX3_paysFollower_8 : decode cX3_paysFollower 8 = .ok (.ireturn, 1) := by decide +kernel
theorem dX3_paysFollower_9 : decode cX3_paysFollower 9 = .ok (.aload_n 0, 1) := by decide +kernel
theorem dX3_paysFollower_10 : decode cX3_paysFollower 10 = .ok (.iload_n 1, 1) := by decide +kernel
theorem dX3_paysFollower_11 : decode cX3_paysFollower 11 = .ok (.iload_n 2, 1) := by decide +kernel
theorem dX3_paysFollower_12 : decode cX3_paysFollower 12 = .ok (.invokevirtual 244, 3) := by decide +kernel
theorem dX3_paysFollower_15 : decode cX3_paysFollower 15 = .ok (.ifCond .eq 7, 3) := by decide +kernel
theorem dX3_paysFollower_18 : decode cX3_paysFollower 18 = .ok (.iconst (-1), 1) := by decide +kernel
theorem dX3_paysFollower_19 : decode cX3_paysFollower 19 = .ok (.goto 4, 3) := by decide +kernel
theorem dX3_paysFollower_22 : decode cX3_paysFollower 22 = .ok (.iconst 1, 1) := by decide +kernel
theorem dX3_paysFollower_23 : decode cX3_paysFollower 23 = .ok (.ireturn, 1) := by decide +kernel
theorem dX3_mostAlike_0 : decode cX3_mostAlike 0 = .ok (.iconst 0, 1) := by decide +kernel
theorem dX3_mostAlike_1 : decode cX3_mostAlike 1 = .ok (.istore 4, 2) := by decide +kernel
theorem dX3_mostAlike_3 : decode cX3_mostAlike 3 = .ok (.iconst 0, 1) := by decide +kernel
theorem dX3_mostAlike_4 : decode cX3_mostAlike 4 = .ok (.istore 5, 2) := by decide +kernel
theorem dX3_mostAlike_6 : decode cX3_mostAlike 6 = .ok (.iload 5, 2) := by decide +kernel
theorem dX3_mostAlike_8 : decode cX3_mostAlike 8 = .ok (.bipush 6, 2) := by decide +kernel
theorem dX3_mostAlike_10 : decode cX3_mostAlike 10 = .ok (.if_icmp .ge 73, 3) := by decide +kernel
theorem dX3_mostAlike_13 : decode cX3_mostAlike 13 = .ok (.iload 5, 2) := by decide +kernel
theorem dX3_mostAlike_15 : decode cX3_mostAlike 15 = .ok (.iload_n 1, 1) := by decide +kernel
theorem dX3_mostAlike_16 : decode cX3_mostAlike 16 = .ok (.iload_n 2, 1) := by decide +kernel
theorem dX3_mostAlike_17 : decode cX3_mostAlike 17 = .ok (.iload_n 3, 1) := by decide +kernel
theorem dX3_mostAlike_18 : decode cX3_mostAlike 18 = .ok (.invokestatic 241, 3) := by decide +kernel
theorem dX3_mostAlike_21 : decode cX3_mostAlike 21 = .ok (.istore 6, 2) := by decide +kernel
theorem dX3_mostAlike_23 : decode cX3_mostAlike 23 = .ok (.iconst 0, 1) := by decide +kernel
theorem dX3_mostAlike_24 : decode cX3_mostAlike 24 = .ok (.istore 7, 2) := by decide +kernel
theorem dX3_mostAlike_26 : decode cX3_mostAlike 26 = .ok (.iconst 0, 1) := by decide +kernel
theorem dX3_mostAlike_27 : decode cX3_mostAlike 27 = .ok (.istore 8, 2) := by decide +kernel
theorem dX3_mostAlike_29 : decode cX3_mostAlike 29 = .ok (.iload 8, 2) := by decide +kernel
theorem dX3_mostAlike_31 : decode cX3_mostAlike 31 = .ok (.bipush 6, 2) := by decide +kernel
theorem dX3_mostAlike_33 : decode cX3_mostAlike 33 = .ok (.if_icmp .ge 35, 3) := by decide +kernel
theorem dX3_mostAlike_36 : decode cX3_mostAlike 36 = .ok (.iload_n 0, 1) := by decide +kernel
theorem dX3_mostAlike_37 : decode cX3_mostAlike 37 = .ok (.iload 8, 2) := by decide +kernel
theorem dX3_mostAlike_39 : decode cX3_mostAlike 39 = .ok (.invokestatic 93, 3) := by decide +kernel
theorem dX3_mostAlike_42 : decode cX3_mostAlike 42 = .ok (.iconst 1, 1) := by decide +kernel
theorem dX3_mostAlike_43 : decode cX3_mostAlike 43 = .ok (.if_icmp .ne 19, 3) := by decide +kernel
theorem dX3_mostAlike_46 : decode cX3_mostAlike 46 = .ok (.iload 8, 2) := by decide +kernel
theorem dX3_mostAlike_48 : decode cX3_mostAlike 48 = .ok (.iload_n 1, 1) := by decide +kernel
theorem dX3_mostAlike_49 : decode cX3_mostAlike 49 = .ok (.iload_n 2, 1) := by decide +kernel
theorem dX3_mostAlike_50 : decode cX3_mostAlike 50 = .ok (.iload_n 3, 1) := by decide +kernel
theorem dX3_mostAlike_51 : decode cX3_mostAlike 51 = .ok (.invokestatic 241, 3) := by decide +kernel
theorem dX3_mostAlike_54 : decode cX3_mostAlike 54 = .ok (.iload 6, 2) := by decide +kernel
theorem dX3_mostAlike_56 : decode cX3_mostAlike 56 = .ok (.if_icmp .ne 6, 3) := by decide +kernel
theorem dX3_mostAlike_59 : decode cX3_mostAlike 59 = .ok (.iinc 7 1, 3) := by decide +kernel
theorem dX3_mostAlike_62 : decode cX3_mostAlike 62 = .ok (.iinc 8 1, 3) := by decide +kernel
theorem dX3_mostAlike_65 : decode cX3_mostAlike 65 = .ok (.goto (-36), 3) := by decide +kernel
theorem dX3_mostAlike_68 : decode cX3_mostAlike 68 = .ok (.iload 4, 2) := by decide +kernel
theorem dX3_mostAlike_70 : decode cX3_mostAlike 70 = .ok (.iload 7, 2) := by decide +kernel
theorem dX3_mostAlike_72 : decode cX3_mostAlike 72 = .ok (.invokestatic 248, 3) := by decide +kernel
theorem dX3_mostAlike_75 : decode cX3_mostAlike 75 = .ok (.istore 4, 2) := by decide +kernel
theorem dX3_mostAlike_77 : decode cX3_mostAlike 77 = .ok (.iinc 5 1, 3) := by decide +kernel
theorem dX3_mostAlike_80 : decode cX3_mostAlike 80 = .ok (.goto (-74), 3) := by decide +kernel
theorem dX3_mostAlike_83 : decode cX3_mostAlike 83 = .ok (.iload 4, 2) := by decide +kernel
theorem dX3_mostAlike_85 : decode cX3_mostAlike 85 = .ok (.ireturn, 1) := by decide +kernel
theorem dX3_tempersOfSource_0 : decode cX3_tempersOfSource 0 = .ok (.iconst 0, 1) := by decide +kernel
theorem dX3_tempersOfSource_1 : decode cX3_tempersOfSource 1 = .ok (.istore_n 1, 1) := by decide +kernel
theorem dX3_tempersOfSource_2 : decode cX3_tempersOfSource 2 = .ok (.iconst 0, 1) := by decide +kernel
theorem dX3_tempersOfSource_3 : decode cX3_tempersOfSource 3 = .ok (.istore_n 2, 1) := by decide +kernel
theorem dX3_tempersOfSource_4 : decode cX3_tempersOfSource 4 = .ok (.iload_n 2, 1) := by decide +kernel
theorem dX3_tempersOfSource_5 : decode cX3_tempersOfSource 5 = .ok (.bipush 100, 2) := by decide +kernel
theorem dX3_tempersOfSource_7 : decode cX3_tempersOfSource 7 = .ok (.if_icmp .gt 72, 3) := by decide +kernel
theorem dX3_tempersOfSource_10 : decode cX3_tempersOfSource 10 = .ok (.iconst 0, 1) := by decide +kernel
theorem dX3_tempersOfSource_11 : decode cX3_tempersOfSource 11 = .ok (.istore_n 3, 1) := by decide +kernel
theorem dX3_tempersOfSource_12 : decode cX3_tempersOfSource 12 = .ok (.iconst 0, 1) := by decide +kernel
theorem dX3_tempersOfSource_13 : decode cX3_tempersOfSource 13 = .ok (.istore 4, 2) := by decide +kernel
theorem dX3_tempersOfSource_15 : decode cX3_tempersOfSource 15 = .ok (.iload 4, 2) := by decide +kernel
theorem dX3_tempersOfSource_17 : decode cX3_tempersOfSource 17 = .ok (.aload_n 0, 1) := by decide +kernel
theorem dX3_tempersOfSource_18 : decode cX3_tempersOfSource 18 = .ok (.getfield 12, 3) := by decide +kernel
theorem dX3_tempersOfSource_21 : decode cX3_tempersOfSource 21 = .ok (.getfield 56, 3) := by decide +kernel
theorem dX3_tempersOfSource_24 : decode cX3_tempersOfSource 24 = .ok (.if_icmp .ge 35, 3) := by decide +kernel
theorem dX3_tempersOfSource_27 : decode cX3_tempersOfSource 27 = .ok (.iload_n 3, 1) := by decide +kernel
theorem dX3_tempersOfSource_28 : decode cX3_tempersOfSource 28 = .ok (.iload 4, 2) := by decide +kernel
theorem dX3_tempersOfSource_30 : decode cX3_tempersOfSource 30 = .ok (.aload_n 0, 1) := by decide +kernel
theorem dX3_tempersOfSource_31 : decode cX3_tempersOfSource 31 = .ok (.getfield 12, 3) := by decide +kernel
theorem dX3_tempersOfSource_34 : decode cX3_tempersOfSource 34 = .ok (.getfield 126, 3) := by decide +kernel
theorem dX3_tempersOfSource_37 : decode cX3_tempersOfSource 37 = .ok (.iload 4, 2) := by decide +kernel
theorem dX3_tempersOfSource_39 : decode cX3_tempersOfSource 39 = .ok (.iaload, 1) := by decide +kernel
theorem dX3_tempersOfSource_40 : decode cX3_tempersOfSource 40 = .ok (.iload_n 2, 1) := by decide +kernel
theorem dX3_tempersOfSource_41 : decode cX3_tempersOfSource 41 = .ok (.if_icmp .lt 7, 3) := by decide +kernel
theorem dX3_tempersOfSource_44 : decode cX3_tempersOfSource 44 = .ok (.iconst 1, 1) := by decide +kernel
theorem dX3_tempersOfSource_45 : decode cX3_tempersOfSource 45 = .ok (.goto 4, 3) := by decide +kernel
theorem dX3_tempersOfSource_48 : decode cX3_tempersOfSource 48 = .ok (.iconst 0, 1) := by decide +kernel
theorem dX3_tempersOfSource_49 : decode cX3_tempersOfSource 49 = .ok (.invokestatic 99, 3) := by decide +kernel
theorem dX3_tempersOfSource_52 : decode cX3_tempersOfSource 52 = .ok (.istore_n 3, 1) := by decide +kernel
theorem dX3_tempersOfSource_53 : decode cX3_tempersOfSource 53 = .ok (.iinc 4 1, 3) := by decide +kernel
theorem dX3_tempersOfSource_56 : decode cX3_tempersOfSource 56 = .ok (.goto (-41), 3) := by decide +kernel
theorem dX3_tempersOfSource_59 : decode cX3_tempersOfSource 59 = .ok (.iload_n 3, 1) := by decide +kernel
theorem dX3_tempersOfSource_60 : decode cX3_tempersOfSource 60 = .ok (.aload_n 0, 1) := by decide +kernel
theorem dX3_tempersOfSource_61 : decode cX3_tempersOfSource 61 = .ok (.getfield 12, 3) := by decide +kernel
theorem dX3_tempersOfSource_64 : decode cX3_tempersOfSource 64 = .ok (.getfield 90, 3) := by decide +kernel
theorem dX3_tempersOfSource_67 : decode cX3_tempersOfSource 67 = .ok (.if_icmp .ne 6, 3) := by decide +kernel
theorem dX3_tempersOfSource_70 : decode cX3_tempersOfSource 70 = .ok (.iinc 1 1, 3) := by decide +kernel
theorem dX3_tempersOfSource_73 : decode cX3_tempersOfSource 73 = .ok (.iinc 2 1, 3) := by decide +kernel
theorem dX3_tempersOfSource_76 : decode cX3_tempersOfSource 76 = .ok (.goto (-72), 3) := by decide +kernel
theorem dX3_tempersOfSource_79 : decode cX3_tempersOfSource 79 = .ok (.iload_n 1, 1) := by decide +kernel
theorem dX3_tempersOfSource_80 : decode cX3_tempersOfSource 80 = .ok (.ireturn, 1) := by decide +kernel
theorem dX3_kindsOfSource_0 : decode cX3_kindsOfSource 0 = .ok (.iconst 0, 1) := by decide +kernel
theorem dX3_kindsOfSource_1 : decode cX3_kindsOfSource 1 = .ok (.istore_n 1, 1) := by decide +kernel
theorem dX3_kindsOfSource_2 : decode cX3_kindsOfSource 2 = .ok (.iload_n 1, 1) := by decide +kernel
theorem dX3_kindsOfSource_3 : decode cX3_kindsOfSource 3 = .ok (.bipush 6, 2) := by decide +kernel
theorem dX3_kindsOfSource_5 : decode cX3_kindsOfSource 5 = .ok (.if_icmp .ge 75, 3) := by decide +kernel
theorem dX3_kindsOfSource_8 : decode cX3_kindsOfSource 8 = .ok (.iconst 0, 1) := by decide +kernel
theorem dX3_kindsOfSource_9 : decode cX3_kindsOfSource 9 = .ok (.istore_n 2, 1) := by decide +kernel
theorem dX3_kindsOfSource_10 : decode cX3_kindsOfSource 10 = .ok (.iconst 0, 1) := by decide +kernel
theorem dX3_kindsOfSource_11 : decode cX3_kindsOfSource 11 = .ok (.istore_n 3, 1) := by decide +kernel
theorem dX3_kindsOfSource_12 : decode cX3_kindsOfSource 12 = .ok (.iload_n 3, 1) := by decide +kernel
theorem dX3_kindsOfSource_13 : decode cX3_kindsOfSource 13 = .ok (.aload_n 0, 1) := by decide +kernel
theorem dX3_kindsOfSource_14 : decode cX3_kindsOfSource 14 = .ok (.getfield 12, 3) := by decide +kernel
theorem dX3_kindsOfSource_17 : decode cX3_kindsOfSource 17 = .ok (.getfield 56, 3) := by decide +kernel
theorem dX3_kindsOfSource_20 : decode cX3_kindsOfSource 20 = .ok (.if_icmp .ge 33, 3) := by decide +kernel
theorem dX3_kindsOfSource_23 : decode cX3_kindsOfSource 23 = .ok (.iload_n 2, 1) := by decide +kernel
theorem dX3_kindsOfSource_24 : decode cX3_kindsOfSource 24 = .ok (.iload_n 3, 1) := by decide +kernel
theorem dX3_kindsOfSource_25 : decode cX3_kindsOfSource 25 = .ok (.aload_n 0, 1) := by decide +kernel
theorem dX3_kindsOfSource_26 : decode cX3_kindsOfSource 26 = .ok (.getfield 12, 3) := by decide +kernel
theorem dX3_kindsOfSource_29 : decode cX3_kindsOfSource 29 = .ok (.getfield 122, 3) := by decide +kernel
theorem dX3_kindsOfSource_32 : decode cX3_kindsOfSource 32 = .ok (.iload_n 3, 1) := by decide +kernel
theorem dX3_kindsOfSource_33 : decode cX3_kindsOfSource 33 = .ok (.iaload, 1) := by decide +kernel
theorem dX3_kindsOfSource_34 : decode cX3_kindsOfSource 34 = .ok (.iload_n 1, 1) := by decide +kernel
theorem dX3_kindsOfSource_35 : decode cX3_kindsOfSource 35 = .ok (.if_icmp .ne 7, 3) := by decide +kernel
theorem dX3_kindsOfSource_38 : decode cX3_kindsOfSource 38 = .ok (.iconst 1, 1) := by decide +kernel
theorem dX3_kindsOfSource_39 : decode cX3_kindsOfSource 39 = .ok (.goto 4, 3) := by decide +kernel
theorem dX3_kindsOfSource_42 : decode cX3_kindsOfSource 42 = .ok (.iconst 0, 1) := by decide +kernel
theorem dX3_kindsOfSource_43 : decode cX3_kindsOfSource 43 = .ok (.invokestatic 99, 3) := by decide +kernel
theorem dX3_kindsOfSource_46 : decode cX3_kindsOfSource 46 = .ok (.istore_n 2, 1) := by decide +kernel
theorem dX3_kindsOfSource_47 : decode cX3_kindsOfSource 47 = .ok (.iinc 3 1, 3) := by decide +kernel
theorem dX3_kindsOfSource_50 : decode cX3_kindsOfSource 50 = .ok (.goto (-38), 3) := by decide +kernel
theorem dX3_kindsOfSource_53 : decode cX3_kindsOfSource 53 = .ok (.iload_n 2, 1) := by decide +kernel
theorem dX3_kindsOfSource_54 : decode cX3_kindsOfSource 54 = .ok (.aload_n 0, 1) := by decide +kernel
theorem dX3_kindsOfSource_55 : decode cX3_kindsOfSource 55 = .ok (.getfield 12, 3) := by decide +kernel
theorem dX3_kindsOfSource_58 : decode cX3_kindsOfSource 58 = .ok (.getfield 90, 3) := by decide +kernel
theorem dX3_kindsOfSource_61 : decode cX3_kindsOfSource 61 = .ok (.iand, 1) := by decide +kernel
theorem dX3_kindsOfSource_62 : decode cX3_kindsOfSource 62 = .ok (.istore_n 3, 1) := by decide +kernel
theorem dX3_kindsOfSource_63 : decode cX3_kindsOfSource 63 = .ok (.iload_n 3, 1) := by decide +kernel
theorem dX3_kindsOfSource_64 : decode cX3_kindsOfSource 64 = .ok (.ifCond .eq 10, 3) := by decide +kernel
theorem dX3_kindsOfSource_67 : decode cX3_kindsOfSource 67 = .ok (.iload_n 3, 1) := by decide +kernel
theorem dX3_kindsOfSource_68 : decode cX3_kindsOfSource 68 = .ok (.iload_n 2, 1) := by decide +kernel
theorem dX3_kindsOfSource_69 : decode cX3_kindsOfSource 69 = .ok (.if_icmp .eq 5, 3) := by decide +kernel
theorem dX3_kindsOfSource_72 : decode cX3_kindsOfSource 72 = .ok (.iconst 0, 1) := by decide +kernel
theorem dX3_kindsOfSource_73 : decode cX3_kindsOfSource 73 = .ok (.ireturn, 1) := by decide +kernel
theorem dX3_kindsOfSource_74 : decode cX3_kindsOfSource 74 = .ok (.iinc 1 1, 3) := by decide +kernel
theorem dX3_kindsOfSource_77 : decode cX3_kindsOfSource 77 = .ok (.goto (-75), 3) := by decide +kernel
theorem dX3_kindsOfSource_80 : decode cX3_kindsOfSource 80 = .ok (.iconst 1, 1) := by decide +kernel
theorem dX3_kindsOfSource_81 : decode cX3_kindsOfSource 81 = .ok (.ireturn, 1) := by decide +kernel
theorem dX3_setFraction_0 : decode cX3_setFraction 0 = .ok (.lload_n 1, 1) := by decide +kernel
theorem dX3_setFraction_1 : decode cX3_setFraction 1 = .ok (.lstore 5, 2) := by decide +kernel
theorem dX3_setFraction_3 : decode cX3_setFraction 3 = .ok (.lload_n 3, 1) := by decide +kernel
theorem dX3_setFraction_4 : decode cX3_setFraction 4 = .ok (.lstore 7, 2) := by decide +kernel
theorem dX3_setFraction_6 : decode cX3_setFraction 6 = .ok (.iconst 0, 1) := by decide +kernel
theorem dX3_setFraction_7 : decode cX3_setFraction 7 = .ok (.istore 9, 2) := by decide +kernel
theorem dX3_setFraction_9 : decode cX3_setFraction 9 = .ok (.iload 9, 2) := by decide +kernel
theorem dX3_setFraction_11 : decode cX3_setFraction 11 = .ok (.sipush 200, 3) := by decide +kernel
theorem dX3_setFraction_14 : decode cX3_setFraction 14 = .ok (.if_icmp .ge 31, 3) := by decide +kernel
theorem dX3_setFraction_17 : decode cX3_setFraction 17 = .ok (.lload 7, 2) := by decide +kernel
theorem dX3_setFraction_19 : decode cX3_setFraction 19 = .ok (.lconst 0, 1) := by decide +kernel
theorem dX3_setFraction_20 : decode cX3_setFraction 20 = .ok (.lcmp, 1) := by decide +kernel
theorem dX3_setFraction_21 : decode cX3_setFraction 21 = .ok (.ifCond .eq 24, 3) := by decide +kernel
theorem dX3_setFraction_24 : decode cX3_setFraction 24 = .ok (.lload 5, 2) := by decide +kernel
theorem dX3_setFraction_26 : decode cX3_setFraction 26 = .ok (.lload 7, 2) := by decide +kernel
theorem dX3_setFraction_28 : decode cX3_setFraction 28 = .ok (.lrem, 1) := by decide +kernel
theorem dX3_setFraction_29 : decode cX3_setFraction 29 = .ok (.lstore 10, 2) := by decide +kernel
theorem dX3_setFraction_31 : decode cX3_setFraction 31 = .ok (.lload 7, 2) := by decide +kernel
theorem dX3_setFraction_33 : decode cX3_setFraction 33 = .ok (.lstore 5, 2) := by decide +kernel
theorem dX3_setFraction_35 : decode cX3_setFraction 35 = .ok (.lload 10, 2) := by decide +kernel
theorem dX3_setFraction_37 : decode cX3_setFraction 37 = .ok (.lstore 7, 2) := by decide +kernel
theorem dX3_setFraction_39 : decode cX3_setFraction 39 = .ok (.iinc 9 1, 3) := by decide +kernel
theorem dX3_setFraction_42 : decode cX3_setFraction 42 = .ok (.goto (-33), 3) := by decide +kernel
theorem dX3_setFraction_45 : decode cX3_setFraction 45 = .ok (.lload 5, 2) := by decide +kernel
theorem dX3_setFraction_47 : decode cX3_setFraction 47 = .ok (.lconst 0, 1) := by decide +kernel
theorem dX3_setFraction_48 : decode cX3_setFraction 48 = .ok (.lcmp, 1) := by decide +kernel
theorem dX3_setFraction_49 : decode cX3_setFraction 49 = .ok (.ifCond .le 19, 3) := by decide +kernel
theorem dX3_setFraction_52 : decode cX3_setFraction 52 = .ok (.aload_n 0, 1) := by decide +kernel
theorem dX3_setFraction_53 : decode cX3_setFraction 53 = .ok (.lload_n 1, 1) := by decide +kernel
theorem dX3_setFraction_54 : decode cX3_setFraction 54 = .ok (.lload 5, 2) := by decide +kernel
theorem dX3_setFraction_56 : decode cX3_setFraction 56 = .ok (.ldiv, 1) := by decide +kernel
theorem dX3_setFraction_57 : decode cX3_setFraction 57 = .ok (.putfield 41, 3) := by decide +kernel
theorem dX3_setFraction_60 : decode cX3_setFraction 60 = .ok (.aload_n 0, 1) := by decide +kernel
theorem dX3_setFraction_61 : decode cX3_setFraction 61 = .ok (.lload_n 3, 1) := by decide +kernel
theorem dX3_setFraction_62 : decode cX3_setFraction 62 = .ok (.lload 5, 2) := by decide +kernel
theorem dX3_setFraction_64 : decode cX3_setFraction 64 = .ok (.ldiv, 1) := by decide +kernel
theorem dX3_setFraction_65 : decode cX3_setFraction 65 = .ok (.putfield 45, 3) := by decide +kernel
theorem dX3_setFraction_68 : decode cX3_setFraction 68 = .ok (.return_, 1) := by decide +kernel
theorem dX3_actOf_0 : decode cX3_actOf 0 = .ok (.iload_n 3, 1) := by decide +kernel
theorem dX3_actOf_1 : decode cX3_actOf 1 = .ok (.bipush 6, 2) := by decide +kernel
theorem dX3_actOf_3 : decode cX3_actOf 3 = .ok (.idiv, 1) := by decide +kernel
theorem dX3_actOf_4 : decode cX3_actOf 4 = .ok (.iconst 5, 1) := by decide +kernel
theorem dX3_actOf_5 : decode cX3_actOf 5 = .ok (.invokestatic 253, 3) := by decide +kernel
theorem dX3_actOf_8 : decode cX3_actOf 8 = .ok (.istore 4, 2) := by decide +kernel
theorem dX3_actOf_10 : decode cX3_actOf 10 = .ok (.iload 4, 2) := by decide +kernel
theorem dX3_actOf_12 : decode cX3_actOf 12 = .ok (.iconst 2, 1) := by decide +kernel
theorem dX3_actOf_13 : decode cX3_actOf 13 = .ok (.isub, 1) := by decide +kernel
theorem dX3_actOf_14 : decode cX3_actOf 14 = .ok (.iconst 0, 1) := by decide +kernel
theorem dX3_actOf_15 : decode cX3_actOf 15 = .ok (.invokestatic 248, 3) := by decide +kernel
theorem dX3_actOf_18 : decode cX3_actOf 18 = .ok (.istore 5, 2) := by decide +kernel
theorem dX3_actOf_20 : decode cX3_actOf 20 = .ok (.iload_n 2, 1) := by decide +kernel
theorem dX3_actOf_21 : decode cX3_actOf 21 = .ok (.ifCond .eq 14, 3) := by decide +kernel
theorem dX3_actOf_24 : decode cX3_actOf 24 = .ok (.iload 4, 2) := by decide +kernel
theorem dX3_actOf_26 : decode cX3_actOf 26 = .ok (.iconst 1, 1) := by decide +kernel
theorem dX3_actOf_27 : decode cX3_actOf 27 = .ok (.iadd, 1) := by decide +kernel
theorem dX3_actOf_28 : decode cX3_actOf 28 = .ok (.iconst 5, 1) := by decide +kernel
theorem dX3_actOf_29 : decode cX3_actOf 29 = .ok (.invokestatic 253, 3) := by decide +kernel
theorem dX3_actOf_32 : decode cX3_actOf 32 = .ok (.goto 5, 3) := by decide +kernel
theorem dX3_actOf_35 : decode cX3_actOf 35 = .ok (.iload 4, 2) := by decide +kernel
theorem dX3_actOf_37 : decode cX3_actOf 37 = .ok (.istore 6, 2) := by decide +kernel
theorem dX3_actOf_39 : decode cX3_actOf 39 = .ok (.iload_n 0, 1) := by decide +kernel
theorem dX3_actOf_40 : decode cX3_actOf 40 = .ok (.tableswitch 74 0 4 #[36, 39, 42, 53, 56], 36) := by decide +kernel
theorem dX3_actOf_76 : decode cX3_actOf 76 = .ok (.iload 4, 2) := by decide +kernel
theorem dX3_actOf_78 : decode cX3_actOf 78 = .ok (.ireturn, 1) := by decide +kernel
theorem dX3_actOf_79 : decode cX3_actOf 79 = .ok (.iload 5, 2) := by decide +kernel
theorem dX3_actOf_81 : decode cX3_actOf 81 = .ok (.ireturn, 1) := by decide +kernel
theorem dX3_actOf_82 : decode cX3_actOf 82 = .ok (.iload_n 2, 1) := by decide +kernel
theorem dX3_actOf_83 : decode cX3_actOf 83 = .ok (.ifCond .eq 7, 3) := by decide +kernel
theorem dX3_actOf_86 : decode cX3_actOf 86 = .ok (.iconst 0, 1) := by decide +kernel
theorem dX3_actOf_87 : decode cX3_actOf 87 = .ok (.goto 5, 3) := by decide +kernel
theorem dX3_actOf_90 : decode cX3_actOf 90 = .ok (.iload 4, 2) := by decide +kernel
theorem dX3_actOf_92 : decode cX3_actOf 92 = .ok (.ireturn, 1) := by decide +kernel
theorem dX3_actOf_93 : decode cX3_actOf 93 = .ok (.iload 6, 2) := by decide +kernel
theorem dX3_actOf_95 : decode cX3_actOf 95 = .ok (.ireturn, 1) := by decide +kernel
theorem dX3_actOf_96 : decode cX3_actOf 96 = .ok (.iload_n 1, 1) := by decide +kernel
theorem dX3_actOf_97 : decode cX3_actOf 97 = .ok (.iconst 3, 1) := by decide +kernel
theorem dX3_actOf_98 : decode cX3_actOf 98 = .ok (.irem, 1) := by decide +kernel
theorem dX3_actOf_99 : decode cX3_actOf 99 = .ok (.ifCond .ne 12, 3) := by decide +kernel
theorem dX3_actOf_102 : decode cX3_actOf 102 = .ok (.iload 5, 2) := by decide +kernel
theorem dX3_actOf_104 : decode cX3_actOf 104 = .ok (.iconst 1, 1) := by decide +kernel
theorem dX3_actOf_105 : decode cX3_actOf 105 = .ok (.invokestatic 248, 3) := by decide +kernel
theorem dX3_actOf_108 : decode cX3_actOf 108 = .ok (.goto 5, 3) := by decide +kernel
theorem dX3_actOf_111 : decode cX3_actOf 111 = .ok (.iload 5, 2) := by decide +kernel
theorem dX3_actOf_113 : decode cX3_actOf 113 = .ok (.ireturn, 1) := by decide +kernel
theorem dX3_actOf_114 : decode cX3_actOf 114 = .ok (.iload_n 1, 1) := by decide +kernel
theorem dX3_actOf_115 : decode cX3_actOf 115 = .ok (.iconst 2, 1) := by decide +kernel
theorem dX3_actOf_116 : decode cX3_actOf 116 = .ok (.irem, 1) := by decide +kernel
theorem dX3_actOf_117 : decode cX3_actOf 117 = .ok (.ifCond .ne 7, 3) := by decide +kernel
theorem dX3_actOf_120 : decode cX3_actOf 120 = .ok (.iconst 0, 1) := by decide +kernel
theorem dX3_actOf_121 : decode cX3_actOf 121 = .ok (.goto 5, 3) := by decide +kernel
theorem dX3_actOf_124 : decode cX3_actOf 124 = .ok (.iload 6, 2) := by decide +kernel
theorem dX3_actOf_126 : decode cX3_actOf 126 = .ok (.ireturn, 1) := by decide +kernel
theorem dX3_moreOf_0 : decode cX3_moreOf 0 = .ok (.iload_n 0, 1) := by decide +kernel
theorem dX3_moreOf_1 : decode cX3_moreOf 1 = .ok (.tableswitch 41 0 4 #[35, 37, 39, 41, 39], 35) := by decide +kernel
theorem dX3_moreOf_36 : decode cX3_moreOf 36 = .ok (.iconst 2, 1) := by decide +kernel
theorem dX3_moreOf_37 : decode cX3_moreOf 37 = .ok (.ireturn, 1) := by decide +kernel
theorem dX3_moreOf_38 : decode cX3_moreOf 38 = .ok (.iconst 0, 1) := by decide +kernel
theorem dX3_moreOf_39 : decode cX3_moreOf 39 = .ok (.ireturn, 1) := by decide +kernel
theorem dX3_moreOf_40 : decode cX3_moreOf 40 = .ok (.iconst 1, 1) := by decide +kernel
theorem dX3_moreOf_41 : decode cX3_moreOf 41 = .ok (.ireturn, 1) := by decide +kernel
theorem dX3_moreOf_42 : decode cX3_moreOf 42 = .ok (.iconst 4, 1) := by decide +kernel
theorem dX3_moreOf_43 : decode cX3_moreOf 43 = .ok (.ireturn, 1) := by decide +kernel
end
section
theorem dX4_init_0 : decode cX4_init 0 = .ok (.aload_n 0, 1) := by decide +kernel
theorem dX4_init_1 : decode cX4_init 1 = .ok (.invokespecial 1, 3) := by decide +kernel
theorem dX4_init_4 : decode cX4_init 4 = .ok (.aload_n 0, 1) := by decide +kernel
theorem dX4_init_5 : decode cX4_init 5 = .ok (.sipush 140, 3) := by decide +kernel
theorem dX4_init_8 : decode cX4_init 8 = .ok (.newarray .int, 2) := by decide +kernel
theorem dX4_init_10 : decode cX4_init 10 = .ok (.putfield 7, 3) := by decide +kernel
theorem dX4_init_13 : decode cX4_init 13 = .ok (.aload_n 0, 1) := by decide +kernel
theorem dX4_init_14 : decode cX4_init 14 = .ok (.sipush 280, 3) := by decide +kernel
theorem dX4_init_17 : decode cX4_init 17 = .ok (.newarray .int, 2) := by decide +kernel
theorem dX4_init_19 : decode cX4_init 19 = .ok (.putfield 13, 3) := by decide +kernel
theorem dX4_init_22 : decode cX4_init 22 = .ok (.aload_n 0, 1) := by decide +kernel
theorem dX4_init_23 : decode cX4_init 23 = .ok (.iconst 2, 1) := by decide +kernel
theorem dX4_init_24 : decode cX4_init 24 = .ok (.newarray .boolean, 2) := by decide +kernel
theorem dX4_init_26 : decode cX4_init 26 = .ok (.putfield 16, 3) := by decide +kernel
theorem dX4_init_29 : decode cX4_init 29 = .ok (.aload_n 0, 1) := by decide +kernel
theorem dX4_init_30 : decode cX4_init 30 = .ok (.iconst 3, 1) := by decide +kernel
theorem dX4_init_31 : decode cX4_init 31 = .ok (.newarray .int, 2) := by decide +kernel
theorem dX4_init_33 : decode cX4_init 33 = .ok (.putfield 20, 3) := by decide +kernel
theorem dX4_init_36 : decode cX4_init 36 = .ok (.aload_n 0, 1) := by decide +kernel
theorem dX4_init_37 : decode cX4_init 37 = .ok (.lconst 1, 1) := by decide +kernel
theorem dX4_init_38 : decode cX4_init 38 = .ok (.putfield 23, 3) := by decide +kernel
theorem dX4_init_41 : decode cX4_init 41 = .ok (.aload_n 0, 1) := by decide +kernel
theorem dX4_init_42 : decode cX4_init 42 = .ok (.bipush 7, 2) := by decide +kernel
theorem dX4_init_44 : decode cX4_init 44 = .ok (.newarray .int, 2) := by decide +kernel
theorem dX4_init_46 : decode cX4_init 46 = .ok (.putfield 27, 3) := by decide +kernel
theorem dX4_init_49 : decode cX4_init 49 = .ok (.aload_n 0, 1) := by decide +kernel
theorem dX4_init_50 : decode cX4_init 50 = .ok (.iconst 4, 1) := by decide +kernel
theorem dX4_init_51 : decode cX4_init 51 = .ok (.newarray .int, 2) := by decide +kernel
theorem dX4_init_53 : decode cX4_init 53 = .ok (.putfield 30, 3) := by decide +kernel
theorem dX4_init_56 : decode cX4_init 56 = .ok (.aload_n 0, 1) := by decide +kernel
theorem dX4_init_57 : decode cX4_init 57 = .ok (.iconst 4, 1) := by decide +kernel
theorem dX4_init_58 : decode cX4_init 58 = .ok (.newarray .int, 2) := by decide +kernel
theorem dX4_init_60 : decode cX4_init 60 = .ok (.putfield 33, 3) := by decide +kernel
theorem dX4_init_63 : decode cX4_init 63 = .ok (.aload_n 0, 1) := by decide +kernel
theorem dX4_init_64 : decode cX4_init 64 = .ok (.bipush 6, 2) := by decide +kernel
theorem dX4_init_66 : decode cX4_init 66 = .ok (.newarray .int, 2) := by decide +kernel
theorem dX4_init_68 : decode cX4_init 68 = .ok (.putfield 36, 3) := by decide +kernel
theorem dX4_init_71 : decode cX4_init 71 = .ok (.aload_n 0, 1) := by decide +kernel
theorem dX4_init_72 : decode cX4_init 72 = .ok (.sipush 150, 3) := by decide +kernel
theorem dX4_init_75 : decode cX4_init 75 = .ok (.newarray .int, 2) := by decide +kernel
theorem dX4_init_77 : decode cX4_init 77 = .ok (.putfield 39, 3) := by decide +kernel
theorem dX4_init_80 : decode cX4_init 80 = .ok (.aload_n 0, 1) := by decide +kernel
theorem dX4_init_81 : decode cX4_init 81 = .ok (.bipush 52, 2) := by decide +kernel
theorem dX4_init_83 : decode cX4_init 83 = .ok (.newarray .int, 2) := by decide +kernel
theorem dX4_init_85 : decode cX4_init 85 = .ok (.putfield 42, 3) := by decide +kernel
theorem dX4_init_88 : decode cX4_init 88 = .ok (.aload_n 0, 1) := by decide +kernel
theorem dX4_init_89 : decode cX4_init 89 = .ok (.iconst 2, 1) := by decide +kernel
theorem dX4_init_90 : decode cX4_init 90 = .ok (.newarray .int, 2) := by decide +kernel
theorem dX4_init_92 : decode cX4_init 92 = .ok (.putfield 45, 3) := by decide +kernel
theorem dX4_init_95 : decode cX4_init 95 = .ok (.aload_n 0, 1) := by decide +kernel
theorem dX4_init_96 : decode cX4_init 96 = .ok (.getfield 7, 3) := by decide +kernel
theorem dX4_init_99 : decode cX4_init 99 = .ok (.iconst 3, 1) := by decide +kernel
theorem dX4_init_100 : decode cX4_init 100 = .ok (.invokestatic 48, 3) := by decide +kernel
theorem dX4_init_103 : decode cX4_init 103 = .ok (.return_, 1) := by decide +kernel
theorem dX4_in_0 : decode cX4_in 0 = .ok (.lload_n 0, 1) := by decide +kernel
theorem dX4_in_1 : decode cX4_in 1 = .ok (.lload_n 2, 1) := by decide +kernel
theorem dX4_in_2 : decode cX4_in 2 = .ok (.lcmp, 1) := by decide +kernel
theorem dX4_in_3 : decode cX4_in 3 = .ok (.ifCond .lt 14, 3) := by decide +kernel
theorem dX4_in_6 : decode cX4_in 6 = .ok (.lload_n 0, 1) := by decide +kernel
theorem dX4_in_7 : decode cX4_in 7 = .ok (.lload 4, 2) := by decide +kernel
theorem dX4_in_9 : decode cX4_in 9 = .ok (.lcmp, 1) := by decide +kernel
theorem dX4_in_10 : decode cX4_in 10 = .ok (.ifCond .gt 7, 3) := by decide +kernel
theorem dX4_in_13 : decode cX4_in 13 = .ok (.iconst 1, 1) := by decide +kernel
theorem dX4_in_14 : decode cX4_in 14 = .ok (.goto 4, 3) := by decide +kernel
theorem dX4_in_17 : decode cX4_in 17 = .ok (.iconst 0, 1) := by decide +kernel
theorem dX4_in_18 : decode cX4_in 18 = .ok (.ireturn, 1) := by decide +kernel
theorem dX4_bad_0 : decode cX4_bad 0 = .ok (.aload_n 0, 1) := by decide +kernel
theorem dX4_bad_1 : decode cX4_bad 1 = .ok (.getfield 20, 3) := by decide +kernel
theorem dX4_bad_4 : decode cX4_bad 4 = .ok (.iconst 0, 1) := by decide +kernel
theorem dX4_bad_5 : decode cX4_bad 5 = .ok (.dup2, 1) := by decide +kernel
theorem dX4_bad_6 : decode cX4_bad 6 = .ok (.iaload, 1) := by decide +kernel
theorem dX4_bad_7 : decode cX4_bad 7 = .ok (.iconst 1, 1) := by decide +kernel
theorem dX4_bad_8 : decode cX4_bad 8 = .ok (.iadd, 1) := by decide +kernel
theorem dX4_bad_9 : decode cX4_bad 9 = .ok (.iastore, 1) := by decide +kernel
theorem dX4_bad_10 : decode cX4_bad 10 = .ok (.iload_n 1, 1) := by decide +kernel
theorem dX4_bad_11 : decode cX4_bad 11 = .ok (.ireturn, 1) := by decide +kernel
theorem dX4_no_0 : decode cX4_no 0 = .ok (.aload_n 0, 1) := by decide +kernel
theorem dX4_no_1 : decode cX4_no 1 = .ok (.getfield 20, 3) := by decide +kernel
theorem dX4_no_4 : decode cX4_no 4 = .ok (.iconst 1, 1) := by decide +kernel
theorem dX4_no_5 : decode cX4_no 5 = .ok (.dup2, 1) := by decide +kernel
theorem dX4_no_6 : decode cX4_no 6 = .ok (.iaload, 1) := by decide +kernel
theorem dX4_no_7 : decode cX4_no 7 = .ok (.iconst 1, 1) := by decide +kernel
theorem dX4_no_8 : decode cX4_no 8 = .ok (.iadd, 1) := by decide +kernel
theorem dX4_no_9 : decode cX4_no 9 = .ok (.iastore, 1) := by decide +kernel
theorem dX4_no_10 : decode cX4_no 10 = .ok (.bipush (-3), 2) := by decide +kernel
theorem dX4_no_12 : decode cX4_no 12 = .ok (.ireturn, 1) := by decide +kernel
theorem dX4_full_0 : decode cX4_full 0 = .ok (.aload_n 0, 1) := by decide +kernel
theorem dX4_full_1 : decode cX4_full 1 = .ok (.getfield 20, 3) := by decide +kernel
theorem dX4_full_4 : decode cX4_full 4 = .ok (.iconst 2, 1) := by decide +kernel
theorem dX4_full_5 : decode cX4_full 5 = .ok (.dup2, 1) := by decide +kernel
theorem dX4_full_6 : decode cX4_full 6 = .ok (.iaload, 1) := by decide +kernel
theorem dX4_full_7 : decode cX4_full 7 = .ok (.iconst 1, 1) := by decide +kernel
theorem dX4_full_8 : decode cX4_full 8 = .ok (.iadd, 1) := by decide +kernel
theorem dX4_full_9 : decode cX4_full 9 = .ok (.iastore, 1) := by decide +kernel
theorem dX4_full_10 : decode cX4_full 10 = .ok (.bipush (-4), 2) := by decide +kernel
theorem dX4_full_12 : decode cX4_full 12 = .ok (.ireturn, 1) := by decide +kernel
theorem dX4_bits_0 : decode cX4_bits 0 = .ok (.iconst 0, 1) := by decide +kernel
theorem dX4_bits_1 : decode cX4_bits 1 = .ok (.istore_n 1, 1) := by decide +kernel
theorem dX4_bits_2 : decode cX4_bits 2 = .ok (.iload_n 0, 1) := by decide +kernel
theorem dX4_bits_3 : decode cX4_bits 3 = .ok (.istore_n 2, 1) := by decide +kernel
theorem dX4_bits_4 : decode cX4_bits 4 = .ok (.iload_n 2, 1) := by decide +kernel
theorem dX4_bits_5 : decode cX4_bits 5 = .ok (.ifCond .le 16, 3) := by decide +kernel
theorem dX4_bits_8 : decode cX4_bits 8 = .ok (.iload_n 1, 1) := by decide +kernel
theorem dX4_bits_9 : decode cX4_bits 9 = .ok (.iload_n 2, 1) := by decide +kernel
theorem dX4_bits_10 : decode cX4_bits 10 = .ok (.iconst 1, 1) := by decide +kernel
theorem dX4_bits_11 : decode cX4_bits 11 = .ok (.iand, 1) := by decide +kernel
theorem dX4_bits_12 : decode cX4_bits 12 = .ok (.iadd, 1) := by decide +kernel
theorem dX4_bits_13 : decode cX4_bits 13 = .ok (.istore_n 1, 1) := by decide +kernel
theorem dX4_bits_14 : decode cX4_bits 14 = .ok (.iload_n 2, 1) := by decide +kernel
theorem dX4_bits_15 : decode cX4_bits 15 = .ok (.iconst 1, 1) := by decide +kernel
theorem dX4_bits_16 : decode cX4_bits 16 = .ok (.ishr, 1) := by decide +kernel
theorem dX4_bits_17 : decode cX4_bits 17 = .ok (.istore_n 2, 1) := by decide +kernel
theorem dX4_bits_18 : decode cX4_bits 18 = .ok (.goto (-14), 3) := by decide +kernel
theorem dX4_bits_21 : decode cX4_bits 21 = .ok (.iload_n 1, 1) := by decide +kernel
theorem dX4_bits_22 : decode cX4_bits 22 = .ok (.ireturn, 1) := by decide +kernel
theorem dX4_has_0 : decode cX4_has 0 = .ok (.iload_n 0, 1) := by decide +kernel
theorem dX4_has_1 : decode cX4_has 1 = .ok (.iload_n 1, 1) := by decide +kernel
theorem dX4_has_2 : decode cX4_has 2 = .ok (.ishr, 1) := by decide +kernel
theorem dX4_has_3 : decode cX4_has 3 = .ok (.iconst 1, 1) := by decide +kernel
theorem dX4_has_4 : decode cX4_has 4 = .ok (.iand, 1) := by decide +kernel
theorem dX4_has_5 : decode cX4_has 5 = .ok (.iconst 1, 1) := by decide +kernel
theorem dX4_has_6 : decode cX4_has 6 = .ok (.if_icmp .ne 7, 3) := by decide +kernel
theorem dX4_has_9 : decode cX4_has 9 = .ok (.iconst 1, 1) := by decide +kernel
theorem dX4_has_10 : decode cX4_has 10 = .ok (.goto 4, 3) := by decide +kernel
theorem dX4_has_13 : decode cX4_has 13 = .ok (.iconst 0, 1) := by decide +kernel
theorem dX4_has_14 : decode cX4_has 14 = .ok (.ireturn, 1) := by decide +kernel
theorem dX4_begin_0 : decode cX4_begin 0 = .ok (.iconst 0, 1) := by decide +kernel
theorem dX4_begin_1 : decode cX4_begin 1 = .ok (.istore_n 2, 1) := by decide +kernel
theorem dX4_begin_2 : decode cX4_begin 2 = .ok (.iload_n 2, 1) := by decide +kernel
theorem dX4_begin_3 : decode cX4_begin 3 = .ok (.bipush 52, 2) := by decide +kernel
theorem dX4_begin_5 : decode cX4_begin 5 = .ok (.if_icmp .ge 13, 3) := by decide +kernel
theorem dX4_begin_8 : decode cX4_begin 8 = .ok (.aload_n 0, 1) := by decide +kernel
theorem dX4_begin_9 : decode cX4_begin 9 = .ok (.iload_n 2, 1) := by decide +kernel
theorem dX4_begin_10 : decode cX4_begin 10 = .ok (.iconst 0, 1) := by decide +kernel
theorem dX4_begin_11 : decode cX4_begin 11 = .ok (.iastore, 1) := by decide +kernel
theorem dX4_begin_12 : decode cX4_begin 12 = .ok (.iinc 2 1, 3) := by decide +kernel
theorem dX4_begin_15 : decode cX4_begin 15 = .ok (.goto (-13), 3) := by decide +kernel
theorem dX4_begin_18 : decode cX4_begin 18 = .ok (.aload_n 0, 1) := by decide +kernel
theorem dX4_begin_19 : decode cX4_begin 19 = .ok (.iconst 1, 1) := by decide +kernel
theorem dX4_begin_20 : decode cX4_begin 20 = .ok (.iload_n 1, 1) := by decide +kernel
theorem dX4_begin_21 : decode cX4_begin 21 = .ok (.iastore, 1) := by decide +kernel
theorem dX4_begin_22 : decode cX4_begin 22 = .ok (.return_, 1) := by decide +kernel
theorem dX4_many_0 : decode cX4_many 0 = .ok (.aload_n 0, 1) := by decide +kernel
theorem dX4_many_1 : decode cX4_many 1 = .ok (.getfield 7, 3) := by decide +kernel
theorem dX4_many_4 : decode cX4_many 4 = .ok (.iconst 0, 1) := by decide +kernel
theorem dX4_many_5 : decode cX4_many 5 = .ok (.iaload, 1) := by decide +kernel
theorem dX4_many_6 : decode cX4_many 6 = .ok (.ireturn, 1) := by decide +kernel
theorem dX4_isOne_0 : decode cX4_isOne 0 = .ok (.iload_n 1, 1) := by decide +kernel
theorem dX4_isOne_1 : decode cX4_isOne 1 = .ok (.i2l, 1) := by decide +kernel
theorem dX4_isOne_2 : decode cX4_isOne 2 = .ok (.lconst 0, 1) := by decide +kernel
theorem dX4_isOne_3 : decode cX4_isOne 3 = .ok (.aload_n 0, 1) := by decide +kernel
theorem dX4_isOne_4 : decode cX4_isOne 4 = .ok (.invokevirtual 52, 3) := by decide +kernel
theorem dX4_isOne_7 : decode cX4_isOne 7 = .ok (.iconst 1, 1) := by decide +kernel
theorem dX4_isOne_8 : decode cX4_isOne 8 = .ok (.isub, 1) := by decide +kernel
theorem dX4_isOne_9 : decode cX4_isOne 9 = .ok (.i2l, 1) := by decide +kernel
theorem dX4_isOne_10 : decode cX4_isOne 10 = .ok (.invokestatic 56, 3) := by decide +kernel
theorem dX4_isOne_13 : decode cX4_isOne 13 = .ok (.ireturn, 1) := by decide +kernel
theorem dX4_town_0 : decode cX4_town 0 = .ok (.iload_n 1, 1) := by decide +kernel
theorem dX4_town_1 : decode cX4_town 1 = .ok (.i2l, 1) := by decide +kernel
theorem dX4_town_2 : decode cX4_town 2 = .ok (.lconst 1, 1) := by decide +kernel
theorem dX4_town_3 : decode cX4_town 3 = .ok (.ldc2_w 60, 3) := by decide +kernel
theorem dX4_town_6 : decode cX4_town 6 = .ok (.invokestatic 56, 3) := by decide +kernel
theorem dX4_town_9 : decode cX4_town 9 = .ok (.ifCond .ne 10, 3) := by decide +kernel
theorem dX4_town_12 : decode cX4_town 12 = .ok (.aload_n 0, 1) := by decide +kernel
theorem dX4_town_13 : decode cX4_town 13 = .ok (.bipush (-2), 2) := by decide +kernel
theorem dX4_town_15 : decode cX4_town 15 = .ok (.invokevirtual 62, 3) := by decide +kernel
theorem dX4_town_18 : decode cX4_town 18 = .ok (.ireturn, 1) := by decide +kernel
theorem dX4_town_19 : decode cX4_town 19 = .ok (.aload_n 0, 1) := by decide +kernel
theorem dX4_town_20 : decode cX4_town 20 = .ok (.invokevirtual 52, 3) := by decide +kernel
theorem dX4_town_23 : decode cX4_town 23 = .ok (.istore_n 2, 1) := by decide +kernel
theorem dX4_town_24 : decode cX4_town 24 = .ok (.aload_n 0, 1) := by decide +kernel
theorem dX4_town_25 : decode cX4_town 25 = .ok (.getfield 7, 3) := by decide +kernel
theorem dX4_town_28 : decode cX4_town 28 = .ok (.iload_n 1, 1) := by decide +kernel
theorem dX4_town_29 : decode cX4_town 29 = .ok (.invokestatic 48, 3) := by decide +kernel
theorem dX4_town_32 : decode cX4_town 32 = .ok (.iload_n 2, 1) := by decide +kernel
theorem dX4_town_33 : decode cX4_town 33 = .ok (.ireturn, 1) := by decide +kernel
theorem dX4_layOne_0 : decode cX4_layOne 0 = .ok (.aload_n 0, 1) := by decide +kernel
theorem dX4_layOne_1 : decode cX4_layOne 1 = .ok (.iconst 4, 1) := by decide +kernel
theorem dX4_layOne_2 : decode cX4_layOne 2 = .ok (.aload_n 0, 1) := by decide +kernel
theorem dX4_layOne_3 : decode cX4_layOne 3 = .ok (.iconst 0, 1) := by decide +kernel
theorem dX4_layOne_4 : decode cX4_layOne 4 = .ok (.iaload, 1) := by decide +kernel
theorem dX4_layOne_5 : decode cX4_layOne 5 = .ok (.iadd, 1) := by decide +kernel
theorem dX4_layOne_6 : decode cX4_layOne 6 = .ok (.iload_n 1, 1) := by decide +kernel
theorem dX4_layOne_7 : decode cX4_layOne 7 = .ok (.iastore, 1) := by decide +kernel
theorem dX4_layOne_8 : decode cX4_layOne 8 = .ok (.aload_n 0, 1) := by decide +kernel
theorem dX4_layOne_9 : decode cX4_layOne 9 = .ok (.bipush 11, 2) := by decide +kernel
theorem dX4_layOne_11 : decode cX4_layOne 11 = .ok (.aload_n 0, 1) := by decide +kernel
theorem dX4_layOne_12 : decode cX4_layOne 12 = .ok (.iconst 0, 1) := by decide +kernel
theorem dX4_layOne_13 : decode cX4_layOne 13 = .ok (.iaload, 1) := by decide +kernel
theorem dX4_layOne_14 : decode cX4_layOne 14 = .ok (.iadd, 1) := by decide +kernel
theorem dX4_layOne_15 : decode cX4_layOne 15 = .ok (.iload_n 2, 1) := by decide +kernel
theorem dX4_layOne_16 : decode cX4_layOne 16 = .ok (.iastore, 1) := by decide +kernel
theorem dX4_layOne_17 : decode cX4_layOne 17 = .ok (.aload_n 0, 1) := by decide +kernel
theorem dX4_layOne_18 : decode cX4_layOne 18 = .ok (.iconst 0, 1) := by decide +kernel
theorem dX4_layOne_19 : decode cX4_layOne 19 = .ok (.dup2, 1) := by decide +kernel
theorem dX4_layOne_20 : decode cX4_layOne 20 = .ok (.iaload, 1) := by decide +kernel
theorem dX4_layOne_21 : decode cX4_layOne 21 = .ok (.iconst 1, 1) := by decide +kernel
theorem dX4_layOne_22 : decode cX4_layOne 22 = .ok (.iadd, 1) := by decide +kernel
theorem dX4_layOne_23 : decode cX4_layOne 23 = .ok (.iastore, 1) := by decide +kernel
theorem dX4_layOne_24 : decode cX4_layOne 24 = .ok (.return_, 1) := by decide +kernel
theorem dX4_one_0 : decode cX4_one 0 = .ok (.iload_n 1, 1) := by decide +kernel
theorem dX4_one_1 : decode cX4_one 1 = .ok (.i2l, 1) := by decide +kernel
theorem dX4_one_2 : decode cX4_one 2 = .ok (.lconst 0, 1) := by decide +kernel
theorem dX4_one_3 : decode cX4_one 3 = .ok (.ldc2_w 60, 3) := by decide +kernel
theorem dX4_one_6 : decode cX4_one 6 = .ok (.invokestatic 56, 3) := by decide +kernel
theorem dX4_one_9 : decode cX4_one 9 = .ok (.ifCond .eq 15, 3) := by decide +kernel
theorem dX4_one_12 : decode cX4_one 12 = .ok (.iload_n 2, 1) := by decide +kernel
theorem dX4_one_13 : decode cX4_one 13 = .ok (.i2l, 1) := by decide +kernel
theorem dX4_one_14 : decode cX4_one 14 = .ok (.lconst 0, 1) := by decide +kernel
theorem dX4_one_15 : decode cX4_one 15 = .ok (.ldc2_w 66, 3) := by decide +kernel
theorem dX4_one_18 : decode cX4_one 18 = .ok (.invokestatic 56, 3) := by decide +kernel
theorem dX4_one_21 : decode cX4_one 21 = .ok (.ifCond .ne 10, 3) := by decide +kernel
theorem dX4_one_24 : decode cX4_one 24 = .ok (.aload_n 0, 1) := by decide +kernel
theorem dX4_one_25 : decode cX4_one 25 = .ok (.bipush (-2), 2) := by decide +kernel
theorem dX4_one_27 : decode cX4_one 27 = .ok (.invokevirtual 62, 3) := by decide +kernel
theorem dX4_one_30 : decode cX4_one 30 = .ok (.ireturn, 1) := by decide +kernel
theorem dX4_one_31 : decode cX4_one 31 = .ok (.aload_n 0, 1) := by decide +kernel
theorem dX4_one_32 : decode cX4_one 32 = .ok (.invokevirtual 52, 3) := by decide +kernel
theorem dX4_one_35 : decode cX4_one 35 = .ok (.bipush 7, 2) := by decide +kernel
theorem dX4_one_37 : decode cX4_one 37 = .ok (.if_icmp .ne 8, 3) := by decide +kernel
theorem dX4_one_40 : decode cX4_one 40 = .ok (.aload_n 0, 1) := by decide +kernel
theorem dX4_one_41 : decode cX4_one 41 = .ok (.invokevirtual 68, 3) := by decide +kernel
theorem dX4_one_44 : decode cX4_one 44 = .ok (.ireturn, 1) := by decide +kernel
theorem dX4_one_45 : decode cX4_one 45 = .ok (.aload_n 0, 1) := by decide +kernel
theorem dX4_one_46 : decode cX4_one 46 = .ok (.getfield 7, 3) := by decide +kernel
theorem dX4_one_49 : decode cX4_one 49 = .ok (.iload_n 1, 1) := by decide +kernel
theorem dX4_one_50 : decode cX4_one 50 = .ok (.iload_n 2, 1) := by decide +kernel
theorem dX4_one_51 : decode cX4_one 51 = .ok (.invokestatic 71, 3) := by decide +kernel
theorem dX4_one_54 : decode cX4_one 54 = .ok (.aload_n 0, 1) := by decide +kernel
theorem dX4_one_55 : decode cX4_one 55 = .ok (.getfield 7, 3) := by decide +kernel
theorem dX4_one_58 : decode cX4_one 58 = .ok (.iconst 3, 1) := by decide +kernel
theorem dX4_one_59 : decode cX4_one 59 = .ok (.iconst 0, 1) := by decide +kernel
theorem dX4_one_60 : decode cX4_one 60 = .ok (.iastore, 1) := by decide +kernel
theorem dX4_one_61 : decode cX4_one 61 = .ok (.aload_n 0, 1) := by decide +kernel
theorem dX4_one_62 : decode cX4_one 62 = .ok (.invokevirtual 52, 3) := by decide +kernel
theorem dX4_one_65 : decode cX4_one 65 = .ok (.iconst 1, 1) := by decide +kernel
theorem dX4_one_66 : decode cX4_one 66 = .ok (.isub, 1) := by decide +kernel
theorem dX4_one_67 : decode cX4_one 67 = .ok (.ireturn, 1) := by decide +kernel
theorem dX4_actAs_0 : decode cX4_actAs 0 = .ok (.iload_n 1, 1) := by decide +kernel
theorem dX4_actAs_1 : decode cX4_actAs 1 = .ok (.bipush 6, 2) := by decide +kernel
theorem dX4_actAs_3 : decode cX4_actAs 3 = .ok (.idiv, 1) := by decide +kernel
theorem dX4_actAs_4 : decode cX4_actAs 4 = .ok (.iconst 5, 1) := by decide +kernel
theorem dX4_actAs_5 : decode cX4_actAs 5 = .ok (.if_icmp .le 7, 3) := by decide +kernel
theorem dX4_actAs_8 : decode cX4_actAs 8 = .ok (.iconst 5, 1) := by decide +kernel
theorem dX4_actAs_9 : decode cX4_actAs 9 = .ok (.goto 7, 3) := by decide +kernel
theorem dX4_actAs_12 : decode cX4_actAs 12 = .ok (.iload_n 1, 1) := by decide +kernel
theorem dX4_actAs_13 : decode cX4_actAs 13 = .ok (.bipush 6, 2) := by decide +kernel
theorem dX4_actAs_15 : decode cX4_actAs 15 = .ok (.idiv, 1) := by decide +kernel
theorem dX4_actAs_16 : decode cX4_actAs 16 = .ok (.istore 4, 2) := by decide +kernel
theorem dX4_actAs_18 : decode cX4_actAs 18 = .ok (.iload 4, 2) := by decide +kernel
theorem dX4_actAs_20 : decode cX4_actAs 20 = .ok (.iconst 2, 1) := by decide +kernel
theorem dX4_actAs_21 : decode cX4_actAs 21 = .ok (.if_icmp .le 10, 3) := by decide +kernel
theorem dX4_actAs_24 : decode cX4_actAs 24 = .ok (.iload 4, 2) := by decide +kernel
theorem dX4_actAs_26 : decode cX4_actAs 26 = .ok (.iconst 2, 1) := by decide +kernel
theorem dX4_actAs_27 : decode cX4_actAs 27 = .ok (.isub, 1) := by decide +kernel
theorem dX4_actAs_28 : decode cX4_actAs 28 = .ok (.goto 4, 3) := by decide +kernel
theorem dX4_actAs_31 : decode cX4_actAs 31 = .ok (.iconst 0, 1) := by decide +kernel
theorem dX4_actAs_32 : decode cX4_actAs 32 = .ok (.istore 5, 2) := by decide +kernel
theorem dX4_actAs_34 : decode cX4_actAs 34 = .ok (.iload_n 3, 1) := by decide +kernel
theorem dX4_actAs_35 : decode cX4_actAs 35 = .ok (.ifCond .eq 16, 3) := by decide +kernel
theorem dX4_actAs_38 : decode cX4_actAs 38 = .ok (.iload 4, 2) := by decide +kernel
theorem dX4_actAs_40 : decode cX4_actAs 40 = .ok (.iconst 5, 1) := by decide +kernel
theorem dX4_actAs_41 : decode cX4_actAs 41 = .ok (.if_icmp .ge 10, 3) := by decide +kernel
theorem dX4_actAs_44 : decode cX4_actAs 44 = .ok (.iload 4, 2) := by decide +kernel
theorem dX4_actAs_46 : decode cX4_actAs 46 = .ok (.iconst 1, 1) := by decide +kernel
theorem dX4_actAs_47 : decode cX4_actAs 47 = .ok (.iadd, 1) := by decide +kernel
theorem dX4_actAs_48 : decode cX4_actAs 48 = .ok (.goto 5, 3) := by decide +kernel
theorem dX4_actAs_51 : decode cX4_actAs 51 = .ok (.iload 4, 2) := by decide +kernel
theorem dX4_actAs_53 : decode cX4_actAs 53 = .ok (.istore 6, 2) := by decide +kernel
theorem dX4_actAs_55 : decode cX4_actAs 55 = .ok (.iload_n 0, 1) := by decide +kernel
theorem dX4_actAs_56 : decode cX4_actAs 56 = .ok (.tableswitch 84 1 5 #[36, 39, 50, 53, 71], 36) := by decide +kernel
theorem dX4_actAs_92 : decode cX4_actAs 92 = .ok (.iload 5, 2) := by decide +kernel
theorem dX4_actAs_94 : decode cX4_actAs 94 = .ok (.ireturn, 1) := by decide +kernel
theorem dX4_actAs_95 : decode cX4_actAs 95 = .ok (.iload_n 3, 1) := by decide +kernel
theorem dX4_actAs_96 : decode cX4_actAs 96 = .ok (.ifCond .eq 7, 3) := by decide +kernel
theorem dX4_actAs_99 : decode cX4_actAs 99 = .ok (.iconst 0, 1) := by decide +kernel
theorem dX4_actAs_100 : decode cX4_actAs 100 = .ok (.goto 5, 3) := by decide +kernel
theorem dX4_actAs_103 : decode cX4_actAs 103 = .ok (.iload 4, 2) := by decide +kernel
theorem dX4_actAs_105 : decode cX4_actAs 105 = .ok (.ireturn, 1) := by decide +kernel
theorem dX4_actAs_106 : decode cX4_actAs 106 = .ok (.iload 6, 2) := by decide +kernel
theorem dX4_actAs_108 : decode cX4_actAs 108 = .ok (.ireturn, 1) := by decide +kernel
theorem dX4_actAs_109 : decode cX4_actAs 109 = .ok (.iload_n 2, 1) := by decide +kernel
theorem dX4_actAs_110 : decode cX4_actAs 110 = .ok (.iconst 3, 1) := by decide +kernel
theorem dX4_actAs_111 : decode cX4_actAs 111 = .ok (.irem, 1) := by decide +kernel
theorem dX4_actAs_112 : decode cX4_actAs 112 = .ok (.ifCond .ne 12, 3) := by decide +kernel
theorem dX4_actAs_115 : decode cX4_actAs 115 = .ok (.iload 5, 2) := by decide +kernel
theorem dX4_actAs_117 : decode cX4_actAs 117 = .ok (.ifCond .ne 7, 3) := by decide +kernel
theorem dX4_actAs_120 : decode cX4_actAs 120 = .ok (.iconst 1, 1) := by decide +kernel
theorem dX4_actAs_121 : decode cX4_actAs 121 = .ok (.goto 5, 3) := by decide +kernel
theorem dX4_actAs_124 : decode cX4_actAs 124 = .ok (.iload 5, 2) := by decide +kernel
theorem dX4_actAs_126 : decode cX4_actAs 126 = .ok (.ireturn, 1) := by decide +kernel
theorem dX4_actAs_127 : decode cX4_actAs 127 = .ok (.iload_n 2, 1) := by decide +kernel
theorem dX4_actAs_128 : decode cX4_actAs 128 = .ok (.iconst 2, 1) := by decide +kernel
theorem dX4_actAs_129 : decode cX4_actAs 129 = .ok (.irem, 1) := by decide +kernel
theorem dX4_actAs_130 : decode cX4_actAs 130 = .ok (.ifCond .ne 7, 3) := by decide +kernel
theorem dX4_actAs_133 : decode cX4_actAs 133 = .ok (.iconst 0, 1) := by decide +kernel
theorem dX4_actAs_134 : decode cX4_actAs 134 = .ok (.goto 5, 3) := by decide +kernel
theorem dX4_actAs_137 : decode cX4_actAs 137 = .ok (.iload 6, 2) := by decide +kernel
theorem dX4_actAs_139 : decode cX4_actAs 139 = .ok (.ireturn, 1) := by decide +kernel
theorem dX4_actAs_140 : decode cX4_actAs 140 = .ok (.iload 4, 2) := by decide +kernel
theorem dX4_actAs_142 : decode cX4_actAs 142 = .ok (.ireturn, 1) := by decide +kernel
theorem dX4_moreAs_0 : decode cX4_moreAs 0 = .ok (.iload_n 0, 1) := by decide +kernel
theorem dX4_moreAs_1 : decode cX4_moreAs 1 = .ok (.ifCond .ne 7, 3) := by decide +kernel
theorem dX4_moreAs_4 : decode cX4_moreAs 4 = .ok (.iconst 2, 1) := by decide +kernel
theorem dX4_moreAs_5 : decode cX4_moreAs 5 = .ok (.goto 27, 3) := by decide +kernel
theorem dX4_moreAs_8 : decode cX4_moreAs 8 = .ok (.iload_n 0, 1) := by decide +kernel
theorem dX4_moreAs_9 : decode cX4_moreAs 9 = .ok (.iconst 1, 1) := by decide +kernel
theorem dX4_moreAs_10 : decode cX4_moreAs 10 = .ok (.if_icmp .ne 7, 3) := by decide +kernel
theorem dX4_moreAs_13 : decode cX4_moreAs 13 = .ok (.iconst 0, 1) := by decide +kernel
theorem dX4_moreAs_14 : decode cX4_moreAs 14 = .ok (.goto 18, 3) := by decide +kernel
theorem dX4_moreAs_17 : decode cX4_moreAs 17 = .ok (.iload_n 0, 1) := by decide +kernel
theorem dX4_moreAs_18 : decode cX4_moreAs 18 = .ok (.iconst 2, 1) := by decide +kernel
theorem dX4_moreAs_19 : decode cX4_moreAs 19 = .ok (.if_icmp .eq 8, 3) := by decide +kernel
theorem dX4_moreAs_22 : decode cX4_moreAs 22 = .ok (.iload_n 0, 1) := by decide +kernel
theorem dX4_moreAs_23 : decode cX4_moreAs 23 = .ok (.iconst 4, 1) := by decide +kernel
theorem dX4_moreAs_24 : decode cX4_moreAs 24 = .ok (.if_icmp .ne 7, 3) := by decide +kernel
theorem dX4_moreAs_27 : decode cX4_moreAs 27 = .ok (.iconst 1, 1) := by decide +kernel
theorem dX4_moreAs_28 : decode cX4_moreAs 28 = .ok (.goto 4, 3) := by decide +kernel
theorem dX4_moreAs_31 : decode cX4_moreAs 31 = .ok (.iconst 4, 1) := by decide +kernel
theorem dX4_moreAs_32 : decode cX4_moreAs 32 = .ok (.ireturn, 1) := by decide +kernel
theorem dX4_temperBehind_0 : decode cX4_temperBehind 0 = .ok (.iload_n 2, 1) := by decide +kernel
theorem dX4_temperBehind_1 : decode cX4_temperBehind 1 = .ok (.ifCond .eq 12, 3) := by decide +kernel
theorem dX4_temperBehind_4 : decode cX4_temperBehind 4 = .ok (.iload_n 1, 1) := by decide +kernel
theorem dX4_temperBehind_5 : decode cX4_temperBehind 5 = .ok (.iload_n 0, 1) := by decide +kernel
theorem dX4_temperBehind_6 : decode cX4_temperBehind 6 = .ok (.invokestatic 75, 3) := by decide +kernel
theorem dX4_temperBehind_9 : decode cX4_temperBehind 9 = .ok (.iadd, 1) := by decide +kernel
theorem dX4_temperBehind_10 : decode cX4_temperBehind 10 = .ok (.goto 6, 3) := by decide +kernel
theorem dX4_temperBehind_13 : decode cX4_temperBehind 13 = .ok (.iload_n 1, 1) := by decide +kernel
theorem dX4_temperBehind_14 : decode cX4_temperBehind 14 = .ok (.iconst 1, 1) := by decide +kernel
theorem dX4_temperBehind_15 : decode cX4_temperBehind 15 = .ok (.isub, 1) := by decide +kernel
theorem dX4_temperBehind_16 : decode cX4_temperBehind 16 = .ok (.istore_n 3, 1) := by decide +kernel
theorem dX4_temperBehind_17 : decode cX4_temperBehind 17 = .ok (.iload_n 3, 1) := by decide +kernel
theorem dX4_temperBehind_18 : decode cX4_temperBehind 18 = .ok (.ifCond .ge 7, 3) := by decide +kernel
theorem dX4_temperBehind_21 : decode cX4_temperBehind 21 = .ok (.iconst 0, 1) := by decide +kernel
theorem dX4_temperBehind_22 : decode cX4_temperBehind 22 = .ok (.goto 15, 3) := by decide +kernel
theorem dX4_temperBehind_25 : decode cX4_temperBehind 25 = .ok (.iload_n 3, 1) := by decide +kernel
theorem dX4_temperBehind_26 : decode cX4_temperBehind 26 = .ok (.bipush 99, 2) := by decide +kernel
theorem dX4_temperBehind_28 : decode cX4_temperBehind 28 = .ok (.if_icmp .le 8, 3) := by decide +kernel
theorem dX4_temperBehind_31 : decode cX4_temperBehind 31 = .ok (.bipush 99, 2) := by decide +kernel
theorem dX4_temperBehind_33 : decode cX4_temperBehind 33 = .ok (.goto 4, 3) := by decide +kernel
theorem dX4_temperBehind_36 : decode cX4_temperBehind 36 = .ok (.iload_n 3, 1) := by decide +kernel
theorem dX4_temperBehind_37 : decode cX4_temperBehind 37 = .ok (.ireturn, 1) := by decide +kernel
theorem dX4_layHand_0 : decode cX4_layHand 0 = .ok (.iconst 0, 1) := by decide +kernel
theorem dX4_layHand_1 : decode cX4_layHand 1 = .ok (.istore_n 1, 1) := by decide +kernel
theorem dX4_layHand_2 : decode cX4_layHand 2 = .ok (.iload_n 1, 1) := by decide +kernel
theorem dX4_layHand_3 : decode cX4_layHand 3 = .ok (.aload_n 0, 1) := by decide +kernel
theorem dX4_layHand_4 : decode cX4_layHand 4 = .ok (.invokevirtual 52, 3) := by decide +kernel
theorem dX4_layHand_7 : decode cX4_layHand 7 = .ok (.if_icmp .ge 24, 3) := by decide +kernel
theorem dX4_layHand_10 : decode cX4_layHand 10 = .ok (.aload_n 0, 1) := by decide +kernel
theorem dX4_layHand_11 : decode cX4_layHand 11 = .ok (.getfield 27, 3) := by decide +kernel
theorem dX4_layHand_14 : decode cX4_layHand 14 = .ok (.iload_n 1, 1) := by decide +kernel
theorem dX4_layHand_15 : decode cX4_layHand 15 = .ok (.aload_n 0, 1) := by decide +kernel
theorem dX4_layHand_16 : decode cX4_layHand 16 = .ok (.getfield 7, 3) := by decide +kernel
theorem dX4_layHand_19 : decode cX4_layHand 19 = .ok (.bipush 11, 2) := by decide +kernel
theorem dX4_layHand_21 : decode cX4_layHand 21 = .ok (.iload_n 1, 1) := by decide +kernel
theorem dX4_layHand_22 : decode cX4_layHand 22 = .ok (.iadd, 1) := by decide +kernel
theorem dX4_layHand_23 : decode cX4_layHand 23 = .ok (.iaload, 1) := by decide +kernel
theorem dX4_layHand_24 : decode cX4_layHand 24 = .ok (.iastore, 1) := by decide +kernel
theorem dX4_layHand_25 : decode cX4_layHand 25 = .ok (.iinc 1 1, 3) := by decide +kernel
theorem dX4_layHand_28 : decode cX4_layHand 28 = .ok (.goto (-26), 3) := by decide +kernel
theorem dX4_layHand_31 : decode cX4_layHand 31 = .ok (.aload_n 0, 1) := by decide +kernel
theorem dX4_layHand_32 : decode cX4_layHand 32 = .ok (.aload_n 0, 1) := by decide +kernel
theorem dX4_layHand_33 : decode cX4_layHand 33 = .ok (.getfield 7, 3) := by decide +kernel
theorem dX4_layHand_36 : decode cX4_layHand 36 = .ok (.bipush 18, 2) := by decide +kernel
theorem dX4_layHand_38 : decode cX4_layHand 38 = .ok (.iaload, 1) := by decide +kernel
theorem dX4_layHand_39 : decode cX4_layHand 39 = .ok (.putfield 78, 3) := by decide +kernel
theorem dX4_layHand_42 : decode cX4_layHand 42 = .ok (.aload_n 0, 1) := by decide +kernel
theorem dX4_layHand_43 : decode cX4_layHand 43 = .ok (.aload_n 0, 1) := by decide +kernel
theorem dX4_layHand_44 : decode cX4_layHand 44 = .ok (.getfield 7, 3) := by decide +kernel
theorem dX4_layHand_47 : decode cX4_layHand 47 = .ok (.bipush 19, 2) := by decide +kernel
theorem dX4_layHand_49 : decode cX4_layHand 49 = .ok (.iaload, 1) := by decide +kernel
theorem dX4_layHand_50 : decode cX4_layHand 50 = .ok (.putfield 82, 3) := by decide +kernel
theorem dX4_layHand_53 : decode cX4_layHand 53 = .ok (.aload_n 0, 1) := by decide +kernel
theorem dX4_layHand_54 : decode cX4_layHand 54 = .ok (.aload_n 0, 1) := by decide +kernel
theorem dX4_layHand_55 : decode cX4_layHand 55 = .ok (.getfield 7, 3) := by decide +kernel
theorem dX4_layHand_58 : decode cX4_layHand 58 = .ok (.bipush 21, 2) := by decide +kernel
theorem dX4_layHand_60 : decode cX4_layHand 60 = .ok (.iaload, 1) := by decide +kernel
theorem dX4_layHand_61 : decode cX4_layHand 61 = .ok (.putfield 85, 3) := by decide +kernel
theorem dX4_layHand_64 : decode cX4_layHand 64 = .ok (.return_, 1) := by decide +kernel
theorem dX4_kindOf_0 : decode cX4_kindOf 0 = .ok (.aload_n 0, 1) := by decide +kernel
theorem dX4_kindOf_1 : decode cX4_kindOf 1 = .ok (.getfield 7, 3) := by decide +kernel
theorem dX4_kindOf_4 : decode cX4_kindOf 4 = .ok (.iconst 4, 1) := by decide +kernel
theorem dX4_kindOf_5 : decode cX4_kindOf 5 = .ok (.iload_n 1, 1) := by decide +kernel
theorem dX4_kindOf_6 : decode cX4_kindOf 6 = .ok (.iadd, 1) := by decide +kernel
theorem dX4_kindOf_7 : decode cX4_kindOf 7 = .ok (.iaload, 1) := by decide +kernel
theorem dX4_kindOf_8 : decode cX4_kindOf 8 = .ok (.ireturn, 1) := by decide +kernel
theorem dX4_actOf_0 : decode cX4_actOf 0 = .ok (.aload_n 0, 1) := by decide +kernel
theorem dX4_actOf_1 : decode cX4_actOf 1 = .ok (.iload_n 1, 1) := by decide +kernel
theorem dX4_actOf_2 : decode cX4_actOf 2 = .ok (.invokevirtual 88, 3) := by decide +kernel
theorem dX4_actOf_5 : decode cX4_actOf 5 = .ok (.aload_n 0, 1) := by decide +kernel
theorem dX4_actOf_6 : decode cX4_actOf 6 = .ok (.getfield 27, 3) := by decide +kernel
theorem dX4_actOf_9 : decode cX4_actOf 9 = .ok (.iload_n 1, 1) := by decide +kernel
theorem dX4_actOf_10 : decode cX4_actOf 10 = .ok (.iaload, 1) := by decide +kernel
theorem dX4_actOf_11 : decode cX4_actOf 11 = .ok (.aload_n 0, 1) := by decide +kernel
theorem dX4_actOf_12 : decode cX4_actOf 12 = .ok (.getfield 85, 3) := by decide +kernel
theorem dX4_actOf_15 : decode cX4_actOf 15 = .ok (.aload_n 0, 1) := by decide +kernel
theorem dX4_actOf_16 : decode cX4_actOf 16 = .ok (.getfield 82, 3) := by decide +kernel
theorem dX4_actOf_19 : decode cX4_actOf 19 = .ok (.iload_n 1, 1) := by decide +kernel
theorem dX4_actOf_20 : decode cX4_actOf 20 = .ok (.invokestatic 91, 3) := by decide +kernel
theorem dX4_actOf_23 : decode cX4_actOf 23 = .ok (.invokestatic 95, 3) := by decide +kernel
theorem dX4_actOf_26 : decode cX4_actOf 26 = .ok (.ireturn, 1) := by decide +kernel
theorem dX4_doesIt_0 : decode cX4_doesIt 0 = .ok (.aload_n 0, 1) := by decide +kernel
theorem dX4_doesIt_1 : decode cX4_doesIt 1 = .ok (.iload_n 1, 1) := by decide +kernel
theorem dX4_doesIt_2 : decode cX4_doesIt 2 = .ok (.invokevirtual 99, 3) := by decide +kernel
theorem dX4_doesIt_5 : decode cX4_doesIt 5 = .ok (.aload_n 0, 1) := by decide +kernel
theorem dX4_doesIt_6 : decode cX4_doesIt 6 = .ok (.getfield 7, 3) := by decide +kernel
theorem dX4_doesIt_9 : decode cX4_doesIt 9 = .ok (.iconst 1, 1) := by decide +kernel
theorem dX4_doesIt_10 : decode cX4_doesIt 10 = .ok (.iaload, 1) := by decide +kernel
theorem dX4_doesIt_11 : decode cX4_doesIt 11 = .ok (.if_icmp .lt 7, 3) := by decide +kernel
theorem dX4_doesIt_14 : decode cX4_doesIt 14 = .ok (.iconst 1, 1) := by decide +kernel
theorem dX4_doesIt_15 : decode cX4_doesIt 15 = .ok (.goto 4, 3) := by decide +kernel
theorem dX4_doesIt_18 : decode cX4_doesIt 18 = .ok (.iconst 0, 1) := by decide +kernel
theorem dX4_doesIt_19 : decode cX4_doesIt 19 = .ok (.ireturn, 1) := by decide +kernel
theorem dX4_goDay_0 : decode cX4_goDay 0 = .ok (.iconst 0, 1) := by decide +kernel
theorem dX4_goDay_1 : decode cX4_goDay 1 = .ok (.istore_n 1, 1) := by decide +kernel
theorem dX4_goDay_2 : decode cX4_goDay 2 = .ok (.iconst 0, 1) := by decide +kernel
theorem dX4_goDay_3 : decode cX4_goDay 3 = .ok (.istore_n 2, 1) := by decide +kernel
theorem dX4_goDay_4 : decode cX4_goDay 4 = .ok (.iload_n 2, 1) := by decide +kernel
theorem dX4_goDay_5 : decode cX4_goDay 5 = .ok (.aload_n 0, 1) := by decide +kernel
theorem dX4_goDay_6 : decode cX4_goDay 6 = .ok (.invokevirtual 52, 3) := by decide +kernel
theorem dX4_goDay_9 : decode cX4_goDay 9 = .ok (.if_icmp .ge 43, 3) := by decide +kernel
theorem dX4_goDay_12 : decode cX4_goDay 12 = .ok (.iload_n 1, 1) := by decide +kernel
theorem dX4_goDay_13 : decode cX4_goDay 13 = .ok (.aload_n 0, 1) := by decide +kernel
theorem dX4_goDay_14 : decode cX4_goDay 14 = .ok (.getfield 78, 3) := by decide +kernel
theorem dX4_goDay_17 : decode cX4_goDay 17 = .ok (.aload_n 0, 1) := by decide +kernel
theorem dX4_goDay_18 : decode cX4_goDay 18 = .ok (.getfield 82, 3) := by decide +kernel
theorem dX4_goDay_21 : decode cX4_goDay 21 = .ok (.iand, 1) := by decide +kernel
theorem dX4_goDay_22 : decode cX4_goDay 22 = .ok (.iload_n 2, 1) := by decide +kernel
theorem dX4_goDay_23 : decode cX4_goDay 23 = .ok (.invokestatic 91, 3) := by decide +kernel
theorem dX4_goDay_26 : decode cX4_goDay 26 = .ok (.ifCond .eq 17, 3) := by decide +kernel
theorem dX4_goDay_29 : decode cX4_goDay 29 = .ok (.aload_n 0, 1) := by decide +kernel
theorem dX4_goDay_30 : decode cX4_goDay 30 = .ok (.iload_n 2, 1) := by decide +kernel
theorem dX4_goDay_31 : decode cX4_goDay 31 = .ok (.invokevirtual 102, 3) := by decide +kernel
theorem dX4_goDay_34 : decode cX4_goDay 34 = .ok (.ifCond .eq 9, 3) := by decide +kernel
theorem dX4_goDay_37 : decode cX4_goDay 37 = .ok (.iconst 1, 1) := by decide +kernel
theorem dX4_goDay_38 : decode cX4_goDay 38 = .ok (.iload_n 2, 1) := by decide +kernel
theorem dX4_goDay_39 : decode cX4_goDay 39 = .ok (.ishl, 1) := by decide +kernel
theorem dX4_goDay_40 : decode cX4_goDay 40 = .ok (.goto 4, 3) := by decide +kernel
theorem dX4_goDay_43 : decode cX4_goDay 43 = .ok (.iconst 0, 1) := by decide +kernel
theorem dX4_goDay_44 : decode cX4_goDay 44 = .ok (.ior, 1) := by decide +kernel
theorem dX4_goDay_45 : decode cX4_goDay 45 = .ok (.istore_n 1, 1) := by decide +kernel
theorem dX4_goDay_46 : decode cX4_goDay 46 = .ok (.iinc 2 1, 3) := by decide +kernel
theorem dX4_goDay_49 : decode cX4_goDay 49 = .ok (.goto (-45), 3) := by decide +kernel
theorem dX4_goDay_52 : decode cX4_goDay 52 = .ok (.iconst 0, 1) := by decide +kernel
theorem dX4_goDay_53 : decode cX4_goDay 53 = .ok (.istore_n 2, 1) := by decide +kernel
theorem dX4_goDay_54 : decode cX4_goDay 54 = .ok (.iload_n 2, 1) := by decide +kernel
theorem dX4_goDay_55 : decode cX4_goDay 55 = .ok (.aload_n 0, 1) := by decide +kernel
theorem dX4_goDay_56 : decode cX4_goDay 56 = .ok (.invokevirtual 52, 3) := by decide +kernel
theorem dX4_goDay_59 : decode cX4_goDay 59 = .ok (.if_icmp .ge 37, 3) := by decide +kernel
theorem dX4_goDay_62 : decode cX4_goDay 62 = .ok (.aload_n 0, 1) := by decide +kernel
theorem dX4_goDay_63 : decode cX4_goDay 63 = .ok (.getfield 27, 3) := by decide +kernel
theorem dX4_goDay_66 : decode cX4_goDay 66 = .ok (.iload_n 2, 1) := by decide +kernel
theorem dX4_goDay_67 : decode cX4_goDay 67 = .ok (.aload_n 0, 1) := by decide +kernel
theorem dX4_goDay_68 : decode cX4_goDay 68 = .ok (.iload_n 2, 1) := by decide +kernel
theorem dX4_goDay_69 : decode cX4_goDay 69 = .ok (.invokevirtual 88, 3) := by decide +kernel
theorem dX4_goDay_72 : decode cX4_goDay 72 = .ok (.aload_n 0, 1) := by decide +kernel
theorem dX4_goDay_73 : decode cX4_goDay 73 = .ok (.getfield 27, 3) := by decide +kernel
theorem dX4_goDay_76 : decode cX4_goDay 76 = .ok (.iload_n 2, 1) := by decide +kernel
theorem dX4_goDay_77 : decode cX4_goDay 77 = .ok (.iaload, 1) := by decide +kernel
theorem dX4_goDay_78 : decode cX4_goDay 78 = .ok (.aload_n 0, 1) := by decide +kernel
theorem dX4_goDay_79 : decode cX4_goDay 79 = .ok (.getfield 82, 3) := by decide +kernel
theorem dX4_goDay_82 : decode cX4_goDay 82 = .ok (.iload_n 2, 1) := by decide +kernel
theorem dX4_goDay_83 : decode cX4_goDay 83 = .ok (.invokestatic 91, 3) := by decide +kernel
theorem dX4_goDay_86 : decode cX4_goDay 86 = .ok (.invokestatic 106, 3) := by decide +kernel
theorem dX4_goDay_89 : decode cX4_goDay 89 = .ok (.iastore, 1) := by decide +kernel
theorem dX4_goDay_90 : decode cX4_goDay 90 = .ok (.iinc 2 1, 3) := by decide +kernel
theorem dX4_goDay_93 : decode cX4_goDay 93 = .ok (.goto (-39), 3) := by decide +kernel
theorem dX4_goDay_96 : decode cX4_goDay 96 = .ok (.aload_n 0, 1) := by decide +kernel
theorem dX4_goDay_97 : decode cX4_goDay 97 = .ok (.dup, 1) := by decide +kernel
theorem dX4_goDay_98 : decode cX4_goDay 98 = .ok (.getfield 78, 3) := by decide +kernel
theorem dX4_goDay_101 : decode cX4_goDay 101 = .ok (.iload_n 1, 1) := by decide +kernel
theorem dX4_goDay_102 : decode cX4_goDay 102 = .ok (.iconst (-1), 1) := by decide +kernel
theorem dX4_goDay_103 : decode cX4_goDay 103 = .ok (.ixor, 1) := by decide +kernel
theorem dX4_goDay_104 : decode cX4_goDay 104 = .ok (.iand, 1) := by decide +kernel
theorem dX4_goDay_105 : decode cX4_goDay 105 = .ok (.putfield 78, 3) := by decide +kernel
theorem dX4_goDay_108 : decode cX4_goDay 108 = .ok (.aload_n 0, 1) := by decide +kernel
theorem dX4_goDay_109 : decode cX4_goDay 109 = .ok (.dup, 1) := by decide +kernel
theorem dX4_goDay_110 : decode cX4_goDay 110 = .ok (.getfield 82, 3) := by decide +kernel
theorem dX4_goDay_113 : decode cX4_goDay 113 = .ok (.iload_n 1, 1) := by decide +kernel
theorem dX4_goDay_114 : decode cX4_goDay 114 = .ok (.iconst (-1), 1) := by decide +kernel
theorem dX4_goDay_115 : decode cX4_goDay 115 = .ok (.ixor, 1) := by decide +kernel
theorem dX4_goDay_116 : decode cX4_goDay 116 = .ok (.iand, 1) := by decide +kernel
theorem dX4_goDay_117 : decode cX4_goDay 117 = .ok (.putfield 82, 3) := by decide +kernel
theorem dX4_goDay_120 : decode cX4_goDay 120 = .ok (.aload_n 0, 1) := by decide +kernel
theorem dX4_goDay_121 : decode cX4_goDay 121 = .ok (.dup, 1) := by decide +kernel
theorem dX4_goDay_122 : decode cX4_goDay 122 = .ok (.getfield 85, 3) := by decide +kernel
theorem dX4_goDay_125 : decode cX4_goDay 125 = .ok (.iconst 1, 1) := by decide +kernel
theorem dX4_goDay_126 : decode cX4_goDay 126 = .ok (.iadd, 1) := by decide +kernel
theorem dX4_goDay_127 : decode cX4_goDay 127 = .ok (.putfield 85, 3) := by decide +kernel
theorem dX4_goDay_130 : decode cX4_goDay 130 = .ok (.iload_n 1, 1) := by decide +kernel
theorem dX4_goDay_131 : decode cX4_goDay 131 = .ok (.ireturn, 1) := by decide +kernel
theorem dX4_keep_0 : decode cX4_keep 0 = .ok (.aload_n 0, 1) := by decide +kernel
theorem dX4_keep_1 : decode cX4_keep 1 = .ok (.getfield 7, 3) := by decide +kernel
theorem dX4_keep_4 : decode cX4_keep 4 = .ok (.iconst 3, 1) := by decide +kernel
theorem dX4_keep_5 : decode cX4_keep 5 = .ok (.iaload, 1) := by decide +kernel
theorem dX4_keep_6 : decode cX4_keep 6 = .ok (.bipush 8, 2) := by decide +kernel
theorem dX4_keep_8 : decode cX4_keep 8 = .ok (.if_icmp .ne 43, 3) := by decide +kernel
theorem dX4_keep_11 : decode cX4_keep 11 = .ok (.iconst 0, 1) := by decide +kernel
theorem dX4_keep_12 : decode cX4_keep 12 = .ok (.istore_n 1, 1) := by decide +kernel
theorem dX4_keep_13 : decode cX4_keep 13 = .ok (.iload_n 1, 1) := by decide +kernel
theorem dX4_keep_14 : decode cX4_keep 14 = .ok (.bipush 77, 2) := by decide +kernel
theorem dX4_keep_16 : decode cX4_keep 16 = .ok (.if_icmp .ge 27, 3) := by decide +kernel
theorem dX4_keep_19 : decode cX4_keep 19 = .ok (.aload_n 0, 1) := by decide +kernel
theorem dX4_keep_20 : decode cX4_keep 20 = .ok (.getfield 7, 3) := by decide +kernel
theorem dX4_keep_23 : decode cX4_keep 23 = .ok (.bipush 52, 2) := by decide +kernel
theorem dX4_keep_25 : decode cX4_keep 25 = .ok (.iload_n 1, 1) := by decide +kernel
theorem dX4_keep_26 : decode cX4_keep 26 = .ok (.iadd, 1) := by decide +kernel
theorem dX4_keep_27 : decode cX4_keep 27 = .ok (.aload_n 0, 1) := by decide +kernel
theorem dX4_keep_28 : decode cX4_keep 28 = .ok (.getfield 7, 3) := by decide +kernel
theorem dX4_keep_31 : decode cX4_keep 31 = .ok (.bipush 63, 2) := by decide +kernel
theorem dX4_keep_33 : decode cX4_keep 33 = .ok (.iload_n 1, 1) := by decide +kernel
theorem dX4_keep_34 : decode cX4_keep 34 = .ok (.iadd, 1) := by decide +kernel
theorem dX4_keep_35 : decode cX4_keep 35 = .ok (.iaload, 1) := by decide +kernel
theorem dX4_keep_36 : decode cX4_keep 36 = .ok (.iastore, 1) := by decide +kernel
theorem dX4_keep_37 : decode cX4_keep 37 = .ok (.iinc 1 1, 3) := by decide +kernel
theorem dX4_keep_40 : decode cX4_keep 40 = .ok (.goto (-27), 3) := by decide +kernel
theorem dX4_keep_43 : decode cX4_keep 43 = .ok (.aload_n 0, 1) := by decide +kernel
theorem dX4_keep_44 : decode cX4_keep 44 = .ok (.getfield 7, 3) := by decide +kernel
theorem dX4_keep_47 : decode cX4_keep 47 = .ok (.iconst 3, 1) := by decide +kernel
theorem dX4_keep_48 : decode cX4_keep 48 = .ok (.bipush 7, 2) := by decide +kernel
theorem dX4_keep_50 : decode cX4_keep 50 = .ok (.iastore, 1) := by decide +kernel
theorem dX4_keep_51 : decode cX4_keep 51 = .ok (.iconst 0, 1) := by decide +kernel
theorem dX4_keep_52 : decode cX4_keep 52 = .ok (.istore_n 1, 1) := by decide +kernel
theorem dX4_keep_53 : decode cX4_keep 53 = .ok (.iload_n 1, 1) := by decide +kernel
theorem dX4_keep_54 : decode cX4_keep 54 = .ok (.bipush 11, 2) := by decide +kernel
theorem dX4_keep_56 : decode cX4_keep 56 = .ok (.if_icmp .ge 37, 3) := by decide +kernel
theorem dX4_keep_59 : decode cX4_keep 59 = .ok (.aload_n 0, 1) := by decide +kernel
theorem dX4_keep_60 : decode cX4_keep 60 = .ok (.getfield 7, 3) := by decide +kernel
theorem dX4_keep_63 : decode cX4_keep 63 = .ok (.bipush 52, 2) := by decide +kernel
theorem dX4_keep_65 : decode cX4_keep 65 = .ok (.bipush 11, 2) := by decide +kernel
theorem dX4_keep_67 : decode cX4_keep 67 = .ok (.aload_n 0, 1) := by decide +kernel
theorem dX4_keep_68 : decode cX4_keep 68 = .ok (.getfield 7, 3) := by decide +kernel
theorem dX4_keep_71 : decode cX4_keep 71 = .ok (.iconst 3, 1) := by decide +kernel
theorem dX4_keep_72 : decode cX4_keep 72 = .ok (.iaload, 1) := by decide +kernel
theorem dX4_keep_73 : decode cX4_keep 73 = .ok (.imul, 1) := by decide +kernel
theorem dX4_keep_74 : decode cX4_keep 74 = .ok (.iadd, 1) := by decide +kernel
theorem dX4_keep_75 : decode cX4_keep 75 = .ok (.iload_n 1, 1) := by decide +kernel
theorem dX4_keep_76 : decode cX4_keep 76 = .ok (.iadd, 1) := by decide +kernel
theorem dX4_keep_77 : decode cX4_keep 77 = .ok (.aload_n 0, 1) := by decide +kernel
theorem dX4_keep_78 : decode cX4_keep 78 = .ok (.getfield 7, 3) := by decide +kernel
theorem dX4_keep_81 : decode cX4_keep 81 = .ok (.bipush 11, 2) := by decide +kernel
theorem dX4_keep_83 : decode cX4_keep 83 = .ok (.iload_n 1, 1) := by decide +kernel
theorem dX4_keep_84 : decode cX4_keep 84 = .ok (.iadd, 1) := by decide +kernel
theorem dX4_keep_85 : decode cX4_keep 85 = .ok (.iaload, 1) := by decide +kernel
theorem dX4_keep_86 : decode cX4_keep 86 = .ok (.iastore, 1) := by decide +kernel
theorem dX4_keep_87 : decode cX4_keep 87 = .ok (.iinc 1 1, 3) := by decide +kernel
theorem dX4_keep_90 : decode cX4_keep 90 = .ok (.goto (-37), 3) := by decide +kernel
theorem dX4_keep_93 : decode cX4_keep 93 = .ok (.aload_n 0, 1) := by decide +kernel
theorem dX4_keep_94 : decode cX4_keep 94 = .ok (.getfield 7, 3) := by decide +kernel
theorem dX4_keep_97 : decode cX4_keep 97 = .ok (.iconst 3, 1) := by decide +kernel
theorem dX4_keep_98 : decode cX4_keep 98 = .ok (.dup2, 1) := by decide +kernel
theorem dX4_keep_99 : decode cX4_keep 99 = .ok (.iaload, 1) := by decide +kernel
theorem dX4_keep_100 : decode cX4_keep 100 = .ok (.iconst 1, 1) := by decide +kernel
theorem dX4_keep_101 : decode cX4_keep 101 = .ok (.iadd, 1) := by decide +kernel
theorem dX4_keep_102 : decode cX4_keep 102 = .ok (.iastore, 1) := by decide +kernel
theorem dX4_keep_103 : decode cX4_keep 103 = .ok (.return_, 1) := by decide +kernel
theorem dX4_turn_0 : decode cX4_turn 0 = .ok (.aload_n 0, 1) := by decide +kernel
theorem dX4_turn_1 : decode cX4_turn 1 = .ok (.getfield 7, 3) := by decide +kernel
theorem dX4_turn_4 : decode cX4_turn 4 = .ok (.iload_n 1, 1) := by decide +kernel
theorem dX4_turn_5 : decode cX4_turn 5 = .ok (.iaload, 1) := by decide +kernel
theorem dX4_turn_6 : decode cX4_turn 6 = .ok (.iload_n 2, 1) := by decide +kernel
theorem dX4_turn_7 : decode cX4_turn 7 = .ok (.ishr, 1) := by decide +kernel
theorem dX4_turn_8 : decode cX4_turn 8 = .ok (.iconst 1, 1) := by decide +kernel
theorem dX4_turn_9 : decode cX4_turn 9 = .ok (.iand, 1) := by decide +kernel
theorem dX4_turn_10 : decode cX4_turn 10 = .ok (.istore 4, 2) := by decide +kernel
theorem dX4_turn_12 : decode cX4_turn 12 = .ok (.aload_n 0, 1) := by decide +kernel
theorem dX4_turn_13 : decode cX4_turn 13 = .ok (.invokevirtual 110, 3) := by decide +kernel
theorem dX4_turn_16 : decode cX4_turn 16 = .ok (.aload_n 0, 1) := by decide +kernel
theorem dX4_turn_17 : decode cX4_turn 17 = .ok (.getfield 7, 3) := by decide +kernel
theorem dX4_turn_20 : decode cX4_turn 20 = .ok (.iload_n 1, 1) := by decide +kernel
theorem dX4_turn_21 : decode cX4_turn 21 = .ok (.iload_n 3, 1) := by decide +kernel
theorem dX4_turn_22 : decode cX4_turn 22 = .ok (.iconst 1, 1) := by decide +kernel
theorem dX4_turn_23 : decode cX4_turn 23 = .ok (.if_icmp .ne 16, 3) := by decide +kernel
theorem dX4_turn_26 : decode cX4_turn 26 = .ok (.aload_n 0, 1) := by decide +kernel
theorem dX4_turn_27 : decode cX4_turn 27 = .ok (.getfield 7, 3) := by decide +kernel
theorem dX4_turn_30 : decode cX4_turn 30 = .ok (.iload_n 1, 1) := by decide +kernel
theorem dX4_turn_31 : decode cX4_turn 31 = .ok (.iaload, 1) := by decide +kernel
theorem dX4_turn_32 : decode cX4_turn 32 = .ok (.iconst 1, 1) := by decide +kernel
theorem dX4_turn_33 : decode cX4_turn 33 = .ok (.iload_n 2, 1) := by decide +kernel
theorem dX4_turn_34 : decode cX4_turn 34 = .ok (.ishl, 1) := by decide +kernel
theorem dX4_turn_35 : decode cX4_turn 35 = .ok (.ior, 1) := by decide +kernel
theorem dX4_turn_36 : decode cX4_turn 36 = .ok (.goto 15, 3) := by decide +kernel
theorem dX4_turn_39 : decode cX4_turn 39 = .ok (.aload_n 0, 1) := by decide +kernel
theorem dX4_turn_40 : decode cX4_turn 40 = .ok (.getfield 7, 3) := by decide +kernel
theorem dX4_turn_43 : decode cX4_turn 43 = .ok (.iload_n 1, 1) := by decide +kernel
theorem dX4_turn_44 : decode cX4_turn 44 = .ok (.iaload, 1) := by decide +kernel
theorem dX4_turn_45 : decode cX4_turn 45 = .ok (.iconst 1, 1) := by decide +kernel
theorem dX4_turn_46 : decode cX4_turn 46 = .ok (.iload_n 2, 1) := by decide +kernel
theorem dX4_turn_47 : decode cX4_turn 47 = .ok (.ishl, 1) := by decide +kernel
theorem dX4_turn_48 : decode cX4_turn 48 = .ok (.iconst (-1), 1) := by decide +kernel
theorem dX4_turn_49 : decode cX4_turn 49 = .ok (.ixor, 1) := by decide +kernel
theorem dX4_turn_50 : decode cX4_turn 50 = .ok (.iand, 1) := by decide +kernel
theorem dX4_turn_51 : decode cX4_turn 51 = .ok (.iastore, 1) := by decide +kernel
theorem dX4_turn_52 : decode cX4_turn 52 = .ok (.iload 4, 2) := by decide +kernel
theorem dX4_turn_54 : decode cX4_turn 54 = .ok (.ireturn, 1) := by decide +kernel
theorem dX4_list_0 : decode cX4_list 0 = .ok (.aload_n 0, 1) := by decide +kernel
theorem dX4_list_1 : decode cX4_list 1 = .ok (.iload_n 1, 1) := by decide +kernel
theorem dX4_list_2 : decode cX4_list 2 = .ok (.invokevirtual 113, 3) := by decide +kernel
theorem dX4_list_5 : decode cX4_list 5 = .ok (.ifCond .eq 24, 3) := by decide +kernel
theorem dX4_list_8 : decode cX4_list 8 = .ok (.iload_n 2, 1) := by decide +kernel
theorem dX4_list_9 : decode cX4_list 9 = .ok (.i2l, 1) := by decide +kernel
theorem dX4_list_10 : decode cX4_list 10 = .ok (.lconst 0, 1) := by decide +kernel
theorem dX4_list_11 : decode cX4_list 11 = .ok (.lconst 1, 1) := by decide +kernel
theorem dX4_list_12 : decode cX4_list 12 = .ok (.invokestatic 56, 3) := by decide +kernel
theorem dX4_list_15 : decode cX4_list 15 = .ok (.ifCond .eq 14, 3) := by decide +kernel
theorem dX4_list_18 : decode cX4_list 18 = .ok (.aload_n 0, 1) := by decide +kernel
theorem dX4_list_19 : decode cX4_list 19 = .ok (.bipush 18, 2) := by decide +kernel
theorem dX4_list_21 : decode cX4_list 21 = .ok (.iload_n 1, 1) := by decide +kernel
theorem dX4_list_22 : decode cX4_list 22 = .ok (.iload_n 2, 1) := by decide +kernel
theorem dX4_list_23 : decode cX4_list 23 = .ok (.invokevirtual 116, 3) := by decide +kernel
theorem dX4_list_26 : decode cX4_list 26 = .ok (.goto 9, 3) := by decide +kernel
theorem dX4_list_29 : decode cX4_list 29 = .ok (.aload_n 0, 1) := by decide +kernel
theorem dX4_list_30 : decode cX4_list 30 = .ok (.bipush (-2), 2) := by decide +kernel
theorem dX4_list_32 : decode cX4_list 32 = .ok (.invokevirtual 62, 3) := by decide +kernel
theorem dX4_list_35 : decode cX4_list 35 = .ok (.ireturn, 1) := by decide +kernel
theorem dX4_follow_0 : decode cX4_follow 0 = .ok (.aload_n 0, 1) := by decide +kernel
theorem dX4_follow_1 : decode cX4_follow 1 = .ok (.iload_n 1, 1) := by decide +kernel
theorem dX4_follow_2 : decode cX4_follow 2 = .ok (.invokevirtual 113, 3) := by decide +kernel
theorem dX4_follow_5 : decode cX4_follow 5 = .ok (.ifCond .eq 24, 3) := by decide +kernel
theorem dX4_follow_8 : decode cX4_follow 8 = .ok (.iload_n 2, 1) := by decide +kernel
theorem dX4_follow_9 : decode cX4_follow 9 = .ok (.i2l, 1) := by decide +kernel
theorem dX4_follow_10 : decode cX4_follow 10 = .ok (.lconst 0, 1) := by decide +kernel
theorem dX4_follow_11 : decode cX4_follow 11 = .ok (.lconst 1, 1) := by decide +kernel
theorem dX4_follow_12 : decode cX4_follow 12 = .ok (.invokestatic 56, 3) := by decide +kernel
theorem dX4_follow_15 : decode cX4_follow 15 = .ok (.ifCond .eq 14, 3) := by decide +kernel
theorem dX4_follow_18 : decode cX4_follow 18 = .ok (.aload_n 0, 1) := by decide +kernel
theorem dX4_follow_19 : decode cX4_follow 19 = .ok (.bipush 19, 2) := by decide +kernel
theorem dX4_follow_21 : decode cX4_follow 21 = .ok (.iload_n 1, 1) := by decide +kernel
theorem dX4_follow_22 : decode cX4_follow 22 = .ok (.iload_n 2, 1) := by decide +kernel
theorem dX4_follow_23 : decode cX4_follow 23 = .ok (.invokevirtual 116, 3) := by decide +kernel
theorem dX4_follow_26 : decode cX4_follow 26 = .ok (.goto 9, 3) := by decide +kernel
theorem dX4_follow_29 : decode cX4_follow 29 = .ok (.aload_n 0, 1) := by decide +kernel
theorem dX4_follow_30 : decode cX4_follow 30 = .ok (.bipush (-2), 2) := by decide +kernel
theorem dX4_follow_32 : decode cX4_follow 32 = .ok (.invokevirtual 62, 3) := by decide +kernel
theorem dX4_follow_35 : decode cX4_follow 35 = .ok (.ireturn, 1) := by decide +kernel
theorem dX4_day_0 : decode cX4_day 0 = .ok (.iload_n 1, 1) := by decide +kernel
theorem dX4_day_1 : decode cX4_day 1 = .ok (.i2l, 1) := by decide +kernel
theorem dX4_day_2 : decode cX4_day 2 = .ok (.lconst 1, 1) := by decide +kernel
theorem dX4_day_3 : decode cX4_day 3 = .ok (.ldc2_w 120, 3) := by decide +kernel
theorem dX4_day_6 : decode cX4_day 6 = .ok (.invokestatic 56, 3) := by decide +kernel
theorem dX4_day_9 : decode cX4_day 9 = .ok (.ifCond .ne 10, 3) := by decide +kernel
theorem dX4_day_12 : decode cX4_day 12 = .ok (.aload_n 0, 1) := by decide +kernel
theorem dX4_day_13 : decode cX4_day 13 = .ok (.bipush (-2), 2) := by decide +kernel
theorem dX4_day_15 : decode cX4_day 15 = .ok (.invokevirtual 62, 3) := by decide +kernel
theorem dX4_day_18 : decode cX4_day 18 = .ok (.ireturn, 1) := by decide +kernel
theorem dX4_day_19 : decode cX4_day 19 = .ok (.iconst 0, 1) := by decide +kernel
theorem dX4_day_20 : decode cX4_day 20 = .ok (.istore_n 2, 1) := by decide +kernel
theorem dX4_day_21 : decode cX4_day 21 = .ok (.iconst 0, 1) := by decide +kernel
theorem dX4_day_22 : decode cX4_day 22 = .ok (.istore_n 3, 1) := by decide +kernel
theorem dX4_day_23 : decode cX4_day 23 = .ok (.iload_n 3, 1) := by decide +kernel
theorem dX4_day_24 : decode cX4_day 24 = .ok (.iload_n 1, 1) := by decide +kernel
theorem dX4_day_25 : decode cX4_day 25 = .ok (.if_icmp .ge 111, 3) := by decide +kernel
theorem dX4_day_28 : decode cX4_day 28 = .ok (.aload_n 0, 1) := by decide +kernel
theorem dX4_day_29 : decode cX4_day 29 = .ok (.invokevirtual 110, 3) := by decide +kernel
theorem dX4_day_32 : decode cX4_day 32 = .ok (.aload_n 0, 1) := by decide +kernel
theorem dX4_day_33 : decode cX4_day 33 = .ok (.invokevirtual 122, 3) := by decide +kernel
theorem dX4_day_36 : decode cX4_day 36 = .ok (.aload_n 0, 1) := by decide +kernel
theorem dX4_day_37 : decode cX4_day 37 = .ok (.invokevirtual 125, 3) := by decide +kernel
theorem dX4_day_40 : decode cX4_day 40 = .ok (.istore 4, 2) := by decide +kernel
theorem dX4_day_42 : decode cX4_day 42 = .ok (.iload_n 2, 1) := by decide +kernel
theorem dX4_day_43 : decode cX4_day 43 = .ok (.iload 4, 2) := by decide +kernel
theorem dX4_day_45 : decode cX4_day 45 = .ok (.ior, 1) := by decide +kernel
theorem dX4_day_46 : decode cX4_day 46 = .ok (.istore_n 2, 1) := by decide +kernel
theorem dX4_day_47 : decode cX4_day 47 = .ok (.iconst 0, 1) := by decide +kernel
theorem dX4_day_48 : decode cX4_day 48 = .ok (.istore 5, 2) := by decide +kernel
theorem dX4_day_50 : decode cX4_day 50 = .ok (.iload 5, 2) := by decide +kernel
theorem dX4_day_52 : decode cX4_day 52 = .ok (.aload_n 0, 1) := by decide +kernel
theorem dX4_day_53 : decode cX4_day 53 = .ok (.invokevirtual 52, 3) := by decide +kernel
theorem dX4_day_56 : decode cX4_day 56 = .ok (.if_icmp .ge 26, 3) := by decide +kernel
theorem dX4_day_59 : decode cX4_day 59 = .ok (.aload_n 0, 1) := by decide +kernel
theorem dX4_day_60 : decode cX4_day 60 = .ok (.getfield 7, 3) := by decide +kernel
theorem dX4_day_63 : decode cX4_day 63 = .ok (.bipush 11, 2) := by decide +kernel
theorem dX4_day_65 : decode cX4_day 65 = .ok (.iload 5, 2) := by decide +kernel
theorem dX4_day_67 : decode cX4_day 67 = .ok (.iadd, 1) := by decide +kernel
theorem dX4_day_68 : decode cX4_day 68 = .ok (.aload_n 0, 1) := by decide +kernel
theorem dX4_day_69 : decode cX4_day 69 = .ok (.getfield 27, 3) := by decide +kernel
theorem dX4_day_72 : decode cX4_day 72 = .ok (.iload 5, 2) := by decide +kernel
theorem dX4_day_74 : decode cX4_day 74 = .ok (.iaload, 1) := by decide +kernel
theorem dX4_day_75 : decode cX4_day 75 = .ok (.iastore, 1) := by decide +kernel
theorem dX4_day_76 : decode cX4_day 76 = .ok (.iinc 5 1, 3) := by decide +kernel
theorem dX4_day_79 : decode cX4_day 79 = .ok (.goto (-29), 3) := by decide +kernel
theorem dX4_day_82 : decode cX4_day 82 = .ok (.aload_n 0, 1) := by decide +kernel
theorem dX4_day_83 : decode cX4_day 83 = .ok (.getfield 7, 3) := by decide +kernel
theorem dX4_day_86 : decode cX4_day 86 = .ok (.bipush 18, 2) := by decide +kernel
theorem dX4_day_88 : decode cX4_day 88 = .ok (.aload_n 0, 1) := by decide +kernel
theorem dX4_day_89 : decode cX4_day 89 = .ok (.getfield 78, 3) := by decide +kernel
theorem dX4_day_92 : decode cX4_day 92 = .ok (.iastore, 1) := by decide +kernel
theorem dX4_day_93 : decode cX4_day 93 = .ok (.aload_n 0, 1) := by decide +kernel
theorem dX4_day_94 : decode cX4_day 94 = .ok (.getfield 7, 3) := by decide +kernel
theorem dX4_day_97 : decode cX4_day 97 = .ok (.bipush 19, 2) := by decide +kernel
theorem dX4_day_99 : decode cX4_day 99 = .ok (.aload_n 0, 1) := by decide +kernel
theorem dX4_day_100 : decode cX4_day 100 = .ok (.getfield 82, 3) := by decide +kernel
theorem dX4_day_103 : decode cX4_day 103 = .ok (.iastore, 1) := by decide +kernel
theorem dX4_day_104 : decode cX4_day 104 = .ok (.aload_n 0, 1) := by decide +kernel
theorem dX4_day_105 : decode cX4_day 105 = .ok (.getfield 7, 3) := by decide +kernel
theorem dX4_day_108 : decode cX4_day 108 = .ok (.bipush 20, 2) := by decide +kernel
theorem dX4_day_110 : decode cX4_day 110 = .ok (.dup2, 1) := by decide +kernel
theorem dX4_day_111 : decode cX4_day 111 = .ok (.iaload, 1) := by decide +kernel
theorem dX4_day_112 : decode cX4_day 112 = .ok (.iload 4, 2) := by decide +kernel
theorem dX4_day_114 : decode cX4_day 114 = .ok (.invokestatic 128, 3) := by decide +kernel
theorem dX4_day_117 : decode cX4_day 117 = .ok (.iadd, 1) := by decide +kernel
theorem dX4_day_118 : decode cX4_day 118 = .ok (.iastore, 1) := by decide +kernel
theorem dX4_day_119 : decode cX4_day 119 = .ok (.aload_n 0, 1) := by decide +kernel
theorem dX4_day_120 : decode cX4_day 120 = .ok (.getfield 7, 3) := by decide +kernel
theorem dX4_day_123 : decode cX4_day 123 = .ok (.bipush 21, 2) := by decide +kernel
theorem dX4_day_125 : decode cX4_day 125 = .ok (.dup2, 1) := by decide +kernel
theorem dX4_day_126 : decode cX4_day 126 = .ok (.iaload, 1) := by decide +kernel
theorem dX4_day_127 : decode cX4_day 127 = .ok (.iconst 1, 1) := by decide +kernel
theorem dX4_day_128 : decode cX4_day 128 = .ok (.iadd, 1) := by decide +kernel
theorem dX4_day_129 : decode cX4_day 129 = .ok (.iastore, 1) := by decide +kernel
theorem dX4_day_130 : decode cX4_day 130 = .ok (.iinc 3 1, 3) := by decide +kernel
theorem dX4_day_133 : decode cX4_day 133 = .ok (.goto (-110), 3) := by decide +kernel
theorem dX4_day_136 : decode cX4_day 136 = .ok (.iload_n 2, 1) := by decide +kernel
theorem dX4_day_137 : decode cX4_day 137 = .ok (.ireturn, 1) := by decide +kernel
theorem dX4_undo_0 : decode cX4_undo 0 = .ok (.aload_n 0, 1) := by decide +kernel
theorem dX4_undo_1 : decode cX4_undo 1 = .ok (.getfield 7, 3) := by decide +kernel
theorem dX4_undo_4 : decode cX4_undo 4 = .ok (.iconst 3, 1) := by decide +kernel
theorem dX4_undo_5 : decode cX4_undo 5 = .ok (.iaload, 1) := by decide +kernel
theorem dX4_undo_6 : decode cX4_undo 6 = .ok (.ifCond .ne 8, 3) := by decide +kernel
theorem dX4_undo_9 : decode cX4_undo 9 = .ok (.aload_n 0, 1) := by decide +kernel
theorem dX4_undo_10 : decode cX4_undo 10 = .ok (.invokevirtual 131, 3) := by decide +kernel
theorem dX4_undo_13 : decode cX4_undo 13 = .ok (.ireturn, 1) := by decide +kernel
theorem dX4_undo_14 : decode cX4_undo 14 = .ok (.aload_n 0, 1) := by decide +kernel
theorem dX4_undo_15 : decode cX4_undo 15 = .ok (.getfield 7, 3) := by decide +kernel
theorem dX4_undo_18 : decode cX4_undo 18 = .ok (.iconst 3, 1) := by decide +kernel
theorem dX4_undo_19 : decode cX4_undo 19 = .ok (.dup2, 1) := by decide +kernel
theorem dX4_undo_20 : decode cX4_undo 20 = .ok (.iaload, 1) := by decide +kernel
theorem dX4_undo_21 : decode cX4_undo 21 = .ok (.iconst 1, 1) := by decide +kernel
theorem dX4_undo_22 : decode cX4_undo 22 = .ok (.isub, 1) := by decide +kernel
theorem dX4_undo_23 : decode cX4_undo 23 = .ok (.iastore, 1) := by decide +kernel
theorem dX4_undo_24 : decode cX4_undo 24 = .ok (.iconst 0, 1) := by decide +kernel
theorem dX4_undo_25 : decode cX4_undo 25 = .ok (.istore_n 1, 1) := by decide +kernel
theorem dX4_undo_26 : decode cX4_undo 26 = .ok (.iload_n 1, 1) := by decide +kernel
theorem dX4_undo_27 : decode cX4_undo 27 = .ok (.bipush 11, 2) := by decide +kernel
theorem dX4_undo_29 : decode cX4_undo 29 = .ok (.if_icmp .ge 37, 3) := by decide +kernel
theorem dX4_undo_32 : decode cX4_undo 32 = .ok (.aload_n 0, 1) := by decide +kernel
theorem dX4_undo_33 : decode cX4_undo 33 = .ok (.getfield 7, 3) := by decide +kernel
theorem dX4_undo_36 : decode cX4_undo 36 = .ok (.bipush 11, 2) := by decide +kernel
theorem dX4_undo_38 : decode cX4_undo 38 = .ok (.iload_n 1, 1) := by decide +kernel
theorem dX4_undo_39 : decode cX4_undo 39 = .ok (.iadd, 1) := by decide +kernel
theorem dX4_undo_40 : decode cX4_undo 40 = .ok (.aload_n 0, 1) := by decide +kernel
theorem dX4_undo_41 : decode cX4_undo 41 = .ok (.getfield 7, 3) := by decide +kernel
theorem dX4_undo_44 : decode cX4_undo 44 = .ok (.bipush 52, 2) := by decide +kernel
theorem dX4_undo_46 : decode cX4_undo 46 = .ok (.bipush 11, 2) := by decide +kernel
theorem dX4_undo_48 : decode cX4_undo 48 = .ok (.aload_n 0, 1) := by decide +kernel
theorem dX4_undo_49 : decode cX4_undo 49 = .ok (.getfield 7, 3) := by decide +kernel
theorem dX4_undo_52 : decode cX4_undo 52 = .ok (.iconst 3, 1) := by decide +kernel
theorem dX4_undo_53 : decode cX4_undo 53 = .ok (.iaload, 1) := by decide +kernel
theorem dX4_undo_54 : decode cX4_undo 54 = .ok (.imul, 1) := by decide +kernel
theorem dX4_undo_55 : decode cX4_undo 55 = .ok (.iadd, 1) := by decide +kernel
theorem dX4_undo_56 : decode cX4_undo 56 = .ok (.iload_n 1, 1) := by decide +kernel
theorem dX4_undo_57 : decode cX4_undo 57 = .ok (.iadd, 1) := by decide +kernel
theorem dX4_undo_58 : decode cX4_undo 58 = .ok (.iaload, 1) := by decide +kernel
theorem dX4_undo_59 : decode cX4_undo 59 = .ok (.iastore, 1) := by decide +kernel
theorem dX4_undo_60 : decode cX4_undo 60 = .ok (.iinc 1 1, 3) := by decide +kernel
theorem dX4_undo_63 : decode cX4_undo 63 = .ok (.goto (-37), 3) := by decide +kernel
theorem dX4_undo_66 : decode cX4_undo 66 = .ok (.aload_n 0, 1) := by decide +kernel
theorem dX4_undo_67 : decode cX4_undo 67 = .ok (.getfield 7, 3) := by decide +kernel
theorem dX4_undo_70 : decode cX4_undo 70 = .ok (.bipush 21, 2) := by decide +kernel
theorem dX4_undo_72 : decode cX4_undo 72 = .ok (.iaload, 1) := by decide +kernel
theorem dX4_undo_73 : decode cX4_undo 73 = .ok (.ireturn, 1) := by decide +kernel
theorem dX4_of_0 : decode cX4_of 0 = .ok (.aload_n 0, 1) := by decide +kernel
theorem dX4_of_1 : decode cX4_of 1 = .ok (.iload_n 1, 1) := by decide +kernel
theorem dX4_of_2 : decode cX4_of 2 = .ok (.invokevirtual 113, 3) := by decide +kernel
theorem dX4_of_5 : decode cX4_of 5 = .ok (.ifCond .eq 15, 3) := by decide +kernel
theorem dX4_of_8 : decode cX4_of 8 = .ok (.iload_n 2, 1) := by decide +kernel
theorem dX4_of_9 : decode cX4_of 9 = .ok (.i2l, 1) := by decide +kernel
theorem dX4_of_10 : decode cX4_of 10 = .ok (.lconst 0, 1) := by decide +kernel
theorem dX4_of_11 : decode cX4_of 11 = .ok (.ldc2_w 134, 3) := by decide +kernel
theorem dX4_of_14 : decode cX4_of 14 = .ok (.invokestatic 56, 3) := by decide +kernel
theorem dX4_of_17 : decode cX4_of 17 = .ok (.ifCond .ne 10, 3) := by decide +kernel
theorem dX4_of_20 : decode cX4_of 20 = .ok (.aload_n 0, 1) := by decide +kernel
theorem dX4_of_21 : decode cX4_of 21 = .ok (.bipush (-2), 2) := by decide +kernel
theorem dX4_of_23 : decode cX4_of 23 = .ok (.invokevirtual 62, 3) := by decide +kernel
theorem dX4_of_26 : decode cX4_of 26 = .ok (.ireturn, 1) := by decide +kernel
theorem dX4_of_27 : decode cX4_of 27 = .ok (.aload_n 0, 1) := by decide +kernel
theorem dX4_of_28 : decode cX4_of 28 = .ok (.invokevirtual 122, 3) := by decide +kernel
theorem dX4_of_31 : decode cX4_of 31 = .ok (.iload_n 2, 1) := by decide +kernel
theorem dX4_of_32 : decode cX4_of 32 = .ok (.tableswitch 63 0 3 #[32, 38, 45, 54], 32) := by decide +kernel
theorem dX4_of_64 : decode cX4_of 64 = .ok (.aload_n 0, 1) := by decide +kernel
theorem dX4_of_65 : decode cX4_of 65 = .ok (.iload_n 1, 1) := by decide +kernel
theorem dX4_of_66 : decode cX4_of 66 = .ok (.invokevirtual 88, 3) := by decide +kernel
theorem dX4_of_69 : decode cX4_of 69 = .ok (.ireturn, 1) := by decide +kernel
theorem dX4_of_70 : decode cX4_of 70 = .ok (.aload_n 0, 1) := by decide +kernel
theorem dX4_of_71 : decode cX4_of 71 = .ok (.getfield 27, 3) := by decide +kernel
theorem dX4_of_74 : decode cX4_of 74 = .ok (.iload_n 1, 1) := by decide +kernel
theorem dX4_of_75 : decode cX4_of 75 = .ok (.iaload, 1) := by decide +kernel
theorem dX4_of_76 : decode cX4_of 76 = .ok (.ireturn, 1) := by decide +kernel
theorem dX4_of_77 : decode cX4_of 77 = .ok (.aload_n 0, 1) := by decide +kernel
theorem dX4_of_78 : decode cX4_of 78 = .ok (.getfield 78, 3) := by decide +kernel
theorem dX4_of_81 : decode cX4_of 81 = .ok (.iload_n 1, 1) := by decide +kernel
theorem dX4_of_82 : decode cX4_of 82 = .ok (.ishr, 1) := by decide +kernel
theorem dX4_of_83 : decode cX4_of 83 = .ok (.iconst 1, 1) := by decide +kernel
theorem dX4_of_84 : decode cX4_of 84 = .ok (.iand, 1) := by decide +kernel
theorem dX4_of_85 : decode cX4_of 85 = .ok (.ireturn, 1) := by decide +kernel
theorem dX4_of_86 : decode cX4_of 86 = .ok (.aload_n 0, 1) := by decide +kernel
theorem dX4_of_87 : decode cX4_of 87 = .ok (.getfield 82, 3) := by decide +kernel
theorem dX4_of_90 : decode cX4_of 90 = .ok (.iload_n 1, 1) := by decide +kernel
theorem dX4_of_91 : decode cX4_of 91 = .ok (.ishr, 1) := by decide +kernel
theorem dX4_of_92 : decode cX4_of 92 = .ok (.iconst 1, 1) := by decide +kernel
theorem dX4_of_93 : decode cX4_of 93 = .ok (.iand, 1) := by decide +kernel
theorem dX4_of_94 : decode cX4_of 94 = .ok (.ireturn, 1) := by decide +kernel
theorem dX4_of_95 : decode cX4_of 95 = .ok (.aload_n 0, 1) := by decide +kernel
theorem dX4_of_96 : decode cX4_of 96 = .ok (.iload_n 1, 1) := by decide +kernel
theorem dX4_of_97 : decode cX4_of 97 = .ok (.invokevirtual 99, 3) := by decide +kernel
theorem dX4_of_100 : decode cX4_of 100 = .ok (.ireturn, 1) := by decide +kernel
theorem dX4_then_0 : decode cX4_then 0 = .ok (.aload_n 0, 1) := by decide +kernel
theorem dX4_then_1 : decode cX4_then 1 = .ok (.iload_n 1, 1) := by decide +kernel
theorem dX4_then_2 : decode cX4_then 2 = .ok (.invokevirtual 113, 3) := by decide +kernel
theorem dX4_then_5 : decode cX4_then 5 = .ok (.ifCond .eq 25, 3) := by decide +kernel
theorem dX4_then_8 : decode cX4_then 8 = .ok (.iload_n 2, 1) := by decide +kernel
theorem dX4_then_9 : decode cX4_then 9 = .ok (.i2l, 1) := by decide +kernel
theorem dX4_then_10 : decode cX4_then 10 = .ok (.lconst 0, 1) := by decide +kernel
theorem dX4_then_11 : decode cX4_then 11 = .ok (.ldc2_w 120, 3) := by decide +kernel
theorem dX4_then_14 : decode cX4_then 14 = .ok (.invokestatic 56, 3) := by decide +kernel
theorem dX4_then_17 : decode cX4_then 17 = .ok (.ifCond .eq 13, 3) := by decide +kernel
theorem dX4_then_20 : decode cX4_then 20 = .ok (.iload_n 3, 1) := by decide +kernel
theorem dX4_then_21 : decode cX4_then 21 = .ok (.i2l, 1) := by decide +kernel
theorem dX4_then_22 : decode cX4_then 22 = .ok (.lconst 0, 1) := by decide +kernel
theorem dX4_then_23 : decode cX4_then 23 = .ok (.lconst 1, 1) := by decide +kernel
theorem dX4_then_24 : decode cX4_then 24 = .ok (.invokestatic 56, 3) := by decide +kernel
theorem dX4_then_27 : decode cX4_then 27 = .ok (.ifCond .ne 10, 3) := by decide +kernel
theorem dX4_then_30 : decode cX4_then 30 = .ok (.aload_n 0, 1) := by decide +kernel
theorem dX4_then_31 : decode cX4_then 31 = .ok (.bipush (-2), 2) := by decide +kernel
theorem dX4_then_33 : decode cX4_then 33 = .ok (.invokevirtual 62, 3) := by decide +kernel
theorem dX4_then_36 : decode cX4_then 36 = .ok (.ireturn, 1) := by decide +kernel
theorem dX4_then_37 : decode cX4_then 37 = .ok (.aload_n 0, 1) := by decide +kernel
theorem dX4_then_38 : decode cX4_then 38 = .ok (.invokevirtual 122, 3) := by decide +kernel
theorem dX4_then_41 : decode cX4_then 41 = .ok (.iconst 0, 1) := by decide +kernel
theorem dX4_then_42 : decode cX4_then 42 = .ok (.istore 4, 2) := by decide +kernel
theorem dX4_then_44 : decode cX4_then 44 = .ok (.iload 4, 2) := by decide +kernel
theorem dX4_then_46 : decode cX4_then 46 = .ok (.iload_n 2, 1) := by decide +kernel
theorem dX4_then_47 : decode cX4_then 47 = .ok (.if_icmp .ge 15, 3) := by decide +kernel
theorem dX4_then_50 : decode cX4_then 50 = .ok (.aload_n 0, 1) := by decide +kernel
theorem dX4_then_51 : decode cX4_then 51 = .ok (.invokevirtual 125, 3) := by decide +kernel
theorem dX4_then_54 : decode cX4_then 54 = .ok (.istore 5, 2) := by decide +kernel
theorem dX4_then_56 : decode cX4_then 56 = .ok (.iinc 4 1, 3) := by decide +kernel
theorem dX4_then_59 : decode cX4_then 59 = .ok (.goto (-15), 3) := by decide +kernel
theorem dX4_then_62 : decode cX4_then 62 = .ok (.iload_n 3, 1) := by decide +kernel
theorem dX4_then_63 : decode cX4_then 63 = .ok (.ifCond .ne 11, 3) := by decide +kernel
theorem dX4_then_66 : decode cX4_then 66 = .ok (.aload_n 0, 1) := by decide +kernel
theorem dX4_then_67 : decode cX4_then 67 = .ok (.iload_n 1, 1) := by decide +kernel
theorem dX4_then_68 : decode cX4_then 68 = .ok (.invokevirtual 99, 3) := by decide +kernel
theorem dX4_then_71 : decode cX4_then 71 = .ok (.goto 9, 3) := by decide +kernel
theorem dX4_then_74 : decode cX4_then 74 = .ok (.aload_n 0, 1) := by decide +kernel
theorem dX4_then_75 : decode cX4_then 75 = .ok (.getfield 27, 3) := by decide +kernel
theorem dX4_then_78 : decode cX4_then 78 = .ok (.iload_n 1, 1) := by decide +kernel
theorem dX4_then_79 : decode cX4_then 79 = .ok (.iaload, 1) := by decide +kernel
theorem dX4_then_80 : decode cX4_then 80 = .ok (.ireturn, 1) := by decide +kernel
theorem dX4_when_0 : decode cX4_when 0 = .ok (.aload_n 0, 1) := by decide +kernel
theorem dX4_when_1 : decode cX4_when 1 = .ok (.iload_n 1, 1) := by decide +kernel
theorem dX4_when_2 : decode cX4_when 2 = .ok (.invokevirtual 113, 3) := by decide +kernel
theorem dX4_when_5 : decode cX4_when 5 = .ok (.ifCond .ne 10, 3) := by decide +kernel
theorem dX4_when_8 : decode cX4_when 8 = .ok (.aload_n 0, 1) := by decide +kernel
theorem dX4_when_9 : decode cX4_when 9 = .ok (.bipush (-2), 2) := by decide +kernel
theorem dX4_when_11 : decode cX4_when 11 = .ok (.invokevirtual 62, 3) := by decide +kernel
theorem dX4_when_14 : decode cX4_when 14 = .ok (.ireturn, 1) := by decide +kernel
theorem dX4_when_15 : decode cX4_when 15 = .ok (.aload_n 0, 1) := by decide +kernel
theorem dX4_when_16 : decode cX4_when 16 = .ok (.invokevirtual 122, 3) := by decide +kernel
theorem dX4_when_19 : decode cX4_when 19 = .ok (.iconst 1, 1) := by decide +kernel
theorem dX4_when_20 : decode cX4_when 20 = .ok (.istore_n 2, 1) := by decide +kernel
theorem dX4_when_21 : decode cX4_when 21 = .ok (.iload_n 2, 1) := by decide +kernel
theorem dX4_when_22 : decode cX4_when 22 = .ok (.bipush 60, 2) := by decide +kernel
theorem dX4_when_24 : decode cX4_when 24 = .ok (.if_icmp .gt 22, 3) := by decide +kernel
theorem dX4_when_27 : decode cX4_when 27 = .ok (.aload_n 0, 1) := by decide +kernel
theorem dX4_when_28 : decode cX4_when 28 = .ok (.invokevirtual 125, 3) := by decide +kernel
theorem dX4_when_31 : decode cX4_when 31 = .ok (.iload_n 1, 1) := by decide +kernel
theorem dX4_when_32 : decode cX4_when 32 = .ok (.invokestatic 91, 3) := by decide +kernel
theorem dX4_when_35 : decode cX4_when 35 = .ok (.ifCond .eq 5, 3) := by decide +kernel
theorem dX4_when_38 : decode cX4_when 38 = .ok (.iload_n 2, 1) := by decide +kernel
theorem dX4_when_39 : decode cX4_when 39 = .ok (.ireturn, 1) := by decide +kernel
theorem dX4_when_40 : decode cX4_when 40 = .ok (.iinc 2 1, 3) := by decide +kernel
theorem dX4_when_43 : decode cX4_when 43 = .ok (.goto (-22), 3) := by decide +kernel
theorem dX4_when_46 : decode cX4_when 46 = .ok (.iconst (-1), 1) := by decide +kernel
theorem dX4_when_47 : decode cX4_when 47 = .ok (.ireturn, 1) := by decide +kernel
theorem dX4_doesItIn_0 : decode cX4_doesItIn 0 = .ok (.iconst 0, 1) := by decide +kernel
theorem dX4_doesItIn_1 : decode cX4_doesItIn 1 = .ok (.istore 4, 2) := by decide +kernel
theorem dX4_doesItIn_3 : decode cX4_doesItIn 3 = .ok (.aload_n 0, 1) := by decide +kernel
theorem dX4_doesItIn_4 : decode cX4_doesItIn 4 = .ok (.invokevirtual 122, 3) := by decide +kernel
theorem dX4_doesItIn_7 : decode cX4_doesItIn 7 = .ok (.aload_n 0, 1) := by decide +kernel
theorem dX4_doesItIn_8 : decode cX4_doesItIn 8 = .ok (.iconst 0, 1) := by decide +kernel
theorem dX4_doesItIn_9 : decode cX4_doesItIn 9 = .ok (.putfield 78, 3) := by decide +kernel
theorem dX4_doesItIn_12 : decode cX4_doesItIn 12 = .ok (.aload_n 0, 1) := by decide +kernel
theorem dX4_doesItIn_13 : decode cX4_doesItIn 13 = .ok (.iload_n 3, 1) := by decide +kernel
theorem dX4_doesItIn_14 : decode cX4_doesItIn 14 = .ok (.ifCond .eq 9, 3) := by decide +kernel
theorem dX4_doesItIn_17 : decode cX4_doesItIn 17 = .ok (.iconst 1, 1) := by decide +kernel
theorem dX4_doesItIn_18 : decode cX4_doesItIn 18 = .ok (.iload_n 1, 1) := by decide +kernel
theorem dX4_doesItIn_19 : decode cX4_doesItIn 19 = .ok (.ishl, 1) := by decide +kernel
theorem dX4_doesItIn_20 : decode cX4_doesItIn 20 = .ok (.goto 4, 3) := by decide +kernel
theorem dX4_doesItIn_23 : decode cX4_doesItIn 23 = .ok (.iconst 0, 1) := by decide +kernel
theorem dX4_doesItIn_24 : decode cX4_doesItIn 24 = .ok (.putfield 82, 3) := by decide +kernel
theorem dX4_doesItIn_27 : decode cX4_doesItIn 27 = .ok (.iconst 0, 1) := by decide +kernel
theorem dX4_doesItIn_28 : decode cX4_doesItIn 28 = .ok (.istore 5, 2) := by decide +kernel
theorem dX4_doesItIn_30 : decode cX4_doesItIn 30 = .ok (.iload 5, 2) := by decide +kernel
theorem dX4_doesItIn_32 : decode cX4_doesItIn 32 = .ok (.iload_n 2, 1) := by decide +kernel
theorem dX4_doesItIn_33 : decode cX4_doesItIn 33 = .ok (.if_icmp .ge 35, 3) := by decide +kernel
theorem dX4_doesItIn_36 : decode cX4_doesItIn 36 = .ok (.iload 4, 2) := by decide +kernel
theorem dX4_doesItIn_38 : decode cX4_doesItIn 38 = .ok (.ifCond .ne 11, 3) := by decide +kernel
theorem dX4_doesItIn_41 : decode cX4_doesItIn 41 = .ok (.aload_n 0, 1) := by decide +kernel
theorem dX4_doesItIn_42 : decode cX4_doesItIn 42 = .ok (.iload_n 1, 1) := by decide +kernel
theorem dX4_doesItIn_43 : decode cX4_doesItIn 43 = .ok (.invokevirtual 102, 3) := by decide +kernel
theorem dX4_doesItIn_46 : decode cX4_doesItIn 46 = .ok (.ifCond .eq 7, 3) := by decide +kernel
theorem dX4_doesItIn_49 : decode cX4_doesItIn 49 = .ok (.iconst 1, 1) := by decide +kernel
theorem dX4_doesItIn_50 : decode cX4_doesItIn 50 = .ok (.goto 4, 3) := by decide +kernel
theorem dX4_doesItIn_53 : decode cX4_doesItIn 53 = .ok (.iconst 0, 1) := by decide +kernel
theorem dX4_doesItIn_54 : decode cX4_doesItIn 54 = .ok (.istore 4, 2) := by decide +kernel
theorem dX4_doesItIn_56 : decode cX4_doesItIn 56 = .ok (.aload_n 0, 1) := by decide +kernel
theorem dX4_doesItIn_57 : decode cX4_doesItIn 57 = .ok (.invokevirtual 125, 3) := by decide +kernel
theorem dX4_doesItIn_60 : decode cX4_doesItIn 60 = .ok (.istore 6, 2) := by decide +kernel
theorem dX4_doesItIn_62 : decode cX4_doesItIn 62 = .ok (.iinc 5 1, 3) := by decide +kernel
theorem dX4_doesItIn_65 : decode cX4_doesItIn 65 = .ok (.goto (-35), 3) := by decide +kernel
theorem dX4_doesItIn_68 : decode cX4_doesItIn 68 = .ok (.iload 4, 2) := by decide +kernel
theorem dX4_doesItIn_70 : decode cX4_doesItIn 70 = .ok (.ireturn, 1) := by decide +kernel
theorem dX4_lack_0 : decode cX4_lack 0 = .ok (.iconst 0, 1) := by decide +kernel
theorem dX4_lack_1 : decode cX4_lack 1 = .ok (.istore_n 1, 1) := by decide +kernel
theorem dX4_lack_2 : decode cX4_lack 2 = .ok (.iconst 0, 1) := by decide +kernel
theorem dX4_lack_3 : decode cX4_lack 3 = .ok (.istore_n 2, 1) := by decide +kernel
theorem dX4_lack_4 : decode cX4_lack 4 = .ok (.iload_n 2, 1) := by decide +kernel
theorem dX4_lack_5 : decode cX4_lack 5 = .ok (.aload_n 0, 1) := by decide +kernel
theorem dX4_lack_6 : decode cX4_lack 6 = .ok (.invokevirtual 52, 3) := by decide +kernel
theorem dX4_lack_9 : decode cX4_lack 9 = .ok (.if_icmp .ge 41, 3) := by decide +kernel
theorem dX4_lack_12 : decode cX4_lack 12 = .ok (.iload_n 1, 1) := by decide +kernel
theorem dX4_lack_13 : decode cX4_lack 13 = .ok (.aload_n 0, 1) := by decide +kernel
theorem dX4_lack_14 : decode cX4_lack 14 = .ok (.iload_n 2, 1) := by decide +kernel
theorem dX4_lack_15 : decode cX4_lack 15 = .ok (.bipush 30, 2) := by decide +kernel
theorem dX4_lack_17 : decode cX4_lack 17 = .ok (.iconst 1, 1) := by decide +kernel
theorem dX4_lack_18 : decode cX4_lack 18 = .ok (.invokevirtual 136, 3) := by decide +kernel
theorem dX4_lack_21 : decode cX4_lack 21 = .ok (.ifCond .eq 20, 3) := by decide +kernel
theorem dX4_lack_24 : decode cX4_lack 24 = .ok (.aload_n 0, 1) := by decide +kernel
theorem dX4_lack_25 : decode cX4_lack 25 = .ok (.iload_n 2, 1) := by decide +kernel
theorem dX4_lack_26 : decode cX4_lack 26 = .ok (.bipush 30, 2) := by decide +kernel
theorem dX4_lack_28 : decode cX4_lack 28 = .ok (.iconst 0, 1) := by decide +kernel
theorem dX4_lack_29 : decode cX4_lack 29 = .ok (.invokevirtual 136, 3) := by decide +kernel
theorem dX4_lack_32 : decode cX4_lack 32 = .ok (.ifCond .ne 9, 3) := by decide +kernel
theorem dX4_lack_35 : decode cX4_lack 35 = .ok (.iconst 1, 1) := by decide +kernel
theorem dX4_lack_36 : decode cX4_lack 36 = .ok (.iload_n 2, 1) := by decide +kernel
theorem dX4_lack_37 : decode cX4_lack 37 = .ok (.ishl, 1) := by decide +kernel
theorem dX4_lack_38 : decode cX4_lack 38 = .ok (.goto 4, 3) := by decide +kernel
theorem dX4_lack_41 : decode cX4_lack 41 = .ok (.iconst 0, 1) := by decide +kernel
theorem dX4_lack_42 : decode cX4_lack 42 = .ok (.ior, 1) := by decide +kernel
theorem dX4_lack_43 : decode cX4_lack 43 = .ok (.istore_n 1, 1) := by decide +kernel
theorem dX4_lack_44 : decode cX4_lack 44 = .ok (.iinc 2 1, 3) := by decide +kernel
theorem dX4_lack_47 : decode cX4_lack 47 = .ok (.goto (-43), 3) := by decide +kernel
theorem dX4_lack_50 : decode cX4_lack 50 = .ok (.iload_n 1, 1) := by decide +kernel
theorem dX4_lack_51 : decode cX4_lack 51 = .ok (.ireturn, 1) := by decide +kernel
theorem dX4_comesTrue_0 : decode cX4_comesTrue 0 = .ok (.iload_n 1, 1) := by decide +kernel
theorem dX4_comesTrue_1 : decode cX4_comesTrue 1 = .ok (.i2l, 1) := by decide +kernel
theorem dX4_comesTrue_2 : decode cX4_comesTrue 2 = .ok (.lconst 1, 1) := by decide +kernel
theorem dX4_comesTrue_3 : decode cX4_comesTrue 3 = .ok (.ldc2_w 66, 3) := by decide +kernel
theorem dX4_comesTrue_6 : decode cX4_comesTrue 6 = .ok (.invokestatic 56, 3) := by decide +kernel
theorem dX4_comesTrue_9 : decode cX4_comesTrue 9 = .ok (.ifCond .eq 13, 3) := by decide +kernel
theorem dX4_comesTrue_12 : decode cX4_comesTrue 12 = .ok (.iload_n 2, 1) := by decide +kernel
theorem dX4_comesTrue_13 : decode cX4_comesTrue 13 = .ok (.i2l, 1) := by decide +kernel
theorem dX4_comesTrue_14 : decode cX4_comesTrue 14 = .ok (.lconst 0, 1) := by decide +kernel
theorem dX4_comesTrue_15 : decode cX4_comesTrue 15 = .ok (.lconst 1, 1) := by decide +kernel
theorem dX4_comesTrue_16 : decode cX4_comesTrue 16 = .ok (.invokestatic 56, 3) := by decide +kernel
theorem dX4_comesTrue_19 : decode cX4_comesTrue 19 = .ok (.ifCond .ne 10, 3) := by decide +kernel
theorem dX4_comesTrue_22 : decode cX4_comesTrue 22 = .ok (.aload_n 0, 1) := by decide +kernel
theorem dX4_comesTrue_23 : decode cX4_comesTrue 23 = .ok (.bipush (-2), 2) := by decide +kernel
theorem dX4_comesTrue_25 : decode cX4_comesTrue 25 = .ok (.invokevirtual 62, 3) := by decide +kernel
theorem dX4_comesTrue_28 : decode cX4_comesTrue 28 = .ok (.ireturn, 1) := by decide +kernel
theorem dX4_comesTrue_29 : decode cX4_comesTrue 29 = .ok (.iconst 0, 1) := by decide +kernel
theorem dX4_comesTrue_30 : decode cX4_comesTrue 30 = .ok (.istore_n 3, 1) := by decide +kernel
theorem dX4_comesTrue_31 : decode cX4_comesTrue 31 = .ok (.iconst 0, 1) := by decide +kernel
theorem dX4_comesTrue_32 : decode cX4_comesTrue 32 = .ok (.istore 4, 2) := by decide +kernel
theorem dX4_comesTrue_34 : decode cX4_comesTrue 34 = .ok (.iconst 0, 1) := by decide +kernel
theorem dX4_comesTrue_35 : decode cX4_comesTrue 35 = .ok (.istore 5, 2) := by decide +kernel
theorem dX4_comesTrue_37 : decode cX4_comesTrue 37 = .ok (.iload 5, 2) := by decide +kernel
theorem dX4_comesTrue_39 : decode cX4_comesTrue 39 = .ok (.aload_n 0, 1) := by decide +kernel
theorem dX4_comesTrue_40 : decode cX4_comesTrue 40 = .ok (.invokevirtual 52, 3) := by decide +kernel
theorem dX4_comesTrue_43 : decode cX4_comesTrue 43 = .ok (.if_icmp .ge 55, 3) := by decide +kernel
theorem dX4_comesTrue_46 : decode cX4_comesTrue 46 = .ok (.iload_n 3, 1) := by decide +kernel
theorem dX4_comesTrue_47 : decode cX4_comesTrue 47 = .ok (.aload_n 0, 1) := by decide +kernel
theorem dX4_comesTrue_48 : decode cX4_comesTrue 48 = .ok (.iload 5, 2) := by decide +kernel
theorem dX4_comesTrue_50 : decode cX4_comesTrue 50 = .ok (.iload_n 1, 1) := by decide +kernel
theorem dX4_comesTrue_51 : decode cX4_comesTrue 51 = .ok (.iconst 1, 1) := by decide +kernel
theorem dX4_comesTrue_52 : decode cX4_comesTrue 52 = .ok (.invokevirtual 136, 3) := by decide +kernel
theorem dX4_comesTrue_55 : decode cX4_comesTrue 55 = .ok (.ifCond .eq 10, 3) := by decide +kernel
theorem dX4_comesTrue_58 : decode cX4_comesTrue 58 = .ok (.iconst 1, 1) := by decide +kernel
theorem dX4_comesTrue_59 : decode cX4_comesTrue 59 = .ok (.iload 5, 2) := by decide +kernel
theorem dX4_comesTrue_61 : decode cX4_comesTrue 61 = .ok (.ishl, 1) := by decide +kernel
theorem dX4_comesTrue_62 : decode cX4_comesTrue 62 = .ok (.goto 4, 3) := by decide +kernel
theorem dX4_comesTrue_65 : decode cX4_comesTrue 65 = .ok (.iconst 0, 1) := by decide +kernel
theorem dX4_comesTrue_66 : decode cX4_comesTrue 66 = .ok (.ior, 1) := by decide +kernel
theorem dX4_comesTrue_67 : decode cX4_comesTrue 67 = .ok (.istore_n 3, 1) := by decide +kernel
theorem dX4_comesTrue_68 : decode cX4_comesTrue 68 = .ok (.iload 4, 2) := by decide +kernel
theorem dX4_comesTrue_70 : decode cX4_comesTrue 70 = .ok (.aload_n 0, 1) := by decide +kernel
theorem dX4_comesTrue_71 : decode cX4_comesTrue 71 = .ok (.iload 5, 2) := by decide +kernel
theorem dX4_comesTrue_73 : decode cX4_comesTrue 73 = .ok (.iload_n 1, 1) := by decide +kernel
theorem dX4_comesTrue_74 : decode cX4_comesTrue 74 = .ok (.iconst 0, 1) := by decide +kernel
theorem dX4_comesTrue_75 : decode cX4_comesTrue 75 = .ok (.invokevirtual 136, 3) := by decide +kernel
theorem dX4_comesTrue_78 : decode cX4_comesTrue 78 = .ok (.ifCond .eq 10, 3) := by decide +kernel
theorem dX4_comesTrue_81 : decode cX4_comesTrue 81 = .ok (.iconst 1, 1) := by decide +kernel
theorem dX4_comesTrue_82 : decode cX4_comesTrue 82 = .ok (.iload 5, 2) := by decide +kernel
theorem dX4_comesTrue_84 : decode cX4_comesTrue 84 = .ok (.ishl, 1) := by decide +kernel
theorem dX4_comesTrue_85 : decode cX4_comesTrue 85 = .ok (.goto 4, 3) := by decide +kernel
theorem dX4_comesTrue_88 : decode cX4_comesTrue 88 = .ok (.iconst 0, 1) := by decide +kernel
theorem dX4_comesTrue_89 : decode cX4_comesTrue 89 = .ok (.ior, 1) := by decide +kernel
theorem dX4_comesTrue_90 : decode cX4_comesTrue 90 = .ok (.istore 4, 2) := by decide +kernel
theorem dX4_comesTrue_92 : decode cX4_comesTrue 92 = .ok (.iinc 5 1, 3) := by decide +kernel
theorem dX4_comesTrue_95 : decode cX4_comesTrue 95 = .ok (.goto (-58), 3) := by decide +kernel
theorem dX4_comesTrue_98 : decode cX4_comesTrue 98 = .ok (.iconst 0, 1) := by decide +kernel
theorem dX4_comesTrue_99 : decode cX4_comesTrue 99 = .ok (.istore 5, 2) := by decide +kernel
theorem dX4_comesTrue_101 : decode cX4_comesTrue 101 = .ok (.iconst (-1), 1) := by decide +kernel
theorem dX4_comesTrue_102 : decode cX4_comesTrue 102 = .ok (.istore 6, 2) := by decide +kernel
theorem dX4_comesTrue_104 : decode cX4_comesTrue 104 = .ok (.iconst 0, 1) := by decide +kernel
theorem dX4_comesTrue_105 : decode cX4_comesTrue 105 = .ok (.istore 7, 2) := by decide +kernel
theorem dX4_comesTrue_107 : decode cX4_comesTrue 107 = .ok (.iload 7, 2) := by decide +kernel
theorem dX4_comesTrue_109 : decode cX4_comesTrue 109 = .ok (.iconst 1, 1) := by decide +kernel
theorem dX4_comesTrue_110 : decode cX4_comesTrue 110 = .ok (.aload_n 0, 1) := by decide +kernel
theorem dX4_comesTrue_111 : decode cX4_comesTrue 111 = .ok (.invokevirtual 52, 3) := by decide +kernel
theorem dX4_comesTrue_114 : decode cX4_comesTrue 114 = .ok (.ishl, 1) := by decide +kernel
theorem dX4_comesTrue_115 : decode cX4_comesTrue 115 = .ok (.if_icmp .ge 69, 3) := by decide +kernel
theorem dX4_comesTrue_118 : decode cX4_comesTrue 118 = .ok (.iload 7, 2) := by decide +kernel
theorem dX4_comesTrue_120 : decode cX4_comesTrue 120 = .ok (.iload_n 3, 1) := by decide +kernel
theorem dX4_comesTrue_121 : decode cX4_comesTrue 121 = .ok (.iconst (-1), 1) := by decide +kernel
theorem dX4_comesTrue_122 : decode cX4_comesTrue 122 = .ok (.ixor, 1) := by decide +kernel
theorem dX4_comesTrue_123 : decode cX4_comesTrue 123 = .ok (.iand, 1) := by decide +kernel
theorem dX4_comesTrue_124 : decode cX4_comesTrue 124 = .ok (.ifCond .ne 17, 3) := by decide +kernel
theorem dX4_comesTrue_127 : decode cX4_comesTrue 127 = .ok (.iload 4, 2) := by decide +kernel
theorem dX4_comesTrue_129 : decode cX4_comesTrue 129 = .ok (.iload 7, 2) := by decide +kernel
theorem dX4_comesTrue_131 : decode cX4_comesTrue 131 = .ok (.iconst (-1), 1) := by decide +kernel
theorem dX4_comesTrue_132 : decode cX4_comesTrue 132 = .ok (.ixor, 1) := by decide +kernel
theorem dX4_comesTrue_133 : decode cX4_comesTrue 133 = .ok (.iand, 1) := by decide +kernel
theorem dX4_comesTrue_134 : decode cX4_comesTrue 134 = .ok (.ifCond .ne 7, 3) := by decide +kernel
theorem dX4_comesTrue_137 : decode cX4_comesTrue 137 = .ok (.iconst 1, 1) := by decide +kernel
theorem dX4_comesTrue_138 : decode cX4_comesTrue 138 = .ok (.goto 4, 3) := by decide +kernel
theorem dX4_comesTrue_141 : decode cX4_comesTrue 141 = .ok (.iconst 0, 1) := by decide +kernel
theorem dX4_comesTrue_142 : decode cX4_comesTrue 142 = .ok (.istore 8, 2) := by decide +kernel
theorem dX4_comesTrue_144 : decode cX4_comesTrue 144 = .ok (.iload 8, 2) := by decide +kernel
theorem dX4_comesTrue_146 : decode cX4_comesTrue 146 = .ok (.ifCond .eq 13, 3) := by decide +kernel
theorem dX4_comesTrue_149 : decode cX4_comesTrue 149 = .ok (.iload 5, 2) := by decide +kernel
theorem dX4_comesTrue_151 : decode cX4_comesTrue 151 = .ok (.ifCond .ne 8, 3) := by decide +kernel
theorem dX4_comesTrue_154 : decode cX4_comesTrue 154 = .ok (.iload 7, 2) := by decide +kernel
theorem dX4_comesTrue_156 : decode cX4_comesTrue 156 = .ok (.goto 5, 3) := by decide +kernel
theorem dX4_comesTrue_159 : decode cX4_comesTrue 159 = .ok (.iload 6, 2) := by decide +kernel
theorem dX4_comesTrue_161 : decode cX4_comesTrue 161 = .ok (.istore 6, 2) := by decide +kernel
theorem dX4_comesTrue_163 : decode cX4_comesTrue 163 = .ok (.iload 5, 2) := by decide +kernel
theorem dX4_comesTrue_165 : decode cX4_comesTrue 165 = .ok (.iload 8, 2) := by decide +kernel
theorem dX4_comesTrue_167 : decode cX4_comesTrue 167 = .ok (.ifCond .eq 7, 3) := by decide +kernel
theorem dX4_comesTrue_170 : decode cX4_comesTrue 170 = .ok (.iconst 1, 1) := by decide +kernel
theorem dX4_comesTrue_171 : decode cX4_comesTrue 171 = .ok (.goto 4, 3) := by decide +kernel
theorem dX4_comesTrue_174 : decode cX4_comesTrue 174 = .ok (.iconst 0, 1) := by decide +kernel
theorem dX4_comesTrue_175 : decode cX4_comesTrue 175 = .ok (.iadd, 1) := by decide +kernel
theorem dX4_comesTrue_176 : decode cX4_comesTrue 176 = .ok (.istore 5, 2) := by decide +kernel
theorem dX4_comesTrue_178 : decode cX4_comesTrue 178 = .ok (.iinc 7 1, 3) := by decide +kernel
theorem dX4_comesTrue_181 : decode cX4_comesTrue 181 = .ok (.goto (-74), 3) := by decide +kernel
theorem dX4_comesTrue_184 : decode cX4_comesTrue 184 = .ok (.iload_n 2, 1) := by decide +kernel
theorem dX4_comesTrue_185 : decode cX4_comesTrue 185 = .ok (.ifCond .ne 8, 3) := by decide +kernel
theorem dX4_comesTrue_188 : decode cX4_comesTrue 188 = .ok (.iload 5, 2) := by decide +kernel
theorem dX4_comesTrue_190 : decode cX4_comesTrue 190 = .ok (.goto 5, 3) := by decide +kernel
theorem dX4_comesTrue_193 : decode cX4_comesTrue 193 = .ok (.iload 6, 2) := by decide +kernel
theorem dX4_comesTrue_195 : decode cX4_comesTrue 195 = .ok (.ireturn, 1) := by decide +kernel
theorem dX4_readings_0 : decode cX4_readings 0 = .ok (.iconst 0, 1) := by decide +kernel
theorem dX4_readings_1 : decode cX4_readings 1 = .ok (.istore_n 1, 1) := by decide +kernel
theorem dX4_readings_2 : decode cX4_readings 2 = .ok (.aload_n 0, 1) := by decide +kernel
theorem dX4_readings_3 : decode cX4_readings 3 = .ok (.invokevirtual 122, 3) := by decide +kernel
theorem dX4_readings_6 : decode cX4_readings 6 = .ok (.iconst 1, 1) := by decide +kernel
theorem dX4_readings_7 : decode cX4_readings 7 = .ok (.istore_n 2, 1) := by decide +kernel
theorem dX4_readings_8 : decode cX4_readings 8 = .ok (.iload_n 2, 1) := by decide +kernel
theorem dX4_readings_9 : decode cX4_readings 9 = .ok (.bipush 6, 2) := by decide +kernel
theorem dX4_readings_11 : decode cX4_readings 11 = .ok (.if_icmp .ge 80, 3) := by decide +kernel
theorem dX4_readings_14 : decode cX4_readings 14 = .ok (.iconst 1, 1) := by decide +kernel
theorem dX4_readings_15 : decode cX4_readings 15 = .ok (.istore_n 3, 1) := by decide +kernel
theorem dX4_readings_16 : decode cX4_readings 16 = .ok (.iconst 0, 1) := by decide +kernel
theorem dX4_readings_17 : decode cX4_readings 17 = .ok (.istore 4, 2) := by decide +kernel
theorem dX4_readings_19 : decode cX4_readings 19 = .ok (.iload 4, 2) := by decide +kernel
theorem dX4_readings_21 : decode cX4_readings 21 = .ok (.aload_n 0, 1) := by decide +kernel
theorem dX4_readings_22 : decode cX4_readings 22 = .ok (.invokevirtual 52, 3) := by decide +kernel
theorem dX4_readings_25 : decode cX4_readings 25 = .ok (.if_icmp .ge 46, 3) := by decide +kernel
theorem dX4_readings_28 : decode cX4_readings 28 = .ok (.iload_n 3, 1) := by decide +kernel
theorem dX4_readings_29 : decode cX4_readings 29 = .ok (.ifCond .eq 34, 3) := by decide +kernel
theorem dX4_readings_32 : decode cX4_readings 32 = .ok (.aload_n 0, 1) := by decide +kernel
theorem dX4_readings_33 : decode cX4_readings 33 = .ok (.iload 4, 2) := by decide +kernel
theorem dX4_readings_35 : decode cX4_readings 35 = .ok (.invokevirtual 99, 3) := by decide +kernel
theorem dX4_readings_38 : decode cX4_readings 38 = .ok (.iload_n 2, 1) := by decide +kernel
theorem dX4_readings_39 : decode cX4_readings 39 = .ok (.if_icmp .lt 7, 3) := by decide +kernel
theorem dX4_readings_42 : decode cX4_readings 42 = .ok (.iconst 1, 1) := by decide +kernel
theorem dX4_readings_43 : decode cX4_readings 43 = .ok (.goto 4, 3) := by decide +kernel
theorem dX4_readings_46 : decode cX4_readings 46 = .ok (.iconst 0, 1) := by decide +kernel
theorem dX4_readings_47 : decode cX4_readings 47 = .ok (.aload_n 0, 1) := by decide +kernel
theorem dX4_readings_48 : decode cX4_readings 48 = .ok (.getfield 78, 3) := by decide +kernel
theorem dX4_readings_51 : decode cX4_readings 51 = .ok (.iload 4, 2) := by decide +kernel
theorem dX4_readings_53 : decode cX4_readings 53 = .ok (.invokestatic 91, 3) := by decide +kernel
theorem dX4_readings_56 : decode cX4_readings 56 = .ok (.if_icmp .ne 7, 3) := by decide +kernel
theorem dX4_readings_59 : decode cX4_readings 59 = .ok (.iconst 1, 1) := by decide +kernel
theorem dX4_readings_60 : decode cX4_readings 60 = .ok (.goto 4, 3) := by decide +kernel
theorem dX4_readings_63 : decode cX4_readings 63 = .ok (.iconst 0, 1) := by decide +kernel
theorem dX4_readings_64 : decode cX4_readings 64 = .ok (.istore_n 3, 1) := by decide +kernel
theorem dX4_readings_65 : decode cX4_readings 65 = .ok (.iinc 4 1, 3) := by decide +kernel
theorem dX4_readings_68 : decode cX4_readings 68 = .ok (.goto (-49), 3) := by decide +kernel
theorem dX4_readings_71 : decode cX4_readings 71 = .ok (.iload_n 1, 1) := by decide +kernel
theorem dX4_readings_72 : decode cX4_readings 72 = .ok (.iload_n 3, 1) := by decide +kernel
theorem dX4_readings_73 : decode cX4_readings 73 = .ok (.ifCond .eq 9, 3) := by decide +kernel
theorem dX4_readings_76 : decode cX4_readings 76 = .ok (.iconst 1, 1) := by decide +kernel
theorem dX4_readings_77 : decode cX4_readings 77 = .ok (.iload_n 2, 1) := by decide +kernel
theorem dX4_readings_78 : decode cX4_readings 78 = .ok (.ishl, 1) := by decide +kernel
theorem dX4_readings_79 : decode cX4_readings 79 = .ok (.goto 4, 3) := by decide +kernel
theorem dX4_readings_82 : decode cX4_readings 82 = .ok (.iconst 0, 1) := by decide +kernel
theorem dX4_readings_83 : decode cX4_readings 83 = .ok (.ior, 1) := by decide +kernel
theorem dX4_readings_84 : decode cX4_readings 84 = .ok (.istore_n 1, 1) := by decide +kernel
theorem dX4_readings_85 : decode cX4_readings 85 = .ok (.iinc 2 1, 3) := by decide +kernel
theorem dX4_readings_88 : decode cX4_readings 88 = .ok (.goto (-80), 3) := by decide +kernel
theorem dX4_readings_91 : decode cX4_readings 91 = .ok (.iload_n 1, 1) := by decide +kernel
theorem dX4_readings_92 : decode cX4_readings 92 = .ok (.ireturn, 1) := by decide +kernel
theorem dX4_roster_0 : decode cX4_roster 0 = .ok (.iload_n 1, 1) := by decide +kernel
theorem dX4_roster_1 : decode cX4_roster 1 = .ok (.i2l, 1) := by decide +kernel
theorem dX4_roster_2 : decode cX4_roster 2 = .ok (.lconst 1, 1) := by decide +kernel
theorem dX4_roster_3 : decode cX4_roster 3 = .ok (.ldc2_w 140, 3) := by decide +kernel
theorem dX4_roster_6 : decode cX4_roster 6 = .ok (.invokestatic 56, 3) := by decide +kernel
theorem dX4_roster_9 : decode cX4_roster 9 = .ok (.ifCond .eq 15, 3) := by decide +kernel
theorem dX4_roster_12 : decode cX4_roster 12 = .ok (.iload_n 2, 1) := by decide +kernel
theorem dX4_roster_13 : decode cX4_roster 13 = .ok (.i2l, 1) := by decide +kernel
theorem dX4_roster_14 : decode cX4_roster 14 = .ok (.lconst 0, 1) := by decide +kernel
theorem dX4_roster_15 : decode cX4_roster 15 = .ok (.ldc2_w 140, 3) := by decide +kernel
theorem dX4_roster_18 : decode cX4_roster 18 = .ok (.invokestatic 56, 3) := by decide +kernel
theorem dX4_roster_21 : decode cX4_roster 21 = .ok (.ifCond .ne 10, 3) := by decide +kernel
theorem dX4_roster_24 : decode cX4_roster 24 = .ok (.aload_n 0, 1) := by decide +kernel
theorem dX4_roster_25 : decode cX4_roster 25 = .ok (.bipush (-2), 2) := by decide +kernel
theorem dX4_roster_27 : decode cX4_roster 27 = .ok (.invokevirtual 62, 3) := by decide +kernel
theorem dX4_roster_30 : decode cX4_roster 30 = .ok (.ireturn, 1) := by decide +kernel
theorem dX4_roster_31 : decode cX4_roster 31 = .ok (.iload_n 2, 1) := by decide +kernel
theorem dX4_roster_32 : decode cX4_roster 32 = .ok (.iload_n 1, 1) := by decide +kernel
theorem dX4_roster_33 : decode cX4_roster 33 = .ok (.if_icmp .le 7, 3) := by decide +kernel
theorem dX4_roster_36 : decode cX4_roster 36 = .ok (.iconst (-1), 1) := by decide +kernel
theorem dX4_roster_37 : decode cX4_roster 37 = .ok (.goto 21, 3) := by decide +kernel
theorem dX4_roster_40 : decode cX4_roster 40 = .ok (.aload_n 0, 1) := by decide +kernel
theorem dX4_roster_41 : decode cX4_roster 41 = .ok (.getfield 7, 3) := by decide +kernel
theorem dX4_roster_44 : decode cX4_roster 44 = .ok (.bipush 18, 2) := by decide +kernel
theorem dX4_roster_46 : decode cX4_roster 46 = .ok (.iaload, 1) := by decide +kernel
theorem dX4_roster_47 : decode cX4_roster 47 = .ok (.invokestatic 128, 3) := by decide +kernel
theorem dX4_roster_50 : decode cX4_roster 50 = .ok (.iload_n 2, 1) := by decide +kernel
theorem dX4_roster_51 : decode cX4_roster 51 = .ok (.imul, 1) := by decide +kernel
theorem dX4_roster_52 : decode cX4_roster 52 = .ok (.iload_n 1, 1) := by decide +kernel
theorem dX4_roster_53 : decode cX4_roster 53 = .ok (.iadd, 1) := by decide +kernel
theorem dX4_roster_54 : decode cX4_roster 54 = .ok (.iconst 1, 1) := by decide +kernel
theorem dX4_roster_55 : decode cX4_roster 55 = .ok (.isub, 1) := by decide +kernel
theorem dX4_roster_56 : decode cX4_roster 56 = .ok (.iload_n 1, 1) := by decide +kernel
theorem dX4_roster_57 : decode cX4_roster 57 = .ok (.idiv, 1) := by decide +kernel
theorem dX4_roster_58 : decode cX4_roster 58 = .ok (.ireturn, 1) := by decide +kernel
theorem dX4_isStruck_0 : decode cX4_isStruck 0 = .ok (.iconst 0, 1) := by decide +kernel
theorem dX4_isStruck_1 : decode cX4_isStruck 1 = .ok (.istore 4, 2) := by decide +kernel
theorem dX4_isStruck_3 : decode cX4_isStruck 3 = .ok (.aload_n 0, 1) := by decide +kernel
theorem dX4_isStruck_4 : decode cX4_isStruck 4 = .ok (.invokevirtual 122, 3) := by decide +kernel
theorem dX4_isStruck_7 : decode cX4_isStruck 7 = .ok (.aload_n 0, 1) := by decide +kernel
theorem dX4_isStruck_8 : decode cX4_isStruck 8 = .ok (.iconst 1, 1) := by decide +kernel
theorem dX4_isStruck_9 : decode cX4_isStruck 9 = .ok (.iload_n 1, 1) := by decide +kernel
theorem dX4_isStruck_10 : decode cX4_isStruck 10 = .ok (.ishl, 1) := by decide +kernel
theorem dX4_isStruck_11 : decode cX4_isStruck 11 = .ok (.putfield 78, 3) := by decide +kernel
theorem dX4_isStruck_14 : decode cX4_isStruck 14 = .ok (.iconst 0, 1) := by decide +kernel
theorem dX4_isStruck_15 : decode cX4_isStruck 15 = .ok (.istore 5, 2) := by decide +kernel
theorem dX4_isStruck_17 : decode cX4_isStruck 17 = .ok (.iload 5, 2) := by decide +kernel
theorem dX4_isStruck_19 : decode cX4_isStruck 19 = .ok (.iload_n 2, 1) := by decide +kernel
theorem dX4_isStruck_20 : decode cX4_isStruck 20 = .ok (.if_icmp .ge 48, 3) := by decide +kernel
theorem dX4_isStruck_23 : decode cX4_isStruck 23 = .ok (.aload_n 0, 1) := by decide +kernel
theorem dX4_isStruck_24 : decode cX4_isStruck 24 = .ok (.iload_n 3, 1) := by decide +kernel
theorem dX4_isStruck_25 : decode cX4_isStruck 25 = .ok (.iload 5, 2) := by decide +kernel
theorem dX4_isStruck_27 : decode cX4_isStruck 27 = .ok (.invokestatic 91, 3) := by decide +kernel
theorem dX4_isStruck_30 : decode cX4_isStruck 30 = .ok (.ifCond .eq 9, 3) := by decide +kernel
theorem dX4_isStruck_33 : decode cX4_isStruck 33 = .ok (.iconst 1, 1) := by decide +kernel
theorem dX4_isStruck_34 : decode cX4_isStruck 34 = .ok (.iload_n 1, 1) := by decide +kernel
theorem dX4_isStruck_35 : decode cX4_isStruck 35 = .ok (.ishl, 1) := by decide +kernel
theorem dX4_isStruck_36 : decode cX4_isStruck 36 = .ok (.goto 4, 3) := by decide +kernel
theorem dX4_isStruck_39 : decode cX4_isStruck 39 = .ok (.iconst 0, 1) := by decide +kernel
theorem dX4_isStruck_40 : decode cX4_isStruck 40 = .ok (.putfield 82, 3) := by decide +kernel
theorem dX4_isStruck_43 : decode cX4_isStruck 43 = .ok (.iload 4, 2) := by decide +kernel
theorem dX4_isStruck_45 : decode cX4_isStruck 45 = .ok (.ifCond .ne 10, 3) := by decide +kernel
theorem dX4_isStruck_48 : decode cX4_isStruck 48 = .ok (.aload_n 0, 1) := by decide +kernel
theorem dX4_isStruck_49 : decode cX4_isStruck 49 = .ok (.invokevirtual 125, 3) := by decide +kernel
theorem dX4_isStruck_52 : decode cX4_isStruck 52 = .ok (.ifCond .eq 7, 3) := by decide +kernel
theorem dX4_isStruck_55 : decode cX4_isStruck 55 = .ok (.iconst 1, 1) := by decide +kernel
theorem dX4_isStruck_56 : decode cX4_isStruck 56 = .ok (.goto 4, 3) := by decide +kernel
theorem dX4_isStruck_59 : decode cX4_isStruck 59 = .ok (.iconst 0, 1) := by decide +kernel
theorem dX4_isStruck_60 : decode cX4_isStruck 60 = .ok (.istore 4, 2) := by decide +kernel
theorem dX4_isStruck_62 : decode cX4_isStruck 62 = .ok (.iinc 5 1, 3) := by decide +kernel
theorem dX4_isStruck_65 : decode cX4_isStruck 65 = .ok (.goto (-48), 3) := by decide +kernel
theorem dX4_isStruck_68 : decode cX4_isStruck 68 = .ok (.iload 4, 2) := by decide +kernel
theorem dX4_isStruck_70 : decode cX4_isStruck 70 = .ok (.ireturn, 1) := by decide +kernel
theorem dX4_off_0 : decode cX4_off 0 = .ok (.aload_n 0, 1) := by decide +kernel
theorem dX4_off_1 : decode cX4_off 1 = .ok (.iload_n 1, 1) := by decide +kernel
theorem dX4_off_2 : decode cX4_off 2 = .ok (.invokevirtual 113, 3) := by decide +kernel
theorem dX4_off_5 : decode cX4_off 5 = .ok (.ifCond .eq 25, 3) := by decide +kernel
theorem dX4_off_8 : decode cX4_off 8 = .ok (.iload_n 2, 1) := by decide +kernel
theorem dX4_off_9 : decode cX4_off 9 = .ok (.i2l, 1) := by decide +kernel
theorem dX4_off_10 : decode cX4_off 10 = .ok (.lconst 1, 1) := by decide +kernel
theorem dX4_off_11 : decode cX4_off 11 = .ok (.ldc2_w 142, 3) := by decide +kernel
theorem dX4_off_14 : decode cX4_off 14 = .ok (.invokestatic 56, 3) := by decide +kernel
theorem dX4_off_17 : decode cX4_off 17 = .ok (.ifCond .eq 13, 3) := by decide +kernel
theorem dX4_off_20 : decode cX4_off 20 = .ok (.iload_n 3, 1) := by decide +kernel
theorem dX4_off_21 : decode cX4_off 21 = .ok (.i2l, 1) := by decide +kernel
theorem dX4_off_22 : decode cX4_off 22 = .ok (.lconst 0, 1) := by decide +kernel
theorem dX4_off_23 : decode cX4_off 23 = .ok (.lconst 1, 1) := by decide +kernel
theorem dX4_off_24 : decode cX4_off 24 = .ok (.invokestatic 56, 3) := by decide +kernel
theorem dX4_off_27 : decode cX4_off 27 = .ok (.ifCond .ne 10, 3) := by decide +kernel
theorem dX4_off_30 : decode cX4_off 30 = .ok (.aload_n 0, 1) := by decide +kernel
theorem dX4_off_31 : decode cX4_off 31 = .ok (.bipush (-2), 2) := by decide +kernel
theorem dX4_off_33 : decode cX4_off 33 = .ok (.invokevirtual 62, 3) := by decide +kernel
theorem dX4_off_36 : decode cX4_off 36 = .ok (.ireturn, 1) := by decide +kernel
theorem dX4_off_37 : decode cX4_off 37 = .ok (.aload_n 0, 1) := by decide +kernel
theorem dX4_off_38 : decode cX4_off 38 = .ok (.getfield 7, 3) := by decide +kernel
theorem dX4_off_41 : decode cX4_off 41 = .ok (.bipush 18, 2) := by decide +kernel
theorem dX4_off_43 : decode cX4_off 43 = .ok (.iaload, 1) := by decide +kernel
theorem dX4_off_44 : decode cX4_off 44 = .ok (.iload_n 1, 1) := by decide +kernel
theorem dX4_off_45 : decode cX4_off 45 = .ok (.invokestatic 91, 3) := by decide +kernel
theorem dX4_off_48 : decode cX4_off 48 = .ok (.ifCond .ne 8, 3) := by decide +kernel
theorem dX4_off_51 : decode cX4_off 51 = .ok (.aload_n 0, 1) := by decide +kernel
theorem dX4_off_52 : decode cX4_off 52 = .ok (.invokevirtual 131, 3) := by decide +kernel
theorem dX4_off_55 : decode cX4_off 55 = .ok (.ireturn, 1) := by decide +kernel
theorem dX4_off_56 : decode cX4_off 56 = .ok (.iconst (-1), 1) := by decide +kernel
theorem dX4_off_57 : decode cX4_off 57 = .ok (.istore 4, 2) := by decide +kernel
theorem dX4_off_59 : decode cX4_off 59 = .ok (.iconst 0, 1) := by decide +kernel
theorem dX4_off_60 : decode cX4_off 60 = .ok (.istore 5, 2) := by decide +kernel
theorem dX4_off_62 : decode cX4_off 62 = .ok (.iload 5, 2) := by decide +kernel
theorem dX4_off_64 : decode cX4_off 64 = .ok (.iconst 1, 1) := by decide +kernel
theorem dX4_off_65 : decode cX4_off 65 = .ok (.iload_n 2, 1) := by decide +kernel
theorem dX4_off_66 : decode cX4_off 66 = .ok (.ishl, 1) := by decide +kernel
theorem dX4_off_67 : decode cX4_off 67 = .ok (.if_icmp .ge 60, 3) := by decide +kernel
theorem dX4_off_70 : decode cX4_off 70 = .ok (.iload 4, 2) := by decide +kernel
theorem dX4_off_72 : decode cX4_off 72 = .ok (.iconst (-1), 1) := by decide +kernel
theorem dX4_off_73 : decode cX4_off 73 = .ok (.if_icmp .eq 16, 3) := by decide +kernel
theorem dX4_off_76 : decode cX4_off 76 = .ok (.iload 5, 2) := by decide +kernel
theorem dX4_off_78 : decode cX4_off 78 = .ok (.invokestatic 128, 3) := by decide +kernel
theorem dX4_off_81 : decode cX4_off 81 = .ok (.iload 4, 2) := by decide +kernel
theorem dX4_off_83 : decode cX4_off 83 = .ok (.invokestatic 128, 3) := by decide +kernel
theorem dX4_off_86 : decode cX4_off 86 = .ok (.if_icmp .ge 7, 3) := by decide +kernel
theorem dX4_off_89 : decode cX4_off 89 = .ok (.iconst 1, 1) := by decide +kernel
theorem dX4_off_90 : decode cX4_off 90 = .ok (.goto 4, 3) := by decide +kernel
theorem dX4_off_93 : decode cX4_off 93 = .ok (.iconst 0, 1) := by decide +kernel
theorem dX4_off_94 : decode cX4_off 94 = .ok (.istore 6, 2) := by decide +kernel
theorem dX4_off_96 : decode cX4_off 96 = .ok (.iload 6, 2) := by decide +kernel
theorem dX4_off_98 : decode cX4_off 98 = .ok (.ifCond .eq 19, 3) := by decide +kernel
theorem dX4_off_101 : decode cX4_off 101 = .ok (.aload_n 0, 1) := by decide +kernel
theorem dX4_off_102 : decode cX4_off 102 = .ok (.iload_n 1, 1) := by decide +kernel
theorem dX4_off_103 : decode cX4_off 103 = .ok (.iload_n 2, 1) := by decide +kernel
theorem dX4_off_104 : decode cX4_off 104 = .ok (.iload 5, 2) := by decide +kernel
theorem dX4_off_106 : decode cX4_off 106 = .ok (.invokevirtual 144, 3) := by decide +kernel
theorem dX4_off_109 : decode cX4_off 109 = .ok (.ifCond .eq 8, 3) := by decide +kernel
theorem dX4_off_112 : decode cX4_off 112 = .ok (.iload 5, 2) := by decide +kernel
theorem dX4_off_114 : decode cX4_off 114 = .ok (.goto 5, 3) := by decide +kernel
theorem dX4_off_117 : decode cX4_off 117 = .ok (.iload 4, 2) := by decide +kernel
theorem dX4_off_119 : decode cX4_off 119 = .ok (.istore 4, 2) := by decide +kernel
theorem dX4_off_121 : decode cX4_off 121 = .ok (.iinc 5 1, 3) := by decide +kernel
theorem dX4_off_124 : decode cX4_off 124 = .ok (.goto (-62), 3) := by decide +kernel
theorem dX4_off_127 : decode cX4_off 127 = .ok (.iload_n 3, 1) := by decide +kernel
theorem dX4_off_128 : decode cX4_off 128 = .ok (.ifCond .ne 17, 3) := by decide +kernel
theorem dX4_off_131 : decode cX4_off 131 = .ok (.iload 4, 2) := by decide +kernel
theorem dX4_off_133 : decode cX4_off 133 = .ok (.iconst (-1), 1) := by decide +kernel
theorem dX4_off_134 : decode cX4_off 134 = .ok (.if_icmp .eq 11, 3) := by decide +kernel
theorem dX4_off_137 : decode cX4_off 137 = .ok (.iload 4, 2) := by decide +kernel
theorem dX4_off_139 : decode cX4_off 139 = .ok (.invokestatic 128, 3) := by decide +kernel
theorem dX4_off_142 : decode cX4_off 142 = .ok (.goto 5, 3) := by decide +kernel
theorem dX4_off_145 : decode cX4_off 145 = .ok (.iload 4, 2) := by decide +kernel
theorem dX4_off_147 : decode cX4_off 147 = .ok (.ireturn, 1) := by decide +kernel
theorem dX4_rests_0 : decode cX4_rests 0 = .ok (.aload_n 0, 1) := by decide +kernel
theorem dX4_rests_1 : decode cX4_rests 1 = .ok (.iload_n 1, 1) := by decide +kernel
theorem dX4_rests_2 : decode cX4_rests 2 = .ok (.invokevirtual 113, 3) := by decide +kernel
theorem dX4_rests_5 : decode cX4_rests 5 = .ok (.ifCond .ne 10, 3) := by decide +kernel
theorem dX4_rests_8 : decode cX4_rests 8 = .ok (.aload_n 0, 1) := by decide +kernel
theorem dX4_rests_9 : decode cX4_rests 9 = .ok (.bipush (-2), 2) := by decide +kernel
theorem dX4_rests_11 : decode cX4_rests 11 = .ok (.invokevirtual 62, 3) := by decide +kernel
theorem dX4_rests_14 : decode cX4_rests 14 = .ok (.ireturn, 1) := by decide +kernel
theorem dX4_rests_15 : decode cX4_rests 15 = .ok (.aload_n 0, 1) := by decide +kernel
theorem dX4_rests_16 : decode cX4_rests 16 = .ok (.getfield 7, 3) := by decide +kernel
theorem dX4_rests_19 : decode cX4_rests 19 = .ok (.bipush 11, 2) := by decide +kernel
theorem dX4_rests_21 : decode cX4_rests 21 = .ok (.iload_n 1, 1) := by decide +kernel
theorem dX4_rests_22 : decode cX4_rests 22 = .ok (.iadd, 1) := by decide +kernel
theorem dX4_rests_23 : decode cX4_rests 23 = .ok (.iaload, 1) := by decide +kernel
theorem dX4_rests_24 : decode cX4_rests 24 = .ok (.istore_n 2, 1) := by decide +kernel
theorem dX4_rests_25 : decode cX4_rests 25 = .ok (.aload_n 0, 1) := by decide +kernel
theorem dX4_rests_26 : decode cX4_rests 26 = .ok (.iload_n 1, 1) := by decide +kernel
theorem dX4_rests_27 : decode cX4_rests 27 = .ok (.invokevirtual 88, 3) := by decide +kernel
theorem dX4_rests_30 : decode cX4_rests 30 = .ok (.iload_n 2, 1) := by decide +kernel
theorem dX4_rests_31 : decode cX4_rests 31 = .ok (.aload_n 0, 1) := by decide +kernel
theorem dX4_rests_32 : decode cX4_rests 32 = .ok (.getfield 7, 3) := by decide +kernel
theorem dX4_rests_35 : decode cX4_rests 35 = .ok (.bipush 21, 2) := by decide +kernel
theorem dX4_rests_37 : decode cX4_rests 37 = .ok (.iaload, 1) := by decide +kernel
theorem dX4_rests_38 : decode cX4_rests 38 = .ok (.iconst 1, 1) := by decide +kernel
theorem dX4_rests_39 : decode cX4_rests 39 = .ok (.invokestatic 95, 3) := by decide +kernel
theorem dX4_rests_42 : decode cX4_rests 42 = .ok (.aload_n 0, 1) := by decide +kernel
theorem dX4_rests_43 : decode cX4_rests 43 = .ok (.getfield 7, 3) := by decide +kernel
theorem dX4_rests_46 : decode cX4_rests 46 = .ok (.iconst 1, 1) := by decide +kernel
theorem dX4_rests_47 : decode cX4_rests 47 = .ok (.iaload, 1) := by decide +kernel
theorem dX4_rests_48 : decode cX4_rests 48 = .ok (.if_icmp .lt 7, 3) := by decide +kernel
theorem dX4_rests_51 : decode cX4_rests 51 = .ok (.iconst 1, 1) := by decide +kernel
theorem dX4_rests_52 : decode cX4_rests 52 = .ok (.goto 4, 3) := by decide +kernel
theorem dX4_rests_55 : decode cX4_rests 55 = .ok (.iconst 0, 1) := by decide +kernel
theorem dX4_rests_56 : decode cX4_rests 56 = .ok (.istore_n 3, 1) := by decide +kernel
theorem dX4_rests_57 : decode cX4_rests 57 = .ok (.aload_n 0, 1) := by decide +kernel
theorem dX4_rests_58 : decode cX4_rests 58 = .ok (.iload_n 1, 1) := by decide +kernel
theorem dX4_rests_59 : decode cX4_rests 59 = .ok (.invokevirtual 88, 3) := by decide +kernel
theorem dX4_rests_62 : decode cX4_rests 62 = .ok (.iload_n 2, 1) := by decide +kernel
theorem dX4_rests_63 : decode cX4_rests 63 = .ok (.aload_n 0, 1) := by decide +kernel
theorem dX4_rests_64 : decode cX4_rests 64 = .ok (.getfield 7, 3) := by decide +kernel
theorem dX4_rests_67 : decode cX4_rests 67 = .ok (.bipush 21, 2) := by decide +kernel
theorem dX4_rests_69 : decode cX4_rests 69 = .ok (.iaload, 1) := by decide +kernel
theorem dX4_rests_70 : decode cX4_rests 70 = .ok (.iconst 0, 1) := by decide +kernel
theorem dX4_rests_71 : decode cX4_rests 71 = .ok (.invokestatic 95, 3) := by decide +kernel
theorem dX4_rests_74 : decode cX4_rests 74 = .ok (.aload_n 0, 1) := by decide +kernel
theorem dX4_rests_75 : decode cX4_rests 75 = .ok (.getfield 7, 3) := by decide +kernel
theorem dX4_rests_78 : decode cX4_rests 78 = .ok (.iconst 1, 1) := by decide +kernel
theorem dX4_rests_79 : decode cX4_rests 79 = .ok (.iaload, 1) := by decide +kernel
theorem dX4_rests_80 : decode cX4_rests 80 = .ok (.if_icmp .lt 7, 3) := by decide +kernel
theorem dX4_rests_83 : decode cX4_rests 83 = .ok (.iconst 1, 1) := by decide +kernel
theorem dX4_rests_84 : decode cX4_rests 84 = .ok (.goto 4, 3) := by decide +kernel
theorem dX4_rests_87 : decode cX4_rests 87 = .ok (.iconst 0, 1) := by decide +kernel
theorem dX4_rests_88 : decode cX4_rests 88 = .ok (.istore 4, 2) := by decide +kernel
theorem dX4_rests_90 : decode cX4_rests 90 = .ok (.iconst 0, 1) := by decide +kernel
theorem dX4_rests_91 : decode cX4_rests 91 = .ok (.istore 5, 2) := by decide +kernel
theorem dX4_rests_93 : decode cX4_rests 93 = .ok (.iload 5, 2) := by decide +kernel
theorem dX4_rests_95 : decode cX4_rests 95 = .ok (.iconst 4, 1) := by decide +kernel
theorem dX4_rests_96 : decode cX4_rests 96 = .ok (.if_icmp .ge 73, 3) := by decide +kernel
theorem dX4_rests_99 : decode cX4_rests 99 = .ok (.aload_n 0, 1) := by decide +kernel
theorem dX4_rests_100 : decode cX4_rests 100 = .ok (.getfield 30, 3) := by decide +kernel
theorem dX4_rests_103 : decode cX4_rests 103 = .ok (.iload 5, 2) := by decide +kernel
theorem dX4_rests_105 : decode cX4_rests 105 = .ok (.iload 5, 2) := by decide +kernel
theorem dX4_rests_107 : decode cX4_rests 107 = .ok (.iconst 1, 1) := by decide +kernel
theorem dX4_rests_108 : decode cX4_rests 108 = .ok (.if_icmp .le 7, 3) := by decide +kernel
theorem dX4_rests_111 : decode cX4_rests 111 = .ok (.iconst 1, 1) := by decide +kernel
theorem dX4_rests_112 : decode cX4_rests 112 = .ok (.goto 17, 3) := by decide +kernel
theorem dX4_rests_115 : decode cX4_rests 115 = .ok (.iload 5, 2) := by decide +kernel
theorem dX4_rests_117 : decode cX4_rests 117 = .ok (.ifCond .ne 11, 3) := by decide +kernel
theorem dX4_rests_120 : decode cX4_rests 120 = .ok (.iload_n 3, 1) := by decide +kernel
theorem dX4_rests_121 : decode cX4_rests 121 = .ok (.ifCond .eq 7, 3) := by decide +kernel
theorem dX4_rests_124 : decode cX4_rests 124 = .ok (.iconst 2, 1) := by decide +kernel
theorem dX4_rests_125 : decode cX4_rests 125 = .ok (.goto 4, 3) := by decide +kernel
theorem dX4_rests_128 : decode cX4_rests 128 = .ok (.iconst 0, 1) := by decide +kernel
theorem dX4_rests_129 : decode cX4_rests 129 = .ok (.iastore, 1) := by decide +kernel
theorem dX4_rests_130 : decode cX4_rests 130 = .ok (.aload_n 0, 1) := by decide +kernel
theorem dX4_rests_131 : decode cX4_rests 131 = .ok (.getfield 33, 3) := by decide +kernel
theorem dX4_rests_134 : decode cX4_rests 134 = .ok (.iload 5, 2) := by decide +kernel
theorem dX4_rests_136 : decode cX4_rests 136 = .ok (.iload 5, 2) := by decide +kernel
theorem dX4_rests_138 : decode cX4_rests 138 = .ok (.iconst 2, 1) := by decide +kernel
theorem dX4_rests_139 : decode cX4_rests 139 = .ok (.if_icmp .ge 7, 3) := by decide +kernel
theorem dX4_rests_142 : decode cX4_rests 142 = .ok (.iconst 0, 1) := by decide +kernel
theorem dX4_rests_143 : decode cX4_rests 143 = .ok (.goto 19, 3) := by decide +kernel
theorem dX4_rests_146 : decode cX4_rests 146 = .ok (.iload 5, 2) := by decide +kernel
theorem dX4_rests_148 : decode cX4_rests 148 = .ok (.iconst 2, 1) := by decide +kernel
theorem dX4_rests_149 : decode cX4_rests 149 = .ok (.if_icmp .ne 12, 3) := by decide +kernel
theorem dX4_rests_152 : decode cX4_rests 152 = .ok (.iload 4, 2) := by decide +kernel
theorem dX4_rests_154 : decode cX4_rests 154 = .ok (.ifCond .eq 7, 3) := by decide +kernel
theorem dX4_rests_157 : decode cX4_rests 157 = .ok (.iconst (-1), 1) := by decide +kernel
theorem dX4_rests_158 : decode cX4_rests 158 = .ok (.goto 4, 3) := by decide +kernel
theorem dX4_rests_161 : decode cX4_rests 161 = .ok (.iconst 1, 1) := by decide +kernel
theorem dX4_rests_162 : decode cX4_rests 162 = .ok (.iastore, 1) := by decide +kernel
theorem dX4_rests_163 : decode cX4_rests 163 = .ok (.iinc 5 1, 3) := by decide +kernel
theorem dX4_rests_166 : decode cX4_rests 166 = .ok (.goto (-73), 3) := by decide +kernel
theorem dX4_rests_169 : decode cX4_rests 169 = .ok (.iconst 0, 1) := by decide +kernel
theorem dX4_rests_170 : decode cX4_rests 170 = .ok (.istore 5, 2) := by decide +kernel
theorem dX4_rests_172 : decode cX4_rests 172 = .ok (.iconst 0, 1) := by decide +kernel
theorem dX4_rests_173 : decode cX4_rests 173 = .ok (.istore 6, 2) := by decide +kernel
theorem dX4_rests_175 : decode cX4_rests 175 = .ok (.iload 6, 2) := by decide +kernel
theorem dX4_rests_177 : decode cX4_rests 177 = .ok (.iconst 4, 1) := by decide +kernel
theorem dX4_rests_178 : decode cX4_rests 178 = .ok (.if_icmp .ge 72, 3) := by decide +kernel
theorem dX4_rests_181 : decode cX4_rests 181 = .ok (.aload_n 0, 1) := by decide +kernel
theorem dX4_rests_182 : decode cX4_rests 182 = .ok (.getfield 30, 3) := by decide +kernel
theorem dX4_rests_185 : decode cX4_rests 185 = .ok (.iload 6, 2) := by decide +kernel
theorem dX4_rests_187 : decode cX4_rests 187 = .ok (.iaload, 1) := by decide +kernel
theorem dX4_rests_188 : decode cX4_rests 188 = .ok (.aload_n 0, 1) := by decide +kernel
theorem dX4_rests_189 : decode cX4_rests 189 = .ok (.getfield 30, 3) := by decide +kernel
theorem dX4_rests_192 : decode cX4_rests 192 = .ok (.iload 6, 2) := by decide +kernel
theorem dX4_rests_194 : decode cX4_rests 194 = .ok (.iconst 1, 1) := by decide +kernel
theorem dX4_rests_195 : decode cX4_rests 195 = .ok (.ixor, 1) := by decide +kernel
theorem dX4_rests_196 : decode cX4_rests 196 = .ok (.iaload, 1) := by decide +kernel
theorem dX4_rests_197 : decode cX4_rests 197 = .ok (.if_icmp .lt 26, 3) := by decide +kernel
theorem dX4_rests_200 : decode cX4_rests 200 = .ok (.aload_n 0, 1) := by decide +kernel
theorem dX4_rests_201 : decode cX4_rests 201 = .ok (.getfield 33, 3) := by decide +kernel
theorem dX4_rests_204 : decode cX4_rests 204 = .ok (.iload 6, 2) := by decide +kernel
theorem dX4_rests_206 : decode cX4_rests 206 = .ok (.iaload, 1) := by decide +kernel
theorem dX4_rests_207 : decode cX4_rests 207 = .ok (.aload_n 0, 1) := by decide +kernel
theorem dX4_rests_208 : decode cX4_rests 208 = .ok (.getfield 33, 3) := by decide +kernel
theorem dX4_rests_211 : decode cX4_rests 211 = .ok (.iload 6, 2) := by decide +kernel
theorem dX4_rests_213 : decode cX4_rests 213 = .ok (.iconst 2, 1) := by decide +kernel
theorem dX4_rests_214 : decode cX4_rests 214 = .ok (.ixor, 1) := by decide +kernel
theorem dX4_rests_215 : decode cX4_rests 215 = .ok (.iaload, 1) := by decide +kernel
theorem dX4_rests_216 : decode cX4_rests 216 = .ok (.if_icmp .lt 7, 3) := by decide +kernel
theorem dX4_rests_219 : decode cX4_rests 219 = .ok (.iconst 1, 1) := by decide +kernel
theorem dX4_rests_220 : decode cX4_rests 220 = .ok (.goto 4, 3) := by decide +kernel
theorem dX4_rests_223 : decode cX4_rests 223 = .ok (.iconst 0, 1) := by decide +kernel
theorem dX4_rests_224 : decode cX4_rests 224 = .ok (.istore 7, 2) := by decide +kernel
theorem dX4_rests_226 : decode cX4_rests 226 = .ok (.iload 5, 2) := by decide +kernel
theorem dX4_rests_228 : decode cX4_rests 228 = .ok (.iload 7, 2) := by decide +kernel
theorem dX4_rests_230 : decode cX4_rests 230 = .ok (.ifCond .eq 10, 3) := by decide +kernel
theorem dX4_rests_233 : decode cX4_rests 233 = .ok (.iconst 1, 1) := by decide +kernel
theorem dX4_rests_234 : decode cX4_rests 234 = .ok (.iload 6, 2) := by decide +kernel
theorem dX4_rests_236 : decode cX4_rests 236 = .ok (.ishl, 1) := by decide +kernel
theorem dX4_rests_237 : decode cX4_rests 237 = .ok (.goto 4, 3) := by decide +kernel
theorem dX4_rests_240 : decode cX4_rests 240 = .ok (.iconst 0, 1) := by decide +kernel
theorem dX4_rests_241 : decode cX4_rests 241 = .ok (.ior, 1) := by decide +kernel
theorem dX4_rests_242 : decode cX4_rests 242 = .ok (.istore 5, 2) := by decide +kernel
theorem dX4_rests_244 : decode cX4_rests 244 = .ok (.iinc 6 1, 3) := by decide +kernel
theorem dX4_rests_247 : decode cX4_rests 247 = .ok (.goto (-72), 3) := by decide +kernel
theorem dX4_rests_250 : decode cX4_rests 250 = .ok (.iload 5, 2) := by decide +kernel
theorem dX4_rests_252 : decode cX4_rests 252 = .ok (.ireturn, 1) := by decide +kernel
theorem dX4_note_0 : decode cX4_note 0 = .ok (.aload_n 0, 1) := by decide +kernel
theorem dX4_note_1 : decode cX4_note 1 = .ok (.iload_n 1, 1) := by decide +kernel
theorem dX4_note_2 : decode cX4_note 2 = .ok (.invokevirtual 113, 3) := by decide +kernel
theorem dX4_note_5 : decode cX4_note 5 = .ok (.ifCond .eq 51, 3) := by decide +kernel
theorem dX4_note_8 : decode cX4_note 8 = .ok (.iload_n 2, 1) := by decide +kernel
theorem dX4_note_9 : decode cX4_note 9 = .ok (.i2l, 1) := by decide +kernel
theorem dX4_note_10 : decode cX4_note 10 = .ok (.lconst 0, 1) := by decide +kernel
theorem dX4_note_11 : decode cX4_note 11 = .ok (.ldc2_w 148, 3) := by decide +kernel
theorem dX4_note_14 : decode cX4_note 14 = .ok (.invokestatic 56, 3) := by decide +kernel
theorem dX4_note_17 : decode cX4_note 17 = .ok (.ifCond .eq 39, 3) := by decide +kernel
theorem dX4_note_20 : decode cX4_note 20 = .ok (.iload_n 3, 1) := by decide +kernel
theorem dX4_note_21 : decode cX4_note 21 = .ok (.i2l, 1) := by decide +kernel
theorem dX4_note_22 : decode cX4_note 22 = .ok (.lconst 0, 1) := by decide +kernel
theorem dX4_note_23 : decode cX4_note 23 = .ok (.lconst 1, 1) := by decide +kernel
theorem dX4_note_24 : decode cX4_note 24 = .ok (.invokestatic 56, 3) := by decide +kernel
theorem dX4_note_27 : decode cX4_note 27 = .ok (.ifCond .eq 29, 3) := by decide +kernel
theorem dX4_note_30 : decode cX4_note 30 = .ok (.iload 4, 2) := by decide +kernel
theorem dX4_note_32 : decode cX4_note 32 = .ok (.i2l, 1) := by decide +kernel
theorem dX4_note_33 : decode cX4_note 33 = .ok (.lconst 0, 1) := by decide +kernel
theorem dX4_note_34 : decode cX4_note 34 = .ok (.ldc2_w 148, 3) := by decide +kernel
theorem dX4_note_37 : decode cX4_note 37 = .ok (.invokestatic 56, 3) := by decide +kernel
theorem dX4_note_40 : decode cX4_note 40 = .ok (.ifCond .eq 16, 3) := by decide +kernel
theorem dX4_note_43 : decode cX4_note 43 = .ok (.iload 5, 2) := by decide +kernel
theorem dX4_note_45 : decode cX4_note 45 = .ok (.i2l, 1) := by decide +kernel
theorem dX4_note_46 : decode cX4_note 46 = .ok (.lconst 0, 1) := by decide +kernel
theorem dX4_note_47 : decode cX4_note 47 = .ok (.ldc2_w 60, 3) := by decide +kernel
theorem dX4_note_50 : decode cX4_note 50 = .ok (.invokestatic 56, 3) := by decide +kernel
theorem dX4_note_53 : decode cX4_note 53 = .ok (.ifCond .ne 10, 3) := by decide +kernel
theorem dX4_note_56 : decode cX4_note 56 = .ok (.aload_n 0, 1) := by decide +kernel
theorem dX4_note_57 : decode cX4_note 57 = .ok (.bipush (-2), 2) := by decide +kernel
theorem dX4_note_59 : decode cX4_note 59 = .ok (.invokevirtual 62, 3) := by decide +kernel
theorem dX4_note_62 : decode cX4_note 62 = .ok (.ireturn, 1) := by decide +kernel
theorem dX4_note_63 : decode cX4_note 63 = .ok (.aload_n 0, 1) := by decide +kernel
theorem dX4_note_64 : decode cX4_note 64 = .ok (.getfield 7, 3) := by decide +kernel
theorem dX4_note_67 : decode cX4_note 67 = .ok (.iconst 2, 1) := by decide +kernel
theorem dX4_note_68 : decode cX4_note 68 = .ok (.iaload, 1) := by decide +kernel
theorem dX4_note_69 : decode cX4_note 69 = .ok (.bipush 6, 2) := by decide +kernel
theorem dX4_note_71 : decode cX4_note 71 = .ok (.if_icmp .ne 8, 3) := by decide +kernel
theorem dX4_note_74 : decode cX4_note 74 = .ok (.aload_n 0, 1) := by decide +kernel
theorem dX4_note_75 : decode cX4_note 75 = .ok (.invokevirtual 68, 3) := by decide +kernel
theorem dX4_note_78 : decode cX4_note 78 = .ok (.ireturn, 1) := by decide +kernel
theorem dX4_note_79 : decode cX4_note 79 = .ok (.bipush 22, 2) := by decide +kernel
theorem dX4_note_81 : decode cX4_note 81 = .ok (.iconst 5, 1) := by decide +kernel
theorem dX4_note_82 : decode cX4_note 82 = .ok (.aload_n 0, 1) := by decide +kernel
theorem dX4_note_83 : decode cX4_note 83 = .ok (.getfield 7, 3) := by decide +kernel
theorem dX4_note_86 : decode cX4_note 86 = .ok (.iconst 2, 1) := by decide +kernel
theorem dX4_note_87 : decode cX4_note 87 = .ok (.iaload, 1) := by decide +kernel
theorem dX4_note_88 : decode cX4_note 88 = .ok (.imul, 1) := by decide +kernel
theorem dX4_note_89 : decode cX4_note 89 = .ok (.iadd, 1) := by decide +kernel
theorem dX4_note_90 : decode cX4_note 90 = .ok (.istore 6, 2) := by decide +kernel
theorem dX4_note_92 : decode cX4_note 92 = .ok (.aload_n 0, 1) := by decide +kernel
theorem dX4_note_93 : decode cX4_note 93 = .ok (.getfield 7, 3) := by decide +kernel
theorem dX4_note_96 : decode cX4_note 96 = .ok (.iload 6, 2) := by decide +kernel
theorem dX4_note_98 : decode cX4_note 98 = .ok (.iload_n 1, 1) := by decide +kernel
theorem dX4_note_99 : decode cX4_note 99 = .ok (.iastore, 1) := by decide +kernel
theorem dX4_note_100 : decode cX4_note 100 = .ok (.aload_n 0, 1) := by decide +kernel
theorem dX4_note_101 : decode cX4_note 101 = .ok (.getfield 7, 3) := by decide +kernel
theorem dX4_note_104 : decode cX4_note 104 = .ok (.iload 6, 2) := by decide +kernel
theorem dX4_note_106 : decode cX4_note 106 = .ok (.iconst 1, 1) := by decide +kernel
theorem dX4_note_107 : decode cX4_note 107 = .ok (.iadd, 1) := by decide +kernel
theorem dX4_note_108 : decode cX4_note 108 = .ok (.iload_n 2, 1) := by decide +kernel
theorem dX4_note_109 : decode cX4_note 109 = .ok (.iastore, 1) := by decide +kernel
theorem dX4_note_110 : decode cX4_note 110 = .ok (.aload_n 0, 1) := by decide +kernel
theorem dX4_note_111 : decode cX4_note 111 = .ok (.getfield 7, 3) := by decide +kernel
theorem dX4_note_114 : decode cX4_note 114 = .ok (.iload 6, 2) := by decide +kernel
theorem dX4_note_116 : decode cX4_note 116 = .ok (.iconst 2, 1) := by decide +kernel
theorem dX4_note_117 : decode cX4_note 117 = .ok (.iadd, 1) := by decide +kernel
theorem dX4_note_118 : decode cX4_note 118 = .ok (.iload_n 3, 1) := by decide +kernel
theorem dX4_note_119 : decode cX4_note 119 = .ok (.iastore, 1) := by decide +kernel
theorem dX4_note_120 : decode cX4_note 120 = .ok (.aload_n 0, 1) := by decide +kernel
theorem dX4_note_121 : decode cX4_note 121 = .ok (.getfield 7, 3) := by decide +kernel
theorem dX4_note_124 : decode cX4_note 124 = .ok (.iload 6, 2) := by decide +kernel
theorem dX4_note_126 : decode cX4_note 126 = .ok (.iconst 3, 1) := by decide +kernel
theorem dX4_note_127 : decode cX4_note 127 = .ok (.iadd, 1) := by decide +kernel
theorem dX4_note_128 : decode cX4_note 128 = .ok (.iload 4, 2) := by decide +kernel
theorem dX4_note_130 : decode cX4_note 130 = .ok (.iastore, 1) := by decide +kernel
theorem dX4_note_131 : decode cX4_note 131 = .ok (.aload_n 0, 1) := by decide +kernel
theorem dX4_note_132 : decode cX4_note 132 = .ok (.getfield 7, 3) := by decide +kernel
theorem dX4_note_135 : decode cX4_note 135 = .ok (.iload 6, 2) := by decide +kernel
theorem dX4_note_137 : decode cX4_note 137 = .ok (.iconst 4, 1) := by decide +kernel
theorem dX4_note_138 : decode cX4_note 138 = .ok (.iadd, 1) := by decide +kernel
theorem dX4_note_139 : decode cX4_note 139 = .ok (.iload 5, 2) := by decide +kernel
theorem dX4_note_141 : decode cX4_note 141 = .ok (.iastore, 1) := by decide +kernel
theorem dX4_note_142 : decode cX4_note 142 = .ok (.aload_n 0, 1) := by decide +kernel
theorem dX4_note_143 : decode cX4_note 143 = .ok (.getfield 7, 3) := by decide +kernel
theorem dX4_note_146 : decode cX4_note 146 = .ok (.iconst 2, 1) := by decide +kernel
theorem dX4_note_147 : decode cX4_note 147 = .ok (.dup2, 1) := by decide +kernel
theorem dX4_note_148 : decode cX4_note 148 = .ok (.iaload, 1) := by decide +kernel
theorem dX4_note_149 : decode cX4_note 149 = .ok (.iconst 1, 1) := by decide +kernel
theorem dX4_note_150 : decode cX4_note 150 = .ok (.iadd, 1) := by decide +kernel
theorem dX4_note_151 : decode cX4_note 151 = .ok (.iastore, 1) := by decide +kernel
theorem dX4_note_152 : decode cX4_note 152 = .ok (.aload_n 0, 1) := by decide +kernel
theorem dX4_note_153 : decode cX4_note 153 = .ok (.getfield 7, 3) := by decide +kernel
theorem dX4_note_156 : decode cX4_note 156 = .ok (.iconst 2, 1) := by decide +kernel
theorem dX4_note_157 : decode cX4_note 157 = .ok (.iaload, 1) := by decide +kernel
theorem dX4_note_158 : decode cX4_note 158 = .ok (.ireturn, 1) := by decide +kernel
theorem dX4_forget_0 : decode cX4_forget 0 = .ok (.aload_n 0, 1) := by decide +kernel
theorem dX4_forget_1 : decode cX4_forget 1 = .ok (.getfield 7, 3) := by decide +kernel
theorem dX4_forget_4 : decode cX4_forget 4 = .ok (.iconst 2, 1) := by decide +kernel
theorem dX4_forget_5 : decode cX4_forget 5 = .ok (.iaload, 1) := by decide +kernel
theorem dX4_forget_6 : decode cX4_forget 6 = .ok (.istore_n 1, 1) := by decide +kernel
theorem dX4_forget_7 : decode cX4_forget 7 = .ok (.aload_n 0, 1) := by decide +kernel
theorem dX4_forget_8 : decode cX4_forget 8 = .ok (.getfield 7, 3) := by decide +kernel
theorem dX4_forget_11 : decode cX4_forget 11 = .ok (.iconst 2, 1) := by decide +kernel
theorem dX4_forget_12 : decode cX4_forget 12 = .ok (.iconst 0, 1) := by decide +kernel
theorem dX4_forget_13 : decode cX4_forget 13 = .ok (.iastore, 1) := by decide +kernel
theorem dX4_forget_14 : decode cX4_forget 14 = .ok (.iload_n 1, 1) := by decide +kernel
theorem dX4_forget_15 : decode cX4_forget 15 = .ok (.ireturn, 1) := by decide +kernel
theorem dX4_kindsOf_0 : decode cX4_kindsOf 0 = .ok (.iconst 0, 1) := by decide +kernel
theorem dX4_kindsOf_1 : decode cX4_kindsOf 1 = .ok (.istore_n 2, 1) := by decide +kernel
theorem dX4_kindsOf_2 : decode cX4_kindsOf 2 = .ok (.iconst 0, 1) := by decide +kernel
theorem dX4_kindsOf_3 : decode cX4_kindsOf 3 = .ok (.istore_n 3, 1) := by decide +kernel
theorem dX4_kindsOf_4 : decode cX4_kindsOf 4 = .ok (.iload_n 3, 1) := by decide +kernel
theorem dX4_kindsOf_5 : decode cX4_kindsOf 5 = .ok (.bipush 6, 2) := by decide +kernel
theorem dX4_kindsOf_7 : decode cX4_kindsOf 7 = .ok (.if_icmp .ge 131, 3) := by decide +kernel
theorem dX4_kindsOf_10 : decode cX4_kindsOf 10 = .ok (.iconst 1, 1) := by decide +kernel
theorem dX4_kindsOf_11 : decode cX4_kindsOf 11 = .ok (.istore 4, 2) := by decide +kernel
theorem dX4_kindsOf_13 : decode cX4_kindsOf 13 = .ok (.iconst 0, 1) := by decide +kernel
theorem dX4_kindsOf_14 : decode cX4_kindsOf 14 = .ok (.istore 5, 2) := by decide +kernel
theorem dX4_kindsOf_16 : decode cX4_kindsOf 16 = .ok (.iload 5, 2) := by decide +kernel
theorem dX4_kindsOf_18 : decode cX4_kindsOf 18 = .ok (.aload_n 0, 1) := by decide +kernel
theorem dX4_kindsOf_19 : decode cX4_kindsOf 19 = .ok (.getfield 7, 3) := by decide +kernel
theorem dX4_kindsOf_22 : decode cX4_kindsOf 22 = .ok (.iconst 2, 1) := by decide +kernel
theorem dX4_kindsOf_23 : decode cX4_kindsOf 23 = .ok (.iaload, 1) := by decide +kernel
theorem dX4_kindsOf_24 : decode cX4_kindsOf 24 = .ok (.if_icmp .ge 93, 3) := by decide +kernel
theorem dX4_kindsOf_27 : decode cX4_kindsOf 27 = .ok (.bipush 22, 2) := by decide +kernel
theorem dX4_kindsOf_29 : decode cX4_kindsOf 29 = .ok (.iconst 5, 1) := by decide +kernel
theorem dX4_kindsOf_30 : decode cX4_kindsOf 30 = .ok (.iload 5, 2) := by decide +kernel
theorem dX4_kindsOf_32 : decode cX4_kindsOf 32 = .ok (.imul, 1) := by decide +kernel
theorem dX4_kindsOf_33 : decode cX4_kindsOf 33 = .ok (.iadd, 1) := by decide +kernel
theorem dX4_kindsOf_34 : decode cX4_kindsOf 34 = .ok (.istore 6, 2) := by decide +kernel
theorem dX4_kindsOf_36 : decode cX4_kindsOf 36 = .ok (.iload 4, 2) := by decide +kernel
theorem dX4_kindsOf_38 : decode cX4_kindsOf 38 = .ok (.ifCond .eq 70, 3) := by decide +kernel
theorem dX4_kindsOf_41 : decode cX4_kindsOf 41 = .ok (.aload_n 0, 1) := by decide +kernel
theorem dX4_kindsOf_42 : decode cX4_kindsOf 42 = .ok (.getfield 7, 3) := by decide +kernel
theorem dX4_kindsOf_45 : decode cX4_kindsOf 45 = .ok (.iload 6, 2) := by decide +kernel
theorem dX4_kindsOf_47 : decode cX4_kindsOf 47 = .ok (.iaload, 1) := by decide +kernel
theorem dX4_kindsOf_48 : decode cX4_kindsOf 48 = .ok (.iload_n 1, 1) := by decide +kernel
theorem dX4_kindsOf_49 : decode cX4_kindsOf 49 = .ok (.if_icmp .ne 55, 3) := by decide +kernel
theorem dX4_kindsOf_52 : decode cX4_kindsOf 52 = .ok (.iload_n 3, 1) := by decide +kernel
theorem dX4_kindsOf_53 : decode cX4_kindsOf 53 = .ok (.aload_n 0, 1) := by decide +kernel
theorem dX4_kindsOf_54 : decode cX4_kindsOf 54 = .ok (.getfield 7, 3) := by decide +kernel
theorem dX4_kindsOf_57 : decode cX4_kindsOf 57 = .ok (.iload 6, 2) := by decide +kernel
theorem dX4_kindsOf_59 : decode cX4_kindsOf 59 = .ok (.iconst 3, 1) := by decide +kernel
theorem dX4_kindsOf_60 : decode cX4_kindsOf 60 = .ok (.iadd, 1) := by decide +kernel
theorem dX4_kindsOf_61 : decode cX4_kindsOf 61 = .ok (.iaload, 1) := by decide +kernel
theorem dX4_kindsOf_62 : decode cX4_kindsOf 62 = .ok (.aload_n 0, 1) := by decide +kernel
theorem dX4_kindsOf_63 : decode cX4_kindsOf 63 = .ok (.getfield 7, 3) := by decide +kernel
theorem dX4_kindsOf_66 : decode cX4_kindsOf 66 = .ok (.iload 6, 2) := by decide +kernel
theorem dX4_kindsOf_68 : decode cX4_kindsOf 68 = .ok (.iconst 1, 1) := by decide +kernel
theorem dX4_kindsOf_69 : decode cX4_kindsOf 69 = .ok (.iadd, 1) := by decide +kernel
theorem dX4_kindsOf_70 : decode cX4_kindsOf 70 = .ok (.iaload, 1) := by decide +kernel
theorem dX4_kindsOf_71 : decode cX4_kindsOf 71 = .ok (.aload_n 0, 1) := by decide +kernel
theorem dX4_kindsOf_72 : decode cX4_kindsOf 72 = .ok (.getfield 7, 3) := by decide +kernel
theorem dX4_kindsOf_75 : decode cX4_kindsOf 75 = .ok (.iload 6, 2) := by decide +kernel
theorem dX4_kindsOf_77 : decode cX4_kindsOf 77 = .ok (.iconst 2, 1) := by decide +kernel
theorem dX4_kindsOf_78 : decode cX4_kindsOf 78 = .ok (.iadd, 1) := by decide +kernel
theorem dX4_kindsOf_79 : decode cX4_kindsOf 79 = .ok (.iaload, 1) := by decide +kernel
theorem dX4_kindsOf_80 : decode cX4_kindsOf 80 = .ok (.iconst 1, 1) := by decide +kernel
theorem dX4_kindsOf_81 : decode cX4_kindsOf 81 = .ok (.if_icmp .ne 7, 3) := by decide +kernel
theorem dX4_kindsOf_84 : decode cX4_kindsOf 84 = .ok (.iconst 1, 1) := by decide +kernel
theorem dX4_kindsOf_85 : decode cX4_kindsOf 85 = .ok (.goto 4, 3) := by decide +kernel
theorem dX4_kindsOf_88 : decode cX4_kindsOf 88 = .ok (.iconst 0, 1) := by decide +kernel
theorem dX4_kindsOf_89 : decode cX4_kindsOf 89 = .ok (.invokestatic 95, 3) := by decide +kernel
theorem dX4_kindsOf_92 : decode cX4_kindsOf 92 = .ok (.aload_n 0, 1) := by decide +kernel
theorem dX4_kindsOf_93 : decode cX4_kindsOf 93 = .ok (.getfield 7, 3) := by decide +kernel
theorem dX4_kindsOf_96 : decode cX4_kindsOf 96 = .ok (.iload 6, 2) := by decide +kernel
theorem dX4_kindsOf_98 : decode cX4_kindsOf 98 = .ok (.iconst 4, 1) := by decide +kernel
theorem dX4_kindsOf_99 : decode cX4_kindsOf 99 = .ok (.iadd, 1) := by decide +kernel
theorem dX4_kindsOf_100 : decode cX4_kindsOf 100 = .ok (.iaload, 1) := by decide +kernel
theorem dX4_kindsOf_101 : decode cX4_kindsOf 101 = .ok (.if_icmp .ne 7, 3) := by decide +kernel
theorem dX4_kindsOf_104 : decode cX4_kindsOf 104 = .ok (.iconst 1, 1) := by decide +kernel
theorem dX4_kindsOf_105 : decode cX4_kindsOf 105 = .ok (.goto 4, 3) := by decide +kernel
theorem dX4_kindsOf_108 : decode cX4_kindsOf 108 = .ok (.iconst 0, 1) := by decide +kernel
theorem dX4_kindsOf_109 : decode cX4_kindsOf 109 = .ok (.istore 4, 2) := by decide +kernel
theorem dX4_kindsOf_111 : decode cX4_kindsOf 111 = .ok (.iinc 5 1, 3) := by decide +kernel
theorem dX4_kindsOf_114 : decode cX4_kindsOf 114 = .ok (.goto (-98), 3) := by decide +kernel
theorem dX4_kindsOf_117 : decode cX4_kindsOf 117 = .ok (.iload_n 2, 1) := by decide +kernel
theorem dX4_kindsOf_118 : decode cX4_kindsOf 118 = .ok (.iload 4, 2) := by decide +kernel
theorem dX4_kindsOf_120 : decode cX4_kindsOf 120 = .ok (.ifCond .eq 9, 3) := by decide +kernel
theorem dX4_kindsOf_123 : decode cX4_kindsOf 123 = .ok (.iconst 1, 1) := by decide +kernel
theorem dX4_kindsOf_124 : decode cX4_kindsOf 124 = .ok (.iload_n 3, 1) := by decide +kernel
theorem dX4_kindsOf_125 : decode cX4_kindsOf 125 = .ok (.ishl, 1) := by decide +kernel
theorem dX4_kindsOf_126 : decode cX4_kindsOf 126 = .ok (.goto 4, 3) := by decide +kernel
theorem dX4_kindsOf_129 : decode cX4_kindsOf 129 = .ok (.iconst 0, 1) := by decide +kernel
theorem dX4_kindsOf_130 : decode cX4_kindsOf 130 = .ok (.ior, 1) := by decide +kernel
theorem dX4_kindsOf_131 : decode cX4_kindsOf 131 = .ok (.istore_n 2, 1) := by decide +kernel
theorem dX4_kindsOf_132 : decode cX4_kindsOf 132 = .ok (.iinc 3 1, 3) := by decide +kernel
theorem dX4_kindsOf_135 : decode cX4_kindsOf 135 = .ok (.goto (-131), 3) := by decide +kernel
theorem dX4_kindsOf_138 : decode cX4_kindsOf 138 = .ok (.iload_n 2, 1) := by decide +kernel
theorem dX4_kindsOf_139 : decode cX4_kindsOf 139 = .ok (.ireturn, 1) := by decide +kernel
theorem dX4_is_0 : decode cX4_is 0 = .ok (.aload_n 0, 1) := by decide +kernel
theorem dX4_is_1 : decode cX4_is 1 = .ok (.iload_n 1, 1) := by decide +kernel
theorem dX4_is_2 : decode cX4_is 2 = .ok (.invokevirtual 113, 3) := by decide +kernel
theorem dX4_is_5 : decode cX4_is 5 = .ok (.ifCond .eq 11, 3) := by decide +kernel
theorem dX4_is_8 : decode cX4_is 8 = .ok (.aload_n 0, 1) := by decide +kernel
theorem dX4_is_9 : decode cX4_is 9 = .ok (.iload_n 1, 1) := by decide +kernel
theorem dX4_is_10 : decode cX4_is 10 = .ok (.invokevirtual 150, 3) := by decide +kernel
theorem dX4_is_13 : decode cX4_is 13 = .ok (.goto 9, 3) := by decide +kernel
theorem dX4_is_16 : decode cX4_is 16 = .ok (.aload_n 0, 1) := by decide +kernel
theorem dX4_is_17 : decode cX4_is 17 = .ok (.bipush (-2), 2) := by decide +kernel
theorem dX4_is_19 : decode cX4_is 19 = .ok (.invokevirtual 62, 3) := by decide +kernel
theorem dX4_is_22 : decode cX4_is 22 = .ok (.ireturn, 1) := by decide +kernel
theorem dX4_look_0 : decode cX4_look 0 = .ok (.aload_n 0, 1) := by decide +kernel
theorem dX4_look_1 : decode cX4_look 1 = .ok (.iload_n 1, 1) := by decide +kernel
theorem dX4_look_2 : decode cX4_look 2 = .ok (.invokevirtual 113, 3) := by decide +kernel
theorem dX4_look_5 : decode cX4_look 5 = .ok (.ifCond .eq 15, 3) := by decide +kernel
theorem dX4_look_8 : decode cX4_look 8 = .ok (.iload_n 2, 1) := by decide +kernel
theorem dX4_look_9 : decode cX4_look 9 = .ok (.i2l, 1) := by decide +kernel
theorem dX4_look_10 : decode cX4_look 10 = .ok (.lconst 0, 1) := by decide +kernel
theorem dX4_look_11 : decode cX4_look 11 = .ok (.ldc2_w 148, 3) := by decide +kernel
theorem dX4_look_14 : decode cX4_look 14 = .ok (.invokestatic 56, 3) := by decide +kernel
theorem dX4_look_17 : decode cX4_look 17 = .ok (.ifCond .ne 10, 3) := by decide +kernel
theorem dX4_look_20 : decode cX4_look 20 = .ok (.aload_n 0, 1) := by decide +kernel
theorem dX4_look_21 : decode cX4_look 21 = .ok (.bipush (-2), 2) := by decide +kernel
theorem dX4_look_23 : decode cX4_look 23 = .ok (.invokevirtual 62, 3) := by decide +kernel
theorem dX4_look_26 : decode cX4_look 26 = .ok (.ireturn, 1) := by decide +kernel
theorem dX4_look_27 : decode cX4_look 27 = .ok (.aload_n 0, 1) := by decide +kernel
theorem dX4_look_28 : decode cX4_look 28 = .ok (.iload_n 1, 1) := by decide +kernel
theorem dX4_look_29 : decode cX4_look 29 = .ok (.invokevirtual 150, 3) := by decide +kernel
theorem dX4_look_32 : decode cX4_look 32 = .ok (.istore_n 3, 1) := by decide +kernel
theorem dX4_look_33 : decode cX4_look 33 = .ok (.iconst (-1), 1) := by decide +kernel
theorem dX4_look_34 : decode cX4_look 34 = .ok (.istore 4, 2) := by decide +kernel
theorem dX4_look_36 : decode cX4_look 36 = .ok (.ldc 153, 2) := by decide +kernel
theorem dX4_look_38 : decode cX4_look 38 = .ok (.istore 5, 2) := by decide +kernel
theorem dX4_look_40 : decode cX4_look 40 = .ok (.iconst 0, 1) := by decide +kernel
theorem dX4_look_41 : decode cX4_look 41 = .ok (.istore 6, 2) := by decide +kernel
theorem dX4_look_43 : decode cX4_look 43 = .ok (.iload 6, 2) := by decide +kernel
theorem dX4_look_45 : decode cX4_look 45 = .ok (.bipush 12, 2) := by decide +kernel
theorem dX4_look_47 : decode cX4_look 47 = .ok (.if_icmp .ge 158, 3) := by decide +kernel
theorem dX4_look_50 : decode cX4_look 50 = .ok (.iload_n 3, 1) := by decide +kernel
theorem dX4_look_51 : decode cX4_look 51 = .ok (.ifCond .le 154, 3) := by decide +kernel
theorem dX4_look_54 : decode cX4_look 54 = .ok (.iconst 0, 1) := by decide +kernel
theorem dX4_look_55 : decode cX4_look 55 = .ok (.istore 7, 2) := by decide +kernel
theorem dX4_look_57 : decode cX4_look 57 = .ok (.iconst 0, 1) := by decide +kernel
theorem dX4_look_58 : decode cX4_look 58 = .ok (.istore 8, 2) := by decide +kernel
theorem dX4_look_60 : decode cX4_look 60 = .ok (.iload 8, 2) := by decide +kernel
theorem dX4_look_62 : decode cX4_look 62 = .ok (.bipush 6, 2) := by decide +kernel
theorem dX4_look_64 : decode cX4_look 64 = .ok (.if_icmp .ge 17, 3) := by decide +kernel
theorem dX4_look_67 : decode cX4_look 67 = .ok (.aload_n 0, 1) := by decide +kernel
theorem dX4_look_68 : decode cX4_look 68 = .ok (.getfield 36, 3) := by decide +kernel
theorem dX4_look_71 : decode cX4_look 71 = .ok (.iload 8, 2) := by decide +kernel
theorem dX4_look_73 : decode cX4_look 73 = .ok (.iconst 0, 1) := by decide +kernel
theorem dX4_look_74 : decode cX4_look 74 = .ok (.iastore, 1) := by decide +kernel
theorem dX4_look_75 : decode cX4_look 75 = .ok (.iinc 8 1, 3) := by decide +kernel
theorem dX4_look_78 : decode cX4_look 78 = .ok (.goto (-18), 3) := by decide +kernel
theorem dX4_look_81 : decode cX4_look 81 = .ok (.iconst 0, 1) := by decide +kernel
theorem dX4_look_82 : decode cX4_look 82 = .ok (.istore 8, 2) := by decide +kernel
theorem dX4_look_84 : decode cX4_look 84 = .ok (.iload 8, 2) := by decide +kernel
theorem dX4_look_86 : decode cX4_look 86 = .ok (.bipush 6, 2) := by decide +kernel
theorem dX4_look_88 : decode cX4_look 88 = .ok (.if_icmp .ge 79, 3) := by decide +kernel
theorem dX4_look_91 : decode cX4_look 91 = .ok (.iload_n 3, 1) := by decide +kernel
theorem dX4_look_92 : decode cX4_look 92 = .ok (.iload 8, 2) := by decide +kernel
theorem dX4_look_94 : decode cX4_look 94 = .ok (.invokestatic 91, 3) := by decide +kernel
theorem dX4_look_97 : decode cX4_look 97 = .ok (.ifCond .eq 64, 3) := by decide +kernel
theorem dX4_look_100 : decode cX4_look 100 = .ok (.iload 8, 2) := by decide +kernel
theorem dX4_look_102 : decode cX4_look 102 = .ok (.iload_n 2, 1) := by decide +kernel
theorem dX4_look_103 : decode cX4_look 103 = .ok (.iload 6, 2) := by decide +kernel
theorem dX4_look_105 : decode cX4_look 105 = .ok (.bipush 6, 2) := by decide +kernel
theorem dX4_look_107 : decode cX4_look 107 = .ok (.irem, 1) := by decide +kernel
theorem dX4_look_108 : decode cX4_look 108 = .ok (.iload 6, 2) := by decide +kernel
theorem dX4_look_110 : decode cX4_look 110 = .ok (.iconst 5, 1) := by decide +kernel
theorem dX4_look_111 : decode cX4_look 111 = .ok (.if_icmp .le 7, 3) := by decide +kernel
theorem dX4_look_114 : decode cX4_look 114 = .ok (.iconst 1, 1) := by decide +kernel
theorem dX4_look_115 : decode cX4_look 115 = .ok (.goto 4, 3) := by decide +kernel
theorem dX4_look_118 : decode cX4_look 118 = .ok (.iconst 0, 1) := by decide +kernel
theorem dX4_look_119 : decode cX4_look 119 = .ok (.invokestatic 95, 3) := by decide +kernel
theorem dX4_look_122 : decode cX4_look 122 = .ok (.istore 9, 2) := by decide +kernel
theorem dX4_look_124 : decode cX4_look 124 = .ok (.aload_n 0, 1) := by decide +kernel
theorem dX4_look_125 : decode cX4_look 125 = .ok (.getfield 36, 3) := by decide +kernel
theorem dX4_look_128 : decode cX4_look 128 = .ok (.iload 9, 2) := by decide +kernel
theorem dX4_look_130 : decode cX4_look 130 = .ok (.dup2, 1) := by decide +kernel
theorem dX4_look_131 : decode cX4_look 131 = .ok (.iaload, 1) := by decide +kernel
theorem dX4_look_132 : decode cX4_look 132 = .ok (.iconst 1, 1) := by decide +kernel
theorem dX4_look_133 : decode cX4_look 133 = .ok (.iadd, 1) := by decide +kernel
theorem dX4_look_134 : decode cX4_look 134 = .ok (.iastore, 1) := by decide +kernel
theorem dX4_look_135 : decode cX4_look 135 = .ok (.aload_n 0, 1) := by decide +kernel
theorem dX4_look_136 : decode cX4_look 136 = .ok (.getfield 36, 3) := by decide +kernel
theorem dX4_look_139 : decode cX4_look 139 = .ok (.iload 9, 2) := by decide +kernel
theorem dX4_look_141 : decode cX4_look 141 = .ok (.iaload, 1) := by decide +kernel
theorem dX4_look_142 : decode cX4_look 142 = .ok (.iload 7, 2) := by decide +kernel
theorem dX4_look_144 : decode cX4_look 144 = .ok (.if_icmp .le 13, 3) := by decide +kernel
theorem dX4_look_147 : decode cX4_look 147 = .ok (.aload_n 0, 1) := by decide +kernel
theorem dX4_look_148 : decode cX4_look 148 = .ok (.getfield 36, 3) := by decide +kernel
theorem dX4_look_151 : decode cX4_look 151 = .ok (.iload 9, 2) := by decide +kernel
theorem dX4_look_153 : decode cX4_look 153 = .ok (.iaload, 1) := by decide +kernel
theorem dX4_look_154 : decode cX4_look 154 = .ok (.goto 5, 3) := by decide +kernel
theorem dX4_look_157 : decode cX4_look 157 = .ok (.iload 7, 2) := by decide +kernel
theorem dX4_look_159 : decode cX4_look 159 = .ok (.istore 7, 2) := by decide +kernel
theorem dX4_look_161 : decode cX4_look 161 = .ok (.iinc 8 1, 3) := by decide +kernel
theorem dX4_look_164 : decode cX4_look 164 = .ok (.goto (-80), 3) := by decide +kernel
theorem dX4_look_167 : decode cX4_look 167 = .ok (.iload 7, 2) := by decide +kernel
theorem dX4_look_169 : decode cX4_look 169 = .ok (.iload 5, 2) := by decide +kernel
theorem dX4_look_171 : decode cX4_look 171 = .ok (.if_icmp .ge 8, 3) := by decide +kernel
theorem dX4_look_174 : decode cX4_look 174 = .ok (.iload 6, 2) := by decide +kernel
theorem dX4_look_176 : decode cX4_look 176 = .ok (.goto 5, 3) := by decide +kernel
theorem dX4_look_179 : decode cX4_look 179 = .ok (.iload 4, 2) := by decide +kernel
theorem dX4_look_181 : decode cX4_look 181 = .ok (.istore 4, 2) := by decide +kernel
theorem dX4_look_183 : decode cX4_look 183 = .ok (.iload 7, 2) := by decide +kernel
theorem dX4_look_185 : decode cX4_look 185 = .ok (.iload 5, 2) := by decide +kernel
theorem dX4_look_187 : decode cX4_look 187 = .ok (.if_icmp .ge 8, 3) := by decide +kernel
theorem dX4_look_190 : decode cX4_look 190 = .ok (.iload 7, 2) := by decide +kernel
theorem dX4_look_192 : decode cX4_look 192 = .ok (.goto 5, 3) := by decide +kernel
theorem dX4_look_195 : decode cX4_look 195 = .ok (.iload 5, 2) := by decide +kernel
theorem dX4_look_197 : decode cX4_look 197 = .ok (.istore 5, 2) := by decide +kernel
theorem dX4_look_199 : decode cX4_look 199 = .ok (.iinc 6 1, 3) := by decide +kernel
theorem dX4_look_202 : decode cX4_look 202 = .ok (.goto (-159), 3) := by decide +kernel
theorem dX4_look_205 : decode cX4_look 205 = .ok (.iload 4, 2) := by decide +kernel
theorem dX4_look_207 : decode cX4_look 207 = .ok (.ireturn, 1) := by decide +kernel
theorem dX4_manySources_0 : decode cX4_manySources 0 = .ok (.iconst 0, 1) := by decide +kernel
theorem dX4_manySources_1 : decode cX4_manySources 1 = .ok (.istore_n 1, 1) := by decide +kernel
theorem dX4_manySources_2 : decode cX4_manySources 2 = .ok (.iconst 0, 1) := by decide +kernel
theorem dX4_manySources_3 : decode cX4_manySources 3 = .ok (.istore_n 2, 1) := by decide +kernel
theorem dX4_manySources_4 : decode cX4_manySources 4 = .ok (.iload_n 2, 1) := by decide +kernel
theorem dX4_manySources_5 : decode cX4_manySources 5 = .ok (.bipush 100, 2) := by decide +kernel
theorem dX4_manySources_7 : decode cX4_manySources 7 = .ok (.if_icmp .gt 85, 3) := by decide +kernel
theorem dX4_manySources_10 : decode cX4_manySources 10 = .ok (.iconst 1, 1) := by decide +kernel
theorem dX4_manySources_11 : decode cX4_manySources 11 = .ok (.istore_n 3, 1) := by decide +kernel
theorem dX4_manySources_12 : decode cX4_manySources 12 = .ok (.iconst 0, 1) := by decide +kernel
theorem dX4_manySources_13 : decode cX4_manySources 13 = .ok (.istore 4, 2) := by decide +kernel
theorem dX4_manySources_15 : decode cX4_manySources 15 = .ok (.iload 4, 2) := by decide +kernel
theorem dX4_manySources_17 : decode cX4_manySources 17 = .ok (.aload_n 0, 1) := by decide +kernel
theorem dX4_manySources_18 : decode cX4_manySources 18 = .ok (.invokevirtual 52, 3) := by decide +kernel
theorem dX4_manySources_21 : decode cX4_manySources 21 = .ok (.if_icmp .ge 53, 3) := by decide +kernel
theorem dX4_manySources_24 : decode cX4_manySources 24 = .ok (.iload_n 3, 1) := by decide +kernel
theorem dX4_manySources_25 : decode cX4_manySources 25 = .ok (.ifCond .eq 41, 3) := by decide +kernel
theorem dX4_manySources_28 : decode cX4_manySources 28 = .ok (.aload_n 0, 1) := by decide +kernel
theorem dX4_manySources_29 : decode cX4_manySources 29 = .ok (.getfield 7, 3) := by decide +kernel
theorem dX4_manySources_32 : decode cX4_manySources 32 = .ok (.bipush 11, 2) := by decide +kernel
theorem dX4_manySources_34 : decode cX4_manySources 34 = .ok (.iload 4, 2) := by decide +kernel
theorem dX4_manySources_36 : decode cX4_manySources 36 = .ok (.iadd, 1) := by decide +kernel
theorem dX4_manySources_37 : decode cX4_manySources 37 = .ok (.iaload, 1) := by decide +kernel
theorem dX4_manySources_38 : decode cX4_manySources 38 = .ok (.iload_n 2, 1) := by decide +kernel
theorem dX4_manySources_39 : decode cX4_manySources 39 = .ok (.if_icmp .lt 7, 3) := by decide +kernel
theorem dX4_manySources_42 : decode cX4_manySources 42 = .ok (.iconst 1, 1) := by decide +kernel
theorem dX4_manySources_43 : decode cX4_manySources 43 = .ok (.goto 4, 3) := by decide +kernel
theorem dX4_manySources_46 : decode cX4_manySources 46 = .ok (.iconst 0, 1) := by decide +kernel
theorem dX4_manySources_47 : decode cX4_manySources 47 = .ok (.aload_n 0, 1) := by decide +kernel
theorem dX4_manySources_48 : decode cX4_manySources 48 = .ok (.getfield 7, 3) := by decide +kernel
theorem dX4_manySources_51 : decode cX4_manySources 51 = .ok (.bipush 18, 2) := by decide +kernel
theorem dX4_manySources_53 : decode cX4_manySources 53 = .ok (.iaload, 1) := by decide +kernel
theorem dX4_manySources_54 : decode cX4_manySources 54 = .ok (.iload 4, 2) := by decide +kernel
theorem dX4_manySources_56 : decode cX4_manySources 56 = .ok (.invokestatic 91, 3) := by decide +kernel
theorem dX4_manySources_59 : decode cX4_manySources 59 = .ok (.if_icmp .ne 7, 3) := by decide +kernel
theorem dX4_manySources_62 : decode cX4_manySources 62 = .ok (.iconst 1, 1) := by decide +kernel
theorem dX4_manySources_63 : decode cX4_manySources 63 = .ok (.goto 4, 3) := by decide +kernel
theorem dX4_manySources_66 : decode cX4_manySources 66 = .ok (.iconst 0, 1) := by decide +kernel
theorem dX4_manySources_67 : decode cX4_manySources 67 = .ok (.istore_n 3, 1) := by decide +kernel
theorem dX4_manySources_68 : decode cX4_manySources 68 = .ok (.iinc 4 1, 3) := by decide +kernel
theorem dX4_manySources_71 : decode cX4_manySources 71 = .ok (.goto (-56), 3) := by decide +kernel
theorem dX4_manySources_74 : decode cX4_manySources 74 = .ok (.iload_n 1, 1) := by decide +kernel
theorem dX4_manySources_75 : decode cX4_manySources 75 = .ok (.iload_n 3, 1) := by decide +kernel
theorem dX4_manySources_76 : decode cX4_manySources 76 = .ok (.ifCond .eq 7, 3) := by decide +kernel
theorem dX4_manySources_79 : decode cX4_manySources 79 = .ok (.iconst 1, 1) := by decide +kernel
theorem dX4_manySources_80 : decode cX4_manySources 80 = .ok (.goto 4, 3) := by decide +kernel
theorem dX4_manySources_83 : decode cX4_manySources 83 = .ok (.iconst 0, 1) := by decide +kernel
theorem dX4_manySources_84 : decode cX4_manySources 84 = .ok (.iadd, 1) := by decide +kernel
theorem dX4_manySources_85 : decode cX4_manySources 85 = .ok (.istore_n 1, 1) := by decide +kernel
theorem dX4_manySources_86 : decode cX4_manySources 86 = .ok (.iinc 2 1, 3) := by decide +kernel
theorem dX4_manySources_89 : decode cX4_manySources 89 = .ok (.goto (-85), 3) := by decide +kernel
theorem dX4_manySources_92 : decode cX4_manySources 92 = .ok (.iload_n 1, 1) := by decide +kernel
theorem dX4_manySources_93 : decode cX4_manySources 93 = .ok (.ireturn, 1) := by decide +kernel
theorem dX4_areKindsEven_0 : decode cX4_areKindsEven 0 = .ok (.iconst 1, 1) := by decide +kernel
theorem dX4_areKindsEven_1 : decode cX4_areKindsEven 1 = .ok (.istore_n 1, 1) := by decide +kernel
theorem dX4_areKindsEven_2 : decode cX4_areKindsEven 2 = .ok (.iconst 0, 1) := by decide +kernel
theorem dX4_areKindsEven_3 : decode cX4_areKindsEven 3 = .ok (.istore_n 2, 1) := by decide +kernel
theorem dX4_areKindsEven_4 : decode cX4_areKindsEven 4 = .ok (.iload_n 2, 1) := by decide +kernel
theorem dX4_areKindsEven_5 : decode cX4_areKindsEven 5 = .ok (.bipush 6, 2) := by decide +kernel
theorem dX4_areKindsEven_7 : decode cX4_areKindsEven 7 = .ok (.if_icmp .ge 123, 3) := by decide +kernel
theorem dX4_areKindsEven_10 : decode cX4_areKindsEven 10 = .ok (.iconst 1, 1) := by decide +kernel
theorem dX4_areKindsEven_11 : decode cX4_areKindsEven 11 = .ok (.istore_n 3, 1) := by decide +kernel
theorem dX4_areKindsEven_12 : decode cX4_areKindsEven 12 = .ok (.iconst 1, 1) := by decide +kernel
theorem dX4_areKindsEven_13 : decode cX4_areKindsEven 13 = .ok (.istore 4, 2) := by decide +kernel
theorem dX4_areKindsEven_15 : decode cX4_areKindsEven 15 = .ok (.iconst 0, 1) := by decide +kernel
theorem dX4_areKindsEven_16 : decode cX4_areKindsEven 16 = .ok (.istore 5, 2) := by decide +kernel
theorem dX4_areKindsEven_18 : decode cX4_areKindsEven 18 = .ok (.iload 5, 2) := by decide +kernel
theorem dX4_areKindsEven_20 : decode cX4_areKindsEven 20 = .ok (.aload_n 0, 1) := by decide +kernel
theorem dX4_areKindsEven_21 : decode cX4_areKindsEven 21 = .ok (.invokevirtual 52, 3) := by decide +kernel
theorem dX4_areKindsEven_24 : decode cX4_areKindsEven 24 = .ok (.if_icmp .ge 81, 3) := by decide +kernel
theorem dX4_areKindsEven_27 : decode cX4_areKindsEven 27 = .ok (.iload_n 3, 1) := by decide +kernel
theorem dX4_areKindsEven_28 : decode cX4_areKindsEven 28 = .ok (.ifCond .eq 32, 3) := by decide +kernel
theorem dX4_areKindsEven_31 : decode cX4_areKindsEven 31 = .ok (.aload_n 0, 1) := by decide +kernel
theorem dX4_areKindsEven_32 : decode cX4_areKindsEven 32 = .ok (.iload 5, 2) := by decide +kernel
theorem dX4_areKindsEven_34 : decode cX4_areKindsEven 34 = .ok (.invokevirtual 88, 3) := by decide +kernel
theorem dX4_areKindsEven_37 : decode cX4_areKindsEven 37 = .ok (.iload_n 2, 1) := by decide +kernel
theorem dX4_areKindsEven_38 : decode cX4_areKindsEven 38 = .ok (.if_icmp .ne 18, 3) := by decide +kernel
theorem dX4_areKindsEven_41 : decode cX4_areKindsEven 41 = .ok (.aload_n 0, 1) := by decide +kernel
theorem dX4_areKindsEven_42 : decode cX4_areKindsEven 42 = .ok (.getfield 7, 3) := by decide +kernel
theorem dX4_areKindsEven_45 : decode cX4_areKindsEven 45 = .ok (.bipush 18, 2) := by decide +kernel
theorem dX4_areKindsEven_47 : decode cX4_areKindsEven 47 = .ok (.iaload, 1) := by decide +kernel
theorem dX4_areKindsEven_48 : decode cX4_areKindsEven 48 = .ok (.iload 5, 2) := by decide +kernel
theorem dX4_areKindsEven_50 : decode cX4_areKindsEven 50 = .ok (.invokestatic 91, 3) := by decide +kernel
theorem dX4_areKindsEven_53 : decode cX4_areKindsEven 53 = .ok (.ifCond .eq 7, 3) := by decide +kernel
theorem dX4_areKindsEven_56 : decode cX4_areKindsEven 56 = .ok (.iconst 1, 1) := by decide +kernel
theorem dX4_areKindsEven_57 : decode cX4_areKindsEven 57 = .ok (.goto 4, 3) := by decide +kernel
theorem dX4_areKindsEven_60 : decode cX4_areKindsEven 60 = .ok (.iconst 0, 1) := by decide +kernel
theorem dX4_areKindsEven_61 : decode cX4_areKindsEven 61 = .ok (.istore_n 3, 1) := by decide +kernel
theorem dX4_areKindsEven_62 : decode cX4_areKindsEven 62 = .ok (.iload 4, 2) := by decide +kernel
theorem dX4_areKindsEven_64 : decode cX4_areKindsEven 64 = .ok (.ifCond .eq 32, 3) := by decide +kernel
theorem dX4_areKindsEven_67 : decode cX4_areKindsEven 67 = .ok (.aload_n 0, 1) := by decide +kernel
theorem dX4_areKindsEven_68 : decode cX4_areKindsEven 68 = .ok (.iload 5, 2) := by decide +kernel
theorem dX4_areKindsEven_70 : decode cX4_areKindsEven 70 = .ok (.invokevirtual 88, 3) := by decide +kernel
theorem dX4_areKindsEven_73 : decode cX4_areKindsEven 73 = .ok (.iload_n 2, 1) := by decide +kernel
theorem dX4_areKindsEven_74 : decode cX4_areKindsEven 74 = .ok (.if_icmp .ne 18, 3) := by decide +kernel
theorem dX4_areKindsEven_77 : decode cX4_areKindsEven 77 = .ok (.aload_n 0, 1) := by decide +kernel
theorem dX4_areKindsEven_78 : decode cX4_areKindsEven 78 = .ok (.getfield 7, 3) := by decide +kernel
theorem dX4_areKindsEven_81 : decode cX4_areKindsEven 81 = .ok (.bipush 18, 2) := by decide +kernel
theorem dX4_areKindsEven_83 : decode cX4_areKindsEven 83 = .ok (.iaload, 1) := by decide +kernel
theorem dX4_areKindsEven_84 : decode cX4_areKindsEven 84 = .ok (.iload 5, 2) := by decide +kernel
theorem dX4_areKindsEven_86 : decode cX4_areKindsEven 86 = .ok (.invokestatic 91, 3) := by decide +kernel
theorem dX4_areKindsEven_89 : decode cX4_areKindsEven 89 = .ok (.ifCond .ne 7, 3) := by decide +kernel
theorem dX4_areKindsEven_92 : decode cX4_areKindsEven 92 = .ok (.iconst 1, 1) := by decide +kernel
theorem dX4_areKindsEven_93 : decode cX4_areKindsEven 93 = .ok (.goto 4, 3) := by decide +kernel
theorem dX4_areKindsEven_96 : decode cX4_areKindsEven 96 = .ok (.iconst 0, 1) := by decide +kernel
theorem dX4_areKindsEven_97 : decode cX4_areKindsEven 97 = .ok (.istore 4, 2) := by decide +kernel
theorem dX4_areKindsEven_99 : decode cX4_areKindsEven 99 = .ok (.iinc 5 1, 3) := by decide +kernel
theorem dX4_areKindsEven_102 : decode cX4_areKindsEven 102 = .ok (.goto (-84), 3) := by decide +kernel
theorem dX4_areKindsEven_105 : decode cX4_areKindsEven 105 = .ok (.iload_n 1, 1) := by decide +kernel
theorem dX4_areKindsEven_106 : decode cX4_areKindsEven 106 = .ok (.ifCond .eq 16, 3) := by decide +kernel
theorem dX4_areKindsEven_109 : decode cX4_areKindsEven 109 = .ok (.iload_n 3, 1) := by decide +kernel
theorem dX4_areKindsEven_110 : decode cX4_areKindsEven 110 = .ok (.ifCond .ne 8, 3) := by decide +kernel
theorem dX4_areKindsEven_113 : decode cX4_areKindsEven 113 = .ok (.iload 4, 2) := by decide +kernel
theorem dX4_areKindsEven_115 : decode cX4_areKindsEven 115 = .ok (.ifCond .eq 7, 3) := by decide +kernel
theorem dX4_areKindsEven_118 : decode cX4_areKindsEven 118 = .ok (.iconst 1, 1) := by decide +kernel
theorem dX4_areKindsEven_119 : decode cX4_areKindsEven 119 = .ok (.goto 4, 3) := by decide +kernel
theorem dX4_areKindsEven_122 : decode cX4_areKindsEven 122 = .ok (.iconst 0, 1) := by decide +kernel
theorem dX4_areKindsEven_123 : decode cX4_areKindsEven 123 = .ok (.istore_n 1, 1) := by decide +kernel
theorem dX4_areKindsEven_124 : decode cX4_areKindsEven 124 = .ok (.iinc 2 1, 3) := by decide +kernel
theorem dX4_areKindsEven_127 : decode cX4_areKindsEven 127 = .ok (.goto (-123), 3) := by decide +kernel
theorem dX4_areKindsEven_130 : decode cX4_areKindsEven 130 = .ok (.iload_n 1, 1) := by decide +kernel
theorem dX4_areKindsEven_131 : decode cX4_areKindsEven 131 = .ok (.ireturn, 1) := by decide +kernel
theorem dX4_source_0 : decode cX4_source 0 = .ok (.iload_n 1, 1) := by decide +kernel
theorem dX4_source_1 : decode cX4_source 1 = .ok (.ifCond .ne 10, 3) := by decide +kernel
theorem dX4_source_4 : decode cX4_source 4 = .ok (.aload_n 0, 1) := by decide +kernel
theorem dX4_source_5 : decode cX4_source 5 = .ok (.invokevirtual 154, 3) := by decide +kernel
theorem dX4_source_8 : decode cX4_source 8 = .ok (.goto 29, 3) := by decide +kernel
theorem dX4_source_11 : decode cX4_source 11 = .ok (.iload_n 1, 1) := by decide +kernel
theorem dX4_source_12 : decode cX4_source 12 = .ok (.iconst 1, 1) := by decide +kernel
theorem dX4_source_13 : decode cX4_source 13 = .ok (.if_icmp .ne 18, 3) := by decide +kernel
theorem dX4_source_16 : decode cX4_source 16 = .ok (.aload_n 0, 1) := by decide +kernel
theorem dX4_source_17 : decode cX4_source 17 = .ok (.invokevirtual 157, 3) := by decide +kernel
theorem dX4_source_20 : decode cX4_source 20 = .ok (.ifCond .eq 7, 3) := by decide +kernel
theorem dX4_source_23 : decode cX4_source 23 = .ok (.iconst 1, 1) := by decide +kernel
theorem dX4_source_24 : decode cX4_source 24 = .ok (.goto 13, 3) := by decide +kernel
theorem dX4_source_27 : decode cX4_source 27 = .ok (.iconst 0, 1) := by decide +kernel
theorem dX4_source_28 : decode cX4_source 28 = .ok (.goto 9, 3) := by decide +kernel
theorem dX4_source_31 : decode cX4_source 31 = .ok (.aload_n 0, 1) := by decide +kernel
theorem dX4_source_32 : decode cX4_source 32 = .ok (.bipush (-2), 2) := by decide +kernel
theorem dX4_source_34 : decode cX4_source 34 = .ok (.invokevirtual 62, 3) := by decide +kernel
theorem dX4_source_37 : decode cX4_source 37 = .ok (.ireturn, 1) := by decide +kernel
theorem dX4_fraction_0 : decode cX4_fraction 0 = .ok (.lload_n 1, 1) := by decide +kernel
theorem dX4_fraction_1 : decode cX4_fraction 1 = .ok (.lstore 5, 2) := by decide +kernel
theorem dX4_fraction_3 : decode cX4_fraction 3 = .ok (.lload_n 3, 1) := by decide +kernel
theorem dX4_fraction_4 : decode cX4_fraction 4 = .ok (.lstore 7, 2) := by decide +kernel
theorem dX4_fraction_6 : decode cX4_fraction 6 = .ok (.lload 7, 2) := by decide +kernel
theorem dX4_fraction_8 : decode cX4_fraction 8 = .ok (.lconst 0, 1) := by decide +kernel
theorem dX4_fraction_9 : decode cX4_fraction 9 = .ok (.lcmp, 1) := by decide +kernel
theorem dX4_fraction_10 : decode cX4_fraction 10 = .ok (.ifCond .eq 21, 3) := by decide +kernel
theorem dX4_fraction_13 : decode cX4_fraction 13 = .ok (.lload 5, 2) := by decide +kernel
theorem dX4_fraction_15 : decode cX4_fraction 15 = .ok (.lload 7, 2) := by decide +kernel
theorem dX4_fraction_17 : decode cX4_fraction 17 = .ok (.lrem, 1) := by decide +kernel
theorem dX4_fraction_18 : decode cX4_fraction 18 = .ok (.lstore 9, 2) := by decide +kernel
theorem dX4_fraction_20 : decode cX4_fraction 20 = .ok (.lload 7, 2) := by decide +kernel
theorem dX4_fraction_22 : decode cX4_fraction 22 = .ok (.lstore 5, 2) := by decide +kernel
theorem dX4_fraction_24 : decode cX4_fraction 24 = .ok (.lload 9, 2) := by decide +kernel
theorem dX4_fraction_26 : decode cX4_fraction 26 = .ok (.lstore 7, 2) := by decide +kernel
theorem dX4_fraction_28 : decode cX4_fraction 28 = .ok (.goto (-22), 3) := by decide +kernel
theorem dX4_fraction_31 : decode cX4_fraction 31 = .ok (.aload_n 0, 1) := by decide +kernel
theorem dX4_fraction_32 : decode cX4_fraction 32 = .ok (.lload_n 1, 1) := by decide +kernel
theorem dX4_fraction_33 : decode cX4_fraction 33 = .ok (.lload 5, 2) := by decide +kernel
theorem dX4_fraction_35 : decode cX4_fraction 35 = .ok (.ldiv, 1) := by decide +kernel
theorem dX4_fraction_36 : decode cX4_fraction 36 = .ok (.putfield 161, 3) := by decide +kernel
theorem dX4_fraction_39 : decode cX4_fraction 39 = .ok (.aload_n 0, 1) := by decide +kernel
theorem dX4_fraction_40 : decode cX4_fraction 40 = .ok (.lload_n 3, 1) := by decide +kernel
theorem dX4_fraction_41 : decode cX4_fraction 41 = .ok (.lload 5, 2) := by decide +kernel
theorem dX4_fraction_43 : decode cX4_fraction 43 = .ok (.ldiv, 1) := by decide +kernel
theorem dX4_fraction_44 : decode cX4_fraction 44 = .ok (.putfield 23, 3) := by decide +kernel
theorem dX4_fraction_47 : decode cX4_fraction 47 = .ok (.return_, 1) := by decide +kernel
theorem dX4_odds_0 : decode cX4_odds 0 = .ok (.aload_n 0, 1) := by decide +kernel
theorem dX4_odds_1 : decode cX4_odds 1 = .ok (.iload_n 1, 1) := by decide +kernel
theorem dX4_odds_2 : decode cX4_odds 2 = .ok (.invokevirtual 113, 3) := by decide +kernel
theorem dX4_odds_5 : decode cX4_odds 5 = .ok (.ifCond .eq 27, 3) := by decide +kernel
theorem dX4_odds_8 : decode cX4_odds 8 = .ok (.iload_n 2, 1) := by decide +kernel
theorem dX4_odds_9 : decode cX4_odds 9 = .ok (.i2l, 1) := by decide +kernel
theorem dX4_odds_10 : decode cX4_odds 10 = .ok (.lconst 0, 1) := by decide +kernel
theorem dX4_odds_11 : decode cX4_odds 11 = .ok (.ldc2_w 142, 3) := by decide +kernel
theorem dX4_odds_14 : decode cX4_odds 14 = .ok (.invokestatic 56, 3) := by decide +kernel
theorem dX4_odds_17 : decode cX4_odds 17 = .ok (.ifCond .eq 15, 3) := by decide +kernel
theorem dX4_odds_20 : decode cX4_odds 20 = .ok (.iload_n 3, 1) := by decide +kernel
theorem dX4_odds_21 : decode cX4_odds 21 = .ok (.i2l, 1) := by decide +kernel
theorem dX4_odds_22 : decode cX4_odds 22 = .ok (.lconst 0, 1) := by decide +kernel
theorem dX4_odds_23 : decode cX4_odds 23 = .ok (.ldc2_w 164, 3) := by decide +kernel
theorem dX4_odds_26 : decode cX4_odds 26 = .ok (.invokestatic 56, 3) := by decide +kernel
theorem dX4_odds_29 : decode cX4_odds 29 = .ok (.ifCond .ne 10, 3) := by decide +kernel
theorem dX4_odds_32 : decode cX4_odds 32 = .ok (.aload_n 0, 1) := by decide +kernel
theorem dX4_odds_33 : decode cX4_odds 33 = .ok (.bipush (-2), 2) := by decide +kernel
theorem dX4_odds_35 : decode cX4_odds 35 = .ok (.invokevirtual 62, 3) := by decide +kernel
theorem dX4_odds_38 : decode cX4_odds 38 = .ok (.ireturn, 1) := by decide +kernel
theorem dX4_odds_39 : decode cX4_odds 39 = .ok (.aload_n 0, 1) := by decide +kernel
theorem dX4_odds_40 : decode cX4_odds 40 = .ok (.getfield 7, 3) := by decide +kernel
theorem dX4_odds_43 : decode cX4_odds 43 = .ok (.bipush 18, 2) := by decide +kernel
theorem dX4_odds_45 : decode cX4_odds 45 = .ok (.iaload, 1) := by decide +kernel
theorem dX4_odds_46 : decode cX4_odds 46 = .ok (.iload_n 1, 1) := by decide +kernel
theorem dX4_odds_47 : decode cX4_odds 47 = .ok (.invokestatic 91, 3) := by decide +kernel
theorem dX4_odds_50 : decode cX4_odds 50 = .ok (.ifCond .ne 8, 3) := by decide +kernel
theorem dX4_odds_53 : decode cX4_odds 53 = .ok (.aload_n 0, 1) := by decide +kernel
theorem dX4_odds_54 : decode cX4_odds 54 = .ok (.invokevirtual 131, 3) := by decide +kernel
theorem dX4_odds_57 : decode cX4_odds 57 = .ok (.ireturn, 1) := by decide +kernel
theorem dX4_odds_58 : decode cX4_odds 58 = .ok (.lconst 0, 1) := by decide +kernel
theorem dX4_odds_59 : decode cX4_odds 59 = .ok (.lstore 4, 2) := by decide +kernel
theorem dX4_odds_61 : decode cX4_odds 61 = .ok (.lconst 1, 1) := by decide +kernel
theorem dX4_odds_62 : decode cX4_odds 62 = .ok (.lstore 6, 2) := by decide +kernel
theorem dX4_odds_64 : decode cX4_odds 64 = .ok (.iconst 0, 1) := by decide +kernel
theorem dX4_odds_65 : decode cX4_odds 65 = .ok (.istore 8, 2) := by decide +kernel
theorem dX4_odds_67 : decode cX4_odds 67 = .ok (.iload 8, 2) := by decide +kernel
theorem dX4_odds_69 : decode cX4_odds 69 = .ok (.iconst 1, 1) := by decide +kernel
theorem dX4_odds_70 : decode cX4_odds 70 = .ok (.iload_n 2, 1) := by decide +kernel
theorem dX4_odds_71 : decode cX4_odds 71 = .ok (.ishl, 1) := by decide +kernel
theorem dX4_odds_72 : decode cX4_odds 72 = .ok (.if_icmp .ge 81, 3) := by decide +kernel
theorem dX4_odds_75 : decode cX4_odds 75 = .ok (.lconst 1, 1) := by decide +kernel
theorem dX4_odds_76 : decode cX4_odds 76 = .ok (.lstore 9, 2) := by decide +kernel
theorem dX4_odds_78 : decode cX4_odds 78 = .ok (.iconst 0, 1) := by decide +kernel
theorem dX4_odds_79 : decode cX4_odds 79 = .ok (.istore 11, 2) := by decide +kernel
theorem dX4_odds_81 : decode cX4_odds 81 = .ok (.iload 11, 2) := by decide +kernel
theorem dX4_odds_83 : decode cX4_odds 83 = .ok (.iload_n 2, 1) := by decide +kernel
theorem dX4_odds_84 : decode cX4_odds 84 = .ok (.if_icmp .ge 34, 3) := by decide +kernel
theorem dX4_odds_87 : decode cX4_odds 87 = .ok (.lload 9, 2) := by decide +kernel
theorem dX4_odds_89 : decode cX4_odds 89 = .ok (.iload 8, 2) := by decide +kernel
theorem dX4_odds_91 : decode cX4_odds 91 = .ok (.iload 11, 2) := by decide +kernel
theorem dX4_odds_93 : decode cX4_odds 93 = .ok (.invokestatic 91, 3) := by decide +kernel
theorem dX4_odds_96 : decode cX4_odds 96 = .ok (.ifCond .eq 8, 3) := by decide +kernel
theorem dX4_odds_99 : decode cX4_odds 99 = .ok (.iload_n 3, 1) := by decide +kernel
theorem dX4_odds_100 : decode cX4_odds 100 = .ok (.i2l, 1) := by decide +kernel
theorem dX4_odds_101 : decode cX4_odds 101 = .ok (.goto 8, 3) := by decide +kernel
theorem dX4_odds_104 : decode cX4_odds 104 = .ok (.bipush 10, 2) := by decide +kernel
theorem dX4_odds_106 : decode cX4_odds 106 = .ok (.iload_n 3, 1) := by decide +kernel
theorem dX4_odds_107 : decode cX4_odds 107 = .ok (.isub, 1) := by decide +kernel
theorem dX4_odds_108 : decode cX4_odds 108 = .ok (.i2l, 1) := by decide +kernel
theorem dX4_odds_109 : decode cX4_odds 109 = .ok (.lmul, 1) := by decide +kernel
theorem dX4_odds_110 : decode cX4_odds 110 = .ok (.lstore 9, 2) := by decide +kernel
theorem dX4_odds_112 : decode cX4_odds 112 = .ok (.iinc 11 1, 3) := by decide +kernel
theorem dX4_odds_115 : decode cX4_odds 115 = .ok (.goto (-34), 3) := by decide +kernel
theorem dX4_odds_118 : decode cX4_odds 118 = .ok (.lload 4, 2) := by decide +kernel
theorem dX4_odds_120 : decode cX4_odds 120 = .ok (.lload 9, 2) := by decide +kernel
theorem dX4_odds_122 : decode cX4_odds 122 = .ok (.lconst 0, 1) := by decide +kernel
theorem dX4_odds_123 : decode cX4_odds 123 = .ok (.lcmp, 1) := by decide +kernel
theorem dX4_odds_124 : decode cX4_odds 124 = .ok (.ifCond .le 19, 3) := by decide +kernel
theorem dX4_odds_127 : decode cX4_odds 127 = .ok (.aload_n 0, 1) := by decide +kernel
theorem dX4_odds_128 : decode cX4_odds 128 = .ok (.iload_n 1, 1) := by decide +kernel
theorem dX4_odds_129 : decode cX4_odds 129 = .ok (.iload_n 2, 1) := by decide +kernel
theorem dX4_odds_130 : decode cX4_odds 130 = .ok (.iload 8, 2) := by decide +kernel
theorem dX4_odds_132 : decode cX4_odds 132 = .ok (.invokevirtual 144, 3) := by decide +kernel
theorem dX4_odds_135 : decode cX4_odds 135 = .ok (.ifCond .eq 8, 3) := by decide +kernel
theorem dX4_odds_138 : decode cX4_odds 138 = .ok (.lload 9, 2) := by decide +kernel
theorem dX4_odds_140 : decode cX4_odds 140 = .ok (.goto 4, 3) := by decide +kernel
theorem dX4_odds_143 : decode cX4_odds 143 = .ok (.lconst 0, 1) := by decide +kernel
theorem dX4_odds_144 : decode cX4_odds 144 = .ok (.ladd, 1) := by decide +kernel
theorem dX4_odds_145 : decode cX4_odds 145 = .ok (.lstore 4, 2) := by decide +kernel
theorem dX4_odds_147 : decode cX4_odds 147 = .ok (.iinc 8 1, 3) := by decide +kernel
theorem dX4_odds_150 : decode cX4_odds 150 = .ok (.goto (-83), 3) := by decide +kernel
theorem dX4_odds_153 : decode cX4_odds 153 = .ok (.iconst 0, 1) := by decide +kernel
theorem dX4_odds_154 : decode cX4_odds 154 = .ok (.istore 8, 2) := by decide +kernel
theorem dX4_odds_156 : decode cX4_odds 156 = .ok (.iload 8, 2) := by decide +kernel
theorem dX4_odds_158 : decode cX4_odds 158 = .ok (.iload_n 2, 1) := by decide +kernel
theorem dX4_odds_159 : decode cX4_odds 159 = .ok (.if_icmp .ge 17, 3) := by decide +kernel
theorem dX4_odds_162 : decode cX4_odds 162 = .ok (.lload 6, 2) := by decide +kernel
theorem dX4_odds_164 : decode cX4_odds 164 = .ok (.ldc2_w 164, 3) := by decide +kernel
theorem dX4_odds_167 : decode cX4_odds 167 = .ok (.lmul, 1) := by decide +kernel
theorem dX4_odds_168 : decode cX4_odds 168 = .ok (.lstore 6, 2) := by decide +kernel
theorem dX4_odds_170 : decode cX4_odds 170 = .ok (.iinc 8 1, 3) := by decide +kernel
theorem dX4_odds_173 : decode cX4_odds 173 = .ok (.goto (-17), 3) := by decide +kernel
theorem dX4_odds_176 : decode cX4_odds 176 = .ok (.aload_n 0, 1) := by decide +kernel
theorem dX4_odds_177 : decode cX4_odds 177 = .ok (.lload 4, 2) := by decide +kernel
theorem dX4_odds_179 : decode cX4_odds 179 = .ok (.lload 6, 2) := by decide +kernel
theorem dX4_odds_181 : decode cX4_odds 181 = .ok (.invokevirtual 166, 3) := by decide +kernel
theorem dX4_odds_184 : decode cX4_odds 184 = .ok (.iconst 1, 1) := by decide +kernel
theorem dX4_odds_185 : decode cX4_odds 185 = .ok (.ireturn, 1) := by decide +kernel
theorem dX4_years_0 : decode cX4_years 0 = .ok (.iload_n 1, 1) := by decide +kernel
theorem dX4_years_1 : decode cX4_years 1 = .ok (.i2l, 1) := by decide +kernel
theorem dX4_years_2 : decode cX4_years 2 = .ok (.lconst 0, 1) := by decide +kernel
theorem dX4_years_3 : decode cX4_years 3 = .ok (.ldc2_w 170, 3) := by decide +kernel
theorem dX4_years_6 : decode cX4_years 6 = .ok (.invokestatic 56, 3) := by decide +kernel
theorem dX4_years_9 : decode cX4_years 9 = .ok (.ifCond .eq 15, 3) := by decide +kernel
theorem dX4_years_12 : decode cX4_years 12 = .ok (.iload_n 2, 1) := by decide +kernel
theorem dX4_years_13 : decode cX4_years 13 = .ok (.i2l, 1) := by decide +kernel
theorem dX4_years_14 : decode cX4_years 14 = .ok (.lconst 0, 1) := by decide +kernel
theorem dX4_years_15 : decode cX4_years 15 = .ok (.ldc2_w 120, 3) := by decide +kernel
theorem dX4_years_18 : decode cX4_years 18 = .ok (.invokestatic 56, 3) := by decide +kernel
theorem dX4_years_21 : decode cX4_years 21 = .ok (.ifCond .ne 10, 3) := by decide +kernel
theorem dX4_years_24 : decode cX4_years 24 = .ok (.aload_n 0, 1) := by decide +kernel
theorem dX4_years_25 : decode cX4_years 25 = .ok (.bipush (-2), 2) := by decide +kernel
theorem dX4_years_27 : decode cX4_years 27 = .ok (.invokevirtual 62, 3) := by decide +kernel
theorem dX4_years_30 : decode cX4_years 30 = .ok (.ireturn, 1) := by decide +kernel
theorem dX4_years_31 : decode cX4_years 31 = .ok (.iload_n 1, 1) := by decide +kernel
theorem dX4_years_32 : decode cX4_years 32 = .ok (.i2l, 1) := by decide +kernel
theorem dX4_years_33 : decode cX4_years 33 = .ok (.lstore_n 3, 1) := by decide +kernel
theorem dX4_years_34 : decode cX4_years 34 = .ok (.iconst 0, 1) := by decide +kernel
theorem dX4_years_35 : decode cX4_years 35 = .ok (.istore 5, 2) := by decide +kernel
theorem dX4_years_37 : decode cX4_years 37 = .ok (.aload_n 0, 1) := by decide +kernel
theorem dX4_years_38 : decode cX4_years 38 = .ok (.invokevirtual 122, 3) := by decide +kernel
theorem dX4_years_41 : decode cX4_years 41 = .ok (.iconst 0, 1) := by decide +kernel
theorem dX4_years_42 : decode cX4_years 42 = .ok (.istore 6, 2) := by decide +kernel
theorem dX4_years_44 : decode cX4_years 44 = .ok (.iload 6, 2) := by decide +kernel
theorem dX4_years_46 : decode cX4_years 46 = .ok (.iload_n 2, 1) := by decide +kernel
theorem dX4_years_47 : decode cX4_years 47 = .ok (.if_icmp .ge 89, 3) := by decide +kernel
theorem dX4_years_50 : decode cX4_years 50 = .ok (.aload_n 0, 1) := by decide +kernel
theorem dX4_years_51 : decode cX4_years 51 = .ok (.iconst 0, 1) := by decide +kernel
theorem dX4_years_52 : decode cX4_years 52 = .ok (.putfield 82, 3) := by decide +kernel
theorem dX4_years_55 : decode cX4_years 55 = .ok (.iconst 0, 1) := by decide +kernel
theorem dX4_years_56 : decode cX4_years 56 = .ok (.istore 7, 2) := by decide +kernel
theorem dX4_years_58 : decode cX4_years 58 = .ok (.iload 7, 2) := by decide +kernel
theorem dX4_years_60 : decode cX4_years 60 = .ok (.aload_n 0, 1) := by decide +kernel
theorem dX4_years_61 : decode cX4_years 61 = .ok (.invokevirtual 52, 3) := by decide +kernel
theorem dX4_years_64 : decode cX4_years 64 = .ok (.if_icmp .ge 54, 3) := by decide +kernel
theorem dX4_years_67 : decode cX4_years 67 = .ok (.lload_n 3, 1) := by decide +kernel
theorem dX4_years_68 : decode cX4_years 68 = .ok (.ldc2_w 172, 3) := by decide +kernel
theorem dX4_years_71 : decode cX4_years 71 = .ok (.lmul, 1) := by decide +kernel
theorem dX4_years_72 : decode cX4_years 72 = .ok (.ldc2_w 174, 3) := by decide +kernel
theorem dX4_years_75 : decode cX4_years 75 = .ok (.ladd, 1) := by decide +kernel
theorem dX4_years_76 : decode cX4_years 76 = .ok (.ldc2_w 176, 3) := by decide +kernel
theorem dX4_years_79 : decode cX4_years 79 = .ok (.lrem, 1) := by decide +kernel
theorem dX4_years_80 : decode cX4_years 80 = .ok (.lstore_n 3, 1) := by decide +kernel
theorem dX4_years_81 : decode cX4_years 81 = .ok (.aload_n 0, 1) := by decide +kernel
theorem dX4_years_82 : decode cX4_years 82 = .ok (.dup, 1) := by decide +kernel
theorem dX4_years_83 : decode cX4_years 83 = .ok (.getfield 82, 3) := by decide +kernel
theorem dX4_years_86 : decode cX4_years 86 = .ok (.lload_n 3, 1) := by decide +kernel
theorem dX4_years_87 : decode cX4_years 87 = .ok (.ldc2_w 178, 3) := by decide +kernel
theorem dX4_years_90 : decode cX4_years 90 = .ok (.ldiv, 1) := by decide +kernel
theorem dX4_years_91 : decode cX4_years 91 = .ok (.ldc2_w 180, 3) := by decide +kernel
theorem dX4_years_94 : decode cX4_years 94 = .ok (.lrem, 1) := by decide +kernel
theorem dX4_years_95 : decode cX4_years 95 = .ok (.lconst 1, 1) := by decide +kernel
theorem dX4_years_96 : decode cX4_years 96 = .ok (.lcmp, 1) := by decide +kernel
theorem dX4_years_97 : decode cX4_years 97 = .ok (.ifCond .ne 10, 3) := by decide +kernel
theorem dX4_years_100 : decode cX4_years 100 = .ok (.iconst 1, 1) := by decide +kernel
theorem dX4_years_101 : decode cX4_years 101 = .ok (.iload 7, 2) := by decide +kernel
theorem dX4_years_103 : decode cX4_years 103 = .ok (.ishl, 1) := by decide +kernel
theorem dX4_years_104 : decode cX4_years 104 = .ok (.goto 4, 3) := by decide +kernel
theorem dX4_years_107 : decode cX4_years 107 = .ok (.iconst 0, 1) := by decide +kernel
theorem dX4_years_108 : decode cX4_years 108 = .ok (.ior, 1) := by decide +kernel
theorem dX4_years_109 : decode cX4_years 109 = .ok (.putfield 82, 3) := by decide +kernel
theorem dX4_years_112 : decode cX4_years 112 = .ok (.iinc 7 1, 3) := by decide +kernel
theorem dX4_years_115 : decode cX4_years 115 = .ok (.goto (-57), 3) := by decide +kernel
theorem dX4_years_118 : decode cX4_years 118 = .ok (.iload 5, 2) := by decide +kernel
theorem dX4_years_120 : decode cX4_years 120 = .ok (.aload_n 0, 1) := by decide +kernel
theorem dX4_years_121 : decode cX4_years 121 = .ok (.invokevirtual 125, 3) := by decide +kernel
theorem dX4_years_124 : decode cX4_years 124 = .ok (.invokestatic 128, 3) := by decide +kernel
theorem dX4_years_127 : decode cX4_years 127 = .ok (.iadd, 1) := by decide +kernel
theorem dX4_years_128 : decode cX4_years 128 = .ok (.istore 5, 2) := by decide +kernel
theorem dX4_years_130 : decode cX4_years 130 = .ok (.iinc 6 1, 3) := by decide +kernel
theorem dX4_years_133 : decode cX4_years 133 = .ok (.goto (-89), 3) := by decide +kernel
theorem dX4_years_136 : decode cX4_years 136 = .ok (.iload 5, 2) := by decide +kernel
theorem dX4_years_138 : decode cX4_years 138 = .ok (.ireturn, 1) := by decide +kernel
theorem dX4_type_0 : decode cX4_type 0 = .ok (.iload_n 1, 1) := by decide +kernel
theorem dX4_type_1 : decode cX4_type 1 = .ok (.i2l, 1) := by decide +kernel
theorem dX4_type_2 : decode cX4_type 2 = .ok (.lconst 0, 1) := by decide +kernel
theorem dX4_type_3 : decode cX4_type 3 = .ok (.ldc2_w 182, 3) := by decide +kernel
theorem dX4_type_6 : decode cX4_type 6 = .ok (.invokestatic 56, 3) := by decide +kernel
theorem dX4_type_9 : decode cX4_type 9 = .ok (.ifCond .ne 10, 3) := by decide +kernel
theorem dX4_type_12 : decode cX4_type 12 = .ok (.aload_n 0, 1) := by decide +kernel
theorem dX4_type_13 : decode cX4_type 13 = .ok (.bipush (-2), 2) := by decide +kernel
theorem dX4_type_15 : decode cX4_type 15 = .ok (.invokevirtual 62, 3) := by decide +kernel
theorem dX4_type_18 : decode cX4_type 18 = .ok (.ireturn, 1) := by decide +kernel
theorem dX4_type_19 : decode cX4_type 19 = .ok (.aload_n 0, 1) := by decide +kernel
theorem dX4_type_20 : decode cX4_type 20 = .ok (.getfield 184, 3) := by decide +kernel
theorem dX4_type_23 : decode cX4_type 23 = .ok (.sipush 150, 3) := by decide +kernel
theorem dX4_type_26 : decode cX4_type 26 = .ok (.if_icmp .ne 8, 3) := by decide +kernel
theorem dX4_type_29 : decode cX4_type 29 = .ok (.aload_n 0, 1) := by decide +kernel
theorem dX4_type_30 : decode cX4_type 30 = .ok (.invokevirtual 68, 3) := by decide +kernel
theorem dX4_type_33 : decode cX4_type 33 = .ok (.ireturn, 1) := by decide +kernel
theorem dX4_type_34 : decode cX4_type 34 = .ok (.aload_n 0, 1) := by decide +kernel
theorem dX4_type_35 : decode cX4_type 35 = .ok (.getfield 39, 3) := by decide +kernel
theorem dX4_type_38 : decode cX4_type 38 = .ok (.aload_n 0, 1) := by decide +kernel
theorem dX4_type_39 : decode cX4_type 39 = .ok (.getfield 184, 3) := by decide +kernel
theorem dX4_type_42 : decode cX4_type 42 = .ok (.iload_n 1, 1) := by decide +kernel
theorem dX4_type_43 : decode cX4_type 43 = .ok (.iastore, 1) := by decide +kernel
theorem dX4_type_44 : decode cX4_type 44 = .ok (.aload_n 0, 1) := by decide +kernel
theorem dX4_type_45 : decode cX4_type 45 = .ok (.dup, 1) := by decide +kernel
theorem dX4_type_46 : decode cX4_type 46 = .ok (.getfield 184, 3) := by decide +kernel
theorem dX4_type_49 : decode cX4_type 49 = .ok (.iconst 1, 1) := by decide +kernel
theorem dX4_type_50 : decode cX4_type 50 = .ok (.iadd, 1) := by decide +kernel
theorem dX4_type_51 : decode cX4_type 51 = .ok (.putfield 184, 3) := by decide +kernel
theorem dX4_type_54 : decode cX4_type 54 = .ok (.aload_n 0, 1) := by decide +kernel
theorem dX4_type_55 : decode cX4_type 55 = .ok (.getfield 184, 3) := by decide +kernel
theorem dX4_type_58 : decode cX4_type 58 = .ok (.ireturn, 1) := by decide +kernel
theorem dX4_clear_0 : decode cX4_clear 0 = .ok (.aload_n 0, 1) := by decide +kernel
theorem dX4_clear_1 : decode cX4_clear 1 = .ok (.getfield 184, 3) := by decide +kernel
theorem dX4_clear_4 : decode cX4_clear 4 = .ok (.istore_n 1, 1) := by decide +kernel
theorem dX4_clear_5 : decode cX4_clear 5 = .ok (.aload_n 0, 1) := by decide +kernel
theorem dX4_clear_6 : decode cX4_clear 6 = .ok (.iconst 0, 1) := by decide +kernel
theorem dX4_clear_7 : decode cX4_clear 7 = .ok (.putfield 184, 3) := by decide +kernel
theorem dX4_clear_10 : decode cX4_clear 10 = .ok (.iload_n 1, 1) := by decide +kernel
theorem dX4_clear_11 : decode cX4_clear 11 = .ok (.ireturn, 1) := by decide +kernel
theorem dX4_isSmall_0 : decode cX4_isSmall 0 = .ok (.iload_n 0, 1) := by decide +kernel
theorem dX4_isSmall_1 : decode cX4_isSmall 1 = .ok (.i2l, 1) := by decide +kernel
theorem dX4_isSmall_2 : decode cX4_isSmall 2 = .ok (.ldc2_w 187, 3) := by decide +kernel
theorem dX4_isSmall_5 : decode cX4_isSmall 5 = .ok (.ldc2_w 189, 3) := by decide +kernel
theorem dX4_isSmall_8 : decode cX4_isSmall 8 = .ok (.invokestatic 56, 3) := by decide +kernel
theorem dX4_isSmall_11 : decode cX4_isSmall 11 = .ok (.ireturn, 1) := by decide +kernel
theorem dX4_isFigure_0 : decode cX4_isFigure 0 = .ok (.iload_n 0, 1) := by decide +kernel
theorem dX4_isFigure_1 : decode cX4_isFigure 1 = .ok (.i2l, 1) := by decide +kernel
theorem dX4_isFigure_2 : decode cX4_isFigure 2 = .ok (.ldc2_w 191, 3) := by decide +kernel
theorem dX4_isFigure_5 : decode cX4_isFigure 5 = .ok (.ldc2_w 193, 3) := by decide +kernel
theorem dX4_isFigure_8 : decode cX4_isFigure 8 = .ok (.invokestatic 56, 3) := by decide +kernel
theorem dX4_isFigure_11 : decode cX4_isFigure 11 = .ok (.ireturn, 1) := by decide +kernel
theorem dX4_lookAt_0 : decode cX4_lookAt 0 = .ok (.aload_n 0, 1) := by decide +kernel
theorem dX4_lookAt_1 : decode cX4_lookAt 1 = .ok (.iload_n 1, 1) := by decide +kernel
theorem dX4_lookAt_2 : decode cX4_lookAt 2 = .ok (.putfield 195, 3) := by decide +kernel
theorem dX4_lookAt_5 : decode cX4_lookAt 5 = .ok (.aload_n 0, 1) := by decide +kernel
theorem dX4_lookAt_6 : decode cX4_lookAt 6 = .ok (.getfield 195, 3) := by decide +kernel
theorem dX4_lookAt_9 : decode cX4_lookAt 9 = .ok (.aload_n 0, 1) := by decide +kernel
theorem dX4_lookAt_10 : decode cX4_lookAt 10 = .ok (.getfield 184, 3) := by decide +kernel
theorem dX4_lookAt_13 : decode cX4_lookAt 13 = .ok (.if_icmp .ge 30, 3) := by decide +kernel
theorem dX4_lookAt_16 : decode cX4_lookAt 16 = .ok (.aload_n 0, 1) := by decide +kernel
theorem dX4_lookAt_17 : decode cX4_lookAt 17 = .ok (.getfield 39, 3) := by decide +kernel
theorem dX4_lookAt_20 : decode cX4_lookAt 20 = .ok (.aload_n 0, 1) := by decide +kernel
theorem dX4_lookAt_21 : decode cX4_lookAt 21 = .ok (.getfield 195, 3) := by decide +kernel
theorem dX4_lookAt_24 : decode cX4_lookAt 24 = .ok (.iaload, 1) := by decide +kernel
theorem dX4_lookAt_25 : decode cX4_lookAt 25 = .ok (.bipush 32, 2) := by decide +kernel
theorem dX4_lookAt_27 : decode cX4_lookAt 27 = .ok (.if_icmp .ne 16, 3) := by decide +kernel
theorem dX4_lookAt_30 : decode cX4_lookAt 30 = .ok (.aload_n 0, 1) := by decide +kernel
theorem dX4_lookAt_31 : decode cX4_lookAt 31 = .ok (.dup, 1) := by decide +kernel
theorem dX4_lookAt_32 : decode cX4_lookAt 32 = .ok (.getfield 195, 3) := by decide +kernel
theorem dX4_lookAt_35 : decode cX4_lookAt 35 = .ok (.iconst 1, 1) := by decide +kernel
theorem dX4_lookAt_36 : decode cX4_lookAt 36 = .ok (.iadd, 1) := by decide +kernel
theorem dX4_lookAt_37 : decode cX4_lookAt 37 = .ok (.putfield 195, 3) := by decide +kernel
theorem dX4_lookAt_40 : decode cX4_lookAt 40 = .ok (.goto (-35), 3) := by decide +kernel
theorem dX4_lookAt_43 : decode cX4_lookAt 43 = .ok (.aload_n 0, 1) := by decide +kernel
theorem dX4_lookAt_44 : decode cX4_lookAt 44 = .ok (.iconst 0, 1) := by decide +kernel
theorem dX4_lookAt_45 : decode cX4_lookAt 45 = .ok (.putfield 198, 3) := by decide +kernel
theorem dX4_lookAt_48 : decode cX4_lookAt 48 = .ok (.aload_n 0, 1) := by decide +kernel
theorem dX4_lookAt_49 : decode cX4_lookAt 49 = .ok (.iconst 0, 1) := by decide +kernel
theorem dX4_lookAt_50 : decode cX4_lookAt 50 = .ok (.putfield 201, 3) := by decide +kernel
theorem dX4_lookAt_53 : decode cX4_lookAt 53 = .ok (.aload_n 0, 1) := by decide +kernel
theorem dX4_lookAt_54 : decode cX4_lookAt 54 = .ok (.iconst 0, 1) := by decide +kernel
theorem dX4_lookAt_55 : decode cX4_lookAt 55 = .ok (.putfield 204, 3) := by decide +kernel
theorem dX4_lookAt_58 : decode cX4_lookAt 58 = .ok (.aload_n 0, 1) := by decide +kernel
theorem dX4_lookAt_59 : decode cX4_lookAt 59 = .ok (.getfield 195, 3) := by decide +kernel
theorem dX4_lookAt_62 : decode cX4_lookAt 62 = .ok (.aload_n 0, 1) := by decide +kernel
theorem dX4_lookAt_63 : decode cX4_lookAt 63 = .ok (.getfield 184, 3) := by decide +kernel
theorem dX4_lookAt_66 : decode cX4_lookAt 66 = .ok (.if_icmp .ne 4, 3) := by decide +kernel
theorem dX4_lookAt_69 : decode cX4_lookAt 69 = .ok (.return_, 1) := by decide +kernel
theorem dX4_lookAt_70 : decode cX4_lookAt 70 = .ok (.aload_n 0, 1) := by decide +kernel
theorem dX4_lookAt_71 : decode cX4_lookAt 71 = .ok (.getfield 39, 3) := by decide +kernel
theorem dX4_lookAt_74 : decode cX4_lookAt 74 = .ok (.aload_n 0, 1) := by decide +kernel
theorem dX4_lookAt_75 : decode cX4_lookAt 75 = .ok (.getfield 195, 3) := by decide +kernel
theorem dX4_lookAt_78 : decode cX4_lookAt 78 = .ok (.iaload, 1) := by decide +kernel
theorem dX4_lookAt_79 : decode cX4_lookAt 79 = .ok (.istore_n 2, 1) := by decide +kernel
theorem dX4_lookAt_80 : decode cX4_lookAt 80 = .ok (.aload_n 0, 1) := by decide +kernel
theorem dX4_lookAt_81 : decode cX4_lookAt 81 = .ok (.iload_n 2, 1) := by decide +kernel
theorem dX4_lookAt_82 : decode cX4_lookAt 82 = .ok (.invokestatic 207, 3) := by decide +kernel
theorem dX4_lookAt_85 : decode cX4_lookAt 85 = .ok (.ifCond .eq 7, 3) := by decide +kernel
theorem dX4_lookAt_88 : decode cX4_lookAt 88 = .ok (.iconst 1, 1) := by decide +kernel
theorem dX4_lookAt_89 : decode cX4_lookAt 89 = .ok (.goto 25, 3) := by decide +kernel
theorem dX4_lookAt_92 : decode cX4_lookAt 92 = .ok (.iload_n 2, 1) := by decide +kernel
theorem dX4_lookAt_93 : decode cX4_lookAt 93 = .ok (.invokestatic 210, 3) := by decide +kernel
theorem dX4_lookAt_96 : decode cX4_lookAt 96 = .ok (.ifCond .eq 7, 3) := by decide +kernel
theorem dX4_lookAt_99 : decode cX4_lookAt 99 = .ok (.iconst 2, 1) := by decide +kernel
theorem dX4_lookAt_100 : decode cX4_lookAt 100 = .ok (.goto 14, 3) := by decide +kernel
theorem dX4_lookAt_103 : decode cX4_lookAt 103 = .ok (.iload_n 2, 1) := by decide +kernel
theorem dX4_lookAt_104 : decode cX4_lookAt 104 = .ok (.bipush 59, 2) := by decide +kernel
theorem dX4_lookAt_106 : decode cX4_lookAt 106 = .ok (.if_icmp .ne 7, 3) := by decide +kernel
theorem dX4_lookAt_109 : decode cX4_lookAt 109 = .ok (.iconst 3, 1) := by decide +kernel
theorem dX4_lookAt_110 : decode cX4_lookAt 110 = .ok (.goto 4, 3) := by decide +kernel
theorem dX4_lookAt_113 : decode cX4_lookAt 113 = .ok (.iconst 4, 1) := by decide +kernel
theorem dX4_lookAt_114 : decode cX4_lookAt 114 = .ok (.putfield 201, 3) := by decide +kernel
theorem dX4_lookAt_117 : decode cX4_lookAt 117 = .ok (.aload_n 0, 1) := by decide +kernel
theorem dX4_lookAt_118 : decode cX4_lookAt 118 = .ok (.iconst 1, 1) := by decide +kernel
theorem dX4_lookAt_119 : decode cX4_lookAt 119 = .ok (.putfield 198, 3) := by decide +kernel
theorem dX4_lookAt_122 : decode cX4_lookAt 122 = .ok (.aload_n 0, 1) := by decide +kernel
theorem dX4_lookAt_123 : decode cX4_lookAt 123 = .ok (.getfield 201, 3) := by decide +kernel
theorem dX4_lookAt_126 : decode cX4_lookAt 126 = .ok (.iconst 3, 1) := by decide +kernel
theorem dX4_lookAt_127 : decode cX4_lookAt 127 = .ok (.if_icmp .ge 7, 3) := by decide +kernel
theorem dX4_lookAt_130 : decode cX4_lookAt 130 = .ok (.iconst 1, 1) := by decide +kernel
theorem dX4_lookAt_131 : decode cX4_lookAt 131 = .ok (.goto 4, 3) := by decide +kernel
theorem dX4_lookAt_134 : decode cX4_lookAt 134 = .ok (.iconst 0, 1) := by decide +kernel
theorem dX4_lookAt_135 : decode cX4_lookAt 135 = .ok (.istore_n 3, 1) := by decide +kernel
theorem dX4_lookAt_136 : decode cX4_lookAt 136 = .ok (.iload_n 3, 1) := by decide +kernel
theorem dX4_lookAt_137 : decode cX4_lookAt 137 = .ok (.ifCond .eq 78, 3) := by decide +kernel
theorem dX4_lookAt_140 : decode cX4_lookAt 140 = .ok (.aload_n 0, 1) := by decide +kernel
theorem dX4_lookAt_141 : decode cX4_lookAt 141 = .ok (.getfield 195, 3) := by decide +kernel
theorem dX4_lookAt_144 : decode cX4_lookAt 144 = .ok (.aload_n 0, 1) := by decide +kernel
theorem dX4_lookAt_145 : decode cX4_lookAt 145 = .ok (.getfield 198, 3) := by decide +kernel
theorem dX4_lookAt_148 : decode cX4_lookAt 148 = .ok (.iadd, 1) := by decide +kernel
theorem dX4_lookAt_149 : decode cX4_lookAt 149 = .ok (.aload_n 0, 1) := by decide +kernel
theorem dX4_lookAt_150 : decode cX4_lookAt 150 = .ok (.getfield 184, 3) := by decide +kernel
theorem dX4_lookAt_153 : decode cX4_lookAt 153 = .ok (.if_icmp .ge 62, 3) := by decide +kernel
theorem dX4_lookAt_156 : decode cX4_lookAt 156 = .ok (.aload_n 0, 1) := by decide +kernel
theorem dX4_lookAt_157 : decode cX4_lookAt 157 = .ok (.getfield 39, 3) := by decide +kernel
theorem dX4_lookAt_160 : decode cX4_lookAt 160 = .ok (.aload_n 0, 1) := by decide +kernel
theorem dX4_lookAt_161 : decode cX4_lookAt 161 = .ok (.getfield 195, 3) := by decide +kernel
theorem dX4_lookAt_164 : decode cX4_lookAt 164 = .ok (.aload_n 0, 1) := by decide +kernel
theorem dX4_lookAt_165 : decode cX4_lookAt 165 = .ok (.getfield 198, 3) := by decide +kernel
theorem dX4_lookAt_168 : decode cX4_lookAt 168 = .ok (.iadd, 1) := by decide +kernel
theorem dX4_lookAt_169 : decode cX4_lookAt 169 = .ok (.iaload, 1) := by decide +kernel
theorem dX4_lookAt_170 : decode cX4_lookAt 170 = .ok (.istore 4, 2) := by decide +kernel
theorem dX4_lookAt_172 : decode cX4_lookAt 172 = .ok (.aload_n 0, 1) := by decide +kernel
theorem dX4_lookAt_173 : decode cX4_lookAt 173 = .ok (.getfield 201, 3) := by decide +kernel
theorem dX4_lookAt_176 : decode cX4_lookAt 176 = .ok (.iconst 1, 1) := by decide +kernel
theorem dX4_lookAt_177 : decode cX4_lookAt 177 = .ok (.if_icmp .ne 11, 3) := by decide +kernel
theorem dX4_lookAt_180 : decode cX4_lookAt 180 = .ok (.iload 4, 2) := by decide +kernel
theorem dX4_lookAt_182 : decode cX4_lookAt 182 = .ok (.invokestatic 207, 3) := by decide +kernel
theorem dX4_lookAt_185 : decode cX4_lookAt 185 = .ok (.goto 8, 3) := by decide +kernel
theorem dX4_lookAt_188 : decode cX4_lookAt 188 = .ok (.iload 4, 2) := by decide +kernel
theorem dX4_lookAt_190 : decode cX4_lookAt 190 = .ok (.invokestatic 210, 3) := by decide +kernel
theorem dX4_lookAt_193 : decode cX4_lookAt 193 = .ok (.istore_n 3, 1) := by decide +kernel
theorem dX4_lookAt_194 : decode cX4_lookAt 194 = .ok (.aload_n 0, 1) := by decide +kernel
theorem dX4_lookAt_195 : decode cX4_lookAt 195 = .ok (.dup, 1) := by decide +kernel
theorem dX4_lookAt_196 : decode cX4_lookAt 196 = .ok (.getfield 198, 3) := by decide +kernel
theorem dX4_lookAt_199 : decode cX4_lookAt 199 = .ok (.iload_n 3, 1) := by decide +kernel
theorem dX4_lookAt_200 : decode cX4_lookAt 200 = .ok (.ifCond .eq 7, 3) := by decide +kernel
theorem dX4_lookAt_203 : decode cX4_lookAt 203 = .ok (.iconst 1, 1) := by decide +kernel
theorem dX4_lookAt_204 : decode cX4_lookAt 204 = .ok (.goto 4, 3) := by decide +kernel
theorem dX4_lookAt_207 : decode cX4_lookAt 207 = .ok (.iconst 0, 1) := by decide +kernel
theorem dX4_lookAt_208 : decode cX4_lookAt 208 = .ok (.iadd, 1) := by decide +kernel
theorem dX4_lookAt_209 : decode cX4_lookAt 209 = .ok (.putfield 198, 3) := by decide +kernel
theorem dX4_lookAt_212 : decode cX4_lookAt 212 = .ok (.goto (-76), 3) := by decide +kernel
theorem dX4_lookAt_215 : decode cX4_lookAt 215 = .ok (.iconst 0, 1) := by decide +kernel
theorem dX4_lookAt_216 : decode cX4_lookAt 216 = .ok (.istore 4, 2) := by decide +kernel
theorem dX4_lookAt_218 : decode cX4_lookAt 218 = .ok (.iload 4, 2) := by decide +kernel
theorem dX4_lookAt_220 : decode cX4_lookAt 220 = .ok (.aload_n 0, 1) := by decide +kernel
theorem dX4_lookAt_221 : decode cX4_lookAt 221 = .ok (.getfield 198, 3) := by decide +kernel
theorem dX4_lookAt_224 : decode cX4_lookAt 224 = .ok (.if_icmp .ge 50, 3) := by decide +kernel
theorem dX4_lookAt_227 : decode cX4_lookAt 227 = .ok (.iload 4, 2) := by decide +kernel
theorem dX4_lookAt_229 : decode cX4_lookAt 229 = .ok (.iconst 2, 1) := by decide +kernel
theorem dX4_lookAt_230 : decode cX4_lookAt 230 = .ok (.if_icmp .ge 44, 3) := by decide +kernel
theorem dX4_lookAt_233 : decode cX4_lookAt 233 = .ok (.aload_n 0, 1) := by decide +kernel
theorem dX4_lookAt_234 : decode cX4_lookAt 234 = .ok (.getfield 201, 3) := by decide +kernel
theorem dX4_lookAt_237 : decode cX4_lookAt 237 = .ok (.iconst 2, 1) := by decide +kernel
theorem dX4_lookAt_238 : decode cX4_lookAt 238 = .ok (.if_icmp .ne 36, 3) := by decide +kernel
theorem dX4_lookAt_241 : decode cX4_lookAt 241 = .ok (.aload_n 0, 1) := by decide +kernel
theorem dX4_lookAt_242 : decode cX4_lookAt 242 = .ok (.bipush 10, 2) := by decide +kernel
theorem dX4_lookAt_244 : decode cX4_lookAt 244 = .ok (.aload_n 0, 1) := by decide +kernel
theorem dX4_lookAt_245 : decode cX4_lookAt 245 = .ok (.getfield 204, 3) := by decide +kernel
theorem dX4_lookAt_248 : decode cX4_lookAt 248 = .ok (.imul, 1) := by decide +kernel
theorem dX4_lookAt_249 : decode cX4_lookAt 249 = .ok (.aload_n 0, 1) := by decide +kernel
theorem dX4_lookAt_250 : decode cX4_lookAt 250 = .ok (.getfield 39, 3) := by decide +kernel
theorem dX4_lookAt_253 : decode cX4_lookAt 253 = .ok (.aload_n 0, 1) := by decide +kernel
theorem dX4_lookAt_254 : decode cX4_lookAt 254 = .ok (.getfield 195, 3) := by decide +kernel
theorem dX4_lookAt_257 : decode cX4_lookAt 257 = .ok (.iload 4, 2) := by decide +kernel
theorem dX4_lookAt_259 : decode cX4_lookAt 259 = .ok (.iadd, 1) := by decide +kernel
theorem dX4_lookAt_260 : decode cX4_lookAt 260 = .ok (.iaload, 1) := by decide +kernel
theorem dX4_lookAt_261 : decode cX4_lookAt 261 = .ok (.iadd, 1) := by decide +kernel
theorem dX4_lookAt_262 : decode cX4_lookAt 262 = .ok (.bipush 48, 2) := by decide +kernel
theorem dX4_lookAt_264 : decode cX4_lookAt 264 = .ok (.isub, 1) := by decide +kernel
theorem dX4_lookAt_265 : decode cX4_lookAt 265 = .ok (.putfield 204, 3) := by decide +kernel
theorem dX4_lookAt_268 : decode cX4_lookAt 268 = .ok (.iinc 4 1, 3) := by decide +kernel
theorem dX4_lookAt_271 : decode cX4_lookAt 271 = .ok (.goto (-53), 3) := by decide +kernel
theorem dX4_lookAt_274 : decode cX4_lookAt 274 = .ok (.aload_n 0, 1) := by decide +kernel
theorem dX4_lookAt_275 : decode cX4_lookAt 275 = .ok (.aload_n 0, 1) := by decide +kernel
theorem dX4_lookAt_276 : decode cX4_lookAt 276 = .ok (.getfield 201, 3) := by decide +kernel
theorem dX4_lookAt_279 : decode cX4_lookAt 279 = .ok (.iconst 2, 1) := by decide +kernel
theorem dX4_lookAt_280 : decode cX4_lookAt 280 = .ok (.if_icmp .ne 15, 3) := by decide +kernel
theorem dX4_lookAt_283 : decode cX4_lookAt 283 = .ok (.aload_n 0, 1) := by decide +kernel
theorem dX4_lookAt_284 : decode cX4_lookAt 284 = .ok (.getfield 198, 3) := by decide +kernel
theorem dX4_lookAt_287 : decode cX4_lookAt 287 = .ok (.iconst 2, 1) := by decide +kernel
theorem dX4_lookAt_288 : decode cX4_lookAt 288 = .ok (.if_icmp .le 7, 3) := by decide +kernel
theorem dX4_lookAt_291 : decode cX4_lookAt 291 = .ok (.iconst 4, 1) := by decide +kernel
theorem dX4_lookAt_292 : decode cX4_lookAt 292 = .ok (.goto 7, 3) := by decide +kernel
theorem dX4_lookAt_295 : decode cX4_lookAt 295 = .ok (.aload_n 0, 1) := by decide +kernel
theorem dX4_lookAt_296 : decode cX4_lookAt 296 = .ok (.getfield 201, 3) := by decide +kernel
theorem dX4_lookAt_299 : decode cX4_lookAt 299 = .ok (.putfield 201, 3) := by decide +kernel
theorem dX4_lookAt_302 : decode cX4_lookAt 302 = .ok (.return_, 1) := by decide +kernel
theorem dX4_goBehind_0 : decode cX4_goBehind 0 = .ok (.aload_n 0, 1) := by decide +kernel
theorem dX4_goBehind_1 : decode cX4_goBehind 1 = .ok (.aload_n 0, 1) := by decide +kernel
theorem dX4_goBehind_2 : decode cX4_goBehind 2 = .ok (.getfield 195, 3) := by decide +kernel
theorem dX4_goBehind_5 : decode cX4_goBehind 5 = .ok (.aload_n 0, 1) := by decide +kernel
theorem dX4_goBehind_6 : decode cX4_goBehind 6 = .ok (.getfield 198, 3) := by decide +kernel
theorem dX4_goBehind_9 : decode cX4_goBehind 9 = .ok (.iadd, 1) := by decide +kernel
theorem dX4_goBehind_10 : decode cX4_goBehind 10 = .ok (.invokevirtual 213, 3) := by decide +kernel
theorem dX4_goBehind_13 : decode cX4_goBehind 13 = .ok (.return_, 1) := by decide +kernel
theorem dX4_spells_0 : decode cX4_spells 0 = .ok (.aload_n 0, 1) := by decide +kernel
theorem dX4_spells_1 : decode cX4_spells 1 = .ok (.getfield 201, 3) := by decide +kernel
theorem dX4_spells_4 : decode cX4_spells 4 = .ok (.iconst 1, 1) := by decide +kernel
theorem dX4_spells_5 : decode cX4_spells 5 = .ok (.if_icmp .ne 15, 3) := by decide +kernel
theorem dX4_spells_8 : decode cX4_spells 8 = .ok (.aload_n 0, 1) := by decide +kernel
theorem dX4_spells_9 : decode cX4_spells 9 = .ok (.getfield 198, 3) := by decide +kernel
theorem dX4_spells_12 : decode cX4_spells 12 = .ok (.iload_n 1, 1) := by decide +kernel
theorem dX4_spells_13 : decode cX4_spells 13 = .ok (.if_icmp .ne 7, 3) := by decide +kernel
theorem dX4_spells_16 : decode cX4_spells 16 = .ok (.iconst 1, 1) := by decide +kernel
theorem dX4_spells_17 : decode cX4_spells 17 = .ok (.goto 4, 3) := by decide +kernel
theorem dX4_spells_20 : decode cX4_spells 20 = .ok (.iconst 0, 1) := by decide +kernel
theorem dX4_spells_21 : decode cX4_spells 21 = .ok (.istore 8, 2) := by decide +kernel
theorem dX4_spells_23 : decode cX4_spells 23 = .ok (.iconst 0, 1) := by decide +kernel
theorem dX4_spells_24 : decode cX4_spells 24 = .ok (.istore 9, 2) := by decide +kernel
theorem dX4_spells_26 : decode cX4_spells 26 = .ok (.iload 9, 2) := by decide +kernel
theorem dX4_spells_28 : decode cX4_spells 28 = .ok (.iload_n 1, 1) := by decide +kernel
theorem dX4_spells_29 : decode cX4_spells 29 = .ok (.if_icmp .ge 90, 3) := by decide +kernel
theorem dX4_spells_32 : decode cX4_spells 32 = .ok (.iload 8, 2) := by decide +kernel
theorem dX4_spells_34 : decode cX4_spells 34 = .ok (.ifCond .eq 85, 3) := by decide +kernel
theorem dX4_spells_37 : decode cX4_spells 37 = .ok (.aload_n 0, 1) := by decide +kernel
theorem dX4_spells_38 : decode cX4_spells 38 = .ok (.getfield 39, 3) := by decide +kernel
theorem dX4_spells_41 : decode cX4_spells 41 = .ok (.aload_n 0, 1) := by decide +kernel
theorem dX4_spells_42 : decode cX4_spells 42 = .ok (.getfield 195, 3) := by decide +kernel
theorem dX4_spells_45 : decode cX4_spells 45 = .ok (.iload 9, 2) := by decide +kernel
theorem dX4_spells_47 : decode cX4_spells 47 = .ok (.iadd, 1) := by decide +kernel
theorem dX4_spells_48 : decode cX4_spells 48 = .ok (.iaload, 1) := by decide +kernel
theorem dX4_spells_49 : decode cX4_spells 49 = .ok (.iload 9, 2) := by decide +kernel
theorem dX4_spells_51 : decode cX4_spells 51 = .ok (.ifCond .ne 7, 3) := by decide +kernel
theorem dX4_spells_54 : decode cX4_spells 54 = .ok (.iload_n 2, 1) := by decide +kernel
theorem dX4_spells_55 : decode cX4_spells 55 = .ok (.goto 48, 3) := by decide +kernel
theorem dX4_spells_58 : decode cX4_spells 58 = .ok (.iload 9, 2) := by decide +kernel
theorem dX4_spells_60 : decode cX4_spells 60 = .ok (.iconst 1, 1) := by decide +kernel
theorem dX4_spells_61 : decode cX4_spells 61 = .ok (.if_icmp .ne 7, 3) := by decide +kernel
theorem dX4_spells_64 : decode cX4_spells 64 = .ok (.iload_n 3, 1) := by decide +kernel
theorem dX4_spells_65 : decode cX4_spells 65 = .ok (.goto 38, 3) := by decide +kernel
theorem dX4_spells_68 : decode cX4_spells 68 = .ok (.iload 9, 2) := by decide +kernel
theorem dX4_spells_70 : decode cX4_spells 70 = .ok (.iconst 2, 1) := by decide +kernel
theorem dX4_spells_71 : decode cX4_spells 71 = .ok (.if_icmp .ne 8, 3) := by decide +kernel
theorem dX4_spells_74 : decode cX4_spells 74 = .ok (.iload 4, 2) := by decide +kernel
theorem dX4_spells_76 : decode cX4_spells 76 = .ok (.goto 27, 3) := by decide +kernel
theorem dX4_spells_79 : decode cX4_spells 79 = .ok (.iload 9, 2) := by decide +kernel
theorem dX4_spells_81 : decode cX4_spells 81 = .ok (.iconst 3, 1) := by decide +kernel
theorem dX4_spells_82 : decode cX4_spells 82 = .ok (.if_icmp .ne 8, 3) := by decide +kernel
theorem dX4_spells_85 : decode cX4_spells 85 = .ok (.iload 5, 2) := by decide +kernel
theorem dX4_spells_87 : decode cX4_spells 87 = .ok (.goto 16, 3) := by decide +kernel
theorem dX4_spells_90 : decode cX4_spells 90 = .ok (.iload 9, 2) := by decide +kernel
theorem dX4_spells_92 : decode cX4_spells 92 = .ok (.iconst 4, 1) := by decide +kernel
theorem dX4_spells_93 : decode cX4_spells 93 = .ok (.if_icmp .ne 8, 3) := by decide +kernel
theorem dX4_spells_96 : decode cX4_spells 96 = .ok (.iload 6, 2) := by decide +kernel
theorem dX4_spells_98 : decode cX4_spells 98 = .ok (.goto 5, 3) := by decide +kernel
theorem dX4_spells_101 : decode cX4_spells 101 = .ok (.iload 7, 2) := by decide +kernel
theorem dX4_spells_103 : decode cX4_spells 103 = .ok (.if_icmp .ne 7, 3) := by decide +kernel
theorem dX4_spells_106 : decode cX4_spells 106 = .ok (.iconst 1, 1) := by decide +kernel
theorem dX4_spells_107 : decode cX4_spells 107 = .ok (.goto 4, 3) := by decide +kernel
theorem dX4_spells_110 : decode cX4_spells 110 = .ok (.iconst 0, 1) := by decide +kernel
theorem dX4_spells_111 : decode cX4_spells 111 = .ok (.istore 8, 2) := by decide +kernel
theorem dX4_spells_113 : decode cX4_spells 113 = .ok (.iinc 9 1, 3) := by decide +kernel
theorem dX4_spells_116 : decode cX4_spells 116 = .ok (.goto (-90), 3) := by decide +kernel
theorem dX4_spells_119 : decode cX4_spells 119 = .ok (.iload 8, 2) := by decide +kernel
theorem dX4_spells_121 : decode cX4_spells 121 = .ok (.ireturn, 1) := by decide +kernel
theorem dX4_takes_0 : decode cX4_takes 0 = .ok (.aload_n 0, 1) := by decide +kernel
theorem dX4_takes_1 : decode cX4_takes 1 = .ok (.getfield 201, 3) := by decide +kernel
theorem dX4_takes_4 : decode cX4_takes 4 = .ok (.iconst 2, 1) := by decide +kernel
theorem dX4_takes_5 : decode cX4_takes 5 = .ok (.if_icmp .ne 18, 3) := by decide +kernel
theorem dX4_takes_8 : decode cX4_takes 8 = .ok (.aload_n 0, 1) := by decide +kernel
theorem dX4_takes_9 : decode cX4_takes 9 = .ok (.getfield 204, 3) := by decide +kernel
theorem dX4_takes_12 : decode cX4_takes 12 = .ok (.i2l, 1) := by decide +kernel
theorem dX4_takes_13 : decode cX4_takes 13 = .ok (.iload_n 2, 1) := by decide +kernel
theorem dX4_takes_14 : decode cX4_takes 14 = .ok (.i2l, 1) := by decide +kernel
theorem dX4_takes_15 : decode cX4_takes 15 = .ok (.iload_n 3, 1) := by decide +kernel
theorem dX4_takes_16 : decode cX4_takes 16 = .ok (.i2l, 1) := by decide +kernel
theorem dX4_takes_17 : decode cX4_takes 17 = .ok (.invokestatic 56, 3) := by decide +kernel
theorem dX4_takes_20 : decode cX4_takes 20 = .ok (.ifCond .ne 5, 3) := by decide +kernel
theorem dX4_takes_23 : decode cX4_takes 23 = .ok (.iconst 0, 1) := by decide +kernel
theorem dX4_takes_24 : decode cX4_takes 24 = .ok (.ireturn, 1) := by decide +kernel
theorem dX4_takes_25 : decode cX4_takes 25 = .ok (.aload_n 0, 1) := by decide +kernel
theorem dX4_takes_26 : decode cX4_takes 26 = .ok (.getfield 45, 3) := by decide +kernel
theorem dX4_takes_29 : decode cX4_takes 29 = .ok (.iload_n 1, 1) := by decide +kernel
theorem dX4_takes_30 : decode cX4_takes 30 = .ok (.aload_n 0, 1) := by decide +kernel
theorem dX4_takes_31 : decode cX4_takes 31 = .ok (.getfield 204, 3) := by decide +kernel
theorem dX4_takes_34 : decode cX4_takes 34 = .ok (.iastore, 1) := by decide +kernel
theorem dX4_takes_35 : decode cX4_takes 35 = .ok (.aload_n 0, 1) := by decide +kernel
theorem dX4_takes_36 : decode cX4_takes 36 = .ok (.invokevirtual 217, 3) := by decide +kernel
theorem dX4_takes_39 : decode cX4_takes 39 = .ok (.iconst 1, 1) := by decide +kernel
theorem dX4_takes_40 : decode cX4_takes 40 = .ok (.ireturn, 1) := by decide +kernel
theorem dX4_takesTown_0 : decode cX4_takesTown 0 = .ok (.aload_n 0, 1) := by decide +kernel
theorem dX4_takesTown_1 : decode cX4_takesTown 1 = .ok (.iconst 4, 1) := by decide +kernel
theorem dX4_takesTown_2 : decode cX4_takesTown 2 = .ok (.bipush 116, 2) := by decide +kernel
theorem dX4_takesTown_4 : decode cX4_takesTown 4 = .ok (.bipush 111, 2) := by decide +kernel
theorem dX4_takesTown_6 : decode cX4_takesTown 6 = .ok (.bipush 119, 2) := by decide +kernel
theorem dX4_takesTown_8 : decode cX4_takesTown 8 = .ok (.bipush 110, 2) := by decide +kernel
theorem dX4_takesTown_10 : decode cX4_takesTown 10 = .ok (.iconst 0, 1) := by decide +kernel
theorem dX4_takesTown_11 : decode cX4_takesTown 11 = .ok (.iconst 0, 1) := by decide +kernel
theorem dX4_takesTown_12 : decode cX4_takesTown 12 = .ok (.invokevirtual 220, 3) := by decide +kernel
theorem dX4_takesTown_15 : decode cX4_takesTown 15 = .ok (.ifCond .ne 5, 3) := by decide +kernel
theorem dX4_takesTown_18 : decode cX4_takesTown 18 = .ok (.iconst 0, 1) := by decide +kernel
theorem dX4_takesTown_19 : decode cX4_takesTown 19 = .ok (.ireturn, 1) := by decide +kernel
theorem dX4_takesTown_20 : decode cX4_takesTown 20 = .ok (.aload_n 0, 1) := by decide +kernel
theorem dX4_takesTown_21 : decode cX4_takesTown 21 = .ok (.invokevirtual 217, 3) := by decide +kernel
theorem dX4_takesTown_24 : decode cX4_takesTown 24 = .ok (.aload_n 0, 1) := by decide +kernel
theorem dX4_takesTown_25 : decode cX4_takesTown 25 = .ok (.iconst 0, 1) := by decide +kernel
theorem dX4_takesTown_26 : decode cX4_takesTown 26 = .ok (.iconst 1, 1) := by decide +kernel
theorem dX4_takesTown_27 : decode cX4_takesTown 27 = .ok (.iconst 5, 1) := by decide +kernel
theorem dX4_takesTown_28 : decode cX4_takesTown 28 = .ok (.invokevirtual 224, 3) := by decide +kernel
theorem dX4_takesTown_31 : decode cX4_takesTown 31 = .ok (.ifCond .ne 5, 3) := by decide +kernel
theorem dX4_takesTown_34 : decode cX4_takesTown 34 = .ok (.iconst 0, 1) := by decide +kernel
theorem dX4_takesTown_35 : decode cX4_takesTown 35 = .ok (.ireturn, 1) := by decide +kernel
theorem dX4_takesTown_36 : decode cX4_takesTown 36 = .ok (.aload_n 0, 1) := by decide +kernel
theorem dX4_takesTown_37 : decode cX4_takesTown 37 = .ok (.getfield 42, 3) := by decide +kernel
theorem dX4_takesTown_40 : decode cX4_takesTown 40 = .ok (.aload_n 0, 1) := by decide +kernel
theorem dX4_takesTown_41 : decode cX4_takesTown 41 = .ok (.getfield 45, 3) := by decide +kernel
theorem dX4_takesTown_44 : decode cX4_takesTown 44 = .ok (.iconst 0, 1) := by decide +kernel
theorem dX4_takesTown_45 : decode cX4_takesTown 45 = .ok (.iaload, 1) := by decide +kernel
theorem dX4_takesTown_46 : decode cX4_takesTown 46 = .ok (.invokestatic 48, 3) := by decide +kernel
theorem dX4_takesTown_49 : decode cX4_takesTown 49 = .ok (.aload_n 0, 1) := by decide +kernel
theorem dX4_takesTown_50 : decode cX4_takesTown 50 = .ok (.getfield 201, 3) := by decide +kernel
theorem dX4_takesTown_53 : decode cX4_takesTown 53 = .ok (.iconst 3, 1) := by decide +kernel
theorem dX4_takesTown_54 : decode cX4_takesTown 54 = .ok (.if_icmp .ne 7, 3) := by decide +kernel
theorem dX4_takesTown_57 : decode cX4_takesTown 57 = .ok (.iconst 1, 1) := by decide +kernel
theorem dX4_takesTown_58 : decode cX4_takesTown 58 = .ok (.goto 4, 3) := by decide +kernel
theorem dX4_takesTown_61 : decode cX4_takesTown 61 = .ok (.iconst 0, 1) := by decide +kernel
theorem dX4_takesTown_62 : decode cX4_takesTown 62 = .ok (.ireturn, 1) := by decide +kernel
theorem dX4_takesOne_0 : decode cX4_takesOne 0 = .ok (.aload_n 0, 1) := by decide +kernel
theorem dX4_takesOne_1 : decode cX4_takesOne 1 = .ok (.getfield 42, 3) := by decide +kernel
theorem dX4_takesOne_4 : decode cX4_takesOne 4 = .ok (.iconst 0, 1) := by decide +kernel
theorem dX4_takesOne_5 : decode cX4_takesOne 5 = .ok (.iaload, 1) := by decide +kernel
theorem dX4_takesOne_6 : decode cX4_takesOne 6 = .ok (.bipush 7, 2) := by decide +kernel
theorem dX4_takesOne_8 : decode cX4_takesOne 8 = .ok (.if_icmp .ne 5, 3) := by decide +kernel
theorem dX4_takesOne_11 : decode cX4_takesOne 11 = .ok (.iconst 0, 1) := by decide +kernel
theorem dX4_takesOne_12 : decode cX4_takesOne 12 = .ok (.ireturn, 1) := by decide +kernel
theorem dX4_takesOne_13 : decode cX4_takesOne 13 = .ok (.aload_n 0, 1) := by decide +kernel
theorem dX4_takesOne_14 : decode cX4_takesOne 14 = .ok (.invokevirtual 217, 3) := by decide +kernel
theorem dX4_takesOne_17 : decode cX4_takesOne 17 = .ok (.aload_n 0, 1) := by decide +kernel
theorem dX4_takesOne_18 : decode cX4_takesOne 18 = .ok (.iconst 0, 1) := by decide +kernel
theorem dX4_takesOne_19 : decode cX4_takesOne 19 = .ok (.iconst 0, 1) := by decide +kernel
theorem dX4_takesOne_20 : decode cX4_takesOne 20 = .ok (.iconst 5, 1) := by decide +kernel
theorem dX4_takesOne_21 : decode cX4_takesOne 21 = .ok (.invokevirtual 224, 3) := by decide +kernel
theorem dX4_takesOne_24 : decode cX4_takesOne 24 = .ok (.ifCond .eq 14, 3) := by decide +kernel
theorem dX4_takesOne_27 : decode cX4_takesOne 27 = .ok (.aload_n 0, 1) := by decide +kernel
theorem dX4_takesOne_28 : decode cX4_takesOne 28 = .ok (.iconst 1, 1) := by decide +kernel
theorem dX4_takesOne_29 : decode cX4_takesOne 29 = .ok (.iconst 0, 1) := by decide +kernel
theorem dX4_takesOne_30 : decode cX4_takesOne 30 = .ok (.bipush 30, 2) := by decide +kernel
theorem dX4_takesOne_32 : decode cX4_takesOne 32 = .ok (.invokevirtual 224, 3) := by decide +kernel
theorem dX4_takesOne_35 : decode cX4_takesOne 35 = .ok (.ifCond .ne 5, 3) := by decide +kernel
theorem dX4_takesOne_38 : decode cX4_takesOne 38 = .ok (.iconst 0, 1) := by decide +kernel
theorem dX4_takesOne_39 : decode cX4_takesOne 39 = .ok (.ireturn, 1) := by decide +kernel
theorem dX4_takesOne_40 : decode cX4_takesOne 40 = .ok (.aload_n 0, 1) := by decide +kernel
theorem dX4_takesOne_41 : decode cX4_takesOne 41 = .ok (.getfield 42, 3) := by decide +kernel
theorem dX4_takesOne_44 : decode cX4_takesOne 44 = .ok (.aload_n 0, 1) := by decide +kernel
theorem dX4_takesOne_45 : decode cX4_takesOne 45 = .ok (.getfield 45, 3) := by decide +kernel
theorem dX4_takesOne_48 : decode cX4_takesOne 48 = .ok (.iconst 0, 1) := by decide +kernel
theorem dX4_takesOne_49 : decode cX4_takesOne 49 = .ok (.iaload, 1) := by decide +kernel
theorem dX4_takesOne_50 : decode cX4_takesOne 50 = .ok (.aload_n 0, 1) := by decide +kernel
theorem dX4_takesOne_51 : decode cX4_takesOne 51 = .ok (.getfield 45, 3) := by decide +kernel
theorem dX4_takesOne_54 : decode cX4_takesOne 54 = .ok (.iconst 1, 1) := by decide +kernel
theorem dX4_takesOne_55 : decode cX4_takesOne 55 = .ok (.iaload, 1) := by decide +kernel
theorem dX4_takesOne_56 : decode cX4_takesOne 56 = .ok (.invokestatic 71, 3) := by decide +kernel
theorem dX4_takesOne_59 : decode cX4_takesOne 59 = .ok (.iconst 1, 1) := by decide +kernel
theorem dX4_takesOne_60 : decode cX4_takesOne 60 = .ok (.ireturn, 1) := by decide +kernel
theorem dX4_takesBit_0 : decode cX4_takesBit 0 = .ok (.aload_n 0, 1) := by decide +kernel
theorem dX4_takesBit_1 : decode cX4_takesBit 1 = .ok (.invokevirtual 217, 3) := by decide +kernel
theorem dX4_takesBit_4 : decode cX4_takesBit 4 = .ok (.aload_n 0, 1) := by decide +kernel
theorem dX4_takesBit_5 : decode cX4_takesBit 5 = .ok (.iconst 0, 1) := by decide +kernel
theorem dX4_takesBit_6 : decode cX4_takesBit 6 = .ok (.iconst 0, 1) := by decide +kernel
theorem dX4_takesBit_7 : decode cX4_takesBit 7 = .ok (.aload_n 0, 1) := by decide +kernel
theorem dX4_takesBit_8 : decode cX4_takesBit 8 = .ok (.getfield 42, 3) := by decide +kernel
theorem dX4_takesBit_11 : decode cX4_takesBit 11 = .ok (.iconst 0, 1) := by decide +kernel
theorem dX4_takesBit_12 : decode cX4_takesBit 12 = .ok (.iaload, 1) := by decide +kernel
theorem dX4_takesBit_13 : decode cX4_takesBit 13 = .ok (.iconst 1, 1) := by decide +kernel
theorem dX4_takesBit_14 : decode cX4_takesBit 14 = .ok (.isub, 1) := by decide +kernel
theorem dX4_takesBit_15 : decode cX4_takesBit 15 = .ok (.invokevirtual 224, 3) := by decide +kernel
theorem dX4_takesBit_18 : decode cX4_takesBit 18 = .ok (.ifCond .ne 5, 3) := by decide +kernel
theorem dX4_takesBit_21 : decode cX4_takesBit 21 = .ok (.iconst 0, 1) := by decide +kernel
theorem dX4_takesBit_22 : decode cX4_takesBit 22 = .ok (.ireturn, 1) := by decide +kernel
theorem dX4_takesBit_23 : decode cX4_takesBit 23 = .ok (.aload_n 0, 1) := by decide +kernel
theorem dX4_takesBit_24 : decode cX4_takesBit 24 = .ok (.getfield 42, 3) := by decide +kernel
theorem dX4_takesBit_27 : decode cX4_takesBit 27 = .ok (.iload_n 1, 1) := by decide +kernel
theorem dX4_takesBit_28 : decode cX4_takesBit 28 = .ok (.dup2, 1) := by decide +kernel
theorem dX4_takesBit_29 : decode cX4_takesBit 29 = .ok (.iaload, 1) := by decide +kernel
theorem dX4_takesBit_30 : decode cX4_takesBit 30 = .ok (.iconst 1, 1) := by decide +kernel
theorem dX4_takesBit_31 : decode cX4_takesBit 31 = .ok (.aload_n 0, 1) := by decide +kernel
theorem dX4_takesBit_32 : decode cX4_takesBit 32 = .ok (.getfield 45, 3) := by decide +kernel
theorem dX4_takesBit_35 : decode cX4_takesBit 35 = .ok (.iconst 0, 1) := by decide +kernel
theorem dX4_takesBit_36 : decode cX4_takesBit 36 = .ok (.iaload, 1) := by decide +kernel
theorem dX4_takesBit_37 : decode cX4_takesBit 37 = .ok (.ishl, 1) := by decide +kernel
theorem dX4_takesBit_38 : decode cX4_takesBit 38 = .ok (.ior, 1) := by decide +kernel
theorem dX4_takesBit_39 : decode cX4_takesBit 39 = .ok (.iastore, 1) := by decide +kernel
theorem dX4_takesBit_40 : decode cX4_takesBit 40 = .ok (.iconst 1, 1) := by decide +kernel
theorem dX4_takesBit_41 : decode cX4_takesBit 41 = .ok (.ireturn, 1) := by decide +kernel
theorem dX4_takesItem_0 : decode cX4_takesItem 0 = .ok (.aload_n 0, 1) := by decide +kernel
theorem dX4_takesItem_1 : decode cX4_takesItem 1 = .ok (.iconst 3, 1) := by decide +kernel
theorem dX4_takesItem_2 : decode cX4_takesItem 2 = .ok (.bipush 111, 2) := by decide +kernel
theorem dX4_takesItem_4 : decode cX4_takesItem 4 = .ok (.bipush 110, 2) := by decide +kernel
theorem dX4_takesItem_6 : decode cX4_takesItem 6 = .ok (.bipush 101, 2) := by decide +kernel
theorem dX4_takesItem_8 : decode cX4_takesItem 8 = .ok (.iconst 0, 1) := by decide +kernel
theorem dX4_takesItem_9 : decode cX4_takesItem 9 = .ok (.iconst 0, 1) := by decide +kernel
theorem dX4_takesItem_10 : decode cX4_takesItem 10 = .ok (.iconst 0, 1) := by decide +kernel
theorem dX4_takesItem_11 : decode cX4_takesItem 11 = .ok (.invokevirtual 220, 3) := by decide +kernel
theorem dX4_takesItem_14 : decode cX4_takesItem 14 = .ok (.ifCond .eq 8, 3) := by decide +kernel
theorem dX4_takesItem_17 : decode cX4_takesItem 17 = .ok (.aload_n 0, 1) := by decide +kernel
theorem dX4_takesItem_18 : decode cX4_takesItem 18 = .ok (.invokevirtual 227, 3) := by decide +kernel
theorem dX4_takesItem_21 : decode cX4_takesItem 21 = .ok (.ireturn, 1) := by decide +kernel
theorem dX4_takesItem_22 : decode cX4_takesItem 22 = .ok (.aload_n 0, 1) := by decide +kernel
theorem dX4_takesItem_23 : decode cX4_takesItem 23 = .ok (.iconst 4, 1) := by decide +kernel
theorem dX4_takesItem_24 : decode cX4_takesItem 24 = .ok (.bipush 108, 2) := by decide +kernel
theorem dX4_takesItem_26 : decode cX4_takesItem 26 = .ok (.bipush 105, 2) := by decide +kernel
theorem dX4_takesItem_28 : decode cX4_takesItem 28 = .ok (.bipush 115, 2) := by decide +kernel
theorem dX4_takesItem_30 : decode cX4_takesItem 30 = .ok (.bipush 116, 2) := by decide +kernel
theorem dX4_takesItem_32 : decode cX4_takesItem 32 = .ok (.iconst 0, 1) := by decide +kernel
theorem dX4_takesItem_33 : decode cX4_takesItem 33 = .ok (.iconst 0, 1) := by decide +kernel
theorem dX4_takesItem_34 : decode cX4_takesItem 34 = .ok (.invokevirtual 220, 3) := by decide +kernel
theorem dX4_takesItem_37 : decode cX4_takesItem 37 = .ok (.ifCond .eq 10, 3) := by decide +kernel
theorem dX4_takesItem_40 : decode cX4_takesItem 40 = .ok (.aload_n 0, 1) := by decide +kernel
theorem dX4_takesItem_41 : decode cX4_takesItem 41 = .ok (.bipush 18, 2) := by decide +kernel
theorem dX4_takesItem_43 : decode cX4_takesItem 43 = .ok (.invokevirtual 230, 3) := by decide +kernel
theorem dX4_takesItem_46 : decode cX4_takesItem 46 = .ok (.ireturn, 1) := by decide +kernel
theorem dX4_takesItem_47 : decode cX4_takesItem 47 = .ok (.aload_n 0, 1) := by decide +kernel
theorem dX4_takesItem_48 : decode cX4_takesItem 48 = .ok (.bipush 6, 2) := by decide +kernel
theorem dX4_takesItem_50 : decode cX4_takesItem 50 = .ok (.bipush 102, 2) := by decide +kernel
theorem dX4_takesItem_52 : decode cX4_takesItem 52 = .ok (.bipush 111, 2) := by decide +kernel
theorem dX4_takesItem_54 : decode cX4_takesItem 54 = .ok (.bipush 108, 2) := by decide +kernel
theorem dX4_takesItem_56 : decode cX4_takesItem 56 = .ok (.bipush 108, 2) := by decide +kernel
theorem dX4_takesItem_58 : decode cX4_takesItem 58 = .ok (.bipush 111, 2) := by decide +kernel
theorem dX4_takesItem_60 : decode cX4_takesItem 60 = .ok (.bipush 119, 2) := by decide +kernel
theorem dX4_takesItem_62 : decode cX4_takesItem 62 = .ok (.invokevirtual 220, 3) := by decide +kernel
theorem dX4_takesItem_65 : decode cX4_takesItem 65 = .ok (.ifCond .eq 16, 3) := by decide +kernel
theorem dX4_takesItem_68 : decode cX4_takesItem 68 = .ok (.aload_n 0, 1) := by decide +kernel
theorem dX4_takesItem_69 : decode cX4_takesItem 69 = .ok (.bipush 19, 2) := by decide +kernel
theorem dX4_takesItem_71 : decode cX4_takesItem 71 = .ok (.invokevirtual 230, 3) := by decide +kernel
theorem dX4_takesItem_74 : decode cX4_takesItem 74 = .ok (.ifCond .eq 7, 3) := by decide +kernel
theorem dX4_takesItem_77 : decode cX4_takesItem 77 = .ok (.iconst 1, 1) := by decide +kernel
theorem dX4_takesItem_78 : decode cX4_takesItem 78 = .ok (.goto 4, 3) := by decide +kernel
theorem dX4_takesItem_81 : decode cX4_takesItem 81 = .ok (.iconst 0, 1) := by decide +kernel
theorem dX4_takesItem_82 : decode cX4_takesItem 82 = .ok (.ireturn, 1) := by decide +kernel
theorem dX4_read_0 : decode cX4_read 0 = .ok (.aload_n 0, 1) := by decide +kernel
theorem dX4_read_1 : decode cX4_read 1 = .ok (.iconst 0, 1) := by decide +kernel
theorem dX4_read_2 : decode cX4_read 2 = .ok (.invokevirtual 213, 3) := by decide +kernel
theorem dX4_read_5 : decode cX4_read 5 = .ok (.aload_n 0, 1) := by decide +kernel
theorem dX4_read_6 : decode cX4_read 6 = .ok (.invokevirtual 233, 3) := by decide +kernel
theorem dX4_read_9 : decode cX4_read 9 = .ok (.ifCond .ne 11, 3) := by decide +kernel
theorem dX4_read_12 : decode cX4_read 12 = .ok (.bipush (-10), 2) := by decide +kernel
theorem dX4_read_14 : decode cX4_read 14 = .ok (.aload_n 0, 1) := by decide +kernel
theorem dX4_read_15 : decode cX4_read 15 = .ok (.getfield 195, 3) := by decide +kernel
theorem dX4_read_18 : decode cX4_read 18 = .ok (.isub, 1) := by decide +kernel
theorem dX4_read_19 : decode cX4_read 19 = .ok (.ireturn, 1) := by decide +kernel
theorem dX4_read_20 : decode cX4_read 20 = .ok (.aload_n 0, 1) := by decide +kernel
theorem dX4_read_21 : decode cX4_read 21 = .ok (.invokevirtual 217, 3) := by decide +kernel
theorem dX4_read_24 : decode cX4_read 24 = .ok (.iconst 1, 1) := by decide +kernel
theorem dX4_read_25 : decode cX4_read 25 = .ok (.istore_n 1, 1) := by decide +kernel
theorem dX4_read_26 : decode cX4_read 26 = .ok (.aload_n 0, 1) := by decide +kernel
theorem dX4_read_27 : decode cX4_read 27 = .ok (.getfield 201, 3) := by decide +kernel
theorem dX4_read_30 : decode cX4_read 30 = .ok (.ifCond .eq 36, 3) := by decide +kernel
theorem dX4_read_33 : decode cX4_read 33 = .ok (.aload_n 0, 1) := by decide +kernel
theorem dX4_read_34 : decode cX4_read 34 = .ok (.invokevirtual 236, 3) := by decide +kernel
theorem dX4_read_37 : decode cX4_read 37 = .ok (.ifCond .eq 11, 3) := by decide +kernel
theorem dX4_read_40 : decode cX4_read 40 = .ok (.aload_n 0, 1) := by decide +kernel
theorem dX4_read_41 : decode cX4_read 41 = .ok (.getfield 201, 3) := by decide +kernel
theorem dX4_read_44 : decode cX4_read 44 = .ok (.iconst 3, 1) := by decide +kernel
theorem dX4_read_45 : decode cX4_read 45 = .ok (.if_icmp .eq 11, 3) := by decide +kernel
theorem dX4_read_48 : decode cX4_read 48 = .ok (.bipush (-10), 2) := by decide +kernel
theorem dX4_read_50 : decode cX4_read 50 = .ok (.aload_n 0, 1) := by decide +kernel
theorem dX4_read_51 : decode cX4_read 51 = .ok (.getfield 195, 3) := by decide +kernel
theorem dX4_read_54 : decode cX4_read 54 = .ok (.isub, 1) := by decide +kernel
theorem dX4_read_55 : decode cX4_read 55 = .ok (.ireturn, 1) := by decide +kernel
theorem dX4_read_56 : decode cX4_read 56 = .ok (.aload_n 0, 1) := by decide +kernel
theorem dX4_read_57 : decode cX4_read 57 = .ok (.invokevirtual 217, 3) := by decide +kernel
theorem dX4_read_60 : decode cX4_read 60 = .ok (.iinc 1 1, 3) := by decide +kernel
theorem dX4_read_63 : decode cX4_read 63 = .ok (.goto (-37), 3) := by decide +kernel
theorem dX4_read_66 : decode cX4_read 66 = .ok (.iconst 0, 1) := by decide +kernel
theorem dX4_read_67 : decode cX4_read 67 = .ok (.istore_n 2, 1) := by decide +kernel
theorem dX4_read_68 : decode cX4_read 68 = .ok (.iload_n 2, 1) := by decide +kernel
theorem dX4_read_69 : decode cX4_read 69 = .ok (.bipush 52, 2) := by decide +kernel
theorem dX4_read_71 : decode cX4_read 71 = .ok (.if_icmp .ge 21, 3) := by decide +kernel
theorem dX4_read_74 : decode cX4_read 74 = .ok (.aload_n 0, 1) := by decide +kernel
theorem dX4_read_75 : decode cX4_read 75 = .ok (.getfield 7, 3) := by decide +kernel
theorem dX4_read_78 : decode cX4_read 78 = .ok (.iload_n 2, 1) := by decide +kernel
theorem dX4_read_79 : decode cX4_read 79 = .ok (.aload_n 0, 1) := by decide +kernel
theorem dX4_read_80 : decode cX4_read 80 = .ok (.getfield 42, 3) := by decide +kernel
theorem dX4_read_83 : decode cX4_read 83 = .ok (.iload_n 2, 1) := by decide +kernel
theorem dX4_read_84 : decode cX4_read 84 = .ok (.iaload, 1) := by decide +kernel
theorem dX4_read_85 : decode cX4_read 85 = .ok (.iastore, 1) := by decide +kernel
theorem dX4_read_86 : decode cX4_read 86 = .ok (.iinc 2 1, 3) := by decide +kernel
theorem dX4_read_89 : decode cX4_read 89 = .ok (.goto (-21), 3) := by decide +kernel
theorem dX4_read_92 : decode cX4_read 92 = .ok (.iload_n 1, 1) := by decide +kernel
theorem dX4_read_93 : decode cX4_read 93 = .ok (.ireturn, 1) := by decide +kernel
theorem dX4_part_0 : decode cX4_part 0 = .ok (.iload_n 1, 1) := by decide +kernel
theorem dX4_part_1 : decode cX4_part 1 = .ok (.ifCond .ne 10, 3) := by decide +kernel
theorem dX4_part_4 : decode cX4_part 4 = .ok (.aload_n 0, 1) := by decide +kernel
theorem dX4_part_5 : decode cX4_part 5 = .ok (.getfield 161, 3) := by decide +kernel
theorem dX4_part_8 : decode cX4_part 8 = .ok (.goto 22, 3) := by decide +kernel
theorem dX4_part_11 : decode cX4_part 11 = .ok (.iload_n 1, 1) := by decide +kernel
theorem dX4_part_12 : decode cX4_part 12 = .ok (.iconst 1, 1) := by decide +kernel
theorem dX4_part_13 : decode cX4_part 13 = .ok (.if_icmp .ne 10, 3) := by decide +kernel
theorem dX4_part_16 : decode cX4_part 16 = .ok (.aload_n 0, 1) := by decide +kernel
theorem dX4_part_17 : decode cX4_part 17 = .ok (.getfield 23, 3) := by decide +kernel
theorem dX4_part_20 : decode cX4_part 20 = .ok (.goto 10, 3) := by decide +kernel
theorem dX4_part_23 : decode cX4_part 23 = .ok (.aload_n 0, 1) := by decide +kernel
theorem dX4_part_24 : decode cX4_part 24 = .ok (.bipush (-2), 2) := by decide +kernel
theorem dX4_part_26 : decode cX4_part 26 = .ok (.invokevirtual 62, 3) := by decide +kernel
theorem dX4_part_29 : decode cX4_part 29 = .ok (.i2l, 1) := by decide +kernel
theorem dX4_part_30 : decode cX4_part 30 = .ok (.lreturn, 1) := by decide +kernel
theorem dX4_image_0 : decode cX4_image 0 = .ok (.iload_n 1, 1) := by decide +kernel
theorem dX4_image_1 : decode cX4_image 1 = .ok (.i2l, 1) := by decide +kernel
theorem dX4_image_2 : decode cX4_image 2 = .ok (.lconst 0, 1) := by decide +kernel
theorem dX4_image_3 : decode cX4_image 3 = .ok (.lconst 1, 1) := by decide +kernel
theorem dX4_image_4 : decode cX4_image 4 = .ok (.invokestatic 56, 3) := by decide +kernel
theorem dX4_image_7 : decode cX4_image 7 = .ok (.ifCond .ne 10, 3) := by decide +kernel
theorem dX4_image_10 : decode cX4_image 10 = .ok (.aload_n 0, 1) := by decide +kernel
theorem dX4_image_11 : decode cX4_image 11 = .ok (.bipush (-2), 2) := by decide +kernel
theorem dX4_image_13 : decode cX4_image 13 = .ok (.invokevirtual 62, 3) := by decide +kernel
theorem dX4_image_16 : decode cX4_image 16 = .ok (.ireturn, 1) := by decide +kernel
theorem dX4_image_17 : decode cX4_image 17 = .ok (.iconst 0, 1) := by decide +kernel
theorem dX4_image_18 : decode cX4_image 18 = .ok (.istore_n 2, 1) := by decide +kernel
theorem dX4_image_19 : decode cX4_image 19 = .ok (.iload_n 2, 1) := by decide +kernel
theorem dX4_image_20 : decode cX4_image 20 = .ok (.sipush 140, 3) := by decide +kernel
theorem dX4_image_23 : decode cX4_image 23 = .ok (.if_icmp .ge 27, 3) := by decide +kernel
theorem dX4_image_26 : decode cX4_image 26 = .ok (.aload_n 0, 1) := by decide +kernel
theorem dX4_image_27 : decode cX4_image 27 = .ok (.getfield 13, 3) := by decide +kernel
theorem dX4_image_30 : decode cX4_image 30 = .ok (.sipush 140, 3) := by decide +kernel
theorem dX4_image_33 : decode cX4_image 33 = .ok (.iload_n 1, 1) := by decide +kernel
theorem dX4_image_34 : decode cX4_image 34 = .ok (.imul, 1) := by decide +kernel
theorem dX4_image_35 : decode cX4_image 35 = .ok (.iload_n 2, 1) := by decide +kernel
theorem dX4_image_36 : decode cX4_image 36 = .ok (.iadd, 1) := by decide +kernel
theorem dX4_image_37 : decode cX4_image 37 = .ok (.aload_n 0, 1) := by decide +kernel
theorem dX4_image_38 : decode cX4_image 38 = .ok (.getfield 7, 3) := by decide +kernel
theorem dX4_image_41 : decode cX4_image 41 = .ok (.iload_n 2, 1) := by decide +kernel
theorem dX4_image_42 : decode cX4_image 42 = .ok (.iaload, 1) := by decide +kernel
theorem dX4_image_43 : decode cX4_image 43 = .ok (.iastore, 1) := by decide +kernel
theorem dX4_image_44 : decode cX4_image 44 = .ok (.iinc 2 1, 3) := by decide +kernel
theorem dX4_image_47 : decode cX4_image 47 = .ok (.goto (-28), 3) := by decide +kernel
theorem dX4_image_50 : decode cX4_image 50 = .ok (.aload_n 0, 1) := by decide +kernel
theorem dX4_image_51 : decode cX4_image 51 = .ok (.getfield 16, 3) := by decide +kernel
theorem dX4_image_54 : decode cX4_image 54 = .ok (.iload_n 1, 1) := by decide +kernel
theorem dX4_image_55 : decode cX4_image 55 = .ok (.iconst 1, 1) := by decide +kernel
theorem dX4_image_56 : decode cX4_image 56 = .ok (.bastore, 1) := by decide +kernel
theorem dX4_image_57 : decode cX4_image 57 = .ok (.iconst 1, 1) := by decide +kernel
theorem dX4_image_58 : decode cX4_image 58 = .ok (.ireturn, 1) := by decide +kernel
theorem dX4_from_0 : decode cX4_from 0 = .ok (.iload_n 1, 1) := by decide +kernel
theorem dX4_from_1 : decode cX4_from 1 = .ok (.i2l, 1) := by decide +kernel
theorem dX4_from_2 : decode cX4_from 2 = .ok (.lconst 0, 1) := by decide +kernel
theorem dX4_from_3 : decode cX4_from 3 = .ok (.lconst 1, 1) := by decide +kernel
theorem dX4_from_4 : decode cX4_from 4 = .ok (.invokestatic 56, 3) := by decide +kernel
theorem dX4_from_7 : decode cX4_from 7 = .ok (.ifCond .ne 10, 3) := by decide +kernel
theorem dX4_from_10 : decode cX4_from 10 = .ok (.aload_n 0, 1) := by decide +kernel
theorem dX4_from_11 : decode cX4_from 11 = .ok (.bipush (-2), 2) := by decide +kernel
theorem dX4_from_13 : decode cX4_from 13 = .ok (.invokevirtual 62, 3) := by decide +kernel
theorem dX4_from_16 : decode cX4_from 16 = .ok (.ireturn, 1) := by decide +kernel
theorem dX4_from_17 : decode cX4_from 17 = .ok (.aload_n 0, 1) := by decide +kernel
theorem dX4_from_18 : decode cX4_from 18 = .ok (.getfield 16, 3) := by decide +kernel
theorem dX4_from_21 : decode cX4_from 21 = .ok (.iload_n 1, 1) := by decide +kernel
theorem dX4_from_22 : decode cX4_from 22 = .ok (.baload, 1) := by decide +kernel
theorem dX4_from_23 : decode cX4_from 23 = .ok (.ifCond .ne 8, 3) := by decide +kernel
theorem dX4_from_26 : decode cX4_from 26 = .ok (.aload_n 0, 1) := by decide +kernel
theorem dX4_from_27 : decode cX4_from 27 = .ok (.invokevirtual 131, 3) := by decide +kernel
theorem dX4_from_30 : decode cX4_from 30 = .ok (.ireturn, 1) := by decide +kernel
theorem dX4_from_31 : decode cX4_from 31 = .ok (.iconst 0, 1) := by decide +kernel
theorem dX4_from_32 : decode cX4_from 32 = .ok (.istore_n 2, 1) := by decide +kernel
theorem dX4_from_33 : decode cX4_from 33 = .ok (.iload_n 2, 1) := by decide +kernel
theorem dX4_from_34 : decode cX4_from 34 = .ok (.sipush 140, 3) := by decide +kernel
theorem dX4_from_37 : decode cX4_from 37 = .ok (.if_icmp .ge 27, 3) := by decide +kernel
theorem dX4_from_40 : decode cX4_from 40 = .ok (.aload_n 0, 1) := by decide +kernel
theorem dX4_from_41 : decode cX4_from 41 = .ok (.getfield 7, 3) := by decide +kernel
theorem dX4_from_44 : decode cX4_from 44 = .ok (.iload_n 2, 1) := by decide +kernel
theorem dX4_from_45 : decode cX4_from 45 = .ok (.aload_n 0, 1) := by decide +kernel
theorem dX4_from_46 : decode cX4_from 46 = .ok (.getfield 13, 3) := by decide +kernel
theorem dX4_from_49 : decode cX4_from 49 = .ok (.sipush 140, 3) := by decide +kernel
theorem dX4_from_52 : decode cX4_from 52 = .ok (.iload_n 1, 1) := by decide +kernel
theorem dX4_from_53 : decode cX4_from 53 = .ok (.imul, 1) := by decide +kernel
theorem dX4_from_54 : decode cX4_from 54 = .ok (.iload_n 2, 1) := by decide +kernel
theorem dX4_from_55 : decode cX4_from 55 = .ok (.iadd, 1) := by decide +kernel
theorem dX4_from_56 : decode cX4_from 56 = .ok (.iaload, 1) := by decide +kernel
theorem dX4_from_57 : decode cX4_from 57 = .ok (.iastore, 1) := by decide +kernel
theorem dX4_from_58 : decode cX4_from 58 = .ok (.iinc 2 1, 3) := by decide +kernel
theorem dX4_from_61 : decode cX4_from 61 = .ok (.goto (-28), 3) := by decide +kernel
theorem dX4_from_64 : decode cX4_from 64 = .ok (.iconst 1, 1) := by decide +kernel
theorem dX4_from_65 : decode cX4_from 65 = .ok (.ireturn, 1) := by decide +kernel
theorem dX4_status_0 : decode cX4_status 0 = .ok (.iload_n 1, 1) := by decide +kernel
theorem dX4_status_1 : decode cX4_status 1 = .ok (.i2l, 1) := by decide +kernel
theorem dX4_status_2 : decode cX4_status 2 = .ok (.lconst 0, 1) := by decide +kernel
theorem dX4_status_3 : decode cX4_status 3 = .ok (.ldc2_w 180, 3) := by decide +kernel
theorem dX4_status_6 : decode cX4_status 6 = .ok (.invokestatic 56, 3) := by decide +kernel
theorem dX4_status_9 : decode cX4_status 9 = .ok (.ifCond .eq 12, 3) := by decide +kernel
theorem dX4_status_12 : decode cX4_status 12 = .ok (.aload_n 0, 1) := by decide +kernel
theorem dX4_status_13 : decode cX4_status 13 = .ok (.getfield 20, 3) := by decide +kernel
theorem dX4_status_16 : decode cX4_status 16 = .ok (.iload_n 1, 1) := by decide +kernel
theorem dX4_status_17 : decode cX4_status 17 = .ok (.iaload, 1) := by decide +kernel
theorem dX4_status_18 : decode cX4_status 18 = .ok (.goto 8, 3) := by decide +kernel
theorem dX4_status_21 : decode cX4_status 21 = .ok (.aload_n 0, 1) := by decide +kernel
theorem dX4_status_22 : decode cX4_status 22 = .ok (.iconst (-1), 1) := by decide +kernel
theorem dX4_status_23 : decode cX4_status 23 = .ok (.invokevirtual 62, 3) := by decide +kernel
theorem dX4_status_26 : decode cX4_status 26 = .ok (.ireturn, 1) := by decide +kernel
theorem dX4_counted_0 : decode cX4_counted 0 = .ok (.iload_n 1, 1) := by decide +kernel
theorem dX4_counted_1 : decode cX4_counted 1 = .ok (.tableswitch 100 0 6 #[43, 48, 56, 67, 78, 86, 93], 43) := by decide +kernel
theorem dX4_counted_44 : decode cX4_counted 44 = .ok (.aload_n 0, 1) := by decide +kernel
theorem dX4_counted_45 : decode cX4_counted 45 = .ok (.invokevirtual 52, 3) := by decide +kernel
theorem dX4_counted_48 : decode cX4_counted 48 = .ok (.ireturn, 1) := by decide +kernel
theorem dX4_counted_49 : decode cX4_counted 49 = .ok (.aload_n 0, 1) := by decide +kernel
theorem dX4_counted_50 : decode cX4_counted 50 = .ok (.getfield 7, 3) := by decide +kernel
theorem dX4_counted_53 : decode cX4_counted 53 = .ok (.bipush 21, 2) := by decide +kernel
theorem dX4_counted_55 : decode cX4_counted 55 = .ok (.iaload, 1) := by decide +kernel
theorem dX4_counted_56 : decode cX4_counted 56 = .ok (.ireturn, 1) := by decide +kernel
theorem dX4_counted_57 : decode cX4_counted 57 = .ok (.aload_n 0, 1) := by decide +kernel
theorem dX4_counted_58 : decode cX4_counted 58 = .ok (.getfield 7, 3) := by decide +kernel
theorem dX4_counted_61 : decode cX4_counted 61 = .ok (.bipush 18, 2) := by decide +kernel
theorem dX4_counted_63 : decode cX4_counted 63 = .ok (.iaload, 1) := by decide +kernel
theorem dX4_counted_64 : decode cX4_counted 64 = .ok (.invokestatic 128, 3) := by decide +kernel
theorem dX4_counted_67 : decode cX4_counted 67 = .ok (.ireturn, 1) := by decide +kernel
theorem dX4_counted_68 : decode cX4_counted 68 = .ok (.aload_n 0, 1) := by decide +kernel
theorem dX4_counted_69 : decode cX4_counted 69 = .ok (.getfield 7, 3) := by decide +kernel
theorem dX4_counted_72 : decode cX4_counted 72 = .ok (.bipush 19, 2) := by decide +kernel
theorem dX4_counted_74 : decode cX4_counted 74 = .ok (.iaload, 1) := by decide +kernel
theorem dX4_counted_75 : decode cX4_counted 75 = .ok (.invokestatic 128, 3) := by decide +kernel
theorem dX4_counted_78 : decode cX4_counted 78 = .ok (.ireturn, 1) := by decide +kernel
theorem dX4_counted_79 : decode cX4_counted 79 = .ok (.aload_n 0, 1) := by decide +kernel
theorem dX4_counted_80 : decode cX4_counted 80 = .ok (.getfield 7, 3) := by decide +kernel
theorem dX4_counted_83 : decode cX4_counted 83 = .ok (.bipush 20, 2) := by decide +kernel
theorem dX4_counted_85 : decode cX4_counted 85 = .ok (.iaload, 1) := by decide +kernel
theorem dX4_counted_86 : decode cX4_counted 86 = .ok (.ireturn, 1) := by decide +kernel
theorem dX4_counted_87 : decode cX4_counted 87 = .ok (.aload_n 0, 1) := by decide +kernel
theorem dX4_counted_88 : decode cX4_counted 88 = .ok (.getfield 7, 3) := by decide +kernel
theorem dX4_counted_91 : decode cX4_counted 91 = .ok (.iconst 2, 1) := by decide +kernel
theorem dX4_counted_92 : decode cX4_counted 92 = .ok (.iaload, 1) := by decide +kernel
theorem dX4_counted_93 : decode cX4_counted 93 = .ok (.ireturn, 1) := by decide +kernel
theorem dX4_counted_94 : decode cX4_counted 94 = .ok (.aload_n 0, 1) := by decide +kernel
theorem dX4_counted_95 : decode cX4_counted 95 = .ok (.getfield 7, 3) := by decide +kernel
theorem dX4_counted_98 : decode cX4_counted 98 = .ok (.iconst 3, 1) := by decide +kernel
theorem dX4_counted_99 : decode cX4_counted 99 = .ok (.iaload, 1) := by decide +kernel
theorem dX4_counted_100 : decode cX4_counted 100 = .ok (.ireturn, 1) := by decide +kernel
theorem dX4_counted_101 : decode cX4_counted 101 = .ok (.aload_n 0, 1) := by decide +kernel
theorem dX4_counted_102 : decode cX4_counted 102 = .ok (.getfield 184, 3) := by decide +kernel
theorem dX4_counted_105 : decode cX4_counted 105 = .ok (.ireturn, 1) := by decide +kernel
theorem dX4_count_0 : decode cX4_count 0 = .ok (.iload_n 1, 1) := by decide +kernel
theorem dX4_count_1 : decode cX4_count 1 = .ok (.i2l, 1) := by decide +kernel
theorem dX4_count_2 : decode cX4_count 2 = .ok (.lconst 0, 1) := by decide +kernel
theorem dX4_count_3 : decode cX4_count 3 = .ok (.ldc2_w 239, 3) := by decide +kernel
theorem dX4_count_6 : decode cX4_count 6 = .ok (.invokestatic 56, 3) := by decide +kernel
theorem dX4_count_9 : decode cX4_count 9 = .ok (.ifCond .eq 11, 3) := by decide +kernel
theorem dX4_count_12 : decode cX4_count 12 = .ok (.aload_n 0, 1) := by decide +kernel
theorem dX4_count_13 : decode cX4_count 13 = .ok (.iload_n 1, 1) := by decide +kernel
theorem dX4_count_14 : decode cX4_count 14 = .ok (.invokevirtual 241, 3) := by decide +kernel
theorem dX4_count_17 : decode cX4_count 17 = .ok (.goto 9, 3) := by decide +kernel
theorem dX4_count_20 : decode cX4_count 20 = .ok (.aload_n 0, 1) := by decide +kernel
theorem dX4_count_21 : decode cX4_count 21 = .ok (.bipush (-2), 2) := by decide +kernel
theorem dX4_count_23 : decode cX4_count 23 = .ok (.invokevirtual 62, 3) := by decide +kernel
theorem dX4_count_26 : decode cX4_count 26 = .ok (.ireturn, 1) := by decide +kernel
theorem dX4_sums_0 : decode cX4_sums 0 = .ok (.lload_n 1, 1) := by decide +kernel
theorem dX4_sums_1 : decode cX4_sums 1 = .ok (.lstore 5, 2) := by decide +kernel
theorem dX4_sums_3 : decode cX4_sums 3 = .ok (.iconst 0, 1) := by decide +kernel
theorem dX4_sums_4 : decode cX4_sums 4 = .ok (.istore 7, 2) := by decide +kernel
theorem dX4_sums_6 : decode cX4_sums 6 = .ok (.iload 7, 2) := by decide +kernel
theorem dX4_sums_8 : decode cX4_sums 8 = .ok (.iload 4, 2) := by decide +kernel
theorem dX4_sums_10 : decode cX4_sums 10 = .ok (.if_icmp .ge 28, 3) := by decide +kernel
theorem dX4_sums_13 : decode cX4_sums 13 = .ok (.ldc2_w 244, 3) := by decide +kernel
theorem dX4_sums_16 : decode cX4_sums 16 = .ok (.lload 5, 2) := by decide +kernel
theorem dX4_sums_18 : decode cX4_sums 18 = .ok (.lmul, 1) := by decide +kernel
theorem dX4_sums_19 : decode cX4_sums 19 = .ok (.aload_n 0, 1) := by decide +kernel
theorem dX4_sums_20 : decode cX4_sums 20 = .ok (.getfield 7, 3) := by decide +kernel
theorem dX4_sums_23 : decode cX4_sums 23 = .ok (.iload_n 3, 1) := by decide +kernel
theorem dX4_sums_24 : decode cX4_sums 24 = .ok (.iload 7, 2) := by decide +kernel
theorem dX4_sums_26 : decode cX4_sums 26 = .ok (.iadd, 1) := by decide +kernel
theorem dX4_sums_27 : decode cX4_sums 27 = .ok (.iaload, 1) := by decide +kernel
theorem dX4_sums_28 : decode cX4_sums 28 = .ok (.i2l, 1) := by decide +kernel
theorem dX4_sums_29 : decode cX4_sums 29 = .ok (.ladd, 1) := by decide +kernel
theorem dX4_sums_30 : decode cX4_sums 30 = .ok (.lstore 5, 2) := by decide +kernel
theorem dX4_sums_32 : decode cX4_sums 32 = .ok (.iinc 7 1, 3) := by decide +kernel
theorem dX4_sums_35 : decode cX4_sums 35 = .ok (.goto (-29), 3) := by decide +kernel
theorem dX4_sums_38 : decode cX4_sums 38 = .ok (.lload 5, 2) := by decide +kernel
theorem dX4_sums_40 : decode cX4_sums 40 = .ok (.lreturn, 1) := by decide +kernel
theorem dX4_digest_0 : decode cX4_digest 0 = .ok (.ldc2_w 246, 3) := by decide +kernel
theorem dX4_digest_3 : decode cX4_digest 3 = .ok (.lstore_n 1, 1) := by decide +kernel
theorem dX4_digest_4 : decode cX4_digest 4 = .ok (.iconst 0, 1) := by decide +kernel
theorem dX4_digest_5 : decode cX4_digest 5 = .ok (.istore_n 3, 1) := by decide +kernel
theorem dX4_digest_6 : decode cX4_digest 6 = .ok (.iload_n 3, 1) := by decide +kernel
theorem dX4_digest_7 : decode cX4_digest 7 = .ok (.bipush 8, 2) := by decide +kernel
theorem dX4_digest_9 : decode cX4_digest 9 = .ok (.if_icmp .ge 22, 3) := by decide +kernel
theorem dX4_digest_12 : decode cX4_digest 12 = .ok (.ldc2_w 244, 3) := by decide +kernel
theorem dX4_digest_15 : decode cX4_digest 15 = .ok (.lload_n 1, 1) := by decide +kernel
theorem dX4_digest_16 : decode cX4_digest 16 = .ok (.lmul, 1) := by decide +kernel
theorem dX4_digest_17 : decode cX4_digest 17 = .ok (.aload_n 0, 1) := by decide +kernel
theorem dX4_digest_18 : decode cX4_digest 18 = .ok (.iload_n 3, 1) := by decide +kernel
theorem dX4_digest_19 : decode cX4_digest 19 = .ok (.invokevirtual 241, 3) := by decide +kernel
theorem dX4_digest_22 : decode cX4_digest 22 = .ok (.i2l, 1) := by decide +kernel
theorem dX4_digest_23 : decode cX4_digest 23 = .ok (.ladd, 1) := by decide +kernel
theorem dX4_digest_24 : decode cX4_digest 24 = .ok (.lstore_n 1, 1) := by decide +kernel
theorem dX4_digest_25 : decode cX4_digest 25 = .ok (.iinc 3 1, 3) := by decide +kernel
theorem dX4_digest_28 : decode cX4_digest 28 = .ok (.goto (-22), 3) := by decide +kernel
theorem dX4_digest_31 : decode cX4_digest 31 = .ok (.ldc2_w 244, 3) := by decide +kernel
theorem dX4_digest_34 : decode cX4_digest 34 = .ok (.lload_n 1, 1) := by decide +kernel
theorem dX4_digest_35 : decode cX4_digest 35 = .ok (.lmul, 1) := by decide +kernel
theorem dX4_digest_36 : decode cX4_digest 36 = .ok (.aload_n 0, 1) := by decide +kernel
theorem dX4_digest_37 : decode cX4_digest 37 = .ok (.getfield 7, 3) := by decide +kernel
theorem dX4_digest_40 : decode cX4_digest 40 = .ok (.iconst 1, 1) := by decide +kernel
theorem dX4_digest_41 : decode cX4_digest 41 = .ok (.iaload, 1) := by decide +kernel
theorem dX4_digest_42 : decode cX4_digest 42 = .ok (.i2l, 1) := by decide +kernel
theorem dX4_digest_43 : decode cX4_digest 43 = .ok (.ladd, 1) := by decide +kernel
theorem dX4_digest_44 : decode cX4_digest 44 = .ok (.lstore_n 1, 1) := by decide +kernel
theorem dX4_digest_45 : decode cX4_digest 45 = .ok (.iconst 0, 1) := by decide +kernel
theorem dX4_digest_46 : decode cX4_digest 46 = .ok (.istore_n 3, 1) := by decide +kernel
theorem dX4_digest_47 : decode cX4_digest 47 = .ok (.iload_n 3, 1) := by decide +kernel
theorem dX4_digest_48 : decode cX4_digest 48 = .ok (.aload_n 0, 1) := by decide +kernel
theorem dX4_digest_49 : decode cX4_digest 49 = .ok (.invokevirtual 52, 3) := by decide +kernel
theorem dX4_digest_52 : decode cX4_digest 52 = .ok (.if_icmp .ge 76, 3) := by decide +kernel
theorem dX4_digest_55 : decode cX4_digest 55 = .ok (.ldc2_w 244, 3) := by decide +kernel
theorem dX4_digest_58 : decode cX4_digest 58 = .ok (.ldc2_w 244, 3) := by decide +kernel
theorem dX4_digest_61 : decode cX4_digest 61 = .ok (.lload_n 1, 1) := by decide +kernel
theorem dX4_digest_62 : decode cX4_digest 62 = .ok (.lmul, 1) := by decide +kernel
theorem dX4_digest_63 : decode cX4_digest 63 = .ok (.aload_n 0, 1) := by decide +kernel
theorem dX4_digest_64 : decode cX4_digest 64 = .ok (.getfield 7, 3) := by decide +kernel
theorem dX4_digest_67 : decode cX4_digest 67 = .ok (.iconst 4, 1) := by decide +kernel
theorem dX4_digest_68 : decode cX4_digest 68 = .ok (.iload_n 3, 1) := by decide +kernel
theorem dX4_digest_69 : decode cX4_digest 69 = .ok (.iadd, 1) := by decide +kernel
theorem dX4_digest_70 : decode cX4_digest 70 = .ok (.iaload, 1) := by decide +kernel
theorem dX4_digest_71 : decode cX4_digest 71 = .ok (.i2l, 1) := by decide +kernel
theorem dX4_digest_72 : decode cX4_digest 72 = .ok (.ladd, 1) := by decide +kernel
theorem dX4_digest_73 : decode cX4_digest 73 = .ok (.lmul, 1) := by decide +kernel
theorem dX4_digest_74 : decode cX4_digest 74 = .ok (.aload_n 0, 1) := by decide +kernel
theorem dX4_digest_75 : decode cX4_digest 75 = .ok (.getfield 7, 3) := by decide +kernel
theorem dX4_digest_78 : decode cX4_digest 78 = .ok (.bipush 11, 2) := by decide +kernel
theorem dX4_digest_80 : decode cX4_digest 80 = .ok (.iload_n 3, 1) := by decide +kernel
theorem dX4_digest_81 : decode cX4_digest 81 = .ok (.iadd, 1) := by decide +kernel
theorem dX4_digest_82 : decode cX4_digest 82 = .ok (.iaload, 1) := by decide +kernel
theorem dX4_digest_83 : decode cX4_digest 83 = .ok (.i2l, 1) := by decide +kernel
theorem dX4_digest_84 : decode cX4_digest 84 = .ok (.ladd, 1) := by decide +kernel
theorem dX4_digest_85 : decode cX4_digest 85 = .ok (.lstore_n 1, 1) := by decide +kernel
theorem dX4_digest_86 : decode cX4_digest 86 = .ok (.ldc2_w 244, 3) := by decide +kernel
theorem dX4_digest_89 : decode cX4_digest 89 = .ok (.ldc2_w 244, 3) := by decide +kernel
theorem dX4_digest_92 : decode cX4_digest 92 = .ok (.lload_n 1, 1) := by decide +kernel
theorem dX4_digest_93 : decode cX4_digest 93 = .ok (.lmul, 1) := by decide +kernel
theorem dX4_digest_94 : decode cX4_digest 94 = .ok (.aload_n 0, 1) := by decide +kernel
theorem dX4_digest_95 : decode cX4_digest 95 = .ok (.getfield 7, 3) := by decide +kernel
theorem dX4_digest_98 : decode cX4_digest 98 = .ok (.bipush 18, 2) := by decide +kernel
theorem dX4_digest_100 : decode cX4_digest 100 = .ok (.iaload, 1) := by decide +kernel
theorem dX4_digest_101 : decode cX4_digest 101 = .ok (.iload_n 3, 1) := by decide +kernel
theorem dX4_digest_102 : decode cX4_digest 102 = .ok (.ishr, 1) := by decide +kernel
theorem dX4_digest_103 : decode cX4_digest 103 = .ok (.iconst 1, 1) := by decide +kernel
theorem dX4_digest_104 : decode cX4_digest 104 = .ok (.iand, 1) := by decide +kernel
theorem dX4_digest_105 : decode cX4_digest 105 = .ok (.i2l, 1) := by decide +kernel
theorem dX4_digest_106 : decode cX4_digest 106 = .ok (.ladd, 1) := by decide +kernel
theorem dX4_digest_107 : decode cX4_digest 107 = .ok (.lmul, 1) := by decide +kernel
theorem dX4_digest_108 : decode cX4_digest 108 = .ok (.aload_n 0, 1) := by decide +kernel
theorem dX4_digest_109 : decode cX4_digest 109 = .ok (.getfield 7, 3) := by decide +kernel
theorem dX4_digest_112 : decode cX4_digest 112 = .ok (.bipush 19, 2) := by decide +kernel
theorem dX4_digest_114 : decode cX4_digest 114 = .ok (.iaload, 1) := by decide +kernel
theorem dX4_digest_115 : decode cX4_digest 115 = .ok (.iload_n 3, 1) := by decide +kernel
theorem dX4_digest_116 : decode cX4_digest 116 = .ok (.ishr, 1) := by decide +kernel
theorem dX4_digest_117 : decode cX4_digest 117 = .ok (.iconst 1, 1) := by decide +kernel
theorem dX4_digest_118 : decode cX4_digest 118 = .ok (.iand, 1) := by decide +kernel
theorem dX4_digest_119 : decode cX4_digest 119 = .ok (.i2l, 1) := by decide +kernel
theorem dX4_digest_120 : decode cX4_digest 120 = .ok (.ladd, 1) := by decide +kernel
theorem dX4_digest_121 : decode cX4_digest 121 = .ok (.lstore_n 1, 1) := by decide +kernel
theorem dX4_digest_122 : decode cX4_digest 122 = .ok (.iinc 3 1, 3) := by decide +kernel
theorem dX4_digest_125 : decode cX4_digest 125 = .ok (.goto (-78), 3) := by decide +kernel
theorem dX4_digest_128 : decode cX4_digest 128 = .ok (.aload_n 0, 1) := by decide +kernel
theorem dX4_digest_129 : decode cX4_digest 129 = .ok (.lload_n 1, 1) := by decide +kernel
theorem dX4_digest_130 : decode cX4_digest 130 = .ok (.bipush 22, 2) := by decide +kernel
theorem dX4_digest_132 : decode cX4_digest 132 = .ok (.iconst 5, 1) := by decide +kernel
theorem dX4_digest_133 : decode cX4_digest 133 = .ok (.aload_n 0, 1) := by decide +kernel
theorem dX4_digest_134 : decode cX4_digest 134 = .ok (.getfield 7, 3) := by decide +kernel
theorem dX4_digest_137 : decode cX4_digest 137 = .ok (.iconst 2, 1) := by decide +kernel
theorem dX4_digest_138 : decode cX4_digest 138 = .ok (.iaload, 1) := by decide +kernel
theorem dX4_digest_139 : decode cX4_digest 139 = .ok (.imul, 1) := by decide +kernel
theorem dX4_digest_140 : decode cX4_digest 140 = .ok (.invokevirtual 248, 3) := by decide +kernel
theorem dX4_digest_143 : decode cX4_digest 143 = .ok (.lstore_n 1, 1) := by decide +kernel
theorem dX4_digest_144 : decode cX4_digest 144 = .ok (.ldc2_w 244, 3) := by decide +kernel
theorem dX4_digest_147 : decode cX4_digest 147 = .ok (.ldc2_w 244, 3) := by decide +kernel
theorem dX4_digest_150 : decode cX4_digest 150 = .ok (.lload_n 1, 1) := by decide +kernel
theorem dX4_digest_151 : decode cX4_digest 151 = .ok (.lmul, 1) := by decide +kernel
theorem dX4_digest_152 : decode cX4_digest 152 = .ok (.aload_n 0, 1) := by decide +kernel
theorem dX4_digest_153 : decode cX4_digest 153 = .ok (.getfield 161, 3) := by decide +kernel
theorem dX4_digest_156 : decode cX4_digest 156 = .ok (.ladd, 1) := by decide +kernel
theorem dX4_digest_157 : decode cX4_digest 157 = .ok (.lmul, 1) := by decide +kernel
theorem dX4_digest_158 : decode cX4_digest 158 = .ok (.aload_n 0, 1) := by decide +kernel
theorem dX4_digest_159 : decode cX4_digest 159 = .ok (.getfield 23, 3) := by decide +kernel
theorem dX4_digest_162 : decode cX4_digest 162 = .ok (.ladd, 1) := by decide +kernel
theorem dX4_digest_163 : decode cX4_digest 163 = .ok (.lreturn, 1) := by decide +kernel
end
section
theorem dJ6_bitCount_0f7a4_0 : decode cJ6_bitCount_0f7a4 0 = .ok (.iload_n 0, 1) := by decide +kernel
theorem dJ6_bitCount_0f7a4_1 : decode cJ6_bitCount_0f7a4 1 = .ok (.iload_n 0, 1) := by decide +kernel
theorem dJ6_bitCount_0f7a4_2 : decode cJ6_bitCount_0f7a4 2 = .ok (.iconst 1, 1) := by decide +kernel
theorem dJ6_bitCount_0f7a4_3 : decode cJ6_bitCount_0f7a4 3 = .ok (.iushr, 1) := by decide +kernel
theorem dJ6_bitCount_0f7a4_4 : decode cJ6_bitCount_0f7a4 4 = .ok (.ldc_w 265, 3) := by decide +kernel
theorem dJ6_bitCount_0f7a4_7 : decode cJ6_bitCount_0f7a4 7 = .ok (.iand, 1) := by decide +kernel
theorem dJ6_bitCount_0f7a4_8 : decode cJ6_bitCount_0f7a4 8 = .ok (.isub, 1) := by decide +kernel
theorem dJ6_bitCount_0f7a4_9 : decode cJ6_bitCount_0f7a4 9 = .ok (.istore_n 0, 1) := by decide +kernel
theorem dJ6_bitCount_0f7a4_10 : decode cJ6_bitCount_0f7a4 10 = .ok (.iload_n 0, 1) := by decide +kernel
theorem dJ6_bitCount_0f7a4_11 : decode cJ6_bitCount_0f7a4 11 = .ok (.ldc_w 266, 3) := by decide +kernel
theorem dJ6_bitCount_0f7a4_14 : decode cJ6_bitCount_0f7a4 14 = .ok (.iand, 1) := by decide +kernel
theorem dJ6_bitCount_0f7a4_15 : decode cJ6_bitCount_0f7a4 15 = .ok (.iload_n 0, 1) := by decide +kernel
theorem dJ6_bitCount_0f7a4_16 : decode cJ6_bitCount_0f7a4 16 = .ok (.iconst 2, 1) := by decide +kernel
theorem dJ6_bitCount_0f7a4_17 : decode cJ6_bitCount_0f7a4 17 = .ok (.iushr, 1) := by decide +kernel
theorem dJ6_bitCount_0f7a4_18 : decode cJ6_bitCount_0f7a4 18 = .ok (.ldc_w 266, 3) := by decide +kernel
theorem dJ6_bitCount_0f7a4_21 : decode cJ6_bitCount_0f7a4 21 = .ok (.iand, 1) := by decide +kernel
theorem dJ6_bitCount_0f7a4_22 : decode cJ6_bitCount_0f7a4 22 = .ok (.iadd, 1) := by decide +kernel
theorem dJ6_bitCount_0f7a4_23 : decode cJ6_bitCount_0f7a4 23 = .ok (.istore_n 0, 1) := by decide +kernel
theorem dJ6_bitCount_0f7a4_24 : decode cJ6_bitCount_0f7a4 24 = .ok (.iload_n 0, 1) := by decide +kernel
theorem dJ6_bitCount_0f7a4_25 : decode cJ6_bitCount_0f7a4 25 = .ok (.iload_n 0, 1) := by decide +kernel
theorem dJ6_bitCount_0f7a4_26 : decode cJ6_bitCount_0f7a4 26 = .ok (.iconst 4, 1) := by decide +kernel
theorem dJ6_bitCount_0f7a4_27 : decode cJ6_bitCount_0f7a4 27 = .ok (.iushr, 1) := by decide +kernel
theorem dJ6_bitCount_0f7a4_28 : decode cJ6_bitCount_0f7a4 28 = .ok (.iadd, 1) := by decide +kernel
theorem dJ6_bitCount_0f7a4_29 : decode cJ6_bitCount_0f7a4 29 = .ok (.ldc_w 267, 3) := by decide +kernel
theorem dJ6_bitCount_0f7a4_32 : decode cJ6_bitCount_0f7a4 32 = .ok (.iand, 1) := by decide +kernel
theorem dJ6_bitCount_0f7a4_33 : decode cJ6_bitCount_0f7a4 33 = .ok (.istore_n 0, 1) := by decide +kernel
theorem dJ6_bitCount_0f7a4_34 : decode cJ6_bitCount_0f7a4 34 = .ok (.iload_n 0, 1) := by decide +kernel
theorem dJ6_bitCount_0f7a4_35 : decode cJ6_bitCount_0f7a4 35 = .ok (.iload_n 0, 1) := by decide +kernel
theorem dJ6_bitCount_0f7a4_36 : decode cJ6_bitCount_0f7a4 36 = .ok (.bipush 8, 2) := by decide +kernel
theorem dJ6_bitCount_0f7a4_38 : decode cJ6_bitCount_0f7a4 38 = .ok (.iushr, 1) := by decide +kernel
theorem dJ6_bitCount_0f7a4_39 : decode cJ6_bitCount_0f7a4 39 = .ok (.iadd, 1) := by decide +kernel
theorem dJ6_bitCount_0f7a4_40 : decode cJ6_bitCount_0f7a4 40 = .ok (.istore_n 0, 1) := by decide +kernel
theorem dJ6_bitCount_0f7a4_41 : decode cJ6_bitCount_0f7a4 41 = .ok (.iload_n 0, 1) := by decide +kernel
theorem dJ6_bitCount_0f7a4_42 : decode cJ6_bitCount_0f7a4 42 = .ok (.iload_n 0, 1) := by decide +kernel
theorem dJ6_bitCount_0f7a4_43 : decode cJ6_bitCount_0f7a4 43 = .ok (.bipush 16, 2) := by decide +kernel
theorem dJ6_bitCount_0f7a4_45 : decode cJ6_bitCount_0f7a4 45 = .ok (.iushr, 1) := by decide +kernel
theorem dJ6_bitCount_0f7a4_46 : decode cJ6_bitCount_0f7a4 46 = .ok (.iadd, 1) := by decide +kernel
theorem dJ6_bitCount_0f7a4_47 : decode cJ6_bitCount_0f7a4 47 = .ok (.istore_n 0, 1) := by decide +kernel
theorem dJ6_bitCount_0f7a4_48 : decode cJ6_bitCount_0f7a4 48 = .ok (.iload_n 0, 1) := by decide +kernel
theorem dJ6_bitCount_0f7a4_49 : decode cJ6_bitCount_0f7a4 49 = .ok (.bipush 63, 2) := by decide +kernel
theorem dJ6_bitCount_0f7a4_51 : decode cJ6_bitCount_0f7a4 51 = .ok (.iand, 1) := by decide +kernel
theorem dJ6_bitCount_0f7a4_52 : decode cJ6_bitCount_0f7a4 52 = .ok (.ireturn, 1) := by decide +kernel
theorem dJ9_max_7cf53_0 : decode cJ9_max_7cf53 0 = .ok (.iload_n 0, 1) := by decide +kernel
theorem dJ9_max_7cf53_1 : decode cJ9_max_7cf53 1 = .ok (.iload_n 1, 1) := by decide +kernel
theorem dJ9_max_7cf53_2 : decode cJ9_max_7cf53 2 = .ok (.if_icmp .lt 7, 3) := by decide +kernel
theorem dJ9_max_7cf53_5 : decode cJ9_max_7cf53 5 = .ok (.iload_n 0, 1) := by decide +kernel
theorem dJ9_max_7cf53_6 : decode cJ9_max_7cf53 6 = .ok (.goto 4, 3) := by decide +kernel
theorem dJ9_max_7cf53_9 : decode cJ9_max_7cf53 9 = .ok (.iload_n 1, 1) := by decide +kernel
theorem dJ9_max_7cf53_10 : decode cJ9_max_7cf53 10 = .ok (.ireturn, 1) := by decide +kernel
theorem dJ9_min_7cf53_0 : decode cJ9_min_7cf53 0 = .ok (.iload_n 0, 1) := by decide +kernel
theorem dJ9_min_7cf53_1 : decode cJ9_min_7cf53 1 = .ok (.iload_n 1, 1) := by decide +kernel
theorem dJ9_min_7cf53_2 : decode cJ9_min_7cf53 2 = .ok (.if_icmp .gt 7, 3) := by decide +kernel
theorem dJ9_min_7cf53_5 : decode cJ9_min_7cf53 5 = .ok (.iload_n 0, 1) := by decide +kernel
theorem dJ9_min_7cf53_6 : decode cJ9_min_7cf53 6 = .ok (.goto 4, 3) := by decide +kernel
theorem dJ9_min_7cf53_9 : decode cJ9_min_7cf53 9 = .ok (.iload_n 1, 1) := by decide +kernel
theorem dJ9_min_7cf53_10 : decode cJ9_min_7cf53 10 = .ok (.ireturn, 1) := by decide +kernel
theorem dJ0_length_8abf5_0 : decode cJ0_length_8abf5 0 = .ok (.aload_n 0, 1) := by decide +kernel
theorem dJ0_length_8abf5_1 : decode cJ0_length_8abf5 1 = .ok (.getfield 9, 3) := by decide +kernel
theorem dJ0_length_8abf5_4 : decode cJ0_length_8abf5 4 = .ok (.arraylength, 1) := by decide +kernel
theorem dJ0_length_8abf5_5 : decode cJ0_length_8abf5 5 = .ok (.aload_n 0, 1) := by decide +kernel
theorem dJ0_length_8abf5_6 : decode cJ0_length_8abf5 6 = .ok (.invokevirtual 335, 3) := by decide +kernel
theorem dJ0_length_8abf5_9 : decode cJ0_length_8abf5 9 = .ok (.ishr, 1) := by decide +kernel
theorem dJ0_length_8abf5_10 : decode cJ0_length_8abf5 10 = .ok (.ireturn, 1) := by decide +kernel
theorem dJ0_charAt_5068e_0 : decode cJ0_charAt_5068e 0 = .ok (.aload_n 0, 1) := by decide +kernel
theorem dJ0_charAt_5068e_1 : decode cJ0_charAt_5068e 1 = .ok (.invokevirtual 492, 3) := by decide +kernel
theorem dJ0_charAt_5068e_4 : decode cJ0_charAt_5068e 4 = .ok (.ifCond .eq 12, 3) := by decide +kernel
theorem dJ0_charAt_5068e_7 : decode cJ0_charAt_5068e 7 = .ok (.aload_n 0, 1) := by decide +kernel
theorem dJ0_charAt_5068e_8 : decode cJ0_charAt_5068e 8 = .ok (.getfield 9, 3) := by decide +kernel
theorem dJ0_charAt_5068e_11 : decode cJ0_charAt_5068e 11 = .ok (.iload_n 1, 1) := by decide +kernel
theorem dJ0_charAt_5068e_12 : decode cJ0_charAt_5068e 12 = .ok (.invokestatic 495, 3) := by decide +kernel
theorem dJ0_charAt_5068e_15 : decode cJ0_charAt_5068e 15 = .ok (.ireturn, 1) := by decide +kernel
theorem dJ0_charAt_5068e_16 : decode cJ0_charAt_5068e 16 = .ok (.aload_n 0, 1) := by decide +kernel
theorem dJ0_charAt_5068e_17 : decode cJ0_charAt_5068e 17 = .ok (.getfield 9, 3) := by decide +kernel
theorem dJ0_charAt_5068e_20 : decode cJ0_charAt_5068e 20 = .ok (.iload_n 1, 1) := by decide +kernel
theorem dJ0_charAt_5068e_21 : decode cJ0_charAt_5068e 21 = .ok (.invokestatic 498, 3) := by decide +kernel
theorem dJ0_charAt_5068e_24 : decode cJ0_charAt_5068e 24 = .ok (.ireturn, 1) := by decide +kernel
theorem dJ0_coder_7d493_0 : decode cJ0_coder_7d493 0 = .ok (.getstatic 38, 3) := by decide +kernel
theorem dJ0_coder_7d493_3 : decode cJ0_coder_7d493 3 = .ok (.ifCond .eq 10, 3) := by decide +kernel
theorem dJ0_coder_7d493_6 : decode cJ0_coder_7d493 6 = .ok (.aload_n 0, 1) := by decide +kernel
theorem dJ0_coder_7d493_7 : decode cJ0_coder_7d493 7 = .ok (.getfield 15, 3) := by decide +kernel
theorem dJ0_coder_7d493_10 : decode cJ0_coder_7d493 10 = .ok (.goto 4, 3) := by decide +kernel
theorem dJ0_coder_7d493_13 : decode cJ0_coder_7d493 13 = .ok (.iconst 1, 1) := by decide +kernel
theorem dJ0_coder_7d493_14 : decode cJ0_coder_7d493 14 = .ok (.ireturn, 1) := by decide +kernel
theorem dJ0_isLatin1_aae02_0 : decode cJ0_isLatin1_aae02 0 = .ok (.getstatic 38, 3) := by decide +kernel
theorem dJ0_isLatin1_aae02_3 : decode cJ0_isLatin1_aae02 3 = .ok (.ifCond .eq 14, 3) := by decide +kernel
theorem dJ0_isLatin1_aae02_6 : decode cJ0_isLatin1_aae02 6 = .ok (.aload_n 0, 1) := by decide +kernel
theorem dJ0_isLatin1_aae02_7 : decode cJ0_isLatin1_aae02 7 = .ok (.getfield 15, 3) := by decide +kernel
theorem dJ0_isLatin1_aae02_10 : decode cJ0_isLatin1_aae02 10 = .ok (.ifCond .ne 7, 3) := by decide +kernel
theorem dJ0_isLatin1_aae02_13 : decode cJ0_isLatin1_aae02 13 = .ok (.iconst 1, 1) := by decide +kernel
theorem dJ0_isLatin1_aae02_14 : decode cJ0_isLatin1_aae02 14 = .ok (.goto 4, 3) := by decide +kernel
theorem dJ0_isLatin1_aae02_17 : decode cJ0_isLatin1_aae02 17 = .ok (.iconst 0, 1) := by decide +kernel
theorem dJ0_isLatin1_aae02_18 : decode cJ0_isLatin1_aae02 18 = .ok (.ireturn, 1) := by decide +kernel
theorem dJ0_checkIndex_df160_0 : decode cJ0_checkIndex_df160 0 = .ok (.iload_n 0, 1) := by decide +kernel
theorem dJ0_checkIndex_df160_1 : decode cJ0_checkIndex_df160 1 = .ok (.iload_n 1, 1) := by decide +kernel
theorem dJ0_checkIndex_df160_2 : decode cJ0_checkIndex_df160 2 = .ok (.getstatic 1053, 3) := by decide +kernel
theorem dJ0_checkIndex_df160_5 : decode cJ0_checkIndex_df160 5 = .ok (.invokestatic 1059, 3) := by decide +kernel
theorem dJ0_checkIndex_df160_8 : decode cJ0_checkIndex_df160 8 = .ok (.pop, 1) := by decide +kernel
theorem dJ0_checkIndex_df160_9 : decode cJ0_checkIndex_df160 9 = .ok (.return_, 1) := by decide +kernel
theorem dJ1_charAt_3b067_0 : decode cJ1_charAt_3b067 0 = .ok (.iload_n 1, 1) := by decide +kernel
theorem dJ1_charAt_3b067_1 : decode cJ1_charAt_3b067 1 = .ok (.aload_n 0, 1) := by decide +kernel
theorem dJ1_charAt_3b067_2 : decode cJ1_charAt_3b067 2 = .ok (.arraylength, 1) := by decide +kernel
theorem dJ1_charAt_3b067_3 : decode cJ1_charAt_3b067 3 = .ok (.invokestatic 9, 3) := by decide +kernel
theorem dJ1_charAt_3b067_6 : decode cJ1_charAt_3b067 6 = .ok (.aload_n 0, 1) := by decide +kernel
theorem dJ1_charAt_3b067_7 : decode cJ1_charAt_3b067 7 = .ok (.iload_n 1, 1) := by decide +kernel
theorem dJ1_charAt_3b067_8 : decode cJ1_charAt_3b067 8 = .ok (.baload, 1) := by decide +kernel
theorem dJ1_charAt_3b067_9 : decode cJ1_charAt_3b067 9 = .ok (.sipush 255, 3) := by decide +kernel
theorem dJ1_charAt_3b067_12 : decode cJ1_charAt_3b067 12 = .ok (.iand, 1) := by decide +kernel
theorem dJ1_charAt_3b067_13 : decode cJ1_charAt_3b067 13 = .ok (.i2c, 1) := by decide +kernel
theorem dJ1_charAt_3b067_14 : decode cJ1_charAt_3b067 14 = .ok (.ireturn, 1) := by decide +kernel
theorem dJ2_getChar_3b067_0 : decode cJ2_getChar_3b067 0 = .ok (.getstatic 44, 3) := by decide +kernel
theorem dJ2_getChar_3b067_3 : decode cJ2_getChar_3b067 3 = .ok (.ifCond .ne 25, 3) := by decide +kernel
theorem dJ2_getChar_3b067_6 : decode cJ2_getChar_3b067 6 = .ok (.iload_n 1, 1) := by decide +kernel
theorem dJ2_getChar_3b067_7 : decode cJ2_getChar_3b067 7 = .ok (.ifCond .lt 11, 3) := by decide +kernel
theorem dJ2_getChar_3b067_10 : decode cJ2_getChar_3b067 10 = .ok (.iload_n 1, 1) := by decide +kernel
theorem dJ2_getChar_3b067_11 : decode cJ2_getChar_3b067 11 = .ok (.aload_n 0, 1) := by decide +kernel
theorem dJ2_getChar_3b067_12 : decode cJ2_getChar_3b067 12 = .ok (.invokestatic 48, 3) := by decide +kernel
theorem dJ2_getChar_3b067_15 : decode cJ2_getChar_3b067 15 = .ok (.if_icmp .lt 13, 3) := by decide +kernel
theorem dJ2_getChar_3b067_18 : decode cJ2_getChar_3b067 18 = .ok (.new 52, 3) := by decide +kernel
theorem dJ2_getChar_3b067_21 : decode cJ2_getChar_3b067 21 = .ok (.dup, 1) := by decide +kernel
theorem dJ2_getChar_3b067_22 : decode cJ2_getChar_3b067 22 = .ok (.ldc 54, 2) := by decide +kernel
theorem dJ2_getChar_3b067_24 : decode cJ2_getChar_3b067 24 = .ok (.invokespecial 56, 3) := by decide +kernel
theorem dJ2_getChar_3b067_27 : decode cJ2_getChar_3b067 27 = .ok (.athrow, 1) := by decide +kernel
theorem dJ2_getChar_3b067_28 : decode cJ2_getChar_3b067 28 = .ok (.iload_n 1, 1) := by decide +kernel
theorem dJ2_getChar_3b067_29 : decode cJ2_getChar_3b067 29 = .ok (.iconst 1, 1) := by decide +kernel
theorem dJ2_getChar_3b067_30 : decode cJ2_getChar_3b067 30 = .ok (.ishl, 1) := by decide +kernel
theorem dJ2_getChar_3b067_31 : decode cJ2_getChar_3b067 31 = .ok (.istore_n 1, 1) := by decide +kernel
theorem dJ2_getChar_3b067_32 : decode cJ2_getChar_3b067 32 = .ok (.aload_n 0, 1) := by decide +kernel
theorem dJ2_getChar_3b067_33 : decode cJ2_getChar_3b067 33 = .ok (.iload_n 1, 1) := by decide +kernel
theorem dJ2_getChar_3b067_34 : decode cJ2_getChar_3b067 34 = .ok (.iinc 1 1, 3) := by decide +kernel
theorem dJ2_getChar_3b067_37 : decode cJ2_getChar_3b067 37 = .ok (.baload, 1) := by decide +kernel
theorem dJ2_getChar_3b067_38 : decode cJ2_getChar_3b067 38 = .ok (.sipush 255, 3) := by decide +kernel
theorem dJ2_getChar_3b067_41 : decode cJ2_getChar_3b067 41 = .ok (.iand, 1) := by decide +kernel
theorem dJ2_getChar_3b067_42 : decode cJ2_getChar_3b067 42 = .ok (.getstatic 59, 3) := by decide +kernel
theorem dJ2_getChar_3b067_45 : decode cJ2_getChar_3b067 45 = .ok (.ishl, 1) := by decide +kernel
theorem dJ2_getChar_3b067_46 : decode cJ2_getChar_3b067 46 = .ok (.aload_n 0, 1) := by decide +kernel
theorem dJ2_getChar_3b067_47 : decode cJ2_getChar_3b067 47 = .ok (.iload_n 1, 1) := by decide +kernel
theorem dJ2_getChar_3b067_48 : decode cJ2_getChar_3b067 48 = .ok (.baload, 1) := by decide +kernel
theorem dJ2_getChar_3b067_49 : decode cJ2_getChar_3b067 49 = .ok (.sipush 255, 3) := by decide +kernel
theorem dJ2_getChar_3b067_52 : decode cJ2_getChar_3b067 52 = .ok (.iand, 1) := by decide +kernel
theorem dJ2_getChar_3b067_53 : decode cJ2_getChar_3b067 53 = .ok (.getstatic 63, 3) := by decide +kernel
theorem dJ2_getChar_3b067_56 : decode cJ2_getChar_3b067 56 = .ok (.ishl, 1) := by decide +kernel
theorem dJ2_getChar_3b067_57 : decode cJ2_getChar_3b067 57 = .ok (.ior, 1) := by decide +kernel
theorem dJ2_getChar_3b067_58 : decode cJ2_getChar_3b067 58 = .ok (.i2c, 1) := by decide +kernel
theorem dJ2_getChar_3b067_59 : decode cJ2_getChar_3b067 59 = .ok (.ireturn, 1) := by decide +kernel
theorem dJ2_length_9d52b_0 : decode cJ2_length_9d52b 0 = .ok (.aload_n 0, 1) := by decide +kernel
theorem dJ2_length_9d52b_1 : decode cJ2_length_9d52b 1 = .ok (.arraylength, 1) := by decide +kernel
theorem dJ2_length_9d52b_2 : decode cJ2_length_9d52b 2 = .ok (.iconst 1, 1) := by decide +kernel
theorem dJ2_length_9d52b_3 : decode cJ2_length_9d52b 3 = .ok (.ishr, 1) := by decide +kernel
theorem dJ2_length_9d52b_4 : decode cJ2_length_9d52b 4 = .ok (.ireturn, 1) := by decide +kernel
theorem dJ2_charAt_3b067_0 : decode cJ2_charAt_3b067 0 = .ok (.iload_n 1, 1) := by decide +kernel
theorem dJ2_charAt_3b067_1 : decode cJ2_charAt_3b067 1 = .ok (.aload_n 0, 1) := by decide +kernel
theorem dJ2_charAt_3b067_2 : decode cJ2_charAt_3b067 2 = .ok (.invokestatic 67, 3) := by decide +kernel
theorem dJ2_charAt_3b067_5 : decode cJ2_charAt_3b067 5 = .ok (.aload_n 0, 1) := by decide +kernel
theorem dJ2_charAt_3b067_6 : decode cJ2_charAt_3b067 6 = .ok (.iload_n 1, 1) := by decide +kernel
theorem dJ2_charAt_3b067_7 : decode cJ2_charAt_3b067 7 = .ok (.invokestatic 71, 3) := by decide +kernel
theorem dJ2_charAt_3b067_10 : decode cJ2_charAt_3b067 10 = .ok (.ireturn, 1) := by decide +kernel
theorem dJ2_checkIndex_2214a_0 : decode cJ2_checkIndex_2214a 0 = .ok (.iload_n 0, 1) := by decide +kernel
theorem dJ2_checkIndex_2214a_1 : decode cJ2_checkIndex_2214a 1 = .ok (.aload_n 1, 1) := by decide +kernel
theorem dJ2_checkIndex_2214a_2 : decode cJ2_checkIndex_2214a 2 = .ok (.invokestatic 48, 3) := by decide +kernel
theorem dJ2_checkIndex_2214a_5 : decode cJ2_checkIndex_2214a 5 = .ok (.invokestatic 414, 3) := by decide +kernel
theorem dJ2_checkIndex_2214a_8 : decode cJ2_checkIndex_2214a 8 = .ok (.return_, 1) := by decide +kernel
theorem dJ3_checkIndex_8e157_0 : decode cJ3_checkIndex_8e157 0 = .ok (.iload_n 0, 1) := by decide +kernel
theorem dJ3_checkIndex_8e157_1 : decode cJ3_checkIndex_8e157 1 = .ok (.ifCond .lt 8, 3) := by decide +kernel
theorem dJ3_checkIndex_8e157_4 : decode cJ3_checkIndex_8e157 4 = .ok (.iload_n 0, 1) := by decide +kernel
theorem dJ3_checkIndex_8e157_5 : decode cJ3_checkIndex_8e157 5 = .ok (.iload_n 1, 1) := by decide +kernel
theorem dJ3_checkIndex_8e157_6 : decode cJ3_checkIndex_8e157 6 = .ok (.if_icmp .lt 10, 3) := by decide +kernel
theorem dJ3_checkIndex_8e157_9 : decode cJ3_checkIndex_8e157 9 = .ok (.aload_n 2, 1) := by decide +kernel
theorem dJ3_checkIndex_8e157_10 : decode cJ3_checkIndex_8e157 10 = .ok (.iload_n 0, 1) := by decide +kernel
theorem dJ3_checkIndex_8e157_11 : decode cJ3_checkIndex_8e157 11 = .ok (.iload_n 1, 1) := by decide +kernel
theorem dJ3_checkIndex_8e157_12 : decode cJ3_checkIndex_8e157 12 = .ok (.invokestatic 95, 3) := by decide +kernel
theorem dJ3_checkIndex_8e157_15 : decode cJ3_checkIndex_8e157 15 = .ok (.athrow, 1) := by decide +kernel
theorem dJ3_checkIndex_8e157_16 : decode cJ3_checkIndex_8e157 16 = .ok (.iload_n 0, 1) := by decide +kernel
theorem dJ3_checkIndex_8e157_17 : decode cJ3_checkIndex_8e157 17 = .ok (.ireturn, 1) := by decide +kernel
theorem dL_law_0 : decode cL_law 0 = .ok (.new 7, 3) := by decide +kernel
theorem dL_law_3 : decode cL_law 3 = .ok (.dup, 1) := by decide +kernel
theorem dL_law_4 : decode cL_law 4 = .ok (.invokespecial 9, 3) := by decide +kernel
theorem dL_law_7 : decode cL_law 7 = .ok (.astore_n 1, 1) := by decide +kernel
theorem dL_law_8 : decode cL_law 8 = .ok (.new 10, 3) := by decide +kernel
theorem dL_law_11 : decode cL_law 11 = .ok (.dup, 1) := by decide +kernel
theorem dL_law_12 : decode cL_law 12 = .ok (.invokespecial 12, 3) := by decide +kernel
theorem dL_law_15 : decode cL_law 15 = .ok (.astore_n 2, 1) := by decide +kernel
theorem dL_law_16 : decode cL_law 16 = .ok (.iconst 0, 1) := by decide +kernel
theorem dL_law_17 : decode cL_law 17 = .ok (.istore_n 3, 1) := by decide +kernel
theorem dL_law_18 : decode cL_law 18 = .ok (.iload_n 3, 1) := by decide +kernel
theorem dL_law_19 : decode cL_law 19 = .ok (.aload_n 0, 1) := by decide +kernel
theorem dL_law_20 : decode cL_law 20 = .ok (.arraylength, 1) := by decide +kernel
theorem dL_law_21 : decode cL_law 21 = .ok (.bipush 6, 2) := by decide +kernel
theorem dL_law_23 : decode cL_law 23 = .ok (.isub, 1) := by decide +kernel
theorem dL_law_24 : decode cL_law 24 = .ok (.if_icmp .gt 979, 3) := by decide +kernel
theorem dL_law_27 : decode cL_law 27 = .ok (.aload_n 0, 1) := by decide +kernel
theorem dL_law_28 : decode cL_law 28 = .ok (.iload_n 3, 1) := by decide +kernel
theorem dL_law_29 : decode cL_law 29 = .ok (.iaload, 1) := by decide +kernel
theorem dL_law_30 : decode cL_law 30 = .ok (.bipush 31, 2) := by decide +kernel
theorem dL_law_32 : decode cL_law 32 = .ok (.iand, 1) := by decide +kernel
theorem dL_law_33 : decode cL_law 33 = .ok (.tableswitch 964 0 30 #[139, 162, 195, 218, 231, 244, 277, 310, 333, 346, 379, 422, 445, 458, 491, 504, 537, 580, 603, 666, 679, 702, 735, 758, 801, 834, 858, 881, 904, 927, 950], 139) := by decide +kernel
theorem dL_law_172 : decode cL_law 172 = .ok (.aload_n 1, 1) := by decide +kernel
theorem dL_law_173 : decode cL_law 173 = .ok (.aload_n 0, 1) := by decide +kernel
theorem dL_law_174 : decode cL_law 174 = .ok (.iload_n 3, 1) := by decide +kernel
theorem dL_law_175 : decode cL_law 175 = .ok (.iconst 1, 1) := by decide +kernel
theorem dL_law_176 : decode cL_law 176 = .ok (.iadd, 1) := by decide +kernel
theorem dL_law_177 : decode cL_law 177 = .ok (.iaload, 1) := by decide +kernel
theorem dL_law_178 : decode cL_law 178 = .ok (.invokevirtual 13, 3) := by decide +kernel
theorem dL_law_181 : decode cL_law 181 = .ok (.aload_n 2, 1) := by decide +kernel
theorem dL_law_182 : decode cL_law 182 = .ok (.aload_n 0, 1) := by decide +kernel
theorem dL_law_183 : decode cL_law 183 = .ok (.iload_n 3, 1) := by decide +kernel
theorem dL_law_184 : decode cL_law 184 = .ok (.iconst 1, 1) := by decide +kernel
theorem dL_law_185 : decode cL_law 185 = .ok (.iadd, 1) := by decide +kernel
theorem dL_law_186 : decode cL_law 186 = .ok (.iaload, 1) := by decide +kernel
theorem dL_law_187 : decode cL_law 187 = .ok (.invokevirtual 17, 3) := by decide +kernel
theorem dL_law_190 : decode cL_law 190 = .ok (.if_icmp .eq 807, 3) := by decide +kernel
theorem dL_law_193 : decode cL_law 193 = .ok (.iconst 0, 1) := by decide +kernel
theorem dL_law_194 : decode cL_law 194 = .ok (.ireturn, 1) := by decide +kernel
theorem dL_law_195 : decode cL_law 195 = .ok (.aload_n 1, 1) := by decide +kernel
theorem dL_law_196 : decode cL_law 196 = .ok (.aload_n 0, 1) := by decide +kernel
theorem dL_law_197 : decode cL_law 197 = .ok (.iload_n 3, 1) := by decide +kernel
theorem dL_law_198 : decode cL_law 198 = .ok (.iconst 1, 1) := by decide +kernel
theorem dL_law_199 : decode cL_law 199 = .ok (.iadd, 1) := by decide +kernel
theorem dL_law_200 : decode cL_law 200 = .ok (.iaload, 1) := by decide +kernel
theorem dL_law_201 : decode cL_law 201 = .ok (.aload_n 0, 1) := by decide +kernel
theorem dL_law_202 : decode cL_law 202 = .ok (.iload_n 3, 1) := by decide +kernel
theorem dL_law_203 : decode cL_law 203 = .ok (.iconst 2, 1) := by decide +kernel
theorem dL_law_204 : decode cL_law 204 = .ok (.iadd, 1) := by decide +kernel
theorem dL_law_205 : decode cL_law 205 = .ok (.iaload, 1) := by decide +kernel
theorem dL_law_206 : decode cL_law 206 = .ok (.invokevirtual 18, 3) := by decide +kernel
theorem dL_law_209 : decode cL_law 209 = .ok (.aload_n 2, 1) := by decide +kernel
theorem dL_law_210 : decode cL_law 210 = .ok (.aload_n 0, 1) := by decide +kernel
theorem dL_law_211 : decode cL_law 211 = .ok (.iload_n 3, 1) := by decide +kernel
theorem dL_law_212 : decode cL_law 212 = .ok (.iconst 1, 1) := by decide +kernel
theorem dL_law_213 : decode cL_law 213 = .ok (.iadd, 1) := by decide +kernel
theorem dL_law_214 : decode cL_law 214 = .ok (.iaload, 1) := by decide +kernel
theorem dL_law_215 : decode cL_law 215 = .ok (.aload_n 0, 1) := by decide +kernel
theorem dL_law_216 : decode cL_law 216 = .ok (.iload_n 3, 1) := by decide +kernel
theorem dL_law_217 : decode cL_law 217 = .ok (.iconst 2, 1) := by decide +kernel
theorem dL_law_218 : decode cL_law 218 = .ok (.iadd, 1) := by decide +kernel
theorem dL_law_219 : decode cL_law 219 = .ok (.iaload, 1) := by decide +kernel
theorem dL_law_220 : decode cL_law 220 = .ok (.invokevirtual 22, 3) := by decide +kernel
theorem dL_law_223 : decode cL_law 223 = .ok (.if_icmp .eq 774, 3) := by decide +kernel
theorem dL_law_226 : decode cL_law 226 = .ok (.iconst 0, 1) := by decide +kernel
theorem dL_law_227 : decode cL_law 227 = .ok (.ireturn, 1) := by decide +kernel
theorem dL_law_228 : decode cL_law 228 = .ok (.aload_n 1, 1) := by decide +kernel
theorem dL_law_229 : decode cL_law 229 = .ok (.aload_n 0, 1) := by decide +kernel
theorem dL_law_230 : decode cL_law 230 = .ok (.iload_n 3, 1) := by decide +kernel
theorem dL_law_231 : decode cL_law 231 = .ok (.iconst 1, 1) := by decide +kernel
theorem dL_law_232 : decode cL_law 232 = .ok (.iadd, 1) := by decide +kernel
theorem dL_law_233 : decode cL_law 233 = .ok (.iaload, 1) := by decide +kernel
theorem dL_law_234 : decode cL_law 234 = .ok (.invokevirtual 23, 3) := by decide +kernel
theorem dL_law_237 : decode cL_law 237 = .ok (.aload_n 2, 1) := by decide +kernel
theorem dL_law_238 : decode cL_law 238 = .ok (.aload_n 0, 1) := by decide +kernel
theorem dL_law_239 : decode cL_law 239 = .ok (.iload_n 3, 1) := by decide +kernel
theorem dL_law_240 : decode cL_law 240 = .ok (.iconst 1, 1) := by decide +kernel
theorem dL_law_241 : decode cL_law 241 = .ok (.iadd, 1) := by decide +kernel
theorem dL_law_242 : decode cL_law 242 = .ok (.iaload, 1) := by decide +kernel
theorem dL_law_243 : decode cL_law 243 = .ok (.invokevirtual 26, 3) := by decide +kernel
theorem dL_law_246 : decode cL_law 246 = .ok (.if_icmp .eq 751, 3) := by decide +kernel
theorem dL_law_249 : decode cL_law 249 = .ok (.iconst 0, 1) := by decide +kernel
theorem dL_law_250 : decode cL_law 250 = .ok (.ireturn, 1) := by decide +kernel
theorem dL_law_251 : decode cL_law 251 = .ok (.aload_n 1, 1) := by decide +kernel
theorem dL_law_252 : decode cL_law 252 = .ok (.invokevirtual 27, 3) := by decide +kernel
theorem dL_law_255 : decode cL_law 255 = .ok (.aload_n 2, 1) := by decide +kernel
theorem dL_law_256 : decode cL_law 256 = .ok (.invokevirtual 31, 3) := by decide +kernel
theorem dL_law_259 : decode cL_law 259 = .ok (.if_icmp .eq 738, 3) := by decide +kernel
theorem dL_law_262 : decode cL_law 262 = .ok (.iconst 0, 1) := by decide +kernel
theorem dL_law_263 : decode cL_law 263 = .ok (.ireturn, 1) := by decide +kernel
theorem dL_law_264 : decode cL_law 264 = .ok (.aload_n 1, 1) := by decide +kernel
theorem dL_law_265 : decode cL_law 265 = .ok (.invokevirtual 32, 3) := by decide +kernel
theorem dL_law_268 : decode cL_law 268 = .ok (.aload_n 2, 1) := by decide +kernel
theorem dL_law_269 : decode cL_law 269 = .ok (.invokevirtual 35, 3) := by decide +kernel
theorem dL_law_272 : decode cL_law 272 = .ok (.if_icmp .eq 725, 3) := by decide +kernel
theorem dL_law_275 : decode cL_law 275 = .ok (.iconst 0, 1) := by decide +kernel
theorem dL_law_276 : decode cL_law 276 = .ok (.ireturn, 1) := by decide +kernel
theorem dL_law_277 : decode cL_law 277 = .ok (.aload_n 1, 1) := by decide +kernel
theorem dL_law_278 : decode cL_law 278 = .ok (.aload_n 0, 1) := by decide +kernel
theorem dL_law_279 : decode cL_law 279 = .ok (.iload_n 3, 1) := by decide +kernel
theorem dL_law_280 : decode cL_law 280 = .ok (.iconst 1, 1) := by decide +kernel
theorem dL_law_281 : decode cL_law 281 = .ok (.iadd, 1) := by decide +kernel
theorem dL_law_282 : decode cL_law 282 = .ok (.iaload, 1) := by decide +kernel
theorem dL_law_283 : decode cL_law 283 = .ok (.aload_n 0, 1) := by decide +kernel
theorem dL_law_284 : decode cL_law 284 = .ok (.iload_n 3, 1) := by decide +kernel
theorem dL_law_285 : decode cL_law 285 = .ok (.iconst 2, 1) := by decide +kernel
theorem dL_law_286 : decode cL_law 286 = .ok (.iadd, 1) := by decide +kernel
theorem dL_law_287 : decode cL_law 287 = .ok (.iaload, 1) := by decide +kernel
theorem dL_law_288 : decode cL_law 288 = .ok (.invokevirtual 36, 3) := by decide +kernel
theorem dL_law_291 : decode cL_law 291 = .ok (.aload_n 2, 1) := by decide +kernel
theorem dL_law_292 : decode cL_law 292 = .ok (.aload_n 0, 1) := by decide +kernel
theorem dL_law_293 : decode cL_law 293 = .ok (.iload_n 3, 1) := by decide +kernel
theorem dL_law_294 : decode cL_law 294 = .ok (.iconst 1, 1) := by decide +kernel
theorem dL_law_295 : decode cL_law 295 = .ok (.iadd, 1) := by decide +kernel
theorem dL_law_296 : decode cL_law 296 = .ok (.iaload, 1) := by decide +kernel
theorem dL_law_297 : decode cL_law 297 = .ok (.aload_n 0, 1) := by decide +kernel
theorem dL_law_298 : decode cL_law 298 = .ok (.iload_n 3, 1) := by decide +kernel
theorem dL_law_299 : decode cL_law 299 = .ok (.iconst 2, 1) := by decide +kernel
theorem dL_law_300 : decode cL_law 300 = .ok (.iadd, 1) := by decide +kernel
theorem dL_law_301 : decode cL_law 301 = .ok (.iaload, 1) := by decide +kernel
theorem dL_law_302 : decode cL_law 302 = .ok (.invokevirtual 39, 3) := by decide +kernel
theorem dL_law_305 : decode cL_law 305 = .ok (.if_icmp .eq 692, 3) := by decide +kernel
theorem dL_law_308 : decode cL_law 308 = .ok (.iconst 0, 1) := by decide +kernel
theorem dL_law_309 : decode cL_law 309 = .ok (.ireturn, 1) := by decide +kernel
theorem dL_law_310 : decode cL_law 310 = .ok (.aload_n 1, 1) := by decide +kernel
theorem dL_law_311 : decode cL_law 311 = .ok (.aload_n 0, 1) := by decide +kernel
theorem dL_law_312 : decode cL_law 312 = .ok (.iload_n 3, 1) := by decide +kernel
theorem dL_law_313 : decode cL_law 313 = .ok (.iconst 1, 1) := by decide +kernel
theorem dL_law_314 : decode cL_law 314 = .ok (.iadd, 1) := by decide +kernel
theorem dL_law_315 : decode cL_law 315 = .ok (.iaload, 1) := by decide +kernel
theorem dL_law_316 : decode cL_law 316 = .ok (.aload_n 0, 1) := by decide +kernel
theorem dL_law_317 : decode cL_law 317 = .ok (.iload_n 3, 1) := by decide +kernel
theorem dL_law_318 : decode cL_law 318 = .ok (.iconst 2, 1) := by decide +kernel
theorem dL_law_319 : decode cL_law 319 = .ok (.iadd, 1) := by decide +kernel
theorem dL_law_320 : decode cL_law 320 = .ok (.iaload, 1) := by decide +kernel
theorem dL_law_321 : decode cL_law 321 = .ok (.invokevirtual 40, 3) := by decide +kernel
theorem dL_law_324 : decode cL_law 324 = .ok (.aload_n 2, 1) := by decide +kernel
theorem dL_law_325 : decode cL_law 325 = .ok (.aload_n 0, 1) := by decide +kernel
theorem dL_law_326 : decode cL_law 326 = .ok (.iload_n 3, 1) := by decide +kernel
theorem dL_law_327 : decode cL_law 327 = .ok (.iconst 1, 1) := by decide +kernel
theorem dL_law_328 : decode cL_law 328 = .ok (.iadd, 1) := by decide +kernel
theorem dL_law_329 : decode cL_law 329 = .ok (.iaload, 1) := by decide +kernel
theorem dL_law_330 : decode cL_law 330 = .ok (.aload_n 0, 1) := by decide +kernel
theorem dL_law_331 : decode cL_law 331 = .ok (.iload_n 3, 1) := by decide +kernel
theorem dL_law_332 : decode cL_law 332 = .ok (.iconst 2, 1) := by decide +kernel
theorem dL_law_333 : decode cL_law 333 = .ok (.iadd, 1) := by decide +kernel
theorem dL_law_334 : decode cL_law 334 = .ok (.iaload, 1) := by decide +kernel
theorem dL_law_335 : decode cL_law 335 = .ok (.invokevirtual 43, 3) := by decide +kernel
theorem dL_law_338 : decode cL_law 338 = .ok (.if_icmp .eq 659, 3) := by decide +kernel
theorem dL_law_341 : decode cL_law 341 = .ok (.iconst 0, 1) := by decide +kernel
theorem dL_law_342 : decode cL_law 342 = .ok (.ireturn, 1) := by decide +kernel
theorem dL_law_343 : decode cL_law 343 = .ok (.aload_n 1, 1) := by decide +kernel
theorem dL_law_344 : decode cL_law 344 = .ok (.aload_n 0, 1) := by decide +kernel
theorem dL_law_345 : decode cL_law 345 = .ok (.iload_n 3, 1) := by decide +kernel
theorem dL_law_346 : decode cL_law 346 = .ok (.iconst 1, 1) := by decide +kernel
theorem dL_law_347 : decode cL_law 347 = .ok (.iadd, 1) := by decide +kernel
theorem dL_law_348 : decode cL_law 348 = .ok (.iaload, 1) := by decide +kernel
theorem dL_law_349 : decode cL_law 349 = .ok (.invokevirtual 44, 3) := by decide +kernel
theorem dL_law_352 : decode cL_law 352 = .ok (.aload_n 2, 1) := by decide +kernel
theorem dL_law_353 : decode cL_law 353 = .ok (.aload_n 0, 1) := by decide +kernel
theorem dL_law_354 : decode cL_law 354 = .ok (.iload_n 3, 1) := by decide +kernel
theorem dL_law_355 : decode cL_law 355 = .ok (.iconst 1, 1) := by decide +kernel
theorem dL_law_356 : decode cL_law 356 = .ok (.iadd, 1) := by decide +kernel
theorem dL_law_357 : decode cL_law 357 = .ok (.iaload, 1) := by decide +kernel
theorem dL_law_358 : decode cL_law 358 = .ok (.invokevirtual 47, 3) := by decide +kernel
theorem dL_law_361 : decode cL_law 361 = .ok (.if_icmp .eq 636, 3) := by decide +kernel
theorem dL_law_364 : decode cL_law 364 = .ok (.iconst 0, 1) := by decide +kernel
theorem dL_law_365 : decode cL_law 365 = .ok (.ireturn, 1) := by decide +kernel
theorem dL_law_366 : decode cL_law 366 = .ok (.aload_n 1, 1) := by decide +kernel
theorem dL_law_367 : decode cL_law 367 = .ok (.invokevirtual 48, 3) := by decide +kernel
theorem dL_law_370 : decode cL_law 370 = .ok (.aload_n 2, 1) := by decide +kernel
theorem dL_law_371 : decode cL_law 371 = .ok (.invokevirtual 51, 3) := by decide +kernel
theorem dL_law_374 : decode cL_law 374 = .ok (.if_icmp .eq 623, 3) := by decide +kernel
theorem dL_law_377 : decode cL_law 377 = .ok (.iconst 0, 1) := by decide +kernel
theorem dL_law_378 : decode cL_law 378 = .ok (.ireturn, 1) := by decide +kernel
theorem dL_law_379 : decode cL_law 379 = .ok (.aload_n 1, 1) := by decide +kernel
theorem dL_law_380 : decode cL_law 380 = .ok (.aload_n 0, 1) := by decide +kernel
theorem dL_law_381 : decode cL_law 381 = .ok (.iload_n 3, 1) := by decide +kernel
theorem dL_law_382 : decode cL_law 382 = .ok (.iconst 1, 1) := by decide +kernel
theorem dL_law_383 : decode cL_law 383 = .ok (.iadd, 1) := by decide +kernel
theorem dL_law_384 : decode cL_law 384 = .ok (.iaload, 1) := by decide +kernel
theorem dL_law_385 : decode cL_law 385 = .ok (.aload_n 0, 1) := by decide +kernel
theorem dL_law_386 : decode cL_law 386 = .ok (.iload_n 3, 1) := by decide +kernel
theorem dL_law_387 : decode cL_law 387 = .ok (.iconst 2, 1) := by decide +kernel
theorem dL_law_388 : decode cL_law 388 = .ok (.iadd, 1) := by decide +kernel
theorem dL_law_389 : decode cL_law 389 = .ok (.iaload, 1) := by decide +kernel
theorem dL_law_390 : decode cL_law 390 = .ok (.invokevirtual 52, 3) := by decide +kernel
theorem dL_law_393 : decode cL_law 393 = .ok (.aload_n 2, 1) := by decide +kernel
theorem dL_law_394 : decode cL_law 394 = .ok (.aload_n 0, 1) := by decide +kernel
theorem dL_law_395 : decode cL_law 395 = .ok (.iload_n 3, 1) := by decide +kernel
theorem dL_law_396 : decode cL_law 396 = .ok (.iconst 1, 1) := by decide +kernel
theorem dL_law_397 : decode cL_law 397 = .ok (.iadd, 1) := by decide +kernel
theorem dL_law_398 : decode cL_law 398 = .ok (.iaload, 1) := by decide +kernel
theorem dL_law_399 : decode cL_law 399 = .ok (.aload_n 0, 1) := by decide +kernel
theorem dL_law_400 : decode cL_law 400 = .ok (.iload_n 3, 1) := by decide +kernel
theorem dL_law_401 : decode cL_law 401 = .ok (.iconst 2, 1) := by decide +kernel
theorem dL_law_402 : decode cL_law 402 = .ok (.iadd, 1) := by decide +kernel
theorem dL_law_403 : decode cL_law 403 = .ok (.iaload, 1) := by decide +kernel
theorem dL_law_404 : decode cL_law 404 = .ok (.invokevirtual 55, 3) := by decide +kernel
theorem dL_law_407 : decode cL_law 407 = .ok (.if_icmp .eq 590, 3) := by decide +kernel
theorem dL_law_410 : decode cL_law 410 = .ok (.iconst 0, 1) := by decide +kernel
theorem dL_law_411 : decode cL_law 411 = .ok (.ireturn, 1) := by decide +kernel
theorem dL_law_412 : decode cL_law 412 = .ok (.aload_n 1, 1) := by decide +kernel
theorem dL_law_413 : decode cL_law 413 = .ok (.aload_n 0, 1) := by decide +kernel
theorem dL_law_414 : decode cL_law 414 = .ok (.iload_n 3, 1) := by decide +kernel
theorem dL_law_415 : decode cL_law 415 = .ok (.iconst 1, 1) := by decide +kernel
theorem dL_law_416 : decode cL_law 416 = .ok (.iadd, 1) := by decide +kernel
theorem dL_law_417 : decode cL_law 417 = .ok (.iaload, 1) := by decide +kernel
theorem dL_law_418 : decode cL_law 418 = .ok (.aload_n 0, 1) := by decide +kernel
theorem dL_law_419 : decode cL_law 419 = .ok (.iload_n 3, 1) := by decide +kernel
theorem dL_law_420 : decode cL_law 420 = .ok (.iconst 2, 1) := by decide +kernel
theorem dL_law_421 : decode cL_law 421 = .ok (.iadd, 1) := by decide +kernel
theorem dL_law_422 : decode cL_law 422 = .ok (.iaload, 1) := by decide +kernel
theorem dL_law_423 : decode cL_law 423 = .ok (.aload_n 0, 1) := by decide +kernel
theorem dL_law_424 : decode cL_law 424 = .ok (.iload_n 3, 1) := by decide +kernel
theorem dL_law_425 : decode cL_law 425 = .ok (.iconst 3, 1) := by decide +kernel
theorem dL_law_426 : decode cL_law 426 = .ok (.iadd, 1) := by decide +kernel
theorem dL_law_427 : decode cL_law 427 = .ok (.iaload, 1) := by decide +kernel
theorem dL_law_428 : decode cL_law 428 = .ok (.invokevirtual 56, 3) := by decide +kernel
theorem dL_law_431 : decode cL_law 431 = .ok (.aload_n 2, 1) := by decide +kernel
theorem dL_law_432 : decode cL_law 432 = .ok (.aload_n 0, 1) := by decide +kernel
theorem dL_law_433 : decode cL_law 433 = .ok (.iload_n 3, 1) := by decide +kernel
theorem dL_law_434 : decode cL_law 434 = .ok (.iconst 1, 1) := by decide +kernel
theorem dL_law_435 : decode cL_law 435 = .ok (.iadd, 1) := by decide +kernel
theorem dL_law_436 : decode cL_law 436 = .ok (.iaload, 1) := by decide +kernel
theorem dL_law_437 : decode cL_law 437 = .ok (.aload_n 0, 1) := by decide +kernel
theorem dL_law_438 : decode cL_law 438 = .ok (.iload_n 3, 1) := by decide +kernel
theorem dL_law_439 : decode cL_law 439 = .ok (.iconst 2, 1) := by decide +kernel
theorem dL_law_440 : decode cL_law 440 = .ok (.iadd, 1) := by decide +kernel
theorem dL_law_441 : decode cL_law 441 = .ok (.iaload, 1) := by decide +kernel
theorem dL_law_442 : decode cL_law 442 = .ok (.aload_n 0, 1) := by decide +kernel
theorem dL_law_443 : decode cL_law 443 = .ok (.iload_n 3, 1) := by decide +kernel
theorem dL_law_444 : decode cL_law 444 = .ok (.iconst 3, 1) := by decide +kernel
theorem dL_law_445 : decode cL_law 445 = .ok (.iadd, 1) := by decide +kernel
theorem dL_law_446 : decode cL_law 446 = .ok (.iaload, 1) := by decide +kernel
theorem dL_law_447 : decode cL_law 447 = .ok (.invokevirtual 60, 3) := by decide +kernel
theorem dL_law_450 : decode cL_law 450 = .ok (.if_icmp .eq 547, 3) := by decide +kernel
theorem dL_law_453 : decode cL_law 453 = .ok (.iconst 0, 1) := by decide +kernel
theorem dL_law_454 : decode cL_law 454 = .ok (.ireturn, 1) := by decide +kernel
theorem dL_law_455 : decode cL_law 455 = .ok (.aload_n 1, 1) := by decide +kernel
theorem dL_law_456 : decode cL_law 456 = .ok (.aload_n 0, 1) := by decide +kernel
theorem dL_law_457 : decode cL_law 457 = .ok (.iload_n 3, 1) := by decide +kernel
theorem dL_law_458 : decode cL_law 458 = .ok (.iconst 1, 1) := by decide +kernel
theorem dL_law_459 : decode cL_law 459 = .ok (.iadd, 1) := by decide +kernel
theorem dL_law_460 : decode cL_law 460 = .ok (.iaload, 1) := by decide +kernel
theorem dL_law_461 : decode cL_law 461 = .ok (.invokevirtual 61, 3) := by decide +kernel
theorem dL_law_464 : decode cL_law 464 = .ok (.aload_n 2, 1) := by decide +kernel
theorem dL_law_465 : decode cL_law 465 = .ok (.aload_n 0, 1) := by decide +kernel
theorem dL_law_466 : decode cL_law 466 = .ok (.iload_n 3, 1) := by decide +kernel
theorem dL_law_467 : decode cL_law 467 = .ok (.iconst 1, 1) := by decide +kernel
theorem dL_law_468 : decode cL_law 468 = .ok (.iadd, 1) := by decide +kernel
theorem dL_law_469 : decode cL_law 469 = .ok (.iaload, 1) := by decide +kernel
theorem dL_law_470 : decode cL_law 470 = .ok (.invokevirtual 64, 3) := by decide +kernel
theorem dL_law_473 : decode cL_law 473 = .ok (.if_icmp .eq 524, 3) := by decide +kernel
theorem dL_law_476 : decode cL_law 476 = .ok (.iconst 0, 1) := by decide +kernel
theorem dL_law_477 : decode cL_law 477 = .ok (.ireturn, 1) := by decide +kernel
theorem dL_law_478 : decode cL_law 478 = .ok (.aload_n 1, 1) := by decide +kernel
theorem dL_law_479 : decode cL_law 479 = .ok (.invokevirtual 65, 3) := by decide +kernel
theorem dL_law_482 : decode cL_law 482 = .ok (.aload_n 2, 1) := by decide +kernel
theorem dL_law_483 : decode cL_law 483 = .ok (.invokevirtual 68, 3) := by decide +kernel
theorem dL_law_486 : decode cL_law 486 = .ok (.if_icmp .eq 511, 3) := by decide +kernel
theorem dL_law_489 : decode cL_law 489 = .ok (.iconst 0, 1) := by decide +kernel
theorem dL_law_490 : decode cL_law 490 = .ok (.ireturn, 1) := by decide +kernel
theorem dL_law_491 : decode cL_law 491 = .ok (.aload_n 1, 1) := by decide +kernel
theorem dL_law_492 : decode cL_law 492 = .ok (.aload_n 0, 1) := by decide +kernel
theorem dL_law_493 : decode cL_law 493 = .ok (.iload_n 3, 1) := by decide +kernel
theorem dL_law_494 : decode cL_law 494 = .ok (.iconst 1, 1) := by decide +kernel
theorem dL_law_495 : decode cL_law 495 = .ok (.iadd, 1) := by decide +kernel
theorem dL_law_496 : decode cL_law 496 = .ok (.iaload, 1) := by decide +kernel
theorem dL_law_497 : decode cL_law 497 = .ok (.aload_n 0, 1) := by decide +kernel
theorem dL_law_498 : decode cL_law 498 = .ok (.iload_n 3, 1) := by decide +kernel
theorem dL_law_499 : decode cL_law 499 = .ok (.iconst 2, 1) := by decide +kernel
theorem dL_law_500 : decode cL_law 500 = .ok (.iadd, 1) := by decide +kernel
theorem dL_law_501 : decode cL_law 501 = .ok (.iaload, 1) := by decide +kernel
theorem dL_law_502 : decode cL_law 502 = .ok (.invokevirtual 69, 3) := by decide +kernel
theorem dL_law_505 : decode cL_law 505 = .ok (.aload_n 2, 1) := by decide +kernel
theorem dL_law_506 : decode cL_law 506 = .ok (.aload_n 0, 1) := by decide +kernel
theorem dL_law_507 : decode cL_law 507 = .ok (.iload_n 3, 1) := by decide +kernel
theorem dL_law_508 : decode cL_law 508 = .ok (.iconst 1, 1) := by decide +kernel
theorem dL_law_509 : decode cL_law 509 = .ok (.iadd, 1) := by decide +kernel
theorem dL_law_510 : decode cL_law 510 = .ok (.iaload, 1) := by decide +kernel
theorem dL_law_511 : decode cL_law 511 = .ok (.aload_n 0, 1) := by decide +kernel
theorem dL_law_512 : decode cL_law 512 = .ok (.iload_n 3, 1) := by decide +kernel
theorem dL_law_513 : decode cL_law 513 = .ok (.iconst 2, 1) := by decide +kernel
theorem dL_law_514 : decode cL_law 514 = .ok (.iadd, 1) := by decide +kernel
theorem dL_law_515 : decode cL_law 515 = .ok (.iaload, 1) := by decide +kernel
theorem dL_law_516 : decode cL_law 516 = .ok (.invokevirtual 72, 3) := by decide +kernel
theorem dL_law_519 : decode cL_law 519 = .ok (.if_icmp .eq 478, 3) := by decide +kernel
theorem dL_law_522 : decode cL_law 522 = .ok (.iconst 0, 1) := by decide +kernel
theorem dL_law_523 : decode cL_law 523 = .ok (.ireturn, 1) := by decide +kernel
theorem dL_law_524 : decode cL_law 524 = .ok (.aload_n 1, 1) := by decide +kernel
theorem dL_law_525 : decode cL_law 525 = .ok (.invokevirtual 73, 3) := by decide +kernel
theorem dL_law_528 : decode cL_law 528 = .ok (.aload_n 2, 1) := by decide +kernel
theorem dL_law_529 : decode cL_law 529 = .ok (.invokevirtual 76, 3) := by decide +kernel
theorem dL_law_532 : decode cL_law 532 = .ok (.if_icmp .eq 465, 3) := by decide +kernel
theorem dL_law_535 : decode cL_law 535 = .ok (.iconst 0, 1) := by decide +kernel
theorem dL_law_536 : decode cL_law 536 = .ok (.ireturn, 1) := by decide +kernel
theorem dL_law_537 : decode cL_law 537 = .ok (.aload_n 1, 1) := by decide +kernel
theorem dL_law_538 : decode cL_law 538 = .ok (.aload_n 0, 1) := by decide +kernel
theorem dL_law_539 : decode cL_law 539 = .ok (.iload_n 3, 1) := by decide +kernel
theorem dL_law_540 : decode cL_law 540 = .ok (.iconst 1, 1) := by decide +kernel
theorem dL_law_541 : decode cL_law 541 = .ok (.iadd, 1) := by decide +kernel
theorem dL_law_542 : decode cL_law 542 = .ok (.iaload, 1) := by decide +kernel
theorem dL_law_543 : decode cL_law 543 = .ok (.aload_n 0, 1) := by decide +kernel
theorem dL_law_544 : decode cL_law 544 = .ok (.iload_n 3, 1) := by decide +kernel
theorem dL_law_545 : decode cL_law 545 = .ok (.iconst 2, 1) := by decide +kernel
theorem dL_law_546 : decode cL_law 546 = .ok (.iadd, 1) := by decide +kernel
theorem dL_law_547 : decode cL_law 547 = .ok (.iaload, 1) := by decide +kernel
theorem dL_law_548 : decode cL_law 548 = .ok (.invokevirtual 77, 3) := by decide +kernel
theorem dL_law_551 : decode cL_law 551 = .ok (.aload_n 2, 1) := by decide +kernel
theorem dL_law_552 : decode cL_law 552 = .ok (.aload_n 0, 1) := by decide +kernel
theorem dL_law_553 : decode cL_law 553 = .ok (.iload_n 3, 1) := by decide +kernel
theorem dL_law_554 : decode cL_law 554 = .ok (.iconst 1, 1) := by decide +kernel
theorem dL_law_555 : decode cL_law 555 = .ok (.iadd, 1) := by decide +kernel
theorem dL_law_556 : decode cL_law 556 = .ok (.iaload, 1) := by decide +kernel
theorem dL_law_557 : decode cL_law 557 = .ok (.aload_n 0, 1) := by decide +kernel
theorem dL_law_558 : decode cL_law 558 = .ok (.iload_n 3, 1) := by decide +kernel
theorem dL_law_559 : decode cL_law 559 = .ok (.iconst 2, 1) := by decide +kernel
theorem dL_law_560 : decode cL_law 560 = .ok (.iadd, 1) := by decide +kernel
theorem dL_law_561 : decode cL_law 561 = .ok (.iaload, 1) := by decide +kernel
theorem dL_law_562 : decode cL_law 562 = .ok (.invokevirtual 80, 3) := by decide +kernel
theorem dL_law_565 : decode cL_law 565 = .ok (.if_icmp .eq 432, 3) := by decide +kernel
theorem dL_law_568 : decode cL_law 568 = .ok (.iconst 0, 1) := by decide +kernel
theorem dL_law_569 : decode cL_law 569 = .ok (.ireturn, 1) := by decide +kernel
theorem dL_law_570 : decode cL_law 570 = .ok (.aload_n 1, 1) := by decide +kernel
theorem dL_law_571 : decode cL_law 571 = .ok (.aload_n 0, 1) := by decide +kernel
theorem dL_law_572 : decode cL_law 572 = .ok (.iload_n 3, 1) := by decide +kernel
theorem dL_law_573 : decode cL_law 573 = .ok (.iconst 1, 1) := by decide +kernel
theorem dL_law_574 : decode cL_law 574 = .ok (.iadd, 1) := by decide +kernel
theorem dL_law_575 : decode cL_law 575 = .ok (.iaload, 1) := by decide +kernel
theorem dL_law_576 : decode cL_law 576 = .ok (.aload_n 0, 1) := by decide +kernel
theorem dL_law_577 : decode cL_law 577 = .ok (.iload_n 3, 1) := by decide +kernel
theorem dL_law_578 : decode cL_law 578 = .ok (.iconst 2, 1) := by decide +kernel
theorem dL_law_579 : decode cL_law 579 = .ok (.iadd, 1) := by decide +kernel
theorem dL_law_580 : decode cL_law 580 = .ok (.iaload, 1) := by decide +kernel
theorem dL_law_581 : decode cL_law 581 = .ok (.aload_n 0, 1) := by decide +kernel
theorem dL_law_582 : decode cL_law 582 = .ok (.iload_n 3, 1) := by decide +kernel
theorem dL_law_583 : decode cL_law 583 = .ok (.iconst 3, 1) := by decide +kernel
theorem dL_law_584 : decode cL_law 584 = .ok (.iadd, 1) := by decide +kernel
theorem dL_law_585 : decode cL_law 585 = .ok (.iaload, 1) := by decide +kernel
theorem dL_law_586 : decode cL_law 586 = .ok (.invokevirtual 81, 3) := by decide +kernel
theorem dL_law_589 : decode cL_law 589 = .ok (.aload_n 2, 1) := by decide +kernel
theorem dL_law_590 : decode cL_law 590 = .ok (.aload_n 0, 1) := by decide +kernel
theorem dL_law_591 : decode cL_law 591 = .ok (.iload_n 3, 1) := by decide +kernel
theorem dL_law_592 : decode cL_law 592 = .ok (.iconst 1, 1) := by decide +kernel
theorem dL_law_593 : decode cL_law 593 = .ok (.iadd, 1) := by decide +kernel
theorem dL_law_594 : decode cL_law 594 = .ok (.iaload, 1) := by decide +kernel
theorem dL_law_595 : decode cL_law 595 = .ok (.aload_n 0, 1) := by decide +kernel
theorem dL_law_596 : decode cL_law 596 = .ok (.iload_n 3, 1) := by decide +kernel
theorem dL_law_597 : decode cL_law 597 = .ok (.iconst 2, 1) := by decide +kernel
theorem dL_law_598 : decode cL_law 598 = .ok (.iadd, 1) := by decide +kernel
theorem dL_law_599 : decode cL_law 599 = .ok (.iaload, 1) := by decide +kernel
theorem dL_law_600 : decode cL_law 600 = .ok (.aload_n 0, 1) := by decide +kernel
theorem dL_law_601 : decode cL_law 601 = .ok (.iload_n 3, 1) := by decide +kernel
theorem dL_law_602 : decode cL_law 602 = .ok (.iconst 3, 1) := by decide +kernel
theorem dL_law_603 : decode cL_law 603 = .ok (.iadd, 1) := by decide +kernel
theorem dL_law_604 : decode cL_law 604 = .ok (.iaload, 1) := by decide +kernel
theorem dL_law_605 : decode cL_law 605 = .ok (.invokevirtual 84, 3) := by decide +kernel
theorem dL_law_608 : decode cL_law 608 = .ok (.if_icmp .eq 389, 3) := by decide +kernel
theorem dL_law_611 : decode cL_law 611 = .ok (.iconst 0, 1) := by decide +kernel
theorem dL_law_612 : decode cL_law 612 = .ok (.ireturn, 1) := by decide +kernel
theorem dL_law_613 : decode cL_law 613 = .ok (.aload_n 1, 1) := by decide +kernel
theorem dL_law_614 : decode cL_law 614 = .ok (.aload_n 0, 1) := by decide +kernel
theorem dL_law_615 : decode cL_law 615 = .ok (.iload_n 3, 1) := by decide +kernel
theorem dL_law_616 : decode cL_law 616 = .ok (.iconst 1, 1) := by decide +kernel
theorem dL_law_617 : decode cL_law 617 = .ok (.iadd, 1) := by decide +kernel
theorem dL_law_618 : decode cL_law 618 = .ok (.iaload, 1) := by decide +kernel
theorem dL_law_619 : decode cL_law 619 = .ok (.invokevirtual 85, 3) := by decide +kernel
theorem dL_law_622 : decode cL_law 622 = .ok (.aload_n 2, 1) := by decide +kernel
theorem dL_law_623 : decode cL_law 623 = .ok (.aload_n 0, 1) := by decide +kernel
theorem dL_law_624 : decode cL_law 624 = .ok (.iload_n 3, 1) := by decide +kernel
theorem dL_law_625 : decode cL_law 625 = .ok (.iconst 1, 1) := by decide +kernel
theorem dL_law_626 : decode cL_law 626 = .ok (.iadd, 1) := by decide +kernel
theorem dL_law_627 : decode cL_law 627 = .ok (.iaload, 1) := by decide +kernel
theorem dL_law_628 : decode cL_law 628 = .ok (.invokevirtual 88, 3) := by decide +kernel
theorem dL_law_631 : decode cL_law 631 = .ok (.if_icmp .eq 366, 3) := by decide +kernel
theorem dL_law_634 : decode cL_law 634 = .ok (.iconst 0, 1) := by decide +kernel
theorem dL_law_635 : decode cL_law 635 = .ok (.ireturn, 1) := by decide +kernel
theorem dL_law_636 : decode cL_law 636 = .ok (.aload_n 1, 1) := by decide +kernel
theorem dL_law_637 : decode cL_law 637 = .ok (.aload_n 0, 1) := by decide +kernel
theorem dL_law_638 : decode cL_law 638 = .ok (.iload_n 3, 1) := by decide +kernel
theorem dL_law_639 : decode cL_law 639 = .ok (.iconst 1, 1) := by decide +kernel
theorem dL_law_640 : decode cL_law 640 = .ok (.iadd, 1) := by decide +kernel
theorem dL_law_641 : decode cL_law 641 = .ok (.iaload, 1) := by decide +kernel
theorem dL_law_642 : decode cL_law 642 = .ok (.aload_n 0, 1) := by decide +kernel
theorem dL_law_643 : decode cL_law 643 = .ok (.iload_n 3, 1) := by decide +kernel
theorem dL_law_644 : decode cL_law 644 = .ok (.iconst 2, 1) := by decide +kernel
theorem dL_law_645 : decode cL_law 645 = .ok (.iadd, 1) := by decide +kernel
theorem dL_law_646 : decode cL_law 646 = .ok (.iaload, 1) := by decide +kernel
theorem dL_law_647 : decode cL_law 647 = .ok (.aload_n 0, 1) := by decide +kernel
theorem dL_law_648 : decode cL_law 648 = .ok (.iload_n 3, 1) := by decide +kernel
theorem dL_law_649 : decode cL_law 649 = .ok (.iconst 3, 1) := by decide +kernel
theorem dL_law_650 : decode cL_law 650 = .ok (.iadd, 1) := by decide +kernel
theorem dL_law_651 : decode cL_law 651 = .ok (.iaload, 1) := by decide +kernel
theorem dL_law_652 : decode cL_law 652 = .ok (.aload_n 0, 1) := by decide +kernel
theorem dL_law_653 : decode cL_law 653 = .ok (.iload_n 3, 1) := by decide +kernel
theorem dL_law_654 : decode cL_law 654 = .ok (.iconst 4, 1) := by decide +kernel
theorem dL_law_655 : decode cL_law 655 = .ok (.iadd, 1) := by decide +kernel
theorem dL_law_656 : decode cL_law 656 = .ok (.iaload, 1) := by decide +kernel
theorem dL_law_657 : decode cL_law 657 = .ok (.aload_n 0, 1) := by decide +kernel
theorem dL_law_658 : decode cL_law 658 = .ok (.iload_n 3, 1) := by decide +kernel
theorem dL_law_659 : decode cL_law 659 = .ok (.iconst 5, 1) := by decide +kernel
theorem dL_law_660 : decode cL_law 660 = .ok (.iadd, 1) := by decide +kernel
theorem dL_law_661 : decode cL_law 661 = .ok (.iaload, 1) := by decide +kernel
theorem dL_law_662 : decode cL_law 662 = .ok (.invokevirtual 89, 3) := by decide +kernel
theorem dL_law_665 : decode cL_law 665 = .ok (.aload_n 2, 1) := by decide +kernel
theorem dL_law_666 : decode cL_law 666 = .ok (.aload_n 0, 1) := by decide +kernel
theorem dL_law_667 : decode cL_law 667 = .ok (.iload_n 3, 1) := by decide +kernel
theorem dL_law_668 : decode cL_law 668 = .ok (.iconst 1, 1) := by decide +kernel
theorem dL_law_669 : decode cL_law 669 = .ok (.iadd, 1) := by decide +kernel
theorem dL_law_670 : decode cL_law 670 = .ok (.iaload, 1) := by decide +kernel
theorem dL_law_671 : decode cL_law 671 = .ok (.aload_n 0, 1) := by decide +kernel
theorem dL_law_672 : decode cL_law 672 = .ok (.iload_n 3, 1) := by decide +kernel
theorem dL_law_673 : decode cL_law 673 = .ok (.iconst 2, 1) := by decide +kernel
theorem dL_law_674 : decode cL_law 674 = .ok (.iadd, 1) := by decide +kernel
theorem dL_law_675 : decode cL_law 675 = .ok (.iaload, 1) := by decide +kernel
theorem dL_law_676 : decode cL_law 676 = .ok (.aload_n 0, 1) := by decide +kernel
theorem dL_law_677 : decode cL_law 677 = .ok (.iload_n 3, 1) := by decide +kernel
theorem dL_law_678 : decode cL_law 678 = .ok (.iconst 3, 1) := by decide +kernel
theorem dL_law_679 : decode cL_law 679 = .ok (.iadd, 1) := by decide +kernel
theorem dL_law_680 : decode cL_law 680 = .ok (.iaload, 1) := by decide +kernel
theorem dL_law_681 : decode cL_law 681 = .ok (.aload_n 0, 1) := by decide +kernel
theorem dL_law_682 : decode cL_law 682 = .ok (.iload_n 3, 1) := by decide +kernel
theorem dL_law_683 : decode cL_law 683 = .ok (.iconst 4, 1) := by decide +kernel
theorem dL_law_684 : decode cL_law 684 = .ok (.iadd, 1) := by decide +kernel
theorem dL_law_685 : decode cL_law 685 = .ok (.iaload, 1) := by decide +kernel
theorem dL_law_686 : decode cL_law 686 = .ok (.aload_n 0, 1) := by decide +kernel
theorem dL_law_687 : decode cL_law 687 = .ok (.iload_n 3, 1) := by decide +kernel
theorem dL_law_688 : decode cL_law 688 = .ok (.iconst 5, 1) := by decide +kernel
theorem dL_law_689 : decode cL_law 689 = .ok (.iadd, 1) := by decide +kernel
theorem dL_law_690 : decode cL_law 690 = .ok (.iaload, 1) := by decide +kernel
theorem dL_law_691 : decode cL_law 691 = .ok (.invokevirtual 93, 3) := by decide +kernel
theorem dL_law_694 : decode cL_law 694 = .ok (.if_icmp .eq 303, 3) := by decide +kernel
theorem dL_law_697 : decode cL_law 697 = .ok (.iconst 0, 1) := by decide +kernel
theorem dL_law_698 : decode cL_law 698 = .ok (.ireturn, 1) := by decide +kernel
theorem dL_law_699 : decode cL_law 699 = .ok (.aload_n 1, 1) := by decide +kernel
theorem dL_law_700 : decode cL_law 700 = .ok (.invokevirtual 94, 3) := by decide +kernel
theorem dL_law_703 : decode cL_law 703 = .ok (.aload_n 2, 1) := by decide +kernel
theorem dL_law_704 : decode cL_law 704 = .ok (.invokevirtual 97, 3) := by decide +kernel
theorem dL_law_707 : decode cL_law 707 = .ok (.if_icmp .eq 290, 3) := by decide +kernel
theorem dL_law_710 : decode cL_law 710 = .ok (.iconst 0, 1) := by decide +kernel
theorem dL_law_711 : decode cL_law 711 = .ok (.ireturn, 1) := by decide +kernel
theorem dL_law_712 : decode cL_law 712 = .ok (.aload_n 1, 1) := by decide +kernel
theorem dL_law_713 : decode cL_law 713 = .ok (.aload_n 0, 1) := by decide +kernel
theorem dL_law_714 : decode cL_law 714 = .ok (.iload_n 3, 1) := by decide +kernel
theorem dL_law_715 : decode cL_law 715 = .ok (.iconst 1, 1) := by decide +kernel
theorem dL_law_716 : decode cL_law 716 = .ok (.iadd, 1) := by decide +kernel
theorem dL_law_717 : decode cL_law 717 = .ok (.iaload, 1) := by decide +kernel
theorem dL_law_718 : decode cL_law 718 = .ok (.invokevirtual 98, 3) := by decide +kernel
theorem dL_law_721 : decode cL_law 721 = .ok (.aload_n 2, 1) := by decide +kernel
theorem dL_law_722 : decode cL_law 722 = .ok (.aload_n 0, 1) := by decide +kernel
theorem dL_law_723 : decode cL_law 723 = .ok (.iload_n 3, 1) := by decide +kernel
theorem dL_law_724 : decode cL_law 724 = .ok (.iconst 1, 1) := by decide +kernel
theorem dL_law_725 : decode cL_law 725 = .ok (.iadd, 1) := by decide +kernel
theorem dL_law_726 : decode cL_law 726 = .ok (.iaload, 1) := by decide +kernel
theorem dL_law_727 : decode cL_law 727 = .ok (.invokevirtual 101, 3) := by decide +kernel
theorem dL_law_730 : decode cL_law 730 = .ok (.if_icmp .eq 267, 3) := by decide +kernel
theorem dL_law_733 : decode cL_law 733 = .ok (.iconst 0, 1) := by decide +kernel
theorem dL_law_734 : decode cL_law 734 = .ok (.ireturn, 1) := by decide +kernel
theorem dL_law_735 : decode cL_law 735 = .ok (.aload_n 1, 1) := by decide +kernel
theorem dL_law_736 : decode cL_law 736 = .ok (.aload_n 0, 1) := by decide +kernel
theorem dL_law_737 : decode cL_law 737 = .ok (.iload_n 3, 1) := by decide +kernel
theorem dL_law_738 : decode cL_law 738 = .ok (.iconst 1, 1) := by decide +kernel
theorem dL_law_739 : decode cL_law 739 = .ok (.iadd, 1) := by decide +kernel
theorem dL_law_740 : decode cL_law 740 = .ok (.iaload, 1) := by decide +kernel
theorem dL_law_741 : decode cL_law 741 = .ok (.aload_n 0, 1) := by decide +kernel
theorem dL_law_742 : decode cL_law 742 = .ok (.iload_n 3, 1) := by decide +kernel
theorem dL_law_743 : decode cL_law 743 = .ok (.iconst 2, 1) := by decide +kernel
theorem dL_law_744 : decode cL_law 744 = .ok (.iadd, 1) := by decide +kernel
theorem dL_law_745 : decode cL_law 745 = .ok (.iaload, 1) := by decide +kernel
theorem dL_law_746 : decode cL_law 746 = .ok (.invokevirtual 102, 3) := by decide +kernel
theorem dL_law_749 : decode cL_law 749 = .ok (.aload_n 2, 1) := by decide +kernel
theorem dL_law_750 : decode cL_law 750 = .ok (.aload_n 0, 1) := by decide +kernel
theorem dL_law_751 : decode cL_law 751 = .ok (.iload_n 3, 1) := by decide +kernel
theorem dL_law_752 : decode cL_law 752 = .ok (.iconst 1, 1) := by decide +kernel
theorem dL_law_753 : decode cL_law 753 = .ok (.iadd, 1) := by decide +kernel
theorem dL_law_754 : decode cL_law 754 = .ok (.iaload, 1) := by decide +kernel
theorem dL_law_755 : decode cL_law 755 = .ok (.aload_n 0, 1) := by decide +kernel
theorem dL_law_756 : decode cL_law 756 = .ok (.iload_n 3, 1) := by decide +kernel
theorem dL_law_757 : decode cL_law 757 = .ok (.iconst 2, 1) := by decide +kernel
theorem dL_law_758 : decode cL_law 758 = .ok (.iadd, 1) := by decide +kernel
theorem dL_law_759 : decode cL_law 759 = .ok (.iaload, 1) := by decide +kernel
theorem dL_law_760 : decode cL_law 760 = .ok (.invokevirtual 105, 3) := by decide +kernel
theorem dL_law_763 : decode cL_law 763 = .ok (.if_icmp .eq 234, 3) := by decide +kernel
theorem dL_law_766 : decode cL_law 766 = .ok (.iconst 0, 1) := by decide +kernel
theorem dL_law_767 : decode cL_law 767 = .ok (.ireturn, 1) := by decide +kernel
theorem dL_law_768 : decode cL_law 768 = .ok (.aload_n 1, 1) := by decide +kernel
theorem dL_law_769 : decode cL_law 769 = .ok (.aload_n 0, 1) := by decide +kernel
theorem dL_law_770 : decode cL_law 770 = .ok (.iload_n 3, 1) := by decide +kernel
theorem dL_law_771 : decode cL_law 771 = .ok (.iconst 1, 1) := by decide +kernel
theorem dL_law_772 : decode cL_law 772 = .ok (.iadd, 1) := by decide +kernel
theorem dL_law_773 : decode cL_law 773 = .ok (.iaload, 1) := by decide +kernel
theorem dL_law_774 : decode cL_law 774 = .ok (.invokevirtual 106, 3) := by decide +kernel
theorem dL_law_777 : decode cL_law 777 = .ok (.aload_n 2, 1) := by decide +kernel
theorem dL_law_778 : decode cL_law 778 = .ok (.aload_n 0, 1) := by decide +kernel
theorem dL_law_779 : decode cL_law 779 = .ok (.iload_n 3, 1) := by decide +kernel
theorem dL_law_780 : decode cL_law 780 = .ok (.iconst 1, 1) := by decide +kernel
theorem dL_law_781 : decode cL_law 781 = .ok (.iadd, 1) := by decide +kernel
theorem dL_law_782 : decode cL_law 782 = .ok (.iaload, 1) := by decide +kernel
theorem dL_law_783 : decode cL_law 783 = .ok (.invokevirtual 109, 3) := by decide +kernel
theorem dL_law_786 : decode cL_law 786 = .ok (.if_icmp .eq 211, 3) := by decide +kernel
theorem dL_law_789 : decode cL_law 789 = .ok (.iconst 0, 1) := by decide +kernel
theorem dL_law_790 : decode cL_law 790 = .ok (.ireturn, 1) := by decide +kernel
theorem dL_law_791 : decode cL_law 791 = .ok (.aload_n 1, 1) := by decide +kernel
theorem dL_law_792 : decode cL_law 792 = .ok (.aload_n 0, 1) := by decide +kernel
theorem dL_law_793 : decode cL_law 793 = .ok (.iload_n 3, 1) := by decide +kernel
theorem dL_law_794 : decode cL_law 794 = .ok (.iconst 1, 1) := by decide +kernel
theorem dL_law_795 : decode cL_law 795 = .ok (.iadd, 1) := by decide +kernel
theorem dL_law_796 : decode cL_law 796 = .ok (.iaload, 1) := by decide +kernel
theorem dL_law_797 : decode cL_law 797 = .ok (.aload_n 0, 1) := by decide +kernel
theorem dL_law_798 : decode cL_law 798 = .ok (.iload_n 3, 1) := by decide +kernel
theorem dL_law_799 : decode cL_law 799 = .ok (.iconst 2, 1) := by decide +kernel
theorem dL_law_800 : decode cL_law 800 = .ok (.iadd, 1) := by decide +kernel
theorem dL_law_801 : decode cL_law 801 = .ok (.iaload, 1) := by decide +kernel
theorem dL_law_802 : decode cL_law 802 = .ok (.aload_n 0, 1) := by decide +kernel
theorem dL_law_803 : decode cL_law 803 = .ok (.iload_n 3, 1) := by decide +kernel
theorem dL_law_804 : decode cL_law 804 = .ok (.iconst 3, 1) := by decide +kernel
theorem dL_law_805 : decode cL_law 805 = .ok (.iadd, 1) := by decide +kernel
theorem dL_law_806 : decode cL_law 806 = .ok (.iaload, 1) := by decide +kernel
theorem dL_law_807 : decode cL_law 807 = .ok (.invokevirtual 110, 3) := by decide +kernel
theorem dL_law_810 : decode cL_law 810 = .ok (.aload_n 2, 1) := by decide +kernel
theorem dL_law_811 : decode cL_law 811 = .ok (.aload_n 0, 1) := by decide +kernel
theorem dL_law_812 : decode cL_law 812 = .ok (.iload_n 3, 1) := by decide +kernel
theorem dL_law_813 : decode cL_law 813 = .ok (.iconst 1, 1) := by decide +kernel
theorem dL_law_814 : decode cL_law 814 = .ok (.iadd, 1) := by decide +kernel
theorem dL_law_815 : decode cL_law 815 = .ok (.iaload, 1) := by decide +kernel
theorem dL_law_816 : decode cL_law 816 = .ok (.aload_n 0, 1) := by decide +kernel
theorem dL_law_817 : decode cL_law 817 = .ok (.iload_n 3, 1) := by decide +kernel
theorem dL_law_818 : decode cL_law 818 = .ok (.iconst 2, 1) := by decide +kernel
theorem dL_law_819 : decode cL_law 819 = .ok (.iadd, 1) := by decide +kernel
theorem dL_law_820 : decode cL_law 820 = .ok (.iaload, 1) := by decide +kernel
theorem dL_law_821 : decode cL_law 821 = .ok (.aload_n 0, 1) := by decide +kernel
theorem dL_law_822 : decode cL_law 822 = .ok (.iload_n 3, 1) := by decide +kernel
theorem dL_law_823 : decode cL_law 823 = .ok (.iconst 3, 1) := by decide +kernel
theorem dL_law_824 : decode cL_law 824 = .ok (.iadd, 1) := by decide +kernel
theorem dL_law_825 : decode cL_law 825 = .ok (.iaload, 1) := by decide +kernel
theorem dL_law_826 : decode cL_law 826 = .ok (.invokevirtual 113, 3) := by decide +kernel
theorem dL_law_829 : decode cL_law 829 = .ok (.if_icmp .eq 168, 3) := by decide +kernel
theorem dL_law_832 : decode cL_law 832 = .ok (.iconst 0, 1) := by decide +kernel
theorem dL_law_833 : decode cL_law 833 = .ok (.ireturn, 1) := by decide +kernel
theorem dL_law_834 : decode cL_law 834 = .ok (.aload_n 1, 1) := by decide +kernel
theorem dL_law_835 : decode cL_law 835 = .ok (.aload_n 0, 1) := by decide +kernel
theorem dL_law_836 : decode cL_law 836 = .ok (.iload_n 3, 1) := by decide +kernel
theorem dL_law_837 : decode cL_law 837 = .ok (.iconst 1, 1) := by decide +kernel
theorem dL_law_838 : decode cL_law 838 = .ok (.iadd, 1) := by decide +kernel
theorem dL_law_839 : decode cL_law 839 = .ok (.iaload, 1) := by decide +kernel
theorem dL_law_840 : decode cL_law 840 = .ok (.aload_n 0, 1) := by decide +kernel
theorem dL_law_841 : decode cL_law 841 = .ok (.iload_n 3, 1) := by decide +kernel
theorem dL_law_842 : decode cL_law 842 = .ok (.iconst 2, 1) := by decide +kernel
theorem dL_law_843 : decode cL_law 843 = .ok (.iadd, 1) := by decide +kernel
theorem dL_law_844 : decode cL_law 844 = .ok (.iaload, 1) := by decide +kernel
theorem dL_law_845 : decode cL_law 845 = .ok (.invokevirtual 114, 3) := by decide +kernel
theorem dL_law_848 : decode cL_law 848 = .ok (.aload_n 2, 1) := by decide +kernel
theorem dL_law_849 : decode cL_law 849 = .ok (.aload_n 0, 1) := by decide +kernel
theorem dL_law_850 : decode cL_law 850 = .ok (.iload_n 3, 1) := by decide +kernel
theorem dL_law_851 : decode cL_law 851 = .ok (.iconst 1, 1) := by decide +kernel
theorem dL_law_852 : decode cL_law 852 = .ok (.iadd, 1) := by decide +kernel
theorem dL_law_853 : decode cL_law 853 = .ok (.iaload, 1) := by decide +kernel
theorem dL_law_854 : decode cL_law 854 = .ok (.aload_n 0, 1) := by decide +kernel
theorem dL_law_855 : decode cL_law 855 = .ok (.iload_n 3, 1) := by decide +kernel
theorem dL_law_856 : decode cL_law 856 = .ok (.iconst 2, 1) := by decide +kernel
theorem dL_law_857 : decode cL_law 857 = .ok (.iadd, 1) := by decide +kernel
theorem dL_law_858 : decode cL_law 858 = .ok (.iaload, 1) := by decide +kernel
theorem dL_law_859 : decode cL_law 859 = .ok (.invokevirtual 117, 3) := by decide +kernel
theorem dL_law_862 : decode cL_law 862 = .ok (.if_icmp .eq 135, 3) := by decide +kernel
theorem dL_law_865 : decode cL_law 865 = .ok (.iconst 0, 1) := by decide +kernel
theorem dL_law_866 : decode cL_law 866 = .ok (.ireturn, 1) := by decide +kernel
theorem dL_law_867 : decode cL_law 867 = .ok (.aload_n 1, 1) := by decide +kernel
theorem dL_law_868 : decode cL_law 868 = .ok (.aload_n 0, 1) := by decide +kernel
theorem dL_law_869 : decode cL_law 869 = .ok (.iload_n 3, 1) := by decide +kernel
theorem dL_law_870 : decode cL_law 870 = .ok (.iconst 1, 1) := by decide +kernel
theorem dL_law_871 : decode cL_law 871 = .ok (.iadd, 1) := by decide +kernel
theorem dL_law_872 : decode cL_law 872 = .ok (.iaload, 1) := by decide +kernel
theorem dL_law_873 : decode cL_law 873 = .ok (.invokevirtual 118, 3) := by decide +kernel
theorem dL_law_876 : decode cL_law 876 = .ok (.aload_n 2, 1) := by decide +kernel
theorem dL_law_877 : decode cL_law 877 = .ok (.aload_n 0, 1) := by decide +kernel
theorem dL_law_878 : decode cL_law 878 = .ok (.iload_n 3, 1) := by decide +kernel
theorem dL_law_879 : decode cL_law 879 = .ok (.iconst 1, 1) := by decide +kernel
theorem dL_law_880 : decode cL_law 880 = .ok (.iadd, 1) := by decide +kernel
theorem dL_law_881 : decode cL_law 881 = .ok (.iaload, 1) := by decide +kernel
theorem dL_law_882 : decode cL_law 882 = .ok (.invokevirtual 122, 3) := by decide +kernel
theorem dL_law_885 : decode cL_law 885 = .ok (.lcmp, 1) := by decide +kernel
theorem dL_law_886 : decode cL_law 886 = .ok (.ifCond .eq 111, 3) := by decide +kernel
theorem dL_law_889 : decode cL_law 889 = .ok (.iconst 0, 1) := by decide +kernel
theorem dL_law_890 : decode cL_law 890 = .ok (.ireturn, 1) := by decide +kernel
theorem dL_law_891 : decode cL_law 891 = .ok (.aload_n 1, 1) := by decide +kernel
theorem dL_law_892 : decode cL_law 892 = .ok (.aload_n 0, 1) := by decide +kernel
theorem dL_law_893 : decode cL_law 893 = .ok (.iload_n 3, 1) := by decide +kernel
theorem dL_law_894 : decode cL_law 894 = .ok (.iconst 1, 1) := by decide +kernel
theorem dL_law_895 : decode cL_law 895 = .ok (.iadd, 1) := by decide +kernel
theorem dL_law_896 : decode cL_law 896 = .ok (.iaload, 1) := by decide +kernel
theorem dL_law_897 : decode cL_law 897 = .ok (.invokevirtual 123, 3) := by decide +kernel
theorem dL_law_900 : decode cL_law 900 = .ok (.aload_n 2, 1) := by decide +kernel
theorem dL_law_901 : decode cL_law 901 = .ok (.aload_n 0, 1) := by decide +kernel
theorem dL_law_902 : decode cL_law 902 = .ok (.iload_n 3, 1) := by decide +kernel
theorem dL_law_903 : decode cL_law 903 = .ok (.iconst 1, 1) := by decide +kernel
theorem dL_law_904 : decode cL_law 904 = .ok (.iadd, 1) := by decide +kernel
theorem dL_law_905 : decode cL_law 905 = .ok (.iaload, 1) := by decide +kernel
theorem dL_law_906 : decode cL_law 906 = .ok (.invokevirtual 126, 3) := by decide +kernel
theorem dL_law_909 : decode cL_law 909 = .ok (.if_icmp .eq 88, 3) := by decide +kernel
theorem dL_law_912 : decode cL_law 912 = .ok (.iconst 0, 1) := by decide +kernel
theorem dL_law_913 : decode cL_law 913 = .ok (.ireturn, 1) := by decide +kernel
theorem dL_law_914 : decode cL_law 914 = .ok (.aload_n 1, 1) := by decide +kernel
theorem dL_law_915 : decode cL_law 915 = .ok (.aload_n 0, 1) := by decide +kernel
theorem dL_law_916 : decode cL_law 916 = .ok (.iload_n 3, 1) := by decide +kernel
theorem dL_law_917 : decode cL_law 917 = .ok (.iconst 1, 1) := by decide +kernel
theorem dL_law_918 : decode cL_law 918 = .ok (.iadd, 1) := by decide +kernel
theorem dL_law_919 : decode cL_law 919 = .ok (.iaload, 1) := by decide +kernel
theorem dL_law_920 : decode cL_law 920 = .ok (.invokevirtual 127, 3) := by decide +kernel
theorem dL_law_923 : decode cL_law 923 = .ok (.aload_n 2, 1) := by decide +kernel
theorem dL_law_924 : decode cL_law 924 = .ok (.aload_n 0, 1) := by decide +kernel
theorem dL_law_925 : decode cL_law 925 = .ok (.iload_n 3, 1) := by decide +kernel
theorem dL_law_926 : decode cL_law 926 = .ok (.iconst 1, 1) := by decide +kernel
theorem dL_law_927 : decode cL_law 927 = .ok (.iadd, 1) := by decide +kernel
theorem dL_law_928 : decode cL_law 928 = .ok (.iaload, 1) := by decide +kernel
theorem dL_law_929 : decode cL_law 929 = .ok (.invokevirtual 130, 3) := by decide +kernel
theorem dL_law_932 : decode cL_law 932 = .ok (.if_icmp .eq 65, 3) := by decide +kernel
theorem dL_law_935 : decode cL_law 935 = .ok (.iconst 0, 1) := by decide +kernel
theorem dL_law_936 : decode cL_law 936 = .ok (.ireturn, 1) := by decide +kernel
theorem dL_law_937 : decode cL_law 937 = .ok (.aload_n 1, 1) := by decide +kernel
theorem dL_law_938 : decode cL_law 938 = .ok (.aload_n 0, 1) := by decide +kernel
theorem dL_law_939 : decode cL_law 939 = .ok (.iload_n 3, 1) := by decide +kernel
theorem dL_law_940 : decode cL_law 940 = .ok (.iconst 1, 1) := by decide +kernel
theorem dL_law_941 : decode cL_law 941 = .ok (.iadd, 1) := by decide +kernel
theorem dL_law_942 : decode cL_law 942 = .ok (.iaload, 1) := by decide +kernel
theorem dL_law_943 : decode cL_law 943 = .ok (.invokevirtual 131, 3) := by decide +kernel
theorem dL_law_946 : decode cL_law 946 = .ok (.aload_n 2, 1) := by decide +kernel
theorem dL_law_947 : decode cL_law 947 = .ok (.aload_n 0, 1) := by decide +kernel
theorem dL_law_948 : decode cL_law 948 = .ok (.iload_n 3, 1) := by decide +kernel
theorem dL_law_949 : decode cL_law 949 = .ok (.iconst 1, 1) := by decide +kernel
theorem dL_law_950 : decode cL_law 950 = .ok (.iadd, 1) := by decide +kernel
theorem dL_law_951 : decode cL_law 951 = .ok (.iaload, 1) := by decide +kernel
theorem dL_law_952 : decode cL_law 952 = .ok (.invokevirtual 134, 3) := by decide +kernel
theorem dL_law_955 : decode cL_law 955 = .ok (.if_icmp .eq 42, 3) := by decide +kernel
theorem dL_law_958 : decode cL_law 958 = .ok (.iconst 0, 1) := by decide +kernel
theorem dL_law_959 : decode cL_law 959 = .ok (.ireturn, 1) := by decide +kernel
theorem dL_law_960 : decode cL_law 960 = .ok (.aload_n 1, 1) := by decide +kernel
theorem dL_law_961 : decode cL_law 961 = .ok (.aload_n 0, 1) := by decide +kernel
theorem dL_law_962 : decode cL_law 962 = .ok (.iload_n 3, 1) := by decide +kernel
theorem dL_law_963 : decode cL_law 963 = .ok (.iconst 1, 1) := by decide +kernel
theorem dL_law_964 : decode cL_law 964 = .ok (.iadd, 1) := by decide +kernel
theorem dL_law_965 : decode cL_law 965 = .ok (.iaload, 1) := by decide +kernel
theorem dL_law_966 : decode cL_law 966 = .ok (.invokevirtual 135, 3) := by decide +kernel
theorem dL_law_969 : decode cL_law 969 = .ok (.aload_n 2, 1) := by decide +kernel
theorem dL_law_970 : decode cL_law 970 = .ok (.aload_n 0, 1) := by decide +kernel
theorem dL_law_971 : decode cL_law 971 = .ok (.iload_n 3, 1) := by decide +kernel
theorem dL_law_972 : decode cL_law 972 = .ok (.iconst 1, 1) := by decide +kernel
theorem dL_law_973 : decode cL_law 973 = .ok (.iadd, 1) := by decide +kernel
theorem dL_law_974 : decode cL_law 974 = .ok (.iaload, 1) := by decide +kernel
theorem dL_law_975 : decode cL_law 975 = .ok (.invokevirtual 138, 3) := by decide +kernel
theorem dL_law_978 : decode cL_law 978 = .ok (.if_icmp .eq 19, 3) := by decide +kernel
theorem dL_law_981 : decode cL_law 981 = .ok (.iconst 0, 1) := by decide +kernel
theorem dL_law_982 : decode cL_law 982 = .ok (.ireturn, 1) := by decide +kernel
theorem dL_law_983 : decode cL_law 983 = .ok (.aload_n 1, 1) := by decide +kernel
theorem dL_law_984 : decode cL_law 984 = .ok (.invokevirtual 139, 3) := by decide +kernel
theorem dL_law_987 : decode cL_law 987 = .ok (.aload_n 2, 1) := by decide +kernel
theorem dL_law_988 : decode cL_law 988 = .ok (.invokevirtual 143, 3) := by decide +kernel
theorem dL_law_991 : decode cL_law 991 = .ok (.lcmp, 1) := by decide +kernel
theorem dL_law_992 : decode cL_law 992 = .ok (.ifCond .eq 5, 3) := by decide +kernel
theorem dL_law_995 : decode cL_law 995 = .ok (.iconst 0, 1) := by decide +kernel
theorem dL_law_996 : decode cL_law 996 = .ok (.ireturn, 1) := by decide +kernel
theorem dL_law_997 : decode cL_law 997 = .ok (.iinc 3 6, 3) := by decide +kernel
theorem dL_law_1000 : decode cL_law 1000 = .ok (.goto (-982), 3) := by decide +kernel
theorem dL_law_1003 : decode cL_law 1003 = .ok (.iconst 1, 1) := by decide +kernel
theorem dL_law_1004 : decode cL_law 1004 = .ok (.ireturn, 1) := by decide +kernel
end
section
/-! CORE: the words of all methods as one list; contracts that are functions; calls; the frame rule; rows for small numbers -/
def wAll : List Cond := lw_tbl.filter goodWord
theorem wAll_good : ∀ w ∈ wAll, goodWord w = true := fun _ h => (List.mem_filter.mp h).2
theorem wAll_tbl : ∀ w ∈ wAll, w ∈ lw_tbl := fun _ h => (List.mem_filter.mp h).1
/-- private methods and constructors that a nest mate calls -/
def wl_nest : List (String × Nat × MethodName × String) := [(RX3, 11, yX1_init, "WantedLater"), (RX3, 29, yX2_init, "WantedLater"), (RX3, 36, yX0_init, "WantedLater"), (RX0, 97, yX3_isWithin, "WantedLater"), (RX0, 90, yX3_withBit, "WantedLater"), (RX1, 77, yX3_bitOf, "WantedLater"), (RX2, 25, yX3_actOf, "WantedLater"), (RX2, 39, yX3_moreOf, "WantedLater"), (RX1, 63, yX3_withBit, "WantedLater"), (RX1, 55, yX3_actOf, "WantedLater")]
def wl_N (U : State) : Prop := ∀ q ∈ wl_nest, va_Nw (.methodLinkNest q.1 q.2.1 q.2.2.1 q.2.2.2) U
theorem wl_N.vm {u U : State} (h : u.vm = U.vm) (hN : wl_N u) : wl_N U := fun q hq => va_Nw.same rfl h (hN q hq)
theorem wl_N.warm {s U : State} (hW : s.WarmedH U.vm) (hN : wl_N s) : wl_N U := fun q hq => va_Nw.warmM hW (hN q hq)
abbrev wl_tys (E : Nat → ClassId) : List (ClassId × FieldType) := [(E 0, .int), (E 1, .boolean), (E 2, .byte), (E 3, .object "WantedLater$Town")]
def wl_Pc (D : va_G) (E : Nat → ClassId) (av : List Value) (w : va_W) (sz : Nat) : Array Value → State → Prop := va_Pc av (fun U => U.heap.size = sz ∧ va_P D vwCl w U.heap ∧ va_K D vwCl (wl_tys E) U ∧ wl_N U ∧ va_D (fun _ => True) w)
theorem wl_Pc.blind {D : va_G} {E : Nat → ClassId} {av : List Value} {w : va_W} {sz : Nat} : FrameBlind (wl_Pc D E av w sz) := by
  intro a U g mk q
  obtain ⟨q0, q1, qP, qK, qN, qD⟩ := q
  exact ⟨q0, q1, qP, va_K.moved (u := U) (U := U.calling g mk a) (Vm.Alike.refl U.vm) qK, wl_N.vm rfl qN, qD⟩
def wl_Q {τ : Type} (D : va_G) (E : Nat → ClassId) (F : τ → Option Value) (Wo : τ → va_W) (x : τ) (A : Nat → Prop) : Array Value → State → Outcome → State → Prop := fun _ st o t => (o = .returned (F x) ∧ va_P D vwCl (Wo x) t.heap ∧ va_K D vwCl (wl_tys E) t ∧ va_D A (Wo x)) ∧ va_F A st t
/-- a contract: from the world w the method answers F x0 and leaves the world Wo x0 -/
def wl_Met {τ : Type} (l : Launch) (D : va_G) (E : Nat → ClassId) (y : MethodName) (cc : ByteArray) (maxL : Nat) (ret : Option FieldType) (rm : Room) (av : List Value) (w : va_W) (F : τ → Option Value) (Wo : τ → va_W) (x0 : τ) : Prop :=
  ∀ sz : Nat, Met l y (Cond.code y cc maxL ret :: wAll) rm (wl_Pc D E av w sz) (wl_Q D E F Wo x0 (va_A w sz)) 0 0 (va_A w sz)
/-- what holds all along a body -/
def wl_Cx (p : Program) (s : State) (m : MethodId) (args : Array Value) (c : Code) (cc : ByteArray) (nL : Nat) (own : String) (D : va_G) (E : Nat → ClassId) : Prop :=
  p.tables.exec = Jvm.exec ∧ c.code = cc ∧ c.maxLocals = nL ∧ s.vm.findClass own = some m.cls ∧ (∀ w ∈ wAll, w.before args s = true) ∧ va_K D vwCl (wl_tys E) s ∧ wl_N s
theorem wl_enter {τ : Type} {l : Launch} {D : va_G} {E : Nat → ClassId} {y : MethodName} {cc : ByteArray} {maxL : Nat} {ret : Option FieldType} {rm : Room} {own : String} {av : List Value} {w : va_W} {F : τ → Option Value} {Wo : τ → va_W} {x0 : τ}
    (hy : plainName y.cls = true) (hown : y.cls = own) (hav : (lg_sl av).length ≤ maxL)
    (body : ∀ (p : Program) (e : Env) (s : State) (m : MethodId) (below : List Frame) (meth : Method) (c : Code) (A : Nat → Prop),
      wl_Cx p s m av.toArray c cc maxL own D E → meth.sig.returnType = ret → meth.locks = false → (∀ q : Nat, s.heap.size ≤ q → A q) → va_P D vwCl w s.heap → va_D A w → va_S A s.heap s.heap [] → ∀ ls : Array Slot, lv_has ls maxL (lv_args 0 av) →
      W p l e rm s m av.toArray below meth c s.heap [] 0 0 (MQ below (wl_Q D E F Wo x0 A) av.toArray s 0 0 A) (F0 m 0 ls [])) :
    wl_Met l D E y cc maxL ret rm av w F Wo x0 := by
  intro sz
  refine Met.ofW (cc := cc) (maxL := maxL) (ret := ret) hy rfl ?_
  intro p e s m args below meth c s₁ B hml hv
  obtain ⟨rfl, hsz, hP, hK, hN, hD0⟩ := hv
  have hts := atoms_spec (ws := Cond.code y cc maxL ret :: wAll) B.pre
  have hfc : s.vm.findClass own = some m.cls := hown ▸ findClass_of_methodNamed B.named
  subst hsz
  rw [lg_entry_eq]
  exact body p e s m below meth c (va_A w s.heap.size) ⟨B.exec, B.bytes, hml, hfc, fun w h => hts w (List.mem_cons_of_mem _ h), hK, hN⟩ B.returns B.notSynchronized (fun q h => Or.inr h) hP (hD0.self) va_S.rf _ (lv_entry av hav)
/-- the links of a call -/
def wl_lkV (own : String) (index : Nat) (y : MethodName) (bytes : ByteArray) (maxL : Nat) (ret : Option FieldType) (n : Nat) : Prop :=
  Cond.methodLink own index y ∈ wAll ∧ Cond.instanceMethod y ∈ wAll ∧ Cond.selects y.cls y y ∈ wAll ∧ Cond.initialized y.cls ∈ wAll ∧ Cond.code y bytes maxL ret ∈ wAll ∧ y.cls ≠ "java/lang/invoke/MethodHandle" ∧ y.cls ≠ "java/lang/invoke/VarHandle" ∧ (parseMethodDescriptor y.desc).map (fun d => d.parameters.length) = some n
def wl_lkS (own : String) (index : Nat) (y : MethodName) (bytes : ByteArray) (maxL : Nat) (ret : Option FieldType) (n : Nat) : Prop :=
  Cond.methodLink own index y ∈ wAll ∧ Cond.static y ∈ wAll ∧ Cond.initialized y.cls ∈ wAll ∧ Cond.code y bytes maxL ret ∈ wAll ∧ y.cls ≠ "java/lang/invoke/MethodHandle" ∧ y.cls ≠ "java/lang/invoke/VarHandle" ∧ (parseMethodDescriptor y.desc).map (fun d => d.parameters.length) = some n
def wl_lkN (own : String) (index : Nat) (y : MethodName) (host : String) (bytes : ByteArray) (maxL : Nat) (ret : Option FieldType) (n : Nat) : Prop :=
  (own, index, y, host) ∈ wl_nest ∧ Cond.static y ∈ wAll ∧ Cond.initialized y.cls ∈ wAll ∧ Cond.code y bytes maxL ret ∈ wAll ∧ y.cls ≠ "java/lang/invoke/MethodHandle" ∧ y.cls ≠ "java/lang/invoke/VarHandle" ∧ (parseMethodDescriptor y.desc).map (fun d => d.parameters.length) = some n
def wl_rm (rm R : Room) (maxL : Nat) : Prop := rm.cells = 0 ∧ rm.slots = 0 ∧ rm.frames + 1 ≤ R.frames ∧ 8 + (maxL + 11) + rm.locals ≤ R.locals
theorem wl_gd {y : MethodName} {bytes : ByteArray} {maxL : Nat} {ret : Option FieldType} (hc : Cond.code y bytes maxL ret ∈ wAll) : GoodIn wAll (Cond.code y bytes maxL ret :: wAll) := by
  intro w hw
  have h : w ∈ wAll := (List.mem_cons.mp hw).elim (fun h => h ▸ hc) id
  exact ⟨h, good_of_word (wAll_good w h)⟩
section WLC
variable {p : Program} {l : Launch} {e : Env} {R : Room} {s : State} {m : MethodId} {args : Array Value} {below : List Frame} {meth : Method} {c : Code} {H : Heap} {locs : List Loc} {cells slots : Nat} {Q : State → Prop}
variable {cc : ByteArray} {nL pc : Nat} {own : String} {D : va_G} {E : Nat → ClassId} {ls : Array Slot} {rest st0 : List Value} {A : Nat → Prop} {H0 : Heap} {w : va_W}
/-- behind a call on the world w -/
theorem wl_call {τ : Type} {F : τ → Option Value} {Wo : τ → va_W} {x0 : τ} {a : Array Value} (hr : va_Run p l e R s m args below meth c H locs cells slots 0 0 (F0 m pc ls st0) rest (wl_Q D E F Wo x0 (va_A w H.size) a) (va_A w H.size)) (hD : va_D A w) (hS : va_S A H0 H locs) (hA : ∀ q : Nat, H0.size ≤ q → A q)
    (kk : ∀ z : τ, z = x0 → ∀ (H1 : Heap) (locs1 : List Loc), (∀ q : Nat, q < H.size → ¬ va_A w H.size q → H1[q]? = H[q]?) → va_P D vwCl (Wo z) H1 → va_D A (Wo z) → va_S A H0 H1 locs1 → W p l e R s m args below meth c H1 locs1 cells slots Q (F0 m (pc + 3) ls ((F z).toList ++ rest))) : W p l e R s m args below meth c H locs cells slots Q (F0 m pc ls st0) := by
  have hF : ∀ q, va_A w H.size q → A q := by
    intro q h
    rcases h with ⟨k, e, h⟩ | h
    · exact hD.2 k (q, e) h
    · exact hA q (Nat.le_trans hS.1 h)
  intro T hT X
  obtain ⟨v, st₀, t, T', L, h0, X', hL, e1, e2, ⟨⟨hv, hp, hk, hd⟩, hz, hkk⟩, st⟩ := hr T hT X
  cases hv
  rw [h0] at hz hkk
  have hP1 : va_P D vwCl (Wo x0) T'.heap := by rw [e1]; exact hp
  have hD1 : va_D A (Wo x0) := hd.weaken (fun _ _ _ h => hF _ h)
  have hS1 : va_S A H0 T'.heap (locs ++ L) := ⟨Nat.le_trans hS.1 (by rw [e1]; exact hz), fun q h1 h2 => by rw [e1, hkk q (Nat.lt_of_lt_of_le h1 hS.1) (fun z => h2 (hF q z))]; exact hS.2.1 q h1 h2, fun q hq => by
      rcases List.mem_append.mp hq with h | h
      · exact hS.2.2 q h
      · exact hF _ (hL q h)⟩
  obtain ⟨t2, a1, b1⟩ := kk x0 rfl T'.heap (locs ++ L) (fun q h1 h2 => by rw [e1]; exact hkk q h1 h2) hP1 hD1 hS1 T' rfl X'
  exact ⟨t2, st t2 a1, b1⟩
theorem wl_pre {av : List Value} (hC : wl_Cx p s m args c cc nL own D E) (hP : va_P D vwCl w H) (hD : va_D A w) : PreS s H (wl_Pc D E av w H.size) av :=
  ⟨wl_Pc.blind, fun U hU hW => ⟨rfl, by rw [hU], by rw [hU]; exact hP, va_K.moved hW.alike hC.2.2.2.2.2.1, wl_N.warm hW hC.2.2.2.2.2.2, hD.weaken (fun _ _ _ _ => trivial)⟩⟩
/-- an object's method, on the whole world -/
theorem wl_callV {τ : Type} {F : τ → Option Value} {Wo : τ → va_W} {x0 : τ} {y : MethodName} {bytes : ByteArray} {maxL n index : Nat} {ret : Option FieldType} {rm : Room} {b ci T1 : Nat} {As : List Value} {fs : List Value} {T : u_T} (hC : wl_Cx p s m args c cc nL own D E) (hM : wl_Met l D E y bytes maxL ret rm (.ref b :: As) w F Wo x0)
    (lk : wl_lkV own index y bytes maxL ret n) (hn : As.length = n) (hR : wl_rm rm R maxL) (hP : va_P D vwCl w H) (hD : va_D A w) (hS : va_S A H0 H locs) (hA : ∀ q : Nat, H0.size ≤ q → A q) (q0 : Nat) (hrec : w[q0]? = some (b, .inr (ci, fs))) (hcl : vwCl[ci]? = some (y.cls, T, T1)) (hsize : ls.size = nL)
    (hst : st0 = As.reverse ++ .ref b :: rest) (hW : (rest.map fun v => v.category).sum ≤ 8) (hdg : decode cc pc = .ok (.invokevirtual index, 3)) (hcs : cells ≤ R.cells ∧ slots ≤ R.slots)
    (kk : ∀ z : τ, z = x0 → ∀ (H1 : Heap) (locs1 : List Loc), va_P D vwCl (Wo z) H1 → va_D A (Wo z) → va_S A H0 H1 locs1 → W p l e R s m args below meth c H1 locs1 cells slots Q (F0 m (pc + 3) ls ((F z).toList ++ rest))) : W p l e R s m args below meth c H locs cells slots Q (F0 m pc ls st0) := by
  obtain ⟨hx, hb, hml, ho, hts, hK, hN⟩ := id hC
  obtain ⟨l1, l2, l3, l4, l5, l6, l7, l8⟩ := lk
  obtain ⟨r1, r2, r3, r4⟩ := hR
  have hp := wl_pre (av := .ref b :: As) hC hP hD
  refine wl_call (va_runV ⟨hx, hb, hml, ho, hts⟩ (hM H.size) ⟨callB_of n hts (wl_gd l5) rfl r1 r2 (hts _ l4) (hts _ l1) ⟨l6, l7, l8⟩ ⟨r3, r4⟩, hts _ l2, hts _ l3⟩ ⟨hp.1, va_recv hK hP hcl hrec, hp.2⟩ rfl hn hsize hst (by show 2 * 0 + _ ≤ 8; omega) hdg ⟨hcs.1, hcs.2⟩) hD hS hA (fun z hz H1 locs1 _ => kk z hz H1 locs1)
/-- a class's method, on the whole world -/
theorem wl_callS {τ : Type} {F : τ → Option Value} {Wo : τ → va_W} {x0 : τ} {y : MethodName} {bytes : ByteArray} {maxL n index : Nat} {ret : Option FieldType} {rm : Room} {As : List Value} (hC : wl_Cx p s m args c cc nL own D E) (hM : wl_Met l D E y bytes maxL ret rm As w F Wo x0)
    (lk : wl_lkS own index y bytes maxL ret n) (hn : As.length = n) (hR : wl_rm rm R maxL) (hP : va_P D vwCl w H) (hD : va_D A w) (hS : va_S A H0 H locs) (hA : ∀ q : Nat, H0.size ≤ q → A q) (hsize : ls.size = nL)
    (hst : st0 = As.reverse ++ rest) (hW : (rest.map fun v => v.category).sum ≤ 8) (hdg : decode cc pc = .ok (.invokestatic index, 3)) (hcs : cells ≤ R.cells ∧ slots ≤ R.slots)
    (kk : ∀ z : τ, z = x0 → ∀ (H1 : Heap) (locs1 : List Loc), va_P D vwCl (Wo z) H1 → va_D A (Wo z) → va_S A H0 H1 locs1 → W p l e R s m args below meth c H1 locs1 cells slots Q (F0 m (pc + 3) ls ((F z).toList ++ rest))) : W p l e R s m args below meth c H locs cells slots Q (F0 m pc ls st0) := by
  obtain ⟨hx, hb, hml, ho, hts, hK, hN⟩ := id hC
  obtain ⟨l1, l2, l4, l5, l6, l7, l8⟩ := lk
  obtain ⟨r1, r2, r3, r4⟩ := hR
  exact wl_call (va_runS ⟨hx, hb, hml, ho, hts⟩ (hM H.size) ⟨callB_of n hts (wl_gd l5) rfl r1 r2 (hts _ l4) (hts _ l1) ⟨l6, l7, l8⟩ ⟨r3, r4⟩, hts _ l2⟩ (wl_pre hC hP hD) rfl hn hsize hst (by show 2 * 0 + _ ≤ 8; omega) hdg ⟨hcs.1, hcs.2⟩) hD hS hA (fun z hz H1 locs1 _ => kk z hz H1 locs1)
theorem wl_nil {A : Nat → Prop} : va_D A [] := ⟨fun i j p q h => by simp at h, fun k q h => by simp at h⟩
theorem wl_nilP {H : Heap} : va_P D vwCl [] H := fun k q h => by simp at h
/-- a pure method: the world stays -/
theorem wl_pureE {τ : Type} {F : τ → Option Value} {x0 : τ} {a : Array Value} (hr : va_Run p l e R s m args below meth c H locs cells slots 0 0 (F0 m pc ls st0) rest (wl_Q D E F (fun _ => []) x0 (va_A [] H.size) a) (va_A [] H.size)) (hP : va_P D vwCl w H) (hS : va_S A H0 H locs) (hA : ∀ q : Nat, H0.size ≤ q → A q)
    (kk : ∀ z : τ, z = x0 → ∀ (H1 : Heap) (locs1 : List Loc), va_P D vwCl w H1 → va_S A H0 H1 locs1 → W p l e R s m args below meth c H1 locs1 cells slots Q (F0 m (pc + 3) ls ((F z).toList ++ rest))) : W p l e R s m args below meth c H locs cells slots Q (F0 m pc ls st0) := by
  refine wl_call hr wl_nil hS hA (fun z hz H1 locs1 hk _ _ hS1 => kk z hz H1 locs1 (hP.kept (fun k q hq => hk q.1 (hP k q hq).lt (fun h => ?_))) hS1)
  rcases h with ⟨k2, e2, h2⟩ | h2
  · simp at h2
  · exact absurd (hP k q hq).lt (Nat.not_lt.mpr h2)
theorem wl_callP {τ : Type} {F : τ → Option Value} {x0 : τ} {y : MethodName} {bytes : ByteArray} {maxL n index : Nat} {ret : Option FieldType} {rm : Room} {As : List Value} (hC : wl_Cx p s m args c cc nL own D E) (hM : wl_Met l D E y bytes maxL ret rm As [] F (fun _ => []) x0)
    (lk : wl_lkS own index y bytes maxL ret n) (hn : As.length = n) (hR : wl_rm rm R maxL) (hP : va_P D vwCl w H) (hS : va_S A H0 H locs) (hA : ∀ q : Nat, H0.size ≤ q → A q) (hsize : ls.size = nL)
    (hst : st0 = As.reverse ++ rest) (hW : (rest.map fun v => v.category).sum ≤ 8) (hdg : decode cc pc = .ok (.invokestatic index, 3)) (hcs : cells ≤ R.cells ∧ slots ≤ R.slots)
    (kk : ∀ z : τ, z = x0 → ∀ (H1 : Heap) (locs1 : List Loc), va_P D vwCl w H1 → va_S A H0 H1 locs1 → W p l e R s m args below meth c H1 locs1 cells slots Q (F0 m (pc + 3) ls ((F z).toList ++ rest))) : W p l e R s m args below meth c H locs cells slots Q (F0 m pc ls st0) := by
  obtain ⟨hx, hb, hml, ho, hts, hK, hN⟩ := id hC
  obtain ⟨l1, l2, l4, l5, l6, l7, l8⟩ := lk
  obtain ⟨r1, r2, r3, r4⟩ := hR
  exact wl_pureE (va_runS ⟨hx, hb, hml, ho, hts⟩ (hM H.size) ⟨callB_of n hts (wl_gd l5) rfl r1 r2 (hts _ l4) (hts _ l1) ⟨l6, l7, l8⟩ ⟨r3, r4⟩, hts _ l2⟩ (wl_pre (A := A) hC wl_nilP wl_nil) rfl hn hsize hst (by show 2 * 0 + _ ≤ 8; omega) hdg ⟨hcs.1, hcs.2⟩) hP hS hA kk
theorem wl_callN {τ : Type} {F : τ → Option Value} {x0 : τ} {y : MethodName} {host : String} {bytes : ByteArray} {maxL n index : Nat} {ret : Option FieldType} {rm : Room} {As : List Value} (hC : wl_Cx p s m args c cc nL own D E) (hM : wl_Met l D E y bytes maxL ret rm As [] F (fun _ => []) x0)
    (lk : wl_lkN own index y host bytes maxL ret n) (hn : As.length = n) (hR : wl_rm rm R maxL) (hP : va_P D vwCl w H) (hS : va_S A H0 H locs) (hA : ∀ q : Nat, H0.size ≤ q → A q) (hsize : ls.size = nL)
    (hst : st0 = As.reverse ++ rest) (hW : (rest.map fun v => v.category).sum ≤ 8) (hdg : decode cc pc = .ok (.invokestatic index, 3)) (hcs : cells ≤ R.cells ∧ slots ≤ R.slots)
    (kk : ∀ z : τ, z = x0 → ∀ (H1 : Heap) (locs1 : List Loc), va_P D vwCl w H1 → va_S A H0 H1 locs1 → W p l e R s m args below meth c H1 locs1 cells slots Q (F0 m (pc + 3) ls ((F z).toList ++ rest))) : W p l e R s m args below meth c H locs cells slots Q (F0 m pc ls st0) := by
  obtain ⟨hx, hb, hml, ho, hts, hK, hN⟩ := id hC
  obtain ⟨l1, l2, l4, l5, l6, l7, l8⟩ := lk
  obtain ⟨r1, r2, r3, r4⟩ := hR
  exact wl_pureE (va_runSN ⟨hx, hb, hml, ho, hts⟩ (hM H.size) ⟨va_cnB (host := host) (own := own) n hts (wl_gd l5) rfl r1 r2 (hN _ l1) (hts _ l4) ⟨l6, l7, l8⟩ ⟨r3, r4⟩, hts _ l2, trivial⟩ (wl_pre (A := A) hC wl_nilP wl_nil) rfl hn hsize hst (by show 2 * 0 + _ ≤ 8; omega) hdg ⟨hcs.1, hcs.2⟩) hP hS hA kk
/-- ends -/
theorem wl_fin {τ : Type} {F : τ → Option Value} {Wo : τ → va_W} {x0 x1 : τ} {rv : Option Value} (hC : wl_Cx p s m args c cc nL own D E) (hm : x0 = x1) (hF : F x1 = rv) (hP : va_P D vwCl (Wo x1) H) (hD : va_D A (Wo x1)) (hS : va_S A s.heap H locs) (t : State) (ht : t.heap = H) (hW : s.WarmedH t.vm) : wl_Q D E F Wo x0 A args s (.returned rv) t := by
  subst hm; subst hF
  exact ⟨⟨rfl, by rw [ht]; exact hP, va_K.moved hW.alike hC.2.2.2.2.2.1, hD⟩, hS.F ht⟩
theorem wl_iret {τ : Type} {F : τ → Option Value} {Wo : τ → va_W} {x0 x1 : τ} {v : Int32} (hC : wl_Cx p s m args c cc nL own D E) (hr : meth.sig.returnType = some .int) (hlk : meth.locks = false) (hm : x0 = x1) (hF : F x1 = some (.int v)) (hP : va_P D vwCl (Wo x1) H) (hD : va_D A (Wo x1)) (hS : va_S A s.heap H locs) (hdg : decode cc pc = .ok (.ireturn, 1)) :
    W p l e R s m args below meth c H locs 0 0 (MQ below (wl_Q D E F Wo x0 A) args s 0 0 A) (F0 m pc ls [.int v]) :=
  W.iret hC.1 hC.2.1 hr (fun t ht hW => wl_fin hC hm hF hP hD hS t ht hW) hS.2.2 hdg hlk
theorem wl_lret {τ : Type} {F : τ → Option Value} {Wo : τ → va_W} {x0 x1 : τ} {v : Int64} (hC : wl_Cx p s m args c cc nL own D E) (hr : meth.sig.returnType = some .long) (hlk : meth.locks = false) (hm : x0 = x1) (hF : F x1 = some (.long v)) (hP : va_P D vwCl (Wo x1) H) (hD : va_D A (Wo x1)) (hS : va_S A s.heap H locs) (hdg : decode cc pc = .ok (.lreturn, 1)) :
    W p l e R s m args below meth c H locs 0 0 (MQ below (wl_Q D E F Wo x0 A) args s 0 0 A) (F0 m pc ls [.long v]) :=
  W.lret hC.1 hC.2.1 hr (fun t ht hW => wl_fin hC hm hF hP hD hS t ht hW) hS.2.2 hdg hlk
theorem wl_vret {τ : Type} {F : τ → Option Value} {Wo : τ → va_W} {x0 x1 : τ} (hC : wl_Cx p s m args c cc nL own D E) (hr : meth.sig.returnType = none) (hlk : meth.locks = false) (hm : x0 = x1) (hF : F x1 = none) (hP : va_P D vwCl (Wo x1) H) (hD : va_D A (Wo x1)) (hS : va_S A s.heap H locs) (hdg : decode cc pc = .ok (.return_, 1)) :
    W p l e R s m args below meth c H locs 0 0 (MQ below (wl_Q D E F Wo x0 A) args s 0 0 A) (F0 m pc ls []) :=
  W.vret hC.1 hC.2.1 hr (fun t ht hW => wl_fin hC hm hF hP hD hS t ht hW) hS.2.2 hdg hlk
end WLC
/-- THE FRAME RULE for contracts: a part of a larger world -/
theorem wl_mapfm {ws wc : va_W} {is : List Nat} (h : is.map (fun i => ws[i]?) = wc.map some) : is.filterMap (fun i => ws[i]?) = wc := by
  induction is generalizing wc with
  | nil => cases wc with
    | nil => rfl
    | cons a l => simp at h
  | cons i is ih => cases wc with
    | nil => simp at h
    | cons a l =>
      rw [List.map_cons, List.map_cons, List.cons.injEq] at h
      rw [List.filterMap_cons, h.1]
      show a :: _ = _
      rw [ih h.2]
theorem wl_lift {τ : Type} {l : Launch} {D : va_G} {E : Nat → ClassId} {y : MethodName} {cc : ByteArray} {maxL : Nat} {ret : Option FieldType} {rm : Room} {av : List Value} {w w' wr : va_W} {F : τ → Option Value} {Wo Wo' : τ → va_W} {x0 : τ} (h : wl_Met l D E y cc maxL ret rm av w F Wo x0)
    (isC isR perm : List Nat) (hC : isC.map (fun i => w'[i]?) = w.map some) (hR : isR.map (fun i => w'[i]?) = wr.map some) (hnC : va_nd isC = true) (hnR : va_nd isR = true) (hdis : ∀ i ∈ isR, i ∉ isC) (hnp : va_nd perm = true) (hperm : ∀ z, perm.map (fun i => (wr ++ Wo z)[i]?) = (Wo' z).map some) : wl_Met l D E y cc maxL ret rm av w' F Wo' x0 := by
  intro sz
  have sub : ∀ q, va_A w sz q → va_A w' sz q := by
    intro q hq
    rcases hq with ⟨k, e, hk⟩ | hq
    · have h1 : (isC.map (fun i => w'[i]?))[k]? = some (some (q, e)) := by rw [hC, List.getElem?_map, hk]; rfl
      rw [List.getElem?_map] at h1
      cases hi : isC[k]? with
      | none => rw [hi] at h1; cases h1
      | some i => rw [hi] at h1; exact Or.inl ⟨i, e, Option.some.inj h1⟩
    · exact Or.inr hq
  refine MetFree.mono (h sz) ?_ (fun _ _ _ _ _ h => h) ?_
  · rintro a s ⟨h0, h1, hP, hK, hN, hD⟩
    exact ⟨h0, h1, hP.sub isC (wl_mapfm hC), hK, hN, hD.sub isC hnC hC⟩
  · rintro a s o t ⟨h0, h1, hP, hK, hN, hD⟩ ⟨⟨⟨ho, hP1, hK1, hD1⟩, hF⟩, L, hL1, hL2⟩
    subst h1
    have hDs : va_D (va_A w' s.heap.size) w' := hD.self
    obtain ⟨hP2, hD2⟩ := va_join (wr := wr) (w1 := Wo x0) hP hDs isC isR hC hR hnR hdis hF.2 sub hP1 hD1
    exact ⟨⟨⟨ho, hP2.sub perm (wl_mapfm (hperm x0)), hK1, hD2.sub perm hnp (hperm x0)⟩, hF.1, fun q h3 h4 => hF.2 q h3 (fun z => h4 (sub q z))⟩, L, hL1, fun q hq => sub _ (hL2 q hq)⟩
/-! functions: a let, loops -/
def wl_bnd {α β : Type} (v : α) (k : α → β) : β := k v
theorem wl_bz {α β : Type} {X : β} {v z : α} {k : α → β} (h : X = wl_bnd v k) (hz : z = v) : X = k z := by rw [h, hz]; rfl
def wl_iter {σ : Type} (f : Nat → σ → σ) : Nat → Nat → σ → σ
  | 0, _, v => v
  | n + 1, k, v => wl_iter f n (k + 1) (f k v)
def wl_run {σ ρ : Type} (f : σ → σ ⊕ ρ) (d : ρ) : Nat → σ → ρ
  | 0, _ => d
  | n + 1, v => match f v with
    | .inl v' => wl_run f d n v'
    | .inr r => r
theorem wl_run_l {σ ρ : Type} {f : σ → σ ⊕ ρ} {d R : ρ} {n : Nat} {v v' : σ} (h : wl_run f d (n + 1) v = R) (e : f v = .inl v') : wl_run f d n v' = R := by rw [← h, wl_run, e]
theorem wl_run_r {σ ρ : Type} {f : σ → σ ⊕ ρ} {d R r : ρ} {n : Nat} {v : σ} (h : wl_run f d (n + 1) v = R) (e : f v = .inr r) : R = r := by rw [← h, wl_run, e]
/-! rows for small numbers and booleans -/
abbrev cl (x : Int32) : Nat := x.toNatClampNeg
def wl_b (b : Bool) : Int32 := nI (cond b 1 0)
theorem wl_b_nar (b : Bool) : narrow .boolean (.int (wl_b b)) = .int (wl_b b) := by cases b <;> decide +kernel
theorem wl_b_vnar (b : Bool) : vp_nar .boolean (wl_b b) = wl_b b := by cases b <;> decide +kernel
theorem wl_b_fit (b : Bool) : fits .boolean (.int (wl_b b)) = true := by cases b <;> decide +kernel
theorem wl_b_0 (b : Bool) : (wl_b b = 0) ↔ ¬ b = true := by cases b <;> decide +kernel
theorem wl_b_eq (a b : Bool) : (wl_b a = wl_b b) ↔ a = b := by cases a <;> cases b <;> decide +kernel
theorem wl_inc (k n : Nat) : nI k + Int32.ofInt (n : Int) = nI (k + n) := by
  rw [← nI_add]
  exact congrArg (nI k + ·) (by first | exact Int32.ofInt_natCast n | exact Int32.ofInt_eq_ofNat | (show Int32.ofInt (n : Int) = Int32.ofNat n; exact Int32.toBitVec_inj.mp (BitVec.ofInt_natCast 32 n)) | (show Int32.ofInt (n : Int) = Int32.ofNat n; apply Int32.toBitVec_inj.mp; simp [Int32.ofInt, Int32.ofNat]))
theorem wl_zero : (0 : Int32) = nI 0 := by decide +kernel
section WLR
variable {p : Program} {l : Launch} {e : Env} {R : Room} {s : State} {m : MethodId} {args : Array Value} {below : List Frame} {meth : Method} {c : Code} {H : Heap} {locs : List Loc} {cells slots : Nat} {Q : State → Prop}
variable {cc : ByteArray} {pc : Nat} {ls : Array Slot} {rest : List Value} {off : Int} {tgt : Nat}
theorem wl_re {x y : Int32} (h : x = y) (k : W p l e R s m args below meth c H locs cells slots Q (F0 m pc ls (.int y :: rest))) : W p l e R s m args below meth c H locs cells slots Q (F0 m pc ls (.int x :: rest)) := h ▸ k
theorem wl_reL {x y : Int64} (h : x = y) (k : W p l e R s m args below meth c H locs cells slots Q (F0 m pc ls (.long y :: rest))) : W p l e R s m args below meth c H locs cells slots Q (F0 m pc ls (.long x :: rest)) := h ▸ k
theorem wl_icmp_eq_n (hx : p.tables.exec = Jvm.exec) (hb : c.code = cc) {a b : Nat} (ha : a < 2 ^ 31) (hb2 : b < 2 ^ 31) (hdg : decode cc pc = .ok (.if_icmp .eq off, 3)) (ht : (pc : Int) + off = (tgt : Int)) (kt : a = b → W p l e R s m args below meth c H locs cells slots Q (F0 m tgt ls rest)) (kf : ¬ a = b → W p l e R s m args below meth c H locs cells slots Q (F0 m (pc + 3) ls rest)) : W p l e R s m args below meth c H locs cells slots Q (F0 m pc ls (.int (nI b) :: .int (nI a) :: rest)) :=
  lv_icmp_eq hx hb hdg ht (fun h => kt ((nI_eq ha hb2).mp h)) (fun h => kf (fun q => h ((nI_eq ha hb2).mpr q)))
theorem wl_icmp_ne_n (hx : p.tables.exec = Jvm.exec) (hb : c.code = cc) {a b : Nat} (ha : a < 2 ^ 31) (hb2 : b < 2 ^ 31) (hdg : decode cc pc = .ok (.if_icmp .ne off, 3)) (ht : (pc : Int) + off = (tgt : Int)) (kt : ¬ a = b → W p l e R s m args below meth c H locs cells slots Q (F0 m tgt ls rest)) (kf : a = b → W p l e R s m args below meth c H locs cells slots Q (F0 m (pc + 3) ls rest)) : W p l e R s m args below meth c H locs cells slots Q (F0 m pc ls (.int (nI b) :: .int (nI a) :: rest)) :=
  lv_icmp_ne hx hb hdg ht (fun h => kt (fun q => h ((nI_eq ha hb2).mpr q))) (fun h => kf ((nI_eq ha hb2).mp h))
theorem wl_icmp_lt_n (hx : p.tables.exec = Jvm.exec) (hb : c.code = cc) {a b : Nat} (ha : a < 2 ^ 31) (hb2 : b < 2 ^ 31) (hdg : decode cc pc = .ok (.if_icmp .lt off, 3)) (ht : (pc : Int) + off = (tgt : Int)) (kt : a < b → W p l e R s m args below meth c H locs cells slots Q (F0 m tgt ls rest)) (kf : ¬ a < b → W p l e R s m args below meth c H locs cells slots Q (F0 m (pc + 3) ls rest)) : W p l e R s m args below meth c H locs cells slots Q (F0 m pc ls (.int (nI b) :: .int (nI a) :: rest)) :=
  lv_icmp_lt hx hb hdg ht (fun h => kt ((nI_ltI ha hb2).mp h)) (fun h => kf (fun q => h ((nI_ltI ha hb2).mpr q)))
theorem wl_icmp_ge_n (hx : p.tables.exec = Jvm.exec) (hb : c.code = cc) {a b : Nat} (ha : a < 2 ^ 31) (hb2 : b < 2 ^ 31) (hdg : decode cc pc = .ok (.if_icmp .ge off, 3)) (ht : (pc : Int) + off = (tgt : Int)) (kt : b ≤ a → W p l e R s m args below meth c H locs cells slots Q (F0 m tgt ls rest)) (kf : ¬ b ≤ a → W p l e R s m args below meth c H locs cells slots Q (F0 m (pc + 3) ls rest)) : W p l e R s m args below meth c H locs cells slots Q (F0 m pc ls (.int (nI b) :: .int (nI a) :: rest)) :=
  lv_icmp_ge hx hb hdg ht (fun h => kt ((nI_leI hb2 ha).mp h)) (fun h => kf (fun q => h ((nI_leI hb2 ha).mpr q)))
theorem wl_icmp_gt_n (hx : p.tables.exec = Jvm.exec) (hb : c.code = cc) {a b : Nat} (ha : a < 2 ^ 31) (hb2 : b < 2 ^ 31) (hdg : decode cc pc = .ok (.if_icmp .gt off, 3)) (ht : (pc : Int) + off = (tgt : Int)) (kt : b < a → W p l e R s m args below meth c H locs cells slots Q (F0 m tgt ls rest)) (kf : ¬ b < a → W p l e R s m args below meth c H locs cells slots Q (F0 m (pc + 3) ls rest)) : W p l e R s m args below meth c H locs cells slots Q (F0 m pc ls (.int (nI b) :: .int (nI a) :: rest)) :=
  lv_icmp_gt hx hb hdg ht (fun h => kt ((nI_ltI hb2 ha).mp h)) (fun h => kf (fun q => h ((nI_ltI hb2 ha).mpr q)))
theorem wl_icmp_le_n (hx : p.tables.exec = Jvm.exec) (hb : c.code = cc) {a b : Nat} (ha : a < 2 ^ 31) (hb2 : b < 2 ^ 31) (hdg : decode cc pc = .ok (.if_icmp .le off, 3)) (ht : (pc : Int) + off = (tgt : Int)) (kt : a ≤ b → W p l e R s m args below meth c H locs cells slots Q (F0 m tgt ls rest)) (kf : ¬ a ≤ b → W p l e R s m args below meth c H locs cells slots Q (F0 m (pc + 3) ls rest)) : W p l e R s m args below meth c H locs cells slots Q (F0 m pc ls (.int (nI b) :: .int (nI a) :: rest)) :=
  lv_icmp_le hx hb hdg ht (fun h => kt ((nI_leI ha hb2).mp h)) (fun h => kf (fun q => h ((nI_leI ha hb2).mpr q)))
theorem wl_if_eq_n (hx : p.tables.exec = Jvm.exec) (hb : c.code = cc) {a : Nat} (ha : a < 2 ^ 31) (hdg : decode cc pc = .ok (.ifCond .eq off, 3)) (ht : (pc : Int) + off = (tgt : Int)) (kt : a = 0 → W p l e R s m args below meth c H locs cells slots Q (F0 m tgt ls rest)) (kf : ¬ a = 0 → W p l e R s m args below meth c H locs cells slots Q (F0 m (pc + 3) ls rest)) : W p l e R s m args below meth c H locs cells slots Q (F0 m pc ls (.int (nI a) :: rest)) :=
  lv_if_eq hx hb hdg ht (fun h => kt ((nI_eq ha (by decide)).mp (by rw [h]; exact wl_zero))) (fun h => kf (fun q => h (by rw [q]; exact wl_zero.symm)))
theorem wl_if_ne_n (hx : p.tables.exec = Jvm.exec) (hb : c.code = cc) {a : Nat} (ha : a < 2 ^ 31) (hdg : decode cc pc = .ok (.ifCond .ne off, 3)) (ht : (pc : Int) + off = (tgt : Int)) (kt : ¬ a = 0 → W p l e R s m args below meth c H locs cells slots Q (F0 m tgt ls rest)) (kf : a = 0 → W p l e R s m args below meth c H locs cells slots Q (F0 m (pc + 3) ls rest)) : W p l e R s m args below meth c H locs cells slots Q (F0 m pc ls (.int (nI a) :: rest)) :=
  lv_if_ne hx hb hdg ht (fun h => kt (fun q => h (by rw [q]; exact wl_zero.symm))) (fun h => kf ((nI_eq ha (by decide)).mp (by rw [h]; exact wl_zero)))
theorem wl_if_gt_n (hx : p.tables.exec = Jvm.exec) (hb : c.code = cc) {a : Nat} (ha : a < 2 ^ 31) (hdg : decode cc pc = .ok (.ifCond .gt off, 3)) (ht : (pc : Int) + off = (tgt : Int)) (kt : 0 < a → W p l e R s m args below meth c H locs cells slots Q (F0 m tgt ls rest)) (kf : ¬ 0 < a → W p l e R s m args below meth c H locs cells slots Q (F0 m (pc + 3) ls rest)) : W p l e R s m args below meth c H locs cells slots Q (F0 m pc ls (.int (nI a) :: rest)) :=
  lv_if_gt hx hb hdg ht (fun h => kt ((nI_ltI (by decide) ha).mp (by rw [← wl_zero]; exact h))) (fun h => kf (fun q => h (by rw [wl_zero]; exact (nI_ltI (by decide) ha).mpr q)))
theorem wl_if_le_n (hx : p.tables.exec = Jvm.exec) (hb : c.code = cc) {a : Nat} (ha : a < 2 ^ 31) (hdg : decode cc pc = .ok (.ifCond .le off, 3)) (ht : (pc : Int) + off = (tgt : Int)) (kt : ¬ 0 < a → W p l e R s m args below meth c H locs cells slots Q (F0 m tgt ls rest)) (kf : 0 < a → W p l e R s m args below meth c H locs cells slots Q (F0 m (pc + 3) ls rest)) : W p l e R s m args below meth c H locs cells slots Q (F0 m pc ls (.int (nI a) :: rest)) :=
  lv_if_le hx hb hdg ht (fun h => kt (fun q => (nI_nle q ha) h)) (fun h => kf (Nat.pos_of_ne_zero (fun q => h (by rw [q, ← wl_zero]; decide))))
theorem wl_if_lt_n (hx : p.tables.exec = Jvm.exec) (hb : c.code = cc) {a : Nat} (ha : a < 2 ^ 31) (hdg : decode cc pc = .ok (.ifCond .lt off, 3)) (ht : (pc : Int) + off = (tgt : Int)) (kf : W p l e R s m args below meth c H locs cells slots Q (F0 m (pc + 3) ls rest)) : W p l e R s m args below meth c H locs cells slots Q (F0 m pc ls (.int (nI a) :: rest)) :=
  lv_if_lt hx hb hdg ht (fun h => absurd h (nI_pos ha)) (fun _ => kf)
theorem wl_if_eq_b (hx : p.tables.exec = Jvm.exec) (hb : c.code = cc) {z : Bool} (hdg : decode cc pc = .ok (.ifCond .eq off, 3)) (ht : (pc : Int) + off = (tgt : Int)) (kt : ¬ z = true → W p l e R s m args below meth c H locs cells slots Q (F0 m tgt ls rest)) (kf : z = true → W p l e R s m args below meth c H locs cells slots Q (F0 m (pc + 3) ls rest)) : W p l e R s m args below meth c H locs cells slots Q (F0 m pc ls (.int (wl_b z) :: rest)) :=
  lv_if_eq hx hb hdg ht (fun h => kt ((wl_b_0 z).mp h)) (fun h => kf (by cases z; exact absurd ((wl_b_0 false).mpr (by decide)) h; rfl))
theorem wl_if_ne_b (hx : p.tables.exec = Jvm.exec) (hb : c.code = cc) {z : Bool} (hdg : decode cc pc = .ok (.ifCond .ne off, 3)) (ht : (pc : Int) + off = (tgt : Int)) (kt : z = true → W p l e R s m args below meth c H locs cells slots Q (F0 m tgt ls rest)) (kf : ¬ z = true → W p l e R s m args below meth c H locs cells slots Q (F0 m (pc + 3) ls rest)) : W p l e R s m args below meth c H locs cells slots Q (F0 m pc ls (.int (wl_b z) :: rest)) :=
  lv_if_ne hx hb hdg ht (fun h => kt (by cases z; exact absurd ((wl_b_0 false).mpr (by decide)) h; rfl)) (fun h => kf ((wl_b_0 z).mp h))
theorem wl_icmp_ne_b (hx : p.tables.exec = Jvm.exec) (hb : c.code = cc) {y z : Bool} (hdg : decode cc pc = .ok (.if_icmp .ne off, 3)) (ht : (pc : Int) + off = (tgt : Int)) (kt : ¬ y = z → W p l e R s m args below meth c H locs cells slots Q (F0 m tgt ls rest)) (kf : y = z → W p l e R s m args below meth c H locs cells slots Q (F0 m (pc + 3) ls rest)) : W p l e R s m args below meth c H locs cells slots Q (F0 m pc ls (.int (wl_b z) :: .int (wl_b y) :: rest)) :=
  lv_icmp_ne hx hb hdg ht (fun h => kt (fun q => h (by rw [q]))) (fun h => kf ((wl_b_eq y z).mp h))
theorem wl_icmp_eq_b (hx : p.tables.exec = Jvm.exec) (hb : c.code = cc) {y z : Bool} (hdg : decode cc pc = .ok (.if_icmp .eq off, 3)) (ht : (pc : Int) + off = (tgt : Int)) (kt : y = z → W p l e R s m args below meth c H locs cells slots Q (F0 m tgt ls rest)) (kf : ¬ y = z → W p l e R s m args below meth c H locs cells slots Q (F0 m (pc + 3) ls rest)) : W p l e R s m args below meth c H locs cells slots Q (F0 m pc ls (.int (wl_b z) :: .int (wl_b y) :: rest)) :=
  lv_icmp_eq hx hb hdg ht (fun h => kt ((wl_b_eq y z).mp h)) (fun h => kf (fun q => h (by rw [q])))
theorem wl_c_lt (hx : p.tables.exec = Jvm.exec) (hb : c.code = cc) {x y : Int64} (hdg : decode cc pc = .ok (.ifCond .lt off, 3)) (ht : (pc : Int) + off = (tgt : Int)) (kt : x < y → W p l e R s m args below meth c H locs cells slots Q (F0 m tgt ls rest)) (kf : ¬ x < y → W p l e R s m args below meth c H locs cells slots Q (F0 m (pc + 3) ls rest)) : W p l e R s m args below meth c H locs cells slots Q (F0 m pc ls (.int (lg_cmp x y) :: rest)) :=
  lv_if_lt hx hb hdg ht (fun h => kt ((lg_cmp_lt x y).mp h)) (fun h => kf (fun q => h ((lg_cmp_lt x y).mpr q)))
theorem wl_c_ge (hx : p.tables.exec = Jvm.exec) (hb : c.code = cc) {x y : Int64} (hdg : decode cc pc = .ok (.ifCond .ge off, 3)) (ht : (pc : Int) + off = (tgt : Int)) (kt : y ≤ x → W p l e R s m args below meth c H locs cells slots Q (F0 m tgt ls rest)) (kf : ¬ y ≤ x → W p l e R s m args below meth c H locs cells slots Q (F0 m (pc + 3) ls rest)) : W p l e R s m args below meth c H locs cells slots Q (F0 m pc ls (.int (lg_cmp x y) :: rest)) :=
  lv_if_ge hx hb hdg ht (fun h => kt ((lg_cmp_ge x y).mp h)) (fun h => kf (fun q => h ((lg_cmp_ge x y).mpr q)))
theorem wl_c_gt (hx : p.tables.exec = Jvm.exec) (hb : c.code = cc) {x y : Int64} (hdg : decode cc pc = .ok (.ifCond .gt off, 3)) (ht : (pc : Int) + off = (tgt : Int)) (kt : y < x → W p l e R s m args below meth c H locs cells slots Q (F0 m tgt ls rest)) (kf : ¬ y < x → W p l e R s m args below meth c H locs cells slots Q (F0 m (pc + 3) ls rest)) : W p l e R s m args below meth c H locs cells slots Q (F0 m pc ls (.int (lg_cmp x y) :: rest)) :=
  lv_if_gt hx hb hdg ht (fun h => kt ((lg_cmp_gt x y).mp h)) (fun h => kf (fun q => h ((lg_cmp_gt x y).mpr q)))
theorem wl_c_le (hx : p.tables.exec = Jvm.exec) (hb : c.code = cc) {x y : Int64} (hdg : decode cc pc = .ok (.ifCond .le off, 3)) (ht : (pc : Int) + off = (tgt : Int)) (kt : x ≤ y → W p l e R s m args below meth c H locs cells slots Q (F0 m tgt ls rest)) (kf : ¬ x ≤ y → W p l e R s m args below meth c H locs cells slots Q (F0 m (pc + 3) ls rest)) : W p l e R s m args below meth c H locs cells slots Q (F0 m pc ls (.int (lg_cmp x y) :: rest)) :=
  lv_if_le hx hb hdg ht (fun h => kt ((lg_cmp_le x y).mp h)) (fun h => kf (fun q => h ((lg_cmp_le x y).mpr q)))
theorem wl_c_eq (hx : p.tables.exec = Jvm.exec) (hb : c.code = cc) {x y : Int64} (hdg : decode cc pc = .ok (.ifCond .eq off, 3)) (ht : (pc : Int) + off = (tgt : Int)) (kt : x = y → W p l e R s m args below meth c H locs cells slots Q (F0 m tgt ls rest)) (kf : ¬ x = y → W p l e R s m args below meth c H locs cells slots Q (F0 m (pc + 3) ls rest)) : W p l e R s m args below meth c H locs cells slots Q (F0 m pc ls (.int (lg_cmp x y) :: rest)) :=
  lv_if_eq hx hb hdg ht (fun h => kt ((lg_cmp_eq x y).mp h)) (fun h => kf (fun q => h ((lg_cmp_eq x y).mpr q)))
theorem wl_c_ne (hx : p.tables.exec = Jvm.exec) (hb : c.code = cc) {x y : Int64} (hdg : decode cc pc = .ok (.ifCond .ne off, 3)) (ht : (pc : Int) + off = (tgt : Int)) (kt : ¬ x = y → W p l e R s m args below meth c H locs cells slots Q (F0 m tgt ls rest)) (kf : x = y → W p l e R s m args below meth c H locs cells slots Q (F0 m (pc + 3) ls rest)) : W p l e R s m args below meth c H locs cells slots Q (F0 m pc ls (.int (lg_cmp x y) :: rest)) :=
  lv_if_ne hx hb hdg ht (fun h => kt (fun q => h ((lg_cmp_eq x y).mpr q))) (fun h => kf ((lg_cmp_eq x y).mp h))
end WLR
theorem wl_zret {p : Program} {l : Launch} {e : Env} {R : Room} {s : State} {m : MethodId} {args : Array Value} {below : List Frame} {meth : Method} {c : Code} {H : Heap} {locs : List Loc} {cc : ByteArray} {nL pc : Nat} {own : String} {D : va_G} {E : Nat → ClassId} {ls : Array Slot} {A : Nat → Prop}
    {τ : Type} {F : τ → Option Value} {Wo : τ → va_W} {x0 x1 : τ} {v : Bool} (hC : wl_Cx p s m args c cc nL own D E) (hr : meth.sig.returnType = some .boolean) (hlk : meth.locks = false) (hm : x0 = x1) (hF : F x1 = some (.int (wl_b v))) (hP : va_P D vwCl (Wo x1) H) (hD : va_D A (Wo x1)) (hS : va_S A s.heap H locs) (hdg : decode cc pc = .ok (.ireturn, 1)) :
    W p l e R s m args below meth c H locs 0 0 (MQ below (wl_Q D E F Wo x0 A) args s 0 0 A) (F0 m pc ls [.int (wl_b v)]) :=
  W.zret hC.1 hC.2.1 hr (wl_b_nar v) (fun t ht hW => wl_fin hC hm hF hP hD hS t ht hW) hS.2.2 hdg hlk
end
section
theorem mw_0 : Cond.methodLink RX0 3 objectInit ∈ wAll := List.mem_filter.mpr ⟨List.mem_of_getElem? (i := 174) (by decide +kernel), by decide +kernel⟩
theorem mw_1 : Cond.instanceMethod objectInit ∈ wAll := List.mem_filter.mpr ⟨List.mem_of_getElem? (i := 72) (by decide +kernel), by decide +kernel⟩
theorem mw_2 : Cond.code objectInit ⟨#[0xb1]⟩ 1 none ∈ wAll := List.mem_filter.mpr ⟨List.mem_of_getElem? (i := 73) (by decide +kernel), by decide +kernel⟩
theorem mw_3 : Cond.arrayClass .byte ∈ wAll := List.mem_filter.mpr ⟨List.mem_of_getElem? (i := 195) (by decide +kernel), by decide +kernel⟩
theorem mw_4 : Cond.fieldLink RX0 9 "WantedLater$Text" "bytes" "[B" ∈ wAll := List.mem_filter.mpr ⟨List.mem_of_getElem? (i := 175) (by decide +kernel), by decide +kernel⟩
theorem mw_5 : Cond.code yX0_init cX0_init 1 none ∈ wAll := List.mem_filter.mpr ⟨List.mem_of_getElem? (i := 173) (by decide +kernel), by decide +kernel⟩
theorem mw_6 : Cond.fieldLink RX0 15 "WantedLater$Text" "length" "I" ∈ wAll := List.mem_filter.mpr ⟨List.mem_of_getElem? (i := 176) (by decide +kernel), by decide +kernel⟩
theorem mw_7 : Cond.code yX0_add cX0_add 2 (some .int) ∈ wAll := List.mem_filter.mpr ⟨List.mem_of_getElem? (i := 264) (by decide +kernel), by decide +kernel⟩
theorem mw_8 : Cond.fieldLink RX1 9 "WantedLater$Town" "counts" "I" ∈ wAll := List.mem_filter.mpr ⟨List.mem_of_getElem? (i := 80) (by decide +kernel), by decide +kernel⟩
theorem mw_9 : Cond.fieldLink RX1 28 "WantedLater$Town" "people" "I" ∈ wAll := List.mem_filter.mpr ⟨List.mem_of_getElem? (i := 83) (by decide +kernel), by decide +kernel⟩
theorem mw_10 : Cond.fieldLink RX1 31 "WantedLater$Town" "day" "I" ∈ wAll := List.mem_filter.mpr ⟨List.mem_of_getElem? (i := 86) (by decide +kernel), by decide +kernel⟩
theorem mw_11 : Cond.fieldLink RX1 34 "WantedLater$Town" "listed" "I" ∈ wAll := List.mem_filter.mpr ⟨List.mem_of_getElem? (i := 88) (by decide +kernel), by decide +kernel⟩
theorem mw_12 : Cond.fieldLink RX1 37 "WantedLater$Town" "followed" "I" ∈ wAll := List.mem_filter.mpr ⟨List.mem_of_getElem? (i := 91) (by decide +kernel), by decide +kernel⟩
theorem mw_13 : Cond.fieldLink RX1 40 "WantedLater$Town" "struck" "I" ∈ wAll := List.mem_filter.mpr ⟨List.mem_of_getElem? (i := 94) (by decide +kernel), by decide +kernel⟩
theorem mw_14 : Cond.fieldLink RX1 43 "WantedLater$Town" "noted" "I" ∈ wAll := List.mem_filter.mpr ⟨List.mem_of_getElem? (i := 96) (by decide +kernel), by decide +kernel⟩
theorem mw_15 : Cond.fieldLink RX1 46 "WantedLater$Town" "undoable" "I" ∈ wAll := List.mem_filter.mpr ⟨List.mem_of_getElem? (i := 98) (by decide +kernel), by decide +kernel⟩
theorem mw_16 : Cond.code yX1_begin cX1_begin 2 none ∈ wAll := List.mem_filter.mpr ⟨List.mem_of_getElem? (i := 244) (by decide +kernel), by decide +kernel⟩
theorem mw_17 : Cond.code yX0_sortOf cX0_sortOf 1 (some .int) ∈ wAll := List.mem_filter.mpr ⟨List.mem_of_getElem? (i := 284) (by decide +kernel), by decide +kernel⟩
theorem mw_18 : Cond.fieldLink RX0 25 "WantedLater$Text" "behind" "I" ∈ wAll := List.mem_filter.mpr ⟨List.mem_of_getElem? (i := 179) (by decide +kernel), by decide +kernel⟩
theorem mw_19 : Cond.fieldLink RX0 38 "WantedLater$Text" "start" "I" ∈ wAll := List.mem_filter.mpr ⟨List.mem_of_getElem? (i := 178) (by decide +kernel), by decide +kernel⟩
theorem mw_20 : Cond.fieldLink RX0 31 "WantedLater$Text" "sort" "I" ∈ wAll := List.mem_filter.mpr ⟨List.mem_of_getElem? (i := 180) (by decide +kernel), by decide +kernel⟩
theorem mw_21 : Cond.methodLink RX0 110 yX0_sortOf ∈ wAll := List.mem_filter.mpr ⟨List.mem_of_getElem? (i := 282) (by decide +kernel), by decide +kernel⟩
theorem mw_22 : Cond.static yX0_sortOf ∈ wAll := List.mem_filter.mpr ⟨List.mem_of_getElem? (i := 283) (by decide +kernel), by decide +kernel⟩
theorem mw_23 : Cond.initialized RX0 ∈ wAll := List.mem_filter.mpr ⟨List.mem_of_getElem? (i := 57) (by decide +kernel), by decide +kernel⟩
theorem mw_24 : Cond.code yX0_takeToken cX0_takeToken 1 none ∈ wAll := List.mem_filter.mpr ⟨List.mem_of_getElem? (i := 281) (by decide +kernel), by decide +kernel⟩
theorem mw_25 : Cond.methodLink RX0 101 yJ0_length_8abf5 ∈ wAll := List.mem_filter.mpr ⟨List.mem_of_getElem? (i := 294) (by decide +kernel), by decide +kernel⟩
theorem mw_26 : Cond.instanceMethod yJ0_length_8abf5 ∈ wAll := List.mem_filter.mpr ⟨List.mem_of_getElem? (i := 295) (by decide +kernel), by decide +kernel⟩
theorem mw_27 : Cond.selects RJ0 yJ0_length_8abf5 yJ0_length_8abf5 ∈ wAll := List.mem_filter.mpr ⟨List.mem_of_getElem? (i := 296) (by decide +kernel), by decide +kernel⟩
theorem mw_28 : Cond.initialized RJ0 ∈ wAll := List.mem_filter.mpr ⟨List.mem_of_getElem? (i := 59) (by decide +kernel), by decide +kernel⟩
theorem mw_29 : Cond.code yJ0_length_8abf5 cJ0_length_8abf5 1 (some .int) ∈ wAll := List.mem_filter.mpr ⟨List.mem_of_getElem? (i := 297) (by decide +kernel), by decide +kernel⟩
theorem mw_30 : Cond.fieldLink RJ0 9 "java/lang/String" "value" "[B" ∈ wAll := List.mem_filter.mpr ⟨List.mem_of_getElem? (i := 986) (by decide +kernel), by decide +kernel⟩
theorem mw_31 : Cond.methodLink RJ0 335 yJ0_coder_7d493 ∈ wAll := List.mem_filter.mpr ⟨List.mem_of_getElem? (i := 298) (by decide +kernel), by decide +kernel⟩
theorem mw_32 : Cond.instanceMethod yJ0_coder_7d493 ∈ wAll := List.mem_filter.mpr ⟨List.mem_of_getElem? (i := 299) (by decide +kernel), by decide +kernel⟩
theorem mw_33 : Cond.selects RJ0 yJ0_coder_7d493 yJ0_coder_7d493 ∈ wAll := List.mem_filter.mpr ⟨List.mem_of_getElem? (i := 300) (by decide +kernel), by decide +kernel⟩
theorem mw_34 : Cond.code yJ0_coder_7d493 cJ0_coder_7d493 1 (some .byte) ∈ wAll := List.mem_filter.mpr ⟨List.mem_of_getElem? (i := 301) (by decide +kernel), by decide +kernel⟩
theorem mw_35 : Cond.fieldLink RJ0 38 "java/lang/String" "COMPACT_STRINGS" "Z" ∈ wAll := List.mem_filter.mpr ⟨List.mem_of_getElem? (i := 302) (by decide +kernel), by decide +kernel⟩
theorem mw_36 : Cond.fieldLink RJ0 15 "java/lang/String" "coder" "B" ∈ wAll := List.mem_filter.mpr ⟨List.mem_of_getElem? (i := 987) (by decide +kernel), by decide +kernel⟩
theorem mw_37 : Cond.methodLink RX0 106 yJ0_charAt_5068e ∈ wAll := List.mem_filter.mpr ⟨List.mem_of_getElem? (i := 304) (by decide +kernel), by decide +kernel⟩
theorem mw_38 : Cond.instanceMethod yJ0_charAt_5068e ∈ wAll := List.mem_filter.mpr ⟨List.mem_of_getElem? (i := 305) (by decide +kernel), by decide +kernel⟩
theorem mw_39 : Cond.selects RJ0 yJ0_charAt_5068e yJ0_charAt_5068e ∈ wAll := List.mem_filter.mpr ⟨List.mem_of_getElem? (i := 306) (by decide +kernel), by decide +kernel⟩
theorem mw_40 : Cond.code yJ0_charAt_5068e cJ0_charAt_5068e 2 (some .char) ∈ wAll := List.mem_filter.mpr ⟨List.mem_of_getElem? (i := 307) (by decide +kernel), by decide +kernel⟩
theorem mw_41 : Cond.methodLink RJ0 492 yJ0_isLatin1_aae02 ∈ wAll := List.mem_filter.mpr ⟨List.mem_of_getElem? (i := 308) (by decide +kernel), by decide +kernel⟩
theorem mw_42 : Cond.instanceMethod yJ0_isLatin1_aae02 ∈ wAll := List.mem_filter.mpr ⟨List.mem_of_getElem? (i := 309) (by decide +kernel), by decide +kernel⟩
theorem mw_43 : Cond.selects RJ0 yJ0_isLatin1_aae02 yJ0_isLatin1_aae02 ∈ wAll := List.mem_filter.mpr ⟨List.mem_of_getElem? (i := 310) (by decide +kernel), by decide +kernel⟩
theorem mw_44 : Cond.code yJ0_isLatin1_aae02 cJ0_isLatin1_aae02 1 (some .boolean) ∈ wAll := List.mem_filter.mpr ⟨List.mem_of_getElem? (i := 311) (by decide +kernel), by decide +kernel⟩
theorem mw_45 : Cond.methodLink RJ0 495 yJ1_charAt_3b067 ∈ wAll := List.mem_filter.mpr ⟨List.mem_of_getElem? (i := 312) (by decide +kernel), by decide +kernel⟩
theorem mw_46 : Cond.static yJ1_charAt_3b067 ∈ wAll := List.mem_filter.mpr ⟨List.mem_of_getElem? (i := 313) (by decide +kernel), by decide +kernel⟩
theorem mw_47 : Cond.initialized RJ1 ∈ wAll := List.mem_filter.mpr ⟨List.mem_of_getElem? (i := 60) (by decide +kernel), by decide +kernel⟩
theorem mw_48 : Cond.code yJ1_charAt_3b067 cJ1_charAt_3b067 2 (some .char) ∈ wAll := List.mem_filter.mpr ⟨List.mem_of_getElem? (i := 314) (by decide +kernel), by decide +kernel⟩
theorem mw_49 : Cond.methodLink RJ1 9 yJ0_checkIndex_df160 ∈ wAll := List.mem_filter.mpr ⟨List.mem_of_getElem? (i := 315) (by decide +kernel), by decide +kernel⟩
theorem mw_50 : Cond.static yJ0_checkIndex_df160 ∈ wAll := List.mem_filter.mpr ⟨List.mem_of_getElem? (i := 316) (by decide +kernel), by decide +kernel⟩
theorem mw_51 : Cond.code yJ0_checkIndex_df160 cJ0_checkIndex_df160 2 none ∈ wAll := List.mem_filter.mpr ⟨List.mem_of_getElem? (i := 317) (by decide +kernel), by decide +kernel⟩
theorem mw_52 : Cond.fieldLink RJ0 1053 "jdk/internal/util/Preconditions" "SIOOBE_FORMATTER" "Ljava/util/function/BiFunction;" ∈ wAll := List.mem_filter.mpr ⟨List.mem_of_getElem? (i := 318) (by decide +kernel), by decide +kernel⟩
theorem mw_53 : Cond.methodLink RJ0 1059 yJ3_checkIndex_8e157 ∈ wAll := List.mem_filter.mpr ⟨List.mem_of_getElem? (i := 320) (by decide +kernel), by decide +kernel⟩
theorem mw_54 : Cond.static yJ3_checkIndex_8e157 ∈ wAll := List.mem_filter.mpr ⟨List.mem_of_getElem? (i := 321) (by decide +kernel), by decide +kernel⟩
theorem mw_55 : Cond.initialized RJ3 ∈ wAll := List.mem_filter.mpr ⟨List.mem_of_getElem? (i := 61) (by decide +kernel), by decide +kernel⟩
theorem mw_56 : Cond.code yJ3_checkIndex_8e157 cJ3_checkIndex_8e157 3 (some .int) ∈ wAll := List.mem_filter.mpr ⟨List.mem_of_getElem? (i := 322) (by decide +kernel), by decide +kernel⟩
theorem mw_57 : Cond.methodLink RJ0 498 yJ2_charAt_3b067 ∈ wAll := List.mem_filter.mpr ⟨List.mem_of_getElem? (i := 323) (by decide +kernel), by decide +kernel⟩
theorem mw_58 : Cond.static yJ2_charAt_3b067 ∈ wAll := List.mem_filter.mpr ⟨List.mem_of_getElem? (i := 324) (by decide +kernel), by decide +kernel⟩
theorem mw_59 : Cond.initialized RJ2 ∈ wAll := List.mem_filter.mpr ⟨List.mem_of_getElem? (i := 62) (by decide +kernel), by decide +kernel⟩
theorem mw_60 : Cond.code yJ2_charAt_3b067 cJ2_charAt_3b067 2 (some .char) ∈ wAll := List.mem_filter.mpr ⟨List.mem_of_getElem? (i := 325) (by decide +kernel), by decide +kernel⟩
theorem mw_61 : Cond.methodLink RJ2 67 yJ2_checkIndex_2214a ∈ wAll := List.mem_filter.mpr ⟨List.mem_of_getElem? (i := 326) (by decide +kernel), by decide +kernel⟩
theorem mw_62 : Cond.static yJ2_checkIndex_2214a ∈ wAll := List.mem_filter.mpr ⟨List.mem_of_getElem? (i := 327) (by decide +kernel), by decide +kernel⟩
theorem mw_63 : Cond.code yJ2_checkIndex_2214a cJ2_checkIndex_2214a 2 none ∈ wAll := List.mem_filter.mpr ⟨List.mem_of_getElem? (i := 328) (by decide +kernel), by decide +kernel⟩
theorem mw_64 : Cond.methodLink RJ2 48 yJ2_length_9d52b ∈ wAll := List.mem_filter.mpr ⟨List.mem_of_getElem? (i := 329) (by decide +kernel), by decide +kernel⟩
theorem mw_65 : Cond.static yJ2_length_9d52b ∈ wAll := List.mem_filter.mpr ⟨List.mem_of_getElem? (i := 330) (by decide +kernel), by decide +kernel⟩
theorem mw_66 : Cond.code yJ2_length_9d52b cJ2_length_9d52b 1 (some .int) ∈ wAll := List.mem_filter.mpr ⟨List.mem_of_getElem? (i := 331) (by decide +kernel), by decide +kernel⟩
theorem mw_67 : Cond.methodLink RJ2 414 yJ0_checkIndex_df160 ∈ wAll := List.mem_filter.mpr ⟨List.mem_of_getElem? (i := 332) (by decide +kernel), by decide +kernel⟩
theorem mw_68 : Cond.methodLink RJ2 71 yJ2_getChar_3b067 ∈ wAll := List.mem_filter.mpr ⟨List.mem_of_getElem? (i := 333) (by decide +kernel), by decide +kernel⟩
theorem mw_69 : Cond.static yJ2_getChar_3b067 ∈ wAll := List.mem_filter.mpr ⟨List.mem_of_getElem? (i := 334) (by decide +kernel), by decide +kernel⟩
theorem mw_70 : Cond.code yJ2_getChar_3b067 cJ2_getChar_3b067 2 (some .char) ∈ wAll := List.mem_filter.mpr ⟨List.mem_of_getElem? (i := 335) (by decide +kernel), by decide +kernel⟩
theorem mw_71 : Cond.fieldLink RJ2 44 "java/lang/StringUTF16" "$assertionsDisabled" "Z" ∈ wAll := List.mem_filter.mpr ⟨List.mem_of_getElem? (i := 336) (by decide +kernel), by decide +kernel⟩
theorem mw_72 : Cond.fieldLink RJ2 59 "java/lang/StringUTF16" "HI_BYTE_SHIFT" "I" ∈ wAll := List.mem_filter.mpr ⟨List.mem_of_getElem? (i := 338) (by decide +kernel), by decide +kernel⟩
theorem mw_73 : Cond.fieldLink RJ2 63 "java/lang/StringUTF16" "LO_BYTE_SHIFT" "I" ∈ wAll := List.mem_filter.mpr ⟨List.mem_of_getElem? (i := 340) (by decide +kernel), by decide +kernel⟩
theorem mw_74 : Cond.code yX0_isWord cX0_isWord 3 (some .boolean) ∈ wAll := List.mem_filter.mpr ⟨List.mem_of_getElem? (i := 293) (by decide +kernel), by decide +kernel⟩
theorem mw_75 : Cond.code yX3_isWithin cX3_isWithin 3 (some .boolean) ∈ wAll := List.mem_filter.mpr ⟨List.mem_of_getElem? (i := 236) (by decide +kernel), by decide +kernel⟩
theorem mw_76 : Cond.fieldLink RX0 70 "WantedLater$Text" "number" "I" ∈ wAll := List.mem_filter.mpr ⟨List.mem_of_getElem? (i := 181) (by decide +kernel), by decide +kernel⟩
theorem mw_77 : Cond.methodLink RX0 28 yX0_takeToken ∈ wAll := List.mem_filter.mpr ⟨List.mem_of_getElem? (i := 278) (by decide +kernel), by decide +kernel⟩
theorem mw_78 : Cond.instanceMethod yX0_takeToken ∈ wAll := List.mem_filter.mpr ⟨List.mem_of_getElem? (i := 280) (by decide +kernel), by decide +kernel⟩
theorem mw_79 : Cond.selects RX0 yX0_takeToken yX0_takeToken ∈ wAll := List.mem_filter.mpr ⟨List.mem_of_getElem? (i := 2) (by decide +kernel), by decide +kernel⟩
theorem mw_80 : Cond.static yX3_isWithin ∈ wAll := List.mem_filter.mpr ⟨List.mem_of_getElem? (i := 235) (by decide +kernel), by decide +kernel⟩
theorem mw_81 : Cond.initialized RX3 ∈ wAll := List.mem_filter.mpr ⟨List.mem_of_getElem? (i := 54) (by decide +kernel), by decide +kernel⟩
theorem mw_82 : Cond.code yX0_takesNumber cX0_takesNumber 4 (some .boolean) ∈ wAll := List.mem_filter.mpr ⟨List.mem_of_getElem? (i := 349) (by decide +kernel), by decide +kernel⟩
theorem mw_83 : Cond.code yX0_takesStop cX0_takesStop 1 (some .boolean) ∈ wAll := List.mem_filter.mpr ⟨List.mem_of_getElem? (i := 354) (by decide +kernel), by decide +kernel⟩
theorem mw_84 : Cond.fieldLink RX0 73 "WantedLater$Town" "counts" "I" ∈ wAll := List.mem_filter.mpr ⟨List.mem_of_getElem? (i := 81) (by decide +kernel), by decide +kernel⟩
theorem mw_85 : Cond.methodLink RX0 66 yX0_takesNumber ∈ wAll := List.mem_filter.mpr ⟨List.mem_of_getElem? (i := 346) (by decide +kernel), by decide +kernel⟩
theorem mw_86 : Cond.instanceMethod yX0_takesNumber ∈ wAll := List.mem_filter.mpr ⟨List.mem_of_getElem? (i := 348) (by decide +kernel), by decide +kernel⟩
theorem mw_87 : Cond.selects RX0 yX0_takesNumber yX0_takesNumber ∈ wAll := List.mem_filter.mpr ⟨List.mem_of_getElem? (i := 6) (by decide +kernel), by decide +kernel⟩
theorem mw_88 : Cond.methodLink RX0 76 yX0_takesStop ∈ wAll := List.mem_filter.mpr ⟨List.mem_of_getElem? (i := 351) (by decide +kernel), by decide +kernel⟩
theorem mw_89 : Cond.instanceMethod yX0_takesStop ∈ wAll := List.mem_filter.mpr ⟨List.mem_of_getElem? (i := 353) (by decide +kernel), by decide +kernel⟩
theorem mw_90 : Cond.selects RX0 yX0_takesStop yX0_takesStop ∈ wAll := List.mem_filter.mpr ⟨List.mem_of_getElem? (i := 7) (by decide +kernel), by decide +kernel⟩
theorem mw_91 : Cond.code yX0_takesTown cX0_takesTown 2 (some .boolean) ∈ wAll := List.mem_filter.mpr ⟨List.mem_of_getElem? (i := 345) (by decide +kernel), by decide +kernel⟩
theorem mw_92 : Cond.fieldLink RX1 15 "WantedLater$Town" "kinds" "[I" ∈ wAll := List.mem_filter.mpr ⟨List.mem_of_getElem? (i := 100) (by decide +kernel), by decide +kernel⟩
theorem mw_93 : Cond.fieldLink RX1 19 "WantedLater$Town" "tempers" "[I" ∈ wAll := List.mem_filter.mpr ⟨List.mem_of_getElem? (i := 102) (by decide +kernel), by decide +kernel⟩
theorem mw_94 : Cond.code yX1_addOne cX1_addOne 3 (some .int) ∈ wAll := List.mem_filter.mpr ⟨List.mem_of_getElem? (i := 256) (by decide +kernel), by decide +kernel⟩
theorem mw_95 : Cond.fieldLink RX0 80 "WantedLater$Town" "people" "I" ∈ wAll := List.mem_filter.mpr ⟨List.mem_of_getElem? (i := 85) (by decide +kernel), by decide +kernel⟩
theorem mw_96 : Cond.methodLink RX0 83 yX1_addOne ∈ wAll := List.mem_filter.mpr ⟨List.mem_of_getElem? (i := 360) (by decide +kernel), by decide +kernel⟩
theorem mw_97 : Cond.instanceMethod yX1_addOne ∈ wAll := List.mem_filter.mpr ⟨List.mem_of_getElem? (i := 254) (by decide +kernel), by decide +kernel⟩
theorem mw_98 : Cond.selects RX1 yX1_addOne yX1_addOne ∈ wAll := List.mem_filter.mpr ⟨List.mem_of_getElem? (i := 255) (by decide +kernel), by decide +kernel⟩
theorem mw_99 : Cond.initialized RX1 ∈ wAll := List.mem_filter.mpr ⟨List.mem_of_getElem? (i := 55) (by decide +kernel), by decide +kernel⟩
theorem mw_100 : Cond.code yX0_takesOne cX0_takesOne 3 (some .boolean) ∈ wAll := List.mem_filter.mpr ⟨List.mem_of_getElem? (i := 359) (by decide +kernel), by decide +kernel⟩
theorem mw_101 : Cond.code yX3_withBit cX3_withBit 3 (some .int) ∈ wAll := List.mem_filter.mpr ⟨List.mem_of_getElem? (i := 368) (by decide +kernel), by decide +kernel⟩
theorem mw_102 : Cond.fieldLink RX0 87 "WantedLater$Town" "listed" "I" ∈ wAll := List.mem_filter.mpr ⟨List.mem_of_getElem? (i := 89) (by decide +kernel), by decide +kernel⟩
theorem mw_103 : Cond.static yX3_withBit ∈ wAll := List.mem_filter.mpr ⟨List.mem_of_getElem? (i := 367) (by decide +kernel), by decide +kernel⟩
theorem mw_104 : Cond.code yX0_takesListed cX0_takesListed 2 (some .boolean) ∈ wAll := List.mem_filter.mpr ⟨List.mem_of_getElem? (i := 365) (by decide +kernel), by decide +kernel⟩
theorem mw_105 : Cond.fieldLink RX0 94 "WantedLater$Town" "followed" "I" ∈ wAll := List.mem_filter.mpr ⟨List.mem_of_getElem? (i := 92) (by decide +kernel), by decide +kernel⟩
theorem mw_106 : Cond.code yX0_takesFollowed cX0_takesFollowed 2 (some .boolean) ∈ wAll := List.mem_filter.mpr ⟨List.mem_of_getElem? (i := 373) (by decide +kernel), by decide +kernel⟩
theorem mw_107 : Cond.methodLink RX0 43 yX0_isWord ∈ wAll := List.mem_filter.mpr ⟨List.mem_of_getElem? (i := 290) (by decide +kernel), by decide +kernel⟩
theorem mw_108 : Cond.instanceMethod yX0_isWord ∈ wAll := List.mem_filter.mpr ⟨List.mem_of_getElem? (i := 292) (by decide +kernel), by decide +kernel⟩
theorem mw_109 : Cond.selects RX0 yX0_isWord yX0_isWord ∈ wAll := List.mem_filter.mpr ⟨List.mem_of_getElem? (i := 4) (by decide +kernel), by decide +kernel⟩
theorem mw_110 : Cond.methodLink RX0 47 yX0_takesTown ∈ wAll := List.mem_filter.mpr ⟨List.mem_of_getElem? (i := 342) (by decide +kernel), by decide +kernel⟩
theorem mw_111 : Cond.instanceMethod yX0_takesTown ∈ wAll := List.mem_filter.mpr ⟨List.mem_of_getElem? (i := 344) (by decide +kernel), by decide +kernel⟩
theorem mw_112 : Cond.selects RX0 yX0_takesTown yX0_takesTown ∈ wAll := List.mem_filter.mpr ⟨List.mem_of_getElem? (i := 5) (by decide +kernel), by decide +kernel⟩
theorem mw_113 : Cond.methodLink RX0 53 yX0_takesOne ∈ wAll := List.mem_filter.mpr ⟨List.mem_of_getElem? (i := 356) (by decide +kernel), by decide +kernel⟩
theorem mw_114 : Cond.instanceMethod yX0_takesOne ∈ wAll := List.mem_filter.mpr ⟨List.mem_of_getElem? (i := 358) (by decide +kernel), by decide +kernel⟩
theorem mw_115 : Cond.selects RX0 yX0_takesOne yX0_takesOne ∈ wAll := List.mem_filter.mpr ⟨List.mem_of_getElem? (i := 8) (by decide +kernel), by decide +kernel⟩
theorem mw_116 : Cond.methodLink RX0 58 yX0_takesListed ∈ wAll := List.mem_filter.mpr ⟨List.mem_of_getElem? (i := 362) (by decide +kernel), by decide +kernel⟩
theorem mw_117 : Cond.instanceMethod yX0_takesListed ∈ wAll := List.mem_filter.mpr ⟨List.mem_of_getElem? (i := 364) (by decide +kernel), by decide +kernel⟩
theorem mw_118 : Cond.selects RX0 yX0_takesListed yX0_takesListed ∈ wAll := List.mem_filter.mpr ⟨List.mem_of_getElem? (i := 9) (by decide +kernel), by decide +kernel⟩
theorem mw_119 : Cond.methodLink RX0 63 yX0_takesFollowed ∈ wAll := List.mem_filter.mpr ⟨List.mem_of_getElem? (i := 370) (by decide +kernel), by decide +kernel⟩
theorem mw_120 : Cond.instanceMethod yX0_takesFollowed ∈ wAll := List.mem_filter.mpr ⟨List.mem_of_getElem? (i := 372) (by decide +kernel), by decide +kernel⟩
theorem mw_121 : Cond.selects RX0 yX0_takesFollowed yX0_takesFollowed ∈ wAll := List.mem_filter.mpr ⟨List.mem_of_getElem? (i := 10) (by decide +kernel), by decide +kernel⟩
theorem mw_122 : Cond.code yX0_takesItem cX0_takesItem 3 (some .boolean) ∈ wAll := List.mem_filter.mpr ⟨List.mem_of_getElem? (i := 288) (by decide +kernel), by decide +kernel⟩
theorem mw_123 : Cond.methodLink RX0 19 yX1_begin ∈ wAll := List.mem_filter.mpr ⟨List.mem_of_getElem? (i := 277) (by decide +kernel), by decide +kernel⟩
theorem mw_124 : Cond.instanceMethod yX1_begin ∈ wAll := List.mem_filter.mpr ⟨List.mem_of_getElem? (i := 242) (by decide +kernel), by decide +kernel⟩
theorem mw_125 : Cond.selects RX1 yX1_begin yX1_begin ∈ wAll := List.mem_filter.mpr ⟨List.mem_of_getElem? (i := 243) (by decide +kernel), by decide +kernel⟩
theorem mw_126 : Cond.methodLink RX0 34 yX0_takesItem ∈ wAll := List.mem_filter.mpr ⟨List.mem_of_getElem? (i := 285) (by decide +kernel), by decide +kernel⟩
theorem mw_127 : Cond.instanceMethod yX0_takesItem ∈ wAll := List.mem_filter.mpr ⟨List.mem_of_getElem? (i := 287) (by decide +kernel), by decide +kernel⟩
theorem mw_128 : Cond.selects RX0 yX0_takesItem yX0_takesItem ∈ wAll := List.mem_filter.mpr ⟨List.mem_of_getElem? (i := 3) (by decide +kernel), by decide +kernel⟩
theorem mw_129 : Cond.code yX0_readInto cX0_readInto 3 (some .int) ∈ wAll := List.mem_filter.mpr ⟨List.mem_of_getElem? (i := 276) (by decide +kernel), by decide +kernel⟩
theorem mw_130 : Cond.methodLink RX1 3 objectInit ∈ wAll := List.mem_filter.mpr ⟨List.mem_of_getElem? (i := 79) (by decide +kernel), by decide +kernel⟩
theorem mw_131 : Cond.arrayClass .int ∈ wAll := List.mem_filter.mpr ⟨List.mem_of_getElem? (i := 132) (by decide +kernel), by decide +kernel⟩
theorem mw_132 : Cond.fieldLink RX1 22 "WantedLater$Town" "notes" "[I" ∈ wAll := List.mem_filter.mpr ⟨List.mem_of_getElem? (i := 104) (by decide +kernel), by decide +kernel⟩
theorem mw_133 : Cond.fieldLink RX1 25 "WantedLater$Town" "past" "[I" ∈ wAll := List.mem_filter.mpr ⟨List.mem_of_getElem? (i := 106) (by decide +kernel), by decide +kernel⟩
theorem mw_134 : Cond.code yX1_init cX1_init 1 none ∈ wAll := List.mem_filter.mpr ⟨List.mem_of_getElem? (i := 78) (by decide +kernel), by decide +kernel⟩
theorem mw_135 : Cond.methodLink RX1 49 arraycopyName ∈ wAll := List.mem_filter.mpr ⟨List.mem_of_getElem? (i := 378) (by decide +kernel), by decide +kernel⟩
theorem mw_136 : Cond.native arraycopyName ∈ wAll := List.mem_filter.mpr ⟨List.mem_of_getElem? (i := 380) (by decide +kernel), by decide +kernel⟩
theorem mw_137 : Cond.static arraycopyName ∈ wAll := List.mem_filter.mpr ⟨List.mem_of_getElem? (i := 379) (by decide +kernel), by decide +kernel⟩
theorem mw_138 : Cond.initialized "java/lang/System" ∈ wAll := List.mem_filter.mpr ⟨List.mem_of_getElem? (i := 63) (by decide +kernel), by decide +kernel⟩
theorem mw_139 : Cond.code yX1_copyFrom cX1_copyFrom 2 none ∈ wAll := List.mem_filter.mpr ⟨List.mem_of_getElem? (i := 377) (by decide +kernel), by decide +kernel⟩
theorem mw_140 : Cond.code yX1_addNote cX1_addNote 7 (some .int) ∈ wAll := List.mem_filter.mpr ⟨List.mem_of_getElem? (i := 542) (by decide +kernel), by decide +kernel⟩
theorem mw_141 : Cond.methodLink RX3 253 Lib.Math.min.name ∈ wAll := List.mem_filter.mpr ⟨List.mem_of_getElem? (i := 425) (by decide +kernel), by decide +kernel⟩
theorem mw_142 : Cond.static Lib.Math.min.name ∈ wAll := List.mem_filter.mpr ⟨List.mem_of_getElem? (i := 426) (by decide +kernel), by decide +kernel⟩
theorem mw_143 : Cond.initialized "java/lang/Math" ∈ wAll := List.mem_filter.mpr ⟨List.mem_of_getElem? (i := 64) (by decide +kernel), by decide +kernel⟩
theorem mw_144 : Cond.code Lib.Math.min.name Lib.Math.min.code 2 (some .int) ∈ wAll := List.mem_filter.mpr ⟨List.mem_of_getElem? (i := 427) (by decide +kernel), by decide +kernel⟩
theorem mw_145 : Cond.methodLink RX3 248 Lib.Math.max.name ∈ wAll := List.mem_filter.mpr ⟨List.mem_of_getElem? (i := 428) (by decide +kernel), by decide +kernel⟩
theorem mw_146 : Cond.static Lib.Math.max.name ∈ wAll := List.mem_filter.mpr ⟨List.mem_of_getElem? (i := 429) (by decide +kernel), by decide +kernel⟩
theorem mw_147 : Cond.code Lib.Math.max.name Lib.Math.max.code 2 (some .int) ∈ wAll := List.mem_filter.mpr ⟨List.mem_of_getElem? (i := 430) (by decide +kernel), by decide +kernel⟩
theorem mw_148 : Cond.code yX3_actOf cX3_actOf 7 (some .int) ∈ wAll := List.mem_filter.mpr ⟨List.mem_of_getElem? (i := 424) (by decide +kernel), by decide +kernel⟩
theorem mw_149 : Cond.static yX3_actOf ∈ wAll := List.mem_filter.mpr ⟨List.mem_of_getElem? (i := 423) (by decide +kernel), by decide +kernel⟩
theorem mw_150 : Cond.code yX1_isNoteSo cX1_isNoteSo 4 (some .boolean) ∈ wAll := List.mem_filter.mpr ⟨List.mem_of_getElem? (i := 558) (by decide +kernel), by decide +kernel⟩
theorem mw_151 : Cond.methodLink RX1 59 yX1_isNoteSo ∈ wAll := List.mem_filter.mpr ⟨List.mem_of_getElem? (i := 555) (by decide +kernel), by decide +kernel⟩
theorem mw_152 : Cond.instanceMethod yX1_isNoteSo ∈ wAll := List.mem_filter.mpr ⟨List.mem_of_getElem? (i := 556) (by decide +kernel), by decide +kernel⟩
theorem mw_153 : Cond.selects RX1 yX1_isNoteSo yX1_isNoteSo ∈ wAll := List.mem_filter.mpr ⟨List.mem_of_getElem? (i := 557) (by decide +kernel), by decide +kernel⟩
theorem mw_154 : Cond.code yX1_kindsByNotes cX1_kindsByNotes 6 (some .int) ∈ wAll := List.mem_filter.mpr ⟨List.mem_of_getElem? (i := 554) (by decide +kernel), by decide +kernel⟩
theorem mw_155 : Cond.code yX3_bitOf cX3_bitOf 2 (some .int) ∈ wAll := List.mem_filter.mpr ⟨List.mem_of_getElem? (i := 391) (by decide +kernel), by decide +kernel⟩
theorem mw_156 : Cond.fieldLink RX1 67 "WantedLater$Walk" "kind" "I" ∈ wAll := List.mem_filter.mpr ⟨List.mem_of_getElem? (i := 141) (by decide +kernel), by decide +kernel⟩
theorem mw_157 : Cond.fieldLink RX1 72 "WantedLater$Walk" "temper" "I" ∈ wAll := List.mem_filter.mpr ⟨List.mem_of_getElem? (i := 143) (by decide +kernel), by decide +kernel⟩
theorem mw_158 : Cond.fieldLink RX1 75 "WantedLater$Walk" "counts" "I" ∈ wAll := List.mem_filter.mpr ⟨List.mem_of_getElem? (i := 146) (by decide +kernel), by decide +kernel⟩
theorem mw_159 : Cond.fieldLink RX1 76 "WantedLater$Walk" "day" "I" ∈ wAll := List.mem_filter.mpr ⟨List.mem_of_getElem? (i := 148) (by decide +kernel), by decide +kernel⟩
theorem mw_160 : Cond.fieldLink RX1 81 "WantedLater$Walk" "listed" "Z" ∈ wAll := List.mem_filter.mpr ⟨List.mem_of_getElem? (i := 150) (by decide +kernel), by decide +kernel⟩
theorem mw_161 : Cond.fieldLink RX1 84 "WantedLater$Walk" "followed" "Z" ∈ wAll := List.mem_filter.mpr ⟨List.mem_of_getElem? (i := 153) (by decide +kernel), by decide +kernel⟩
theorem mw_162 : Cond.static yX3_bitOf ∈ wAll := List.mem_filter.mpr ⟨List.mem_of_getElem? (i := 390) (by decide +kernel), by decide +kernel⟩
theorem mw_163 : Cond.code yX1_startWalk cX1_startWalk 3 none ∈ wAll := List.mem_filter.mpr ⟨List.mem_of_getElem? (i := 412) (by decide +kernel), by decide +kernel⟩
theorem mw_164 : Cond.fieldLink RX2 9 "WantedLater$Walk" "kind" "I" ∈ wAll := List.mem_filter.mpr ⟨List.mem_of_getElem? (i := 140) (by decide +kernel), by decide +kernel⟩
theorem mw_165 : Cond.fieldLink RX2 15 "WantedLater$Walk" "day" "I" ∈ wAll := List.mem_filter.mpr ⟨List.mem_of_getElem? (i := 147) (by decide +kernel), by decide +kernel⟩
theorem mw_166 : Cond.fieldLink RX2 18 "WantedLater$Walk" "followed" "Z" ∈ wAll := List.mem_filter.mpr ⟨List.mem_of_getElem? (i := 152) (by decide +kernel), by decide +kernel⟩
theorem mw_167 : Cond.fieldLink RX2 22 "WantedLater$Walk" "temper" "I" ∈ wAll := List.mem_filter.mpr ⟨List.mem_of_getElem? (i := 142) (by decide +kernel), by decide +kernel⟩
theorem mw_168 : Cond.fieldLink RX2 29 "WantedLater$Walk" "counts" "I" ∈ wAll := List.mem_filter.mpr ⟨List.mem_of_getElem? (i := 145) (by decide +kernel), by decide +kernel⟩
theorem mw_169 : Cond.code yX2_doesIt cX2_doesIt 1 (some .boolean) ∈ wAll := List.mem_filter.mpr ⟨List.mem_of_getElem? (i := 421) (by decide +kernel), by decide +kernel⟩
theorem mw_170 : Cond.code yX3_moreOf cX3_moreOf 1 (some .int) ∈ wAll := List.mem_filter.mpr ⟨List.mem_of_getElem? (i := 433) (by decide +kernel), by decide +kernel⟩
theorem mw_171 : Cond.fieldLink RX2 32 "WantedLater$Walk" "listed" "Z" ∈ wAll := List.mem_filter.mpr ⟨List.mem_of_getElem? (i := 149) (by decide +kernel), by decide +kernel⟩
theorem mw_172 : Cond.methodLink RX2 43 Lib.Math.min.name ∈ wAll := List.mem_filter.mpr ⟨List.mem_of_getElem? (i := 434) (by decide +kernel), by decide +kernel⟩
theorem mw_173 : Cond.methodLink RX2 49 Lib.Math.max.name ∈ wAll := List.mem_filter.mpr ⟨List.mem_of_getElem? (i := 435) (by decide +kernel), by decide +kernel⟩
theorem mw_174 : Cond.methodLink RX2 35 yX2_doesIt ∈ wAll := List.mem_filter.mpr ⟨List.mem_of_getElem? (i := 418) (by decide +kernel), by decide +kernel⟩
theorem mw_175 : Cond.instanceMethod yX2_doesIt ∈ wAll := List.mem_filter.mpr ⟨List.mem_of_getElem? (i := 419) (by decide +kernel), by decide +kernel⟩
theorem mw_176 : Cond.selects RX2 yX2_doesIt yX2_doesIt ∈ wAll := List.mem_filter.mpr ⟨List.mem_of_getElem? (i := 420) (by decide +kernel), by decide +kernel⟩
theorem mw_177 : Cond.initialized RX2 ∈ wAll := List.mem_filter.mpr ⟨List.mem_of_getElem? (i := 56) (by decide +kernel), by decide +kernel⟩
theorem mw_178 : Cond.static yX3_moreOf ∈ wAll := List.mem_filter.mpr ⟨List.mem_of_getElem? (i := 432) (by decide +kernel), by decide +kernel⟩
theorem mw_179 : Cond.code yX2_goBy cX2_goBy 3 (some .boolean) ∈ wAll := List.mem_filter.mpr ⟨List.mem_of_getElem? (i := 417) (by decide +kernel), by decide +kernel⟩
theorem mw_180 : Cond.methodLink RX1 86 yX1_startWalk ∈ wAll := List.mem_filter.mpr ⟨List.mem_of_getElem? (i := 409) (by decide +kernel), by decide +kernel⟩
theorem mw_181 : Cond.instanceMethod yX1_startWalk ∈ wAll := List.mem_filter.mpr ⟨List.mem_of_getElem? (i := 410) (by decide +kernel), by decide +kernel⟩
theorem mw_182 : Cond.selects RX1 yX1_startWalk yX1_startWalk ∈ wAll := List.mem_filter.mpr ⟨List.mem_of_getElem? (i := 411) (by decide +kernel), by decide +kernel⟩
theorem mw_183 : Cond.methodLink RX1 90 yX2_goBy ∈ wAll := List.mem_filter.mpr ⟨List.mem_of_getElem? (i := 414) (by decide +kernel), by decide +kernel⟩
theorem mw_184 : Cond.instanceMethod yX2_goBy ∈ wAll := List.mem_filter.mpr ⟨List.mem_of_getElem? (i := 415) (by decide +kernel), by decide +kernel⟩
theorem mw_185 : Cond.selects RX2 yX2_goBy yX2_goBy ∈ wAll := List.mem_filter.mpr ⟨List.mem_of_getElem? (i := 416) (by decide +kernel), by decide +kernel⟩
theorem mw_186 : Cond.methodLink RX1 94 yJ6_bitCount_0f7a4 ∈ wAll := List.mem_filter.mpr ⟨List.mem_of_getElem? (i := 437) (by decide +kernel), by decide +kernel⟩
theorem mw_187 : Cond.static yJ6_bitCount_0f7a4 ∈ wAll := List.mem_filter.mpr ⟨List.mem_of_getElem? (i := 438) (by decide +kernel), by decide +kernel⟩
theorem mw_188 : Cond.initialized RJ6 ∈ wAll := List.mem_filter.mpr ⟨List.mem_of_getElem? (i := 65) (by decide +kernel), by decide +kernel⟩
theorem mw_189 : Cond.code yJ6_bitCount_0f7a4 cJ6_bitCount_0f7a4 1 (some .int) ∈ wAll := List.mem_filter.mpr ⟨List.mem_of_getElem? (i := 439) (by decide +kernel), by decide +kernel⟩
theorem mw_190 : Cond.constant RJ6 265 (1431655765) ∈ wAll := List.mem_filter.mpr ⟨List.mem_of_getElem? (i := 440) (by decide +kernel), by decide +kernel⟩
theorem mw_191 : Cond.constant RJ6 266 (858993459) ∈ wAll := List.mem_filter.mpr ⟨List.mem_of_getElem? (i := 441) (by decide +kernel), by decide +kernel⟩
theorem mw_192 : Cond.constant RJ6 267 (252645135) ∈ wAll := List.mem_filter.mpr ⟨List.mem_of_getElem? (i := 442) (by decide +kernel), by decide +kernel⟩
theorem mw_193 : Cond.code yX1_goBy cX1_goBy 4 (some .int) ∈ wAll := List.mem_filter.mpr ⟨List.mem_of_getElem? (i := 408) (by decide +kernel), by decide +kernel⟩
theorem mw_194 : Cond.code yX1_keepPast cX1_keepPast 2 none ∈ wAll := List.mem_filter.mpr ⟨List.mem_of_getElem? (i := 395) (by decide +kernel), by decide +kernel⟩
theorem mw_195 : Cond.code yX1_takePast cX1_takePast 2 none ∈ wAll := List.mem_filter.mpr ⟨List.mem_of_getElem? (i := 454) (by decide +kernel), by decide +kernel⟩
theorem mw_196 : Cond.methodLink RX2 3 objectInit ∈ wAll := List.mem_filter.mpr ⟨List.mem_of_getElem? (i := 139) (by decide +kernel), by decide +kernel⟩
theorem mw_197 : Cond.code yX2_init cX2_init 1 none ∈ wAll := List.mem_filter.mpr ⟨List.mem_of_getElem? (i := 138) (by decide +kernel), by decide +kernel⟩
theorem mw_198 : Cond.code yX2_actOfDay cX2_actOfDay 1 (some .int) ∈ wAll := List.mem_filter.mpr ⟨List.mem_of_getElem? (i := 467) (by decide +kernel), by decide +kernel⟩
theorem mw_199 : Cond.methodLink RX3 3 objectInit ∈ wAll := List.mem_filter.mpr ⟨List.mem_of_getElem? (i := 71) (by decide +kernel), by decide +kernel⟩
theorem mw_200 : Cond.classLink RX3 9 RX1 ∈ wAll := List.mem_filter.mpr ⟨List.mem_of_getElem? (i := 74) (by decide +kernel), by decide +kernel⟩
theorem mw_201 : Cond.instantiable RX1 12 ∈ wAll := List.mem_filter.mpr ⟨List.mem_of_getElem? (i := 75) (by decide +kernel), by decide +kernel⟩
theorem mw_202 : Cond.fieldLink RX3 12 "WantedLater" "now" "LWantedLater$Town;" ∈ wAll := List.mem_filter.mpr ⟨List.mem_of_getElem? (i := 196) (by decide +kernel), by decide +kernel⟩
theorem mw_203 : Cond.fieldLink RX3 16 "WantedLater" "spare" "LWantedLater$Town;" ∈ wAll := List.mem_filter.mpr ⟨List.mem_of_getElem? (i := 197) (by decide +kernel), by decide +kernel⟩
theorem mw_204 : Cond.fieldLink RX3 19 "WantedLater" "images" "[LWantedLater$Town;" ∈ wAll := List.mem_filter.mpr ⟨List.mem_of_getElem? (i := 198) (by decide +kernel), by decide +kernel⟩
theorem mw_205 : Cond.arrayClass .boolean ∈ wAll := List.mem_filter.mpr ⟨List.mem_of_getElem? (i := 168) (by decide +kernel), by decide +kernel⟩
theorem mw_206 : Cond.fieldLink RX3 23 "WantedLater" "kept" "[Z" ∈ wAll := List.mem_filter.mpr ⟨List.mem_of_getElem? (i := 199) (by decide +kernel), by decide +kernel⟩
theorem mw_207 : Cond.classLink RX3 27 RX2 ∈ wAll := List.mem_filter.mpr ⟨List.mem_of_getElem? (i := 134) (by decide +kernel), by decide +kernel⟩
theorem mw_208 : Cond.instantiable RX2 6 ∈ wAll := List.mem_filter.mpr ⟨List.mem_of_getElem? (i := 135) (by decide +kernel), by decide +kernel⟩
theorem mw_209 : Cond.fieldLink RX3 30 "WantedLater" "walk" "LWantedLater$Walk;" ∈ wAll := List.mem_filter.mpr ⟨List.mem_of_getElem? (i := 200) (by decide +kernel), by decide +kernel⟩
theorem mw_210 : Cond.classLink RX3 34 RX0 ∈ wAll := List.mem_filter.mpr ⟨List.mem_of_getElem? (i := 169) (by decide +kernel), by decide +kernel⟩
theorem mw_211 : Cond.instantiable RX0 6 ∈ wAll := List.mem_filter.mpr ⟨List.mem_of_getElem? (i := 170) (by decide +kernel), by decide +kernel⟩
theorem mw_212 : Cond.fieldLink RX3 37 "WantedLater" "text" "LWantedLater$Text;" ∈ wAll := List.mem_filter.mpr ⟨List.mem_of_getElem? (i := 201) (by decide +kernel), by decide +kernel⟩
theorem mw_213 : Cond.fieldLink RX3 41 "WantedLater" "above" "J" ∈ wAll := List.mem_filter.mpr ⟨List.mem_of_getElem? (i := 202) (by decide +kernel), by decide +kernel⟩
theorem mw_214 : Cond.fieldLink RX3 45 "WantedLater" "below" "J" ∈ wAll := List.mem_filter.mpr ⟨List.mem_of_getElem? (i := 203) (by decide +kernel), by decide +kernel⟩
theorem mw_215 : Cond.instanceMethod yX1_init ∈ wAll := List.mem_filter.mpr ⟨List.mem_of_getElem? (i := 77) (by decide +kernel), by decide +kernel⟩
theorem mw_216 : Cond.instanceMethod yX2_init ∈ wAll := List.mem_filter.mpr ⟨List.mem_of_getElem? (i := 137) (by decide +kernel), by decide +kernel⟩
theorem mw_217 : Cond.instanceMethod yX0_init ∈ wAll := List.mem_filter.mpr ⟨List.mem_of_getElem? (i := 172) (by decide +kernel), by decide +kernel⟩
theorem mw_218 : Cond.code yX3_init cX3_init 2 none ∈ wAll := List.mem_filter.mpr ⟨List.mem_of_getElem? (i := 70) (by decide +kernel), by decide +kernel⟩
theorem mw_219 : Cond.fieldLink RX3 201 "WantedLater" "refusedBad" "I" ∈ wAll := List.mem_filter.mpr ⟨List.mem_of_getElem? (i := 204) (by decide +kernel), by decide +kernel⟩
theorem mw_220 : Cond.code yX3_refuseBad cX3_refuseBad 1 (some .int) ∈ wAll := List.mem_filter.mpr ⟨List.mem_of_getElem? (i := 240) (by decide +kernel), by decide +kernel⟩
theorem mw_221 : Cond.fieldLink RX3 56 "WantedLater$Town" "people" "I" ∈ wAll := List.mem_filter.mpr ⟨List.mem_of_getElem? (i := 84) (by decide +kernel), by decide +kernel⟩
theorem mw_222 : Cond.methodLink RX3 48 yX3_isWithin ∈ wAll := List.mem_filter.mpr ⟨List.mem_of_getElem? (i := 234) (by decide +kernel), by decide +kernel⟩
theorem mw_223 : Cond.methodLink RX3 52 yX3_refuseBad ∈ wAll := List.mem_filter.mpr ⟨List.mem_of_getElem? (i := 237) (by decide +kernel), by decide +kernel⟩
theorem mw_224 : Cond.instanceMethod yX3_refuseBad ∈ wAll := List.mem_filter.mpr ⟨List.mem_of_getElem? (i := 239) (by decide +kernel), by decide +kernel⟩
theorem mw_225 : Cond.selects RX3 yX3_refuseBad yX3_refuseBad ∈ wAll := List.mem_filter.mpr ⟨List.mem_of_getElem? (i := 0) (by decide +kernel), by decide +kernel⟩
theorem mw_226 : Cond.methodLink RX3 60 yX1_begin ∈ wAll := List.mem_filter.mpr ⟨List.mem_of_getElem? (i := 241) (by decide +kernel), by decide +kernel⟩
theorem mw_227 : Cond.code yX3_town cX3_town 3 (some .int) ∈ wAll := List.mem_filter.mpr ⟨List.mem_of_getElem? (i := 233) (by decide +kernel), by decide +kernel⟩
theorem mw_228 : Cond.fieldLink RX3 207 "WantedLater" "refusedFull" "I" ∈ wAll := List.mem_filter.mpr ⟨List.mem_of_getElem? (i := 206) (by decide +kernel), by decide +kernel⟩
theorem mw_229 : Cond.code yX3_refuseFull cX3_refuseFull 1 (some .int) ∈ wAll := List.mem_filter.mpr ⟨List.mem_of_getElem? (i := 252) (by decide +kernel), by decide +kernel⟩
theorem mw_230 : Cond.methodLink RX3 64 yX3_refuseFull ∈ wAll := List.mem_filter.mpr ⟨List.mem_of_getElem? (i := 249) (by decide +kernel), by decide +kernel⟩
theorem mw_231 : Cond.instanceMethod yX3_refuseFull ∈ wAll := List.mem_filter.mpr ⟨List.mem_of_getElem? (i := 251) (by decide +kernel), by decide +kernel⟩
theorem mw_232 : Cond.selects RX3 yX3_refuseFull yX3_refuseFull ∈ wAll := List.mem_filter.mpr ⟨List.mem_of_getElem? (i := 1) (by decide +kernel), by decide +kernel⟩
theorem mw_233 : Cond.methodLink RX3 67 yX1_addOne ∈ wAll := List.mem_filter.mpr ⟨List.mem_of_getElem? (i := 253) (by decide +kernel), by decide +kernel⟩
theorem mw_234 : Cond.code yX3_one cX3_one 3 (some .int) ∈ wAll := List.mem_filter.mpr ⟨List.mem_of_getElem? (i := 248) (by decide +kernel), by decide +kernel⟩
theorem mw_235 : Cond.fieldLink RX3 71 "WantedLater$Text" "length" "I" ∈ wAll := List.mem_filter.mpr ⟨List.mem_of_getElem? (i := 177) (by decide +kernel), by decide +kernel⟩
theorem mw_236 : Cond.methodLink RX3 74 yX0_add ∈ wAll := List.mem_filter.mpr ⟨List.mem_of_getElem? (i := 261) (by decide +kernel), by decide +kernel⟩
theorem mw_237 : Cond.instanceMethod yX0_add ∈ wAll := List.mem_filter.mpr ⟨List.mem_of_getElem? (i := 262) (by decide +kernel), by decide +kernel⟩
theorem mw_238 : Cond.selects RX0 yX0_add yX0_add ∈ wAll := List.mem_filter.mpr ⟨List.mem_of_getElem? (i := 263) (by decide +kernel), by decide +kernel⟩
theorem mw_239 : Cond.code yX3_type cX3_type 2 (some .int) ∈ wAll := List.mem_filter.mpr ⟨List.mem_of_getElem? (i := 260) (by decide +kernel), by decide +kernel⟩
theorem mw_240 : Cond.code yX3_clear cX3_clear 2 (some .int) ∈ wAll := List.mem_filter.mpr ⟨List.mem_of_getElem? (i := 268) (by decide +kernel), by decide +kernel⟩
theorem mw_241 : Cond.methodLink RX3 78 yX0_readInto ∈ wAll := List.mem_filter.mpr ⟨List.mem_of_getElem? (i := 273) (by decide +kernel), by decide +kernel⟩
theorem mw_242 : Cond.instanceMethod yX0_readInto ∈ wAll := List.mem_filter.mpr ⟨List.mem_of_getElem? (i := 274) (by decide +kernel), by decide +kernel⟩
theorem mw_243 : Cond.selects RX0 yX0_readInto yX0_readInto ∈ wAll := List.mem_filter.mpr ⟨List.mem_of_getElem? (i := 275) (by decide +kernel), by decide +kernel⟩
theorem mw_244 : Cond.methodLink RX3 82 yX1_copyFrom ∈ wAll := List.mem_filter.mpr ⟨List.mem_of_getElem? (i := 374) (by decide +kernel), by decide +kernel⟩
theorem mw_245 : Cond.instanceMethod yX1_copyFrom ∈ wAll := List.mem_filter.mpr ⟨List.mem_of_getElem? (i := 375) (by decide +kernel), by decide +kernel⟩
theorem mw_246 : Cond.selects RX1 yX1_copyFrom yX1_copyFrom ∈ wAll := List.mem_filter.mpr ⟨List.mem_of_getElem? (i := 376) (by decide +kernel), by decide +kernel⟩
theorem mw_247 : Cond.code yX3_read cX3_read 2 (some .int) ∈ wAll := List.mem_filter.mpr ⟨List.mem_of_getElem? (i := 272) (by decide +kernel), by decide +kernel⟩
theorem mw_248 : Cond.code yX3_isThere cX3_isThere 2 (some .boolean) ∈ wAll := List.mem_filter.mpr ⟨List.mem_of_getElem? (i := 388) (by decide +kernel), by decide +kernel⟩
theorem mw_249 : Cond.fieldLink RX3 90 "WantedLater$Town" "listed" "I" ∈ wAll := List.mem_filter.mpr ⟨List.mem_of_getElem? (i := 90) (by decide +kernel), by decide +kernel⟩
theorem mw_250 : Cond.methodLink RX3 86 yX3_isThere ∈ wAll := List.mem_filter.mpr ⟨List.mem_of_getElem? (i := 385) (by decide +kernel), by decide +kernel⟩
theorem mw_251 : Cond.instanceMethod yX3_isThere ∈ wAll := List.mem_filter.mpr ⟨List.mem_of_getElem? (i := 387) (by decide +kernel), by decide +kernel⟩
theorem mw_252 : Cond.selects RX3 yX3_isThere yX3_isThere ∈ wAll := List.mem_filter.mpr ⟨List.mem_of_getElem? (i := 11) (by decide +kernel), by decide +kernel⟩
theorem mw_253 : Cond.methodLink RX3 93 yX3_bitOf ∈ wAll := List.mem_filter.mpr ⟨List.mem_of_getElem? (i := 389) (by decide +kernel), by decide +kernel⟩
theorem mw_254 : Cond.methodLink RX3 96 yX1_keepPast ∈ wAll := List.mem_filter.mpr ⟨List.mem_of_getElem? (i := 392) (by decide +kernel), by decide +kernel⟩
theorem mw_255 : Cond.instanceMethod yX1_keepPast ∈ wAll := List.mem_filter.mpr ⟨List.mem_of_getElem? (i := 393) (by decide +kernel), by decide +kernel⟩
theorem mw_256 : Cond.selects RX1 yX1_keepPast yX1_keepPast ∈ wAll := List.mem_filter.mpr ⟨List.mem_of_getElem? (i := 394) (by decide +kernel), by decide +kernel⟩
theorem mw_257 : Cond.methodLink RX3 99 yX3_withBit ∈ wAll := List.mem_filter.mpr ⟨List.mem_of_getElem? (i := 396) (by decide +kernel), by decide +kernel⟩
theorem mw_258 : Cond.code yX3_list cX3_list 4 (some .int) ∈ wAll := List.mem_filter.mpr ⟨List.mem_of_getElem? (i := 384) (by decide +kernel), by decide +kernel⟩
theorem mw_259 : Cond.fieldLink RX3 103 "WantedLater$Town" "followed" "I" ∈ wAll := List.mem_filter.mpr ⟨List.mem_of_getElem? (i := 93) (by decide +kernel), by decide +kernel⟩
theorem mw_260 : Cond.code yX3_follow cX3_follow 4 (some .int) ∈ wAll := List.mem_filter.mpr ⟨List.mem_of_getElem? (i := 400) (by decide +kernel), by decide +kernel⟩
theorem mw_261 : Cond.methodLink RX3 106 yX1_goBy ∈ wAll := List.mem_filter.mpr ⟨List.mem_of_getElem? (i := 405) (by decide +kernel), by decide +kernel⟩
theorem mw_262 : Cond.instanceMethod yX1_goBy ∈ wAll := List.mem_filter.mpr ⟨List.mem_of_getElem? (i := 406) (by decide +kernel), by decide +kernel⟩
theorem mw_263 : Cond.selects RX1 yX1_goBy yX1_goBy ∈ wAll := List.mem_filter.mpr ⟨List.mem_of_getElem? (i := 407) (by decide +kernel), by decide +kernel⟩
theorem mw_264 : Cond.code yX3_day cX3_day 4 (some .int) ∈ wAll := List.mem_filter.mpr ⟨List.mem_of_getElem? (i := 404) (by decide +kernel), by decide +kernel⟩
theorem mw_265 : Cond.fieldLink RX3 204 "WantedLater" "refusedNo" "I" ∈ wAll := List.mem_filter.mpr ⟨List.mem_of_getElem? (i := 205) (by decide +kernel), by decide +kernel⟩
theorem mw_266 : Cond.code yX3_refuseNo cX3_refuseNo 1 (some .int) ∈ wAll := List.mem_filter.mpr ⟨List.mem_of_getElem? (i := 450) (by decide +kernel), by decide +kernel⟩
theorem mw_267 : Cond.fieldLink RX3 110 "WantedLater$Town" "undoable" "I" ∈ wAll := List.mem_filter.mpr ⟨List.mem_of_getElem? (i := 99) (by decide +kernel), by decide +kernel⟩
theorem mw_268 : Cond.fieldLink RX3 119 "WantedLater$Town" "day" "I" ∈ wAll := List.mem_filter.mpr ⟨List.mem_of_getElem? (i := 87) (by decide +kernel), by decide +kernel⟩
theorem mw_269 : Cond.methodLink RX3 113 yX3_refuseNo ∈ wAll := List.mem_filter.mpr ⟨List.mem_of_getElem? (i := 447) (by decide +kernel), by decide +kernel⟩
theorem mw_270 : Cond.instanceMethod yX3_refuseNo ∈ wAll := List.mem_filter.mpr ⟨List.mem_of_getElem? (i := 449) (by decide +kernel), by decide +kernel⟩
theorem mw_271 : Cond.selects RX3 yX3_refuseNo yX3_refuseNo ∈ wAll := List.mem_filter.mpr ⟨List.mem_of_getElem? (i := 12) (by decide +kernel), by decide +kernel⟩
theorem mw_272 : Cond.methodLink RX3 116 yX1_takePast ∈ wAll := List.mem_filter.mpr ⟨List.mem_of_getElem? (i := 451) (by decide +kernel), by decide +kernel⟩
theorem mw_273 : Cond.instanceMethod yX1_takePast ∈ wAll := List.mem_filter.mpr ⟨List.mem_of_getElem? (i := 452) (by decide +kernel), by decide +kernel⟩
theorem mw_274 : Cond.selects RX1 yX1_takePast yX1_takePast ∈ wAll := List.mem_filter.mpr ⟨List.mem_of_getElem? (i := 453) (by decide +kernel), by decide +kernel⟩
theorem mw_275 : Cond.code yX3_undo cX3_undo 1 (some .int) ∈ wAll := List.mem_filter.mpr ⟨List.mem_of_getElem? (i := 446) (by decide +kernel), by decide +kernel⟩
theorem mw_276 : Cond.methodLink RX3 132 yX1_startWalk ∈ wAll := List.mem_filter.mpr ⟨List.mem_of_getElem? (i := 463) (by decide +kernel), by decide +kernel⟩
theorem mw_277 : Cond.methodLink RX3 139 yX2_actOfDay ∈ wAll := List.mem_filter.mpr ⟨List.mem_of_getElem? (i := 464) (by decide +kernel), by decide +kernel⟩
theorem mw_278 : Cond.instanceMethod yX2_actOfDay ∈ wAll := List.mem_filter.mpr ⟨List.mem_of_getElem? (i := 465) (by decide +kernel), by decide +kernel⟩
theorem mw_279 : Cond.selects RX2 yX2_actOfDay yX2_actOfDay ∈ wAll := List.mem_filter.mpr ⟨List.mem_of_getElem? (i := 466) (by decide +kernel), by decide +kernel⟩
theorem mw_280 : Cond.code yX3_actToday cX3_actToday 2 (some .int) ∈ wAll := List.mem_filter.mpr ⟨List.mem_of_getElem? (i := 462) (by decide +kernel), by decide +kernel⟩
theorem mw_281 : Cond.fieldLink RX3 122 "WantedLater$Town" "kinds" "[I" ∈ wAll := List.mem_filter.mpr ⟨List.mem_of_getElem? (i := 101) (by decide +kernel), by decide +kernel⟩
theorem mw_282 : Cond.fieldLink RX3 126 "WantedLater$Town" "tempers" "[I" ∈ wAll := List.mem_filter.mpr ⟨List.mem_of_getElem? (i := 103) (by decide +kernel), by decide +kernel⟩
theorem mw_283 : Cond.methodLink RX3 129 yX3_actToday ∈ wAll := List.mem_filter.mpr ⟨List.mem_of_getElem? (i := 459) (by decide +kernel), by decide +kernel⟩
theorem mw_284 : Cond.instanceMethod yX3_actToday ∈ wAll := List.mem_filter.mpr ⟨List.mem_of_getElem? (i := 461) (by decide +kernel), by decide +kernel⟩
theorem mw_285 : Cond.selects RX3 yX3_actToday yX3_actToday ∈ wAll := List.mem_filter.mpr ⟨List.mem_of_getElem? (i := 13) (by decide +kernel), by decide +kernel⟩
theorem mw_286 : Cond.code yX3_of cX3_of 3 (some .int) ∈ wAll := List.mem_filter.mpr ⟨List.mem_of_getElem? (i := 458) (by decide +kernel), by decide +kernel⟩
theorem mw_287 : Cond.fieldLink RX3 142 "WantedLater$Walk" "temper" "I" ∈ wAll := List.mem_filter.mpr ⟨List.mem_of_getElem? (i := 144) (by decide +kernel), by decide +kernel⟩
theorem mw_288 : Cond.methodLink RX3 136 yX2_goBy ∈ wAll := List.mem_filter.mpr ⟨List.mem_of_getElem? (i := 472) (by decide +kernel), by decide +kernel⟩
theorem mw_289 : Cond.code yX3_then cX3_then 5 (some .int) ∈ wAll := List.mem_filter.mpr ⟨List.mem_of_getElem? (i := 471) (by decide +kernel), by decide +kernel⟩
theorem mw_290 : Cond.code yX3_when cX3_when 3 (some .int) ∈ wAll := List.mem_filter.mpr ⟨List.mem_of_getElem? (i := 476) (by decide +kernel), by decide +kernel⟩
theorem mw_291 : Cond.fieldLink RX3 230 "WantedLater$Walk" "listed" "Z" ∈ wAll := List.mem_filter.mpr ⟨List.mem_of_getElem? (i := 151) (by decide +kernel), by decide +kernel⟩
theorem mw_292 : Cond.fieldLink RX3 233 "WantedLater$Walk" "followed" "Z" ∈ wAll := List.mem_filter.mpr ⟨List.mem_of_getElem? (i := 154) (by decide +kernel), by decide +kernel⟩
theorem mw_293 : Cond.methodLink RX3 235 yX2_doesIt ∈ wAll := List.mem_filter.mpr ⟨List.mem_of_getElem? (i := 489) (by decide +kernel), by decide +kernel⟩
theorem mw_294 : Cond.code yX3_wouldDoIt cX3_wouldDoIt 5 (some .boolean) ∈ wAll := List.mem_filter.mpr ⟨List.mem_of_getElem? (i := 488) (by decide +kernel), by decide +kernel⟩
theorem mw_295 : Cond.methodLink RX3 226 yX3_wouldDoIt ∈ wAll := List.mem_filter.mpr ⟨List.mem_of_getElem? (i := 485) (by decide +kernel), by decide +kernel⟩
theorem mw_296 : Cond.instanceMethod yX3_wouldDoIt ∈ wAll := List.mem_filter.mpr ⟨List.mem_of_getElem? (i := 487) (by decide +kernel), by decide +kernel⟩
theorem mw_297 : Cond.selects RX3 yX3_wouldDoIt yX3_wouldDoIt ∈ wAll := List.mem_filter.mpr ⟨List.mem_of_getElem? (i := 15) (by decide +kernel), by decide +kernel⟩
theorem mw_298 : Cond.code yX3_whoDoIt cX3_whoDoIt 5 (some .int) ∈ wAll := List.mem_filter.mpr ⟨List.mem_of_getElem? (i := 484) (by decide +kernel), by decide +kernel⟩
theorem mw_299 : Cond.methodLink RX3 145 yX3_whoDoIt ∈ wAll := List.mem_filter.mpr ⟨List.mem_of_getElem? (i := 481) (by decide +kernel), by decide +kernel⟩
theorem mw_300 : Cond.instanceMethod yX3_whoDoIt ∈ wAll := List.mem_filter.mpr ⟨List.mem_of_getElem? (i := 483) (by decide +kernel), by decide +kernel⟩
theorem mw_301 : Cond.selects RX3 yX3_whoDoIt yX3_whoDoIt ∈ wAll := List.mem_filter.mpr ⟨List.mem_of_getElem? (i := 14) (by decide +kernel), by decide +kernel⟩
theorem mw_302 : Cond.code yX3_lack cX3_lack 1 (some .int) ∈ wAll := List.mem_filter.mpr ⟨List.mem_of_getElem? (i := 480) (by decide +kernel), by decide +kernel⟩
theorem mw_303 : Cond.code yX3_comesTrue cX3_comesTrue 8 (some .int) ∈ wAll := List.mem_filter.mpr ⟨List.mem_of_getElem? (i := 493) (by decide +kernel), by decide +kernel⟩
theorem mw_304 : Cond.code yX3_readings cX3_readings 5 (some .int) ∈ wAll := List.mem_filter.mpr ⟨List.mem_of_getElem? (i := 497) (by decide +kernel), by decide +kernel⟩
theorem mw_305 : Cond.methodLink RX3 149 yJ6_bitCount_0f7a4 ∈ wAll := List.mem_filter.mpr ⟨List.mem_of_getElem? (i := 502) (by decide +kernel), by decide +kernel⟩
theorem mw_306 : Cond.code yX3_roster cX3_roster 3 (some .int) ∈ wAll := List.mem_filter.mpr ⟨List.mem_of_getElem? (i := 501) (by decide +kernel), by decide +kernel⟩
theorem mw_307 : Cond.code yX3_isStruckBy cX3_isStruckBy 5 (some .boolean) ∈ wAll := List.mem_filter.mpr ⟨List.mem_of_getElem? (i := 514) (by decide +kernel), by decide +kernel⟩
theorem mw_308 : Cond.methodLink RX3 183 yX3_isStruckBy ∈ wAll := List.mem_filter.mpr ⟨List.mem_of_getElem? (i := 511) (by decide +kernel), by decide +kernel⟩
theorem mw_309 : Cond.instanceMethod yX3_isStruckBy ∈ wAll := List.mem_filter.mpr ⟨List.mem_of_getElem? (i := 513) (by decide +kernel), by decide +kernel⟩
theorem mw_310 : Cond.selects RX3 yX3_isStruckBy yX3_isStruckBy ∈ wAll := List.mem_filter.mpr ⟨List.mem_of_getElem? (i := 17) (by decide +kernel), by decide +kernel⟩
theorem mw_311 : Cond.code yX3_fewestDays cX3_fewestDays 6 (some .int) ∈ wAll := List.mem_filter.mpr ⟨List.mem_of_getElem? (i := 510) (by decide +kernel), by decide +kernel⟩
theorem mw_312 : Cond.methodLink RX3 154 yX3_fewestDays ∈ wAll := List.mem_filter.mpr ⟨List.mem_of_getElem? (i := 507) (by decide +kernel), by decide +kernel⟩
theorem mw_313 : Cond.instanceMethod yX3_fewestDays ∈ wAll := List.mem_filter.mpr ⟨List.mem_of_getElem? (i := 509) (by decide +kernel), by decide +kernel⟩
theorem mw_314 : Cond.selects RX3 yX3_fewestDays yX3_fewestDays ∈ wAll := List.mem_filter.mpr ⟨List.mem_of_getElem? (i := 16) (by decide +kernel), by decide +kernel⟩
theorem mw_315 : Cond.code yX3_off cX3_off 5 (some .int) ∈ wAll := List.mem_filter.mpr ⟨List.mem_of_getElem? (i := 506) (by decide +kernel), by decide +kernel⟩
theorem mw_316 : Cond.code yX3_isFollowedIn cX3_isFollowedIn 1 (some .boolean) ∈ wAll := List.mem_filter.mpr ⟨List.mem_of_getElem? (i := 525) (by decide +kernel), by decide +kernel⟩
theorem mw_317 : Cond.fieldLink RX3 217 "WantedLater$Town" "counts" "I" ∈ wAll := List.mem_filter.mpr ⟨List.mem_of_getElem? (i := 82) (by decide +kernel), by decide +kernel⟩
theorem mw_318 : Cond.methodLink RX3 238 yX3_isFollowedIn ∈ wAll := List.mem_filter.mpr ⟨List.mem_of_getElem? (i := 523) (by decide +kernel), by decide +kernel⟩
theorem mw_319 : Cond.static yX3_isFollowedIn ∈ wAll := List.mem_filter.mpr ⟨List.mem_of_getElem? (i := 524) (by decide +kernel), by decide +kernel⟩
theorem mw_320 : Cond.methodLink RX3 241 yX3_actOf ∈ wAll := List.mem_filter.mpr ⟨List.mem_of_getElem? (i := 530) (by decide +kernel), by decide +kernel⟩
theorem mw_321 : Cond.code yX3_isItIn cX3_isItIn 5 (some .boolean) ∈ wAll := List.mem_filter.mpr ⟨List.mem_of_getElem? (i := 529) (by decide +kernel), by decide +kernel⟩
theorem mw_322 : Cond.methodLink RX3 244 yX3_isItIn ∈ wAll := List.mem_filter.mpr ⟨List.mem_of_getElem? (i := 526) (by decide +kernel), by decide +kernel⟩
theorem mw_323 : Cond.instanceMethod yX3_isItIn ∈ wAll := List.mem_filter.mpr ⟨List.mem_of_getElem? (i := 528) (by decide +kernel), by decide +kernel⟩
theorem mw_324 : Cond.selects RX3 yX3_isItIn yX3_isItIn ∈ wAll := List.mem_filter.mpr ⟨List.mem_of_getElem? (i := 19) (by decide +kernel), by decide +kernel⟩
theorem mw_325 : Cond.code yX3_paysOne cX3_paysOne 3 (some .int) ∈ wAll := List.mem_filter.mpr ⟨List.mem_of_getElem? (i := 522) (by decide +kernel), by decide +kernel⟩
theorem mw_326 : Cond.code yX3_paysFollower cX3_paysFollower 3 (some .int) ∈ wAll := List.mem_filter.mpr ⟨List.mem_of_getElem? (i := 534) (by decide +kernel), by decide +kernel⟩
theorem mw_327 : Cond.methodLink RX3 157 yX3_paysOne ∈ wAll := List.mem_filter.mpr ⟨List.mem_of_getElem? (i := 519) (by decide +kernel), by decide +kernel⟩
theorem mw_328 : Cond.instanceMethod yX3_paysOne ∈ wAll := List.mem_filter.mpr ⟨List.mem_of_getElem? (i := 521) (by decide +kernel), by decide +kernel⟩
theorem mw_329 : Cond.selects RX3 yX3_paysOne yX3_paysOne ∈ wAll := List.mem_filter.mpr ⟨List.mem_of_getElem? (i := 18) (by decide +kernel), by decide +kernel⟩
theorem mw_330 : Cond.methodLink RX3 160 yX3_paysFollower ∈ wAll := List.mem_filter.mpr ⟨List.mem_of_getElem? (i := 531) (by decide +kernel), by decide +kernel⟩
theorem mw_331 : Cond.instanceMethod yX3_paysFollower ∈ wAll := List.mem_filter.mpr ⟨List.mem_of_getElem? (i := 533) (by decide +kernel), by decide +kernel⟩
theorem mw_332 : Cond.selects RX3 yX3_paysFollower yX3_paysFollower ∈ wAll := List.mem_filter.mpr ⟨List.mem_of_getElem? (i := 20) (by decide +kernel), by decide +kernel⟩
theorem mw_333 : Cond.code yX3_rests cX3_rests 6 (some .int) ∈ wAll := List.mem_filter.mpr ⟨List.mem_of_getElem? (i := 518) (by decide +kernel), by decide +kernel⟩
theorem mw_334 : Cond.fieldLink RX3 163 "WantedLater$Town" "noted" "I" ∈ wAll := List.mem_filter.mpr ⟨List.mem_of_getElem? (i := 97) (by decide +kernel), by decide +kernel⟩
theorem mw_335 : Cond.methodLink RX3 166 yX1_addNote ∈ wAll := List.mem_filter.mpr ⟨List.mem_of_getElem? (i := 539) (by decide +kernel), by decide +kernel⟩
theorem mw_336 : Cond.instanceMethod yX1_addNote ∈ wAll := List.mem_filter.mpr ⟨List.mem_of_getElem? (i := 540) (by decide +kernel), by decide +kernel⟩
theorem mw_337 : Cond.selects RX1 yX1_addNote yX1_addNote ∈ wAll := List.mem_filter.mpr ⟨List.mem_of_getElem? (i := 541) (by decide +kernel), by decide +kernel⟩
theorem mw_338 : Cond.code yX3_note cX3_note 6 (some .int) ∈ wAll := List.mem_filter.mpr ⟨List.mem_of_getElem? (i := 538) (by decide +kernel), by decide +kernel⟩
theorem mw_339 : Cond.code yX3_forget cX3_forget 2 (some .int) ∈ wAll := List.mem_filter.mpr ⟨List.mem_of_getElem? (i := 546) (by decide +kernel), by decide +kernel⟩
theorem mw_340 : Cond.methodLink RX3 170 yX1_kindsByNotes ∈ wAll := List.mem_filter.mpr ⟨List.mem_of_getElem? (i := 551) (by decide +kernel), by decide +kernel⟩
theorem mw_341 : Cond.instanceMethod yX1_kindsByNotes ∈ wAll := List.mem_filter.mpr ⟨List.mem_of_getElem? (i := 552) (by decide +kernel), by decide +kernel⟩
theorem mw_342 : Cond.selects RX1 yX1_kindsByNotes yX1_kindsByNotes ∈ wAll := List.mem_filter.mpr ⟨List.mem_of_getElem? (i := 553) (by decide +kernel), by decide +kernel⟩
theorem mw_343 : Cond.code yX3_is cX3_is 2 (some .int) ∈ wAll := List.mem_filter.mpr ⟨List.mem_of_getElem? (i := 550) (by decide +kernel), by decide +kernel⟩
theorem mw_344 : Cond.code yX3_mostAlike cX3_mostAlike 9 (some .int) ∈ wAll := List.mem_filter.mpr ⟨List.mem_of_getElem? (i := 566) (by decide +kernel), by decide +kernel⟩
theorem mw_345 : Cond.methodLink RX3 173 yX3_mostAlike ∈ wAll := List.mem_filter.mpr ⟨List.mem_of_getElem? (i := 564) (by decide +kernel), by decide +kernel⟩
theorem mw_346 : Cond.static yX3_mostAlike ∈ wAll := List.mem_filter.mpr ⟨List.mem_of_getElem? (i := 565) (by decide +kernel), by decide +kernel⟩
theorem mw_347 : Cond.code yX3_look cX3_look 8 (some .int) ∈ wAll := List.mem_filter.mpr ⟨List.mem_of_getElem? (i := 563) (by decide +kernel), by decide +kernel⟩
theorem mw_348 : Cond.code yX3_tempersOfSource cX3_tempersOfSource 5 (some .int) ∈ wAll := List.mem_filter.mpr ⟨List.mem_of_getElem? (i := 574) (by decide +kernel), by decide +kernel⟩
theorem mw_349 : Cond.code yX3_kindsOfSource cX3_kindsOfSource 4 (some .int) ∈ wAll := List.mem_filter.mpr ⟨List.mem_of_getElem? (i := 578) (by decide +kernel), by decide +kernel⟩
theorem mw_350 : Cond.methodLink RX3 177 yX3_tempersOfSource ∈ wAll := List.mem_filter.mpr ⟨List.mem_of_getElem? (i := 571) (by decide +kernel), by decide +kernel⟩
theorem mw_351 : Cond.instanceMethod yX3_tempersOfSource ∈ wAll := List.mem_filter.mpr ⟨List.mem_of_getElem? (i := 573) (by decide +kernel), by decide +kernel⟩
theorem mw_352 : Cond.selects RX3 yX3_tempersOfSource yX3_tempersOfSource ∈ wAll := List.mem_filter.mpr ⟨List.mem_of_getElem? (i := 21) (by decide +kernel), by decide +kernel⟩
theorem mw_353 : Cond.methodLink RX3 180 yX3_kindsOfSource ∈ wAll := List.mem_filter.mpr ⟨List.mem_of_getElem? (i := 575) (by decide +kernel), by decide +kernel⟩
theorem mw_354 : Cond.instanceMethod yX3_kindsOfSource ∈ wAll := List.mem_filter.mpr ⟨List.mem_of_getElem? (i := 577) (by decide +kernel), by decide +kernel⟩
theorem mw_355 : Cond.selects RX3 yX3_kindsOfSource yX3_kindsOfSource ∈ wAll := List.mem_filter.mpr ⟨List.mem_of_getElem? (i := 22) (by decide +kernel), by decide +kernel⟩
theorem mw_356 : Cond.code yX3_source cX3_source 2 (some .int) ∈ wAll := List.mem_filter.mpr ⟨List.mem_of_getElem? (i := 570) (by decide +kernel), by decide +kernel⟩
theorem mw_357 : Cond.code yX3_setFraction cX3_setFraction 12 none ∈ wAll := List.mem_filter.mpr ⟨List.mem_of_getElem? (i := 586) (by decide +kernel), by decide +kernel⟩
theorem mw_358 : Cond.methodLink RX3 186 yX3_setFraction ∈ wAll := List.mem_filter.mpr ⟨List.mem_of_getElem? (i := 583) (by decide +kernel), by decide +kernel⟩
theorem mw_359 : Cond.instanceMethod yX3_setFraction ∈ wAll := List.mem_filter.mpr ⟨List.mem_of_getElem? (i := 585) (by decide +kernel), by decide +kernel⟩
theorem mw_360 : Cond.selects RX3 yX3_setFraction yX3_setFraction ∈ wAll := List.mem_filter.mpr ⟨List.mem_of_getElem? (i := 23) (by decide +kernel), by decide +kernel⟩
theorem mw_361 : Cond.code yX3_odds cX3_odds 12 (some .int) ∈ wAll := List.mem_filter.mpr ⟨List.mem_of_getElem? (i := 582) (by decide +kernel), by decide +kernel⟩
theorem mw_362 : Cond.constant RX3 190 (999999) ∈ wAll := List.mem_filter.mpr ⟨List.mem_of_getElem? (i := 591) (by decide +kernel), by decide +kernel⟩
theorem mw_363 : Cond.constantLong RX3 191 (1103515245) ∈ wAll := List.mem_filter.mpr ⟨List.mem_of_getElem? (i := 592) (by decide +kernel), by decide +kernel⟩
theorem mw_364 : Cond.constantLong RX3 193 (12345) ∈ wAll := List.mem_filter.mpr ⟨List.mem_of_getElem? (i := 593) (by decide +kernel), by decide +kernel⟩
theorem mw_365 : Cond.constantLong RX3 195 (2147483648) ∈ wAll := List.mem_filter.mpr ⟨List.mem_of_getElem? (i := 594) (by decide +kernel), by decide +kernel⟩
theorem mw_366 : Cond.constantLong RX3 197 (65536) ∈ wAll := List.mem_filter.mpr ⟨List.mem_of_getElem? (i := 595) (by decide +kernel), by decide +kernel⟩
theorem mw_367 : Cond.constantLong RX3 199 (2) ∈ wAll := List.mem_filter.mpr ⟨List.mem_of_getElem? (i := 596) (by decide +kernel), by decide +kernel⟩
theorem mw_368 : Cond.code yX3_years cX3_years 8 (some .int) ∈ wAll := List.mem_filter.mpr ⟨List.mem_of_getElem? (i := 590) (by decide +kernel), by decide +kernel⟩
theorem mw_369 : Cond.code yX3_part cX3_part 2 (some .long) ∈ wAll := List.mem_filter.mpr ⟨List.mem_of_getElem? (i := 600) (by decide +kernel), by decide +kernel⟩
theorem mw_370 : Cond.code yX3_image cX3_image 2 (some .int) ∈ wAll := List.mem_filter.mpr ⟨List.mem_of_getElem? (i := 604) (by decide +kernel), by decide +kernel⟩
theorem mw_371 : Cond.code yX3_from cX3_from 2 (some .int) ∈ wAll := List.mem_filter.mpr ⟨List.mem_of_getElem? (i := 608) (by decide +kernel), by decide +kernel⟩
theorem mw_372 : Cond.code yX3_status cX3_status 2 (some .int) ∈ wAll := List.mem_filter.mpr ⟨List.mem_of_getElem? (i := 612) (by decide +kernel), by decide +kernel⟩
theorem mw_373 : Cond.fieldLink RX3 223 "WantedLater$Town" "struck" "I" ∈ wAll := List.mem_filter.mpr ⟨List.mem_of_getElem? (i := 95) (by decide +kernel), by decide +kernel⟩
theorem mw_374 : Cond.code yX3_howMany cX3_howMany 2 (some .int) ∈ wAll := List.mem_filter.mpr ⟨List.mem_of_getElem? (i := 620) (by decide +kernel), by decide +kernel⟩
theorem mw_375 : Cond.methodLink RX3 210 yX3_howMany ∈ wAll := List.mem_filter.mpr ⟨List.mem_of_getElem? (i := 617) (by decide +kernel), by decide +kernel⟩
theorem mw_376 : Cond.instanceMethod yX3_howMany ∈ wAll := List.mem_filter.mpr ⟨List.mem_of_getElem? (i := 619) (by decide +kernel), by decide +kernel⟩
theorem mw_377 : Cond.selects RX3 yX3_howMany yX3_howMany ∈ wAll := List.mem_filter.mpr ⟨List.mem_of_getElem? (i := 24) (by decide +kernel), by decide +kernel⟩
theorem mw_378 : Cond.code yX3_count cX3_count 2 (some .int) ∈ wAll := List.mem_filter.mpr ⟨List.mem_of_getElem? (i := 616) (by decide +kernel), by decide +kernel⟩
theorem mw_379 : Cond.constantLong RX3 213 (1213) ∈ wAll := List.mem_filter.mpr ⟨List.mem_of_getElem? (i := 625) (by decide +kernel), by decide +kernel⟩
theorem mw_380 : Cond.constantLong RX3 215 (31) ∈ wAll := List.mem_filter.mpr ⟨List.mem_of_getElem? (i := 626) (by decide +kernel), by decide +kernel⟩
theorem mw_381 : Cond.fieldLink RX3 220 "WantedLater$Town" "notes" "[I" ∈ wAll := List.mem_filter.mpr ⟨List.mem_of_getElem? (i := 105) (by decide +kernel), by decide +kernel⟩
theorem mw_382 : Cond.code yX3_digest cX3_digest 4 (some .long) ∈ wAll := List.mem_filter.mpr ⟨List.mem_of_getElem? (i := 624) (by decide +kernel), by decide +kernel⟩
theorem mw_383 : Cond.code yX4_begin cX4_begin 3 none ∈ wAll := List.mem_filter.mpr ⟨List.mem_of_getElem? (i := 635) (by decide +kernel), by decide +kernel⟩
theorem mw_384 : Cond.methodLink RX4 1 objectInit ∈ wAll := List.mem_filter.mpr ⟨List.mem_of_getElem? (i := 632) (by decide +kernel), by decide +kernel⟩
theorem mw_385 : Cond.fieldLink RX4 7 "WantedLaterModel" "now" "[I" ∈ wAll := List.mem_filter.mpr ⟨List.mem_of_getElem? (i := 636) (by decide +kernel), by decide +kernel⟩
theorem mw_386 : Cond.fieldLink RX4 13 "WantedLaterModel" "kept" "[I" ∈ wAll := List.mem_filter.mpr ⟨List.mem_of_getElem? (i := 637) (by decide +kernel), by decide +kernel⟩
theorem mw_387 : Cond.fieldLink RX4 16 "WantedLaterModel" "isKept" "[Z" ∈ wAll := List.mem_filter.mpr ⟨List.mem_of_getElem? (i := 638) (by decide +kernel), by decide +kernel⟩
theorem mw_388 : Cond.fieldLink RX4 20 "WantedLaterModel" "refused" "[I" ∈ wAll := List.mem_filter.mpr ⟨List.mem_of_getElem? (i := 639) (by decide +kernel), by decide +kernel⟩
theorem mw_389 : Cond.fieldLink RX4 23 "WantedLaterModel" "below" "J" ∈ wAll := List.mem_filter.mpr ⟨List.mem_of_getElem? (i := 641) (by decide +kernel), by decide +kernel⟩
theorem mw_390 : Cond.fieldLink RX4 27 "WantedLaterModel" "tempers" "[I" ∈ wAll := List.mem_filter.mpr ⟨List.mem_of_getElem? (i := 642) (by decide +kernel), by decide +kernel⟩
theorem mw_391 : Cond.fieldLink RX4 30 "WantedLaterModel" "his" "[I" ∈ wAll := List.mem_filter.mpr ⟨List.mem_of_getElem? (i := 646) (by decide +kernel), by decide +kernel⟩
theorem mw_392 : Cond.fieldLink RX4 33 "WantedLaterModel" "theirs" "[I" ∈ wAll := List.mem_filter.mpr ⟨List.mem_of_getElem? (i := 647) (by decide +kernel), by decide +kernel⟩
theorem mw_393 : Cond.fieldLink RX4 36 "WantedLaterModel" "manyBy" "[I" ∈ wAll := List.mem_filter.mpr ⟨List.mem_of_getElem? (i := 648) (by decide +kernel), by decide +kernel⟩
theorem mw_394 : Cond.fieldLink RX4 39 "WantedLaterModel" "bytes" "[I" ∈ wAll := List.mem_filter.mpr ⟨List.mem_of_getElem? (i := 649) (by decide +kernel), by decide +kernel⟩
theorem mw_395 : Cond.fieldLink RX4 42 "WantedLaterModel" "anew" "[I" ∈ wAll := List.mem_filter.mpr ⟨List.mem_of_getElem? (i := 655) (by decide +kernel), by decide +kernel⟩
theorem mw_396 : Cond.fieldLink RX4 45 "WantedLaterModel" "values" "[I" ∈ wAll := List.mem_filter.mpr ⟨List.mem_of_getElem? (i := 656) (by decide +kernel), by decide +kernel⟩
theorem mw_397 : Cond.methodLink RX4 48 yX4_begin ∈ wAll := List.mem_filter.mpr ⟨List.mem_of_getElem? (i := 633) (by decide +kernel), by decide +kernel⟩
theorem mw_398 : Cond.static yX4_begin ∈ wAll := List.mem_filter.mpr ⟨List.mem_of_getElem? (i := 634) (by decide +kernel), by decide +kernel⟩
theorem mw_399 : Cond.initialized RX4 ∈ wAll := List.mem_filter.mpr ⟨List.mem_of_getElem? (i := 58) (by decide +kernel), by decide +kernel⟩
theorem mw_400 : Cond.code yX4_init cX4_init 1 none ∈ wAll := List.mem_filter.mpr ⟨List.mem_of_getElem? (i := 631) (by decide +kernel), by decide +kernel⟩
theorem mw_401 : Cond.code yX4_in cX4_in 6 (some .boolean) ∈ wAll := List.mem_filter.mpr ⟨List.mem_of_getElem? (i := 707) (by decide +kernel), by decide +kernel⟩
theorem mw_402 : Cond.code yX4_bad cX4_bad 2 (some .int) ∈ wAll := List.mem_filter.mpr ⟨List.mem_of_getElem? (i := 711) (by decide +kernel), by decide +kernel⟩
theorem mw_403 : Cond.code yX4_no cX4_no 1 (some .int) ∈ wAll := List.mem_filter.mpr ⟨List.mem_of_getElem? (i := 795) (by decide +kernel), by decide +kernel⟩
theorem mw_404 : Cond.code yX4_full cX4_full 1 (some .int) ∈ wAll := List.mem_filter.mpr ⟨List.mem_of_getElem? (i := 724) (by decide +kernel), by decide +kernel⟩
theorem mw_405 : Cond.code yX4_bits cX4_bits 3 (some .int) ∈ wAll := List.mem_filter.mpr ⟨List.mem_of_getElem? (i := 787) (by decide +kernel), by decide +kernel⟩
theorem mw_406 : Cond.code yX4_has cX4_has 2 (some .boolean) ∈ wAll := List.mem_filter.mpr ⟨List.mem_of_getElem? (i := 763) (by decide +kernel), by decide +kernel⟩
theorem mw_407 : Cond.code yX4_many cX4_many 1 (some .int) ∈ wAll := List.mem_filter.mpr ⟨List.mem_of_getElem? (i := 715) (by decide +kernel), by decide +kernel⟩
theorem mw_408 : Cond.methodLink RX4 52 yX4_many ∈ wAll := List.mem_filter.mpr ⟨List.mem_of_getElem? (i := 712) (by decide +kernel), by decide +kernel⟩
theorem mw_409 : Cond.instanceMethod yX4_many ∈ wAll := List.mem_filter.mpr ⟨List.mem_of_getElem? (i := 714) (by decide +kernel), by decide +kernel⟩
theorem mw_410 : Cond.selects RX4 yX4_many yX4_many ∈ wAll := List.mem_filter.mpr ⟨List.mem_of_getElem? (i := 26) (by decide +kernel), by decide +kernel⟩
theorem mw_411 : Cond.methodLink RX4 56 yX4_in ∈ wAll := List.mem_filter.mpr ⟨List.mem_of_getElem? (i := 705) (by decide +kernel), by decide +kernel⟩
theorem mw_412 : Cond.static yX4_in ∈ wAll := List.mem_filter.mpr ⟨List.mem_of_getElem? (i := 706) (by decide +kernel), by decide +kernel⟩
theorem mw_413 : Cond.code yX4_isOne cX4_isOne 2 (some .boolean) ∈ wAll := List.mem_filter.mpr ⟨List.mem_of_getElem? (i := 735) (by decide +kernel), by decide +kernel⟩
theorem mw_414 : Cond.constantLong RX4 60 (5) ∈ wAll := List.mem_filter.mpr ⟨List.mem_of_getElem? (i := 704) (by decide +kernel), by decide +kernel⟩
theorem mw_415 : Cond.methodLink RX4 62 yX4_bad ∈ wAll := List.mem_filter.mpr ⟨List.mem_of_getElem? (i := 708) (by decide +kernel), by decide +kernel⟩
theorem mw_416 : Cond.instanceMethod yX4_bad ∈ wAll := List.mem_filter.mpr ⟨List.mem_of_getElem? (i := 710) (by decide +kernel), by decide +kernel⟩
theorem mw_417 : Cond.selects RX4 yX4_bad yX4_bad ∈ wAll := List.mem_filter.mpr ⟨List.mem_of_getElem? (i := 25) (by decide +kernel), by decide +kernel⟩
theorem mw_418 : Cond.code yX4_town cX4_town 3 (some .int) ∈ wAll := List.mem_filter.mpr ⟨List.mem_of_getElem? (i := 703) (by decide +kernel), by decide +kernel⟩
theorem mw_419 : Cond.code yX4_layOne cX4_layOne 3 none ∈ wAll := List.mem_filter.mpr ⟨List.mem_of_getElem? (i := 727) (by decide +kernel), by decide +kernel⟩
theorem mw_420 : Cond.constantLong RX4 66 (30) ∈ wAll := List.mem_filter.mpr ⟨List.mem_of_getElem? (i := 720) (by decide +kernel), by decide +kernel⟩
theorem mw_421 : Cond.methodLink RX4 68 yX4_full ∈ wAll := List.mem_filter.mpr ⟨List.mem_of_getElem? (i := 721) (by decide +kernel), by decide +kernel⟩
theorem mw_422 : Cond.instanceMethod yX4_full ∈ wAll := List.mem_filter.mpr ⟨List.mem_of_getElem? (i := 723) (by decide +kernel), by decide +kernel⟩
theorem mw_423 : Cond.selects RX4 yX4_full yX4_full ∈ wAll := List.mem_filter.mpr ⟨List.mem_of_getElem? (i := 27) (by decide +kernel), by decide +kernel⟩
theorem mw_424 : Cond.methodLink RX4 71 yX4_layOne ∈ wAll := List.mem_filter.mpr ⟨List.mem_of_getElem? (i := 725) (by decide +kernel), by decide +kernel⟩
theorem mw_425 : Cond.static yX4_layOne ∈ wAll := List.mem_filter.mpr ⟨List.mem_of_getElem? (i := 726) (by decide +kernel), by decide +kernel⟩
theorem mw_426 : Cond.code yX4_one cX4_one 3 (some .int) ∈ wAll := List.mem_filter.mpr ⟨List.mem_of_getElem? (i := 719) (by decide +kernel), by decide +kernel⟩
theorem mw_427 : Cond.code yX4_actAs cX4_actAs 7 (some .int) ∈ wAll := List.mem_filter.mpr ⟨List.mem_of_getElem? (i := 778) (by decide +kernel), by decide +kernel⟩
theorem mw_428 : Cond.code yX4_moreAs cX4_moreAs 1 (some .int) ∈ wAll := List.mem_filter.mpr ⟨List.mem_of_getElem? (i := 784) (by decide +kernel), by decide +kernel⟩
theorem mw_429 : Cond.methodLink RX4 75 yX4_moreAs ∈ wAll := List.mem_filter.mpr ⟨List.mem_of_getElem? (i := 782) (by decide +kernel), by decide +kernel⟩
theorem mw_430 : Cond.static yX4_moreAs ∈ wAll := List.mem_filter.mpr ⟨List.mem_of_getElem? (i := 783) (by decide +kernel), by decide +kernel⟩
theorem mw_431 : Cond.code yX4_temperBehind cX4_temperBehind 4 (some .int) ∈ wAll := List.mem_filter.mpr ⟨List.mem_of_getElem? (i := 781) (by decide +kernel), by decide +kernel⟩
theorem mw_432 : Cond.fieldLink RX4 78 "WantedLaterModel" "listed" "I" ∈ wAll := List.mem_filter.mpr ⟨List.mem_of_getElem? (i := 643) (by decide +kernel), by decide +kernel⟩
theorem mw_433 : Cond.fieldLink RX4 82 "WantedLaterModel" "following" "I" ∈ wAll := List.mem_filter.mpr ⟨List.mem_of_getElem? (i := 644) (by decide +kernel), by decide +kernel⟩
theorem mw_434 : Cond.fieldLink RX4 85 "WantedLaterModel" "dayThen" "I" ∈ wAll := List.mem_filter.mpr ⟨List.mem_of_getElem? (i := 645) (by decide +kernel), by decide +kernel⟩
theorem mw_435 : Cond.code yX4_layHand cX4_layHand 2 none ∈ wAll := List.mem_filter.mpr ⟨List.mem_of_getElem? (i := 756) (by decide +kernel), by decide +kernel⟩
theorem mw_436 : Cond.code yX4_kindOf cX4_kindOf 2 (some .int) ∈ wAll := List.mem_filter.mpr ⟨List.mem_of_getElem? (i := 775) (by decide +kernel), by decide +kernel⟩
theorem mw_437 : Cond.methodLink RX4 88 yX4_kindOf ∈ wAll := List.mem_filter.mpr ⟨List.mem_of_getElem? (i := 772) (by decide +kernel), by decide +kernel⟩
theorem mw_438 : Cond.instanceMethod yX4_kindOf ∈ wAll := List.mem_filter.mpr ⟨List.mem_of_getElem? (i := 774) (by decide +kernel), by decide +kernel⟩
theorem mw_439 : Cond.selects RX4 yX4_kindOf yX4_kindOf ∈ wAll := List.mem_filter.mpr ⟨List.mem_of_getElem? (i := 35) (by decide +kernel), by decide +kernel⟩
theorem mw_440 : Cond.methodLink RX4 91 yX4_has ∈ wAll := List.mem_filter.mpr ⟨List.mem_of_getElem? (i := 761) (by decide +kernel), by decide +kernel⟩
theorem mw_441 : Cond.static yX4_has ∈ wAll := List.mem_filter.mpr ⟨List.mem_of_getElem? (i := 762) (by decide +kernel), by decide +kernel⟩
theorem mw_442 : Cond.methodLink RX4 95 yX4_actAs ∈ wAll := List.mem_filter.mpr ⟨List.mem_of_getElem? (i := 776) (by decide +kernel), by decide +kernel⟩
theorem mw_443 : Cond.static yX4_actAs ∈ wAll := List.mem_filter.mpr ⟨List.mem_of_getElem? (i := 777) (by decide +kernel), by decide +kernel⟩
theorem mw_444 : Cond.code yX4_actOf cX4_actOf 2 (some .int) ∈ wAll := List.mem_filter.mpr ⟨List.mem_of_getElem? (i := 771) (by decide +kernel), by decide +kernel⟩
theorem mw_445 : Cond.methodLink RX4 99 yX4_actOf ∈ wAll := List.mem_filter.mpr ⟨List.mem_of_getElem? (i := 768) (by decide +kernel), by decide +kernel⟩
theorem mw_446 : Cond.instanceMethod yX4_actOf ∈ wAll := List.mem_filter.mpr ⟨List.mem_of_getElem? (i := 770) (by decide +kernel), by decide +kernel⟩
theorem mw_447 : Cond.selects RX4 yX4_actOf yX4_actOf ∈ wAll := List.mem_filter.mpr ⟨List.mem_of_getElem? (i := 34) (by decide +kernel), by decide +kernel⟩
theorem mw_448 : Cond.code yX4_doesIt cX4_doesIt 2 (some .boolean) ∈ wAll := List.mem_filter.mpr ⟨List.mem_of_getElem? (i := 767) (by decide +kernel), by decide +kernel⟩
theorem mw_449 : Cond.methodLink RX4 102 yX4_doesIt ∈ wAll := List.mem_filter.mpr ⟨List.mem_of_getElem? (i := 764) (by decide +kernel), by decide +kernel⟩
theorem mw_450 : Cond.instanceMethod yX4_doesIt ∈ wAll := List.mem_filter.mpr ⟨List.mem_of_getElem? (i := 766) (by decide +kernel), by decide +kernel⟩
theorem mw_451 : Cond.selects RX4 yX4_doesIt yX4_doesIt ∈ wAll := List.mem_filter.mpr ⟨List.mem_of_getElem? (i := 33) (by decide +kernel), by decide +kernel⟩
theorem mw_452 : Cond.methodLink RX4 106 yX4_temperBehind ∈ wAll := List.mem_filter.mpr ⟨List.mem_of_getElem? (i := 779) (by decide +kernel), by decide +kernel⟩
theorem mw_453 : Cond.static yX4_temperBehind ∈ wAll := List.mem_filter.mpr ⟨List.mem_of_getElem? (i := 780) (by decide +kernel), by decide +kernel⟩
theorem mw_454 : Cond.code yX4_goDay cX4_goDay 3 (some .int) ∈ wAll := List.mem_filter.mpr ⟨List.mem_of_getElem? (i := 760) (by decide +kernel), by decide +kernel⟩
theorem mw_455 : Cond.code yX4_keep cX4_keep 2 none ∈ wAll := List.mem_filter.mpr ⟨List.mem_of_getElem? (i := 743) (by decide +kernel), by decide +kernel⟩
theorem mw_456 : Cond.methodLink RX4 110 yX4_keep ∈ wAll := List.mem_filter.mpr ⟨List.mem_of_getElem? (i := 740) (by decide +kernel), by decide +kernel⟩
theorem mw_457 : Cond.instanceMethod yX4_keep ∈ wAll := List.mem_filter.mpr ⟨List.mem_of_getElem? (i := 742) (by decide +kernel), by decide +kernel⟩
theorem mw_458 : Cond.selects RX4 yX4_keep yX4_keep ∈ wAll := List.mem_filter.mpr ⟨List.mem_of_getElem? (i := 30) (by decide +kernel), by decide +kernel⟩
theorem mw_459 : Cond.code yX4_turn cX4_turn 5 (some .int) ∈ wAll := List.mem_filter.mpr ⟨List.mem_of_getElem? (i := 739) (by decide +kernel), by decide +kernel⟩
theorem mw_460 : Cond.methodLink RX4 113 yX4_isOne ∈ wAll := List.mem_filter.mpr ⟨List.mem_of_getElem? (i := 732) (by decide +kernel), by decide +kernel⟩
theorem mw_461 : Cond.instanceMethod yX4_isOne ∈ wAll := List.mem_filter.mpr ⟨List.mem_of_getElem? (i := 734) (by decide +kernel), by decide +kernel⟩
theorem mw_462 : Cond.selects RX4 yX4_isOne yX4_isOne ∈ wAll := List.mem_filter.mpr ⟨List.mem_of_getElem? (i := 28) (by decide +kernel), by decide +kernel⟩
theorem mw_463 : Cond.methodLink RX4 116 yX4_turn ∈ wAll := List.mem_filter.mpr ⟨List.mem_of_getElem? (i := 736) (by decide +kernel), by decide +kernel⟩
theorem mw_464 : Cond.instanceMethod yX4_turn ∈ wAll := List.mem_filter.mpr ⟨List.mem_of_getElem? (i := 738) (by decide +kernel), by decide +kernel⟩
theorem mw_465 : Cond.selects RX4 yX4_turn yX4_turn ∈ wAll := List.mem_filter.mpr ⟨List.mem_of_getElem? (i := 29) (by decide +kernel), by decide +kernel⟩
theorem mw_466 : Cond.code yX4_list cX4_list 3 (some .int) ∈ wAll := List.mem_filter.mpr ⟨List.mem_of_getElem? (i := 731) (by decide +kernel), by decide +kernel⟩
theorem mw_467 : Cond.code yX4_follow cX4_follow 3 (some .int) ∈ wAll := List.mem_filter.mpr ⟨List.mem_of_getElem? (i := 747) (by decide +kernel), by decide +kernel⟩
theorem mw_468 : Cond.constantLong RX4 120 (60) ∈ wAll := List.mem_filter.mpr ⟨List.mem_of_getElem? (i := 752) (by decide +kernel), by decide +kernel⟩
theorem mw_469 : Cond.methodLink RX4 122 yX4_layHand ∈ wAll := List.mem_filter.mpr ⟨List.mem_of_getElem? (i := 753) (by decide +kernel), by decide +kernel⟩
theorem mw_470 : Cond.instanceMethod yX4_layHand ∈ wAll := List.mem_filter.mpr ⟨List.mem_of_getElem? (i := 755) (by decide +kernel), by decide +kernel⟩
theorem mw_471 : Cond.selects RX4 yX4_layHand yX4_layHand ∈ wAll := List.mem_filter.mpr ⟨List.mem_of_getElem? (i := 31) (by decide +kernel), by decide +kernel⟩
theorem mw_472 : Cond.methodLink RX4 125 yX4_goDay ∈ wAll := List.mem_filter.mpr ⟨List.mem_of_getElem? (i := 757) (by decide +kernel), by decide +kernel⟩
theorem mw_473 : Cond.instanceMethod yX4_goDay ∈ wAll := List.mem_filter.mpr ⟨List.mem_of_getElem? (i := 759) (by decide +kernel), by decide +kernel⟩
theorem mw_474 : Cond.selects RX4 yX4_goDay yX4_goDay ∈ wAll := List.mem_filter.mpr ⟨List.mem_of_getElem? (i := 32) (by decide +kernel), by decide +kernel⟩
theorem mw_475 : Cond.methodLink RX4 128 yX4_bits ∈ wAll := List.mem_filter.mpr ⟨List.mem_of_getElem? (i := 785) (by decide +kernel), by decide +kernel⟩
theorem mw_476 : Cond.static yX4_bits ∈ wAll := List.mem_filter.mpr ⟨List.mem_of_getElem? (i := 786) (by decide +kernel), by decide +kernel⟩
theorem mw_477 : Cond.code yX4_day cX4_day 6 (some .int) ∈ wAll := List.mem_filter.mpr ⟨List.mem_of_getElem? (i := 751) (by decide +kernel), by decide +kernel⟩
theorem mw_478 : Cond.methodLink RX4 131 yX4_no ∈ wAll := List.mem_filter.mpr ⟨List.mem_of_getElem? (i := 792) (by decide +kernel), by decide +kernel⟩
theorem mw_479 : Cond.instanceMethod yX4_no ∈ wAll := List.mem_filter.mpr ⟨List.mem_of_getElem? (i := 794) (by decide +kernel), by decide +kernel⟩
theorem mw_480 : Cond.selects RX4 yX4_no yX4_no ∈ wAll := List.mem_filter.mpr ⟨List.mem_of_getElem? (i := 36) (by decide +kernel), by decide +kernel⟩
theorem mw_481 : Cond.code yX4_undo cX4_undo 2 (some .int) ∈ wAll := List.mem_filter.mpr ⟨List.mem_of_getElem? (i := 791) (by decide +kernel), by decide +kernel⟩
theorem mw_482 : Cond.constantLong RX4 134 (4) ∈ wAll := List.mem_filter.mpr ⟨List.mem_of_getElem? (i := 800) (by decide +kernel), by decide +kernel⟩
theorem mw_483 : Cond.code yX4_of cX4_of 3 (some .int) ∈ wAll := List.mem_filter.mpr ⟨List.mem_of_getElem? (i := 799) (by decide +kernel), by decide +kernel⟩
theorem mw_484 : Cond.code yX4_then cX4_then 6 (some .int) ∈ wAll := List.mem_filter.mpr ⟨List.mem_of_getElem? (i := 804) (by decide +kernel), by decide +kernel⟩
theorem mw_485 : Cond.code yX4_when cX4_when 3 (some .int) ∈ wAll := List.mem_filter.mpr ⟨List.mem_of_getElem? (i := 808) (by decide +kernel), by decide +kernel⟩
theorem mw_486 : Cond.code yX4_doesItIn cX4_doesItIn 7 (some .boolean) ∈ wAll := List.mem_filter.mpr ⟨List.mem_of_getElem? (i := 816) (by decide +kernel), by decide +kernel⟩
theorem mw_487 : Cond.methodLink RX4 136 yX4_doesItIn ∈ wAll := List.mem_filter.mpr ⟨List.mem_of_getElem? (i := 813) (by decide +kernel), by decide +kernel⟩
theorem mw_488 : Cond.instanceMethod yX4_doesItIn ∈ wAll := List.mem_filter.mpr ⟨List.mem_of_getElem? (i := 815) (by decide +kernel), by decide +kernel⟩
theorem mw_489 : Cond.selects RX4 yX4_doesItIn yX4_doesItIn ∈ wAll := List.mem_filter.mpr ⟨List.mem_of_getElem? (i := 37) (by decide +kernel), by decide +kernel⟩
theorem mw_490 : Cond.code yX4_lack cX4_lack 3 (some .int) ∈ wAll := List.mem_filter.mpr ⟨List.mem_of_getElem? (i := 812) (by decide +kernel), by decide +kernel⟩
theorem mw_491 : Cond.code yX4_comesTrue cX4_comesTrue 9 (some .int) ∈ wAll := List.mem_filter.mpr ⟨List.mem_of_getElem? (i := 820) (by decide +kernel), by decide +kernel⟩
theorem mw_492 : Cond.code yX4_readings cX4_readings 5 (some .int) ∈ wAll := List.mem_filter.mpr ⟨List.mem_of_getElem? (i := 824) (by decide +kernel), by decide +kernel⟩
theorem mw_493 : Cond.constantLong RX4 140 (9) ∈ wAll := List.mem_filter.mpr ⟨List.mem_of_getElem? (i := 829) (by decide +kernel), by decide +kernel⟩
theorem mw_494 : Cond.code yX4_roster cX4_roster 3 (some .int) ∈ wAll := List.mem_filter.mpr ⟨List.mem_of_getElem? (i := 828) (by decide +kernel), by decide +kernel⟩
theorem mw_495 : Cond.code yX4_isStruck cX4_isStruck 6 (some .boolean) ∈ wAll := List.mem_filter.mpr ⟨List.mem_of_getElem? (i := 838) (by decide +kernel), by decide +kernel⟩
theorem mw_496 : Cond.constantLong RX4 142 (8) ∈ wAll := List.mem_filter.mpr ⟨List.mem_of_getElem? (i := 834) (by decide +kernel), by decide +kernel⟩
theorem mw_497 : Cond.methodLink RX4 144 yX4_isStruck ∈ wAll := List.mem_filter.mpr ⟨List.mem_of_getElem? (i := 835) (by decide +kernel), by decide +kernel⟩
theorem mw_498 : Cond.instanceMethod yX4_isStruck ∈ wAll := List.mem_filter.mpr ⟨List.mem_of_getElem? (i := 837) (by decide +kernel), by decide +kernel⟩
theorem mw_499 : Cond.selects RX4 yX4_isStruck yX4_isStruck ∈ wAll := List.mem_filter.mpr ⟨List.mem_of_getElem? (i := 38) (by decide +kernel), by decide +kernel⟩
theorem mw_500 : Cond.code yX4_off cX4_off 7 (some .int) ∈ wAll := List.mem_filter.mpr ⟨List.mem_of_getElem? (i := 833) (by decide +kernel), by decide +kernel⟩
theorem mw_501 : Cond.code yX4_rests cX4_rests 8 (some .int) ∈ wAll := List.mem_filter.mpr ⟨List.mem_of_getElem? (i := 842) (by decide +kernel), by decide +kernel⟩
theorem mw_502 : Cond.constantLong RX4 148 (99) ∈ wAll := List.mem_filter.mpr ⟨List.mem_of_getElem? (i := 847) (by decide +kernel), by decide +kernel⟩
theorem mw_503 : Cond.code yX4_note cX4_note 7 (some .int) ∈ wAll := List.mem_filter.mpr ⟨List.mem_of_getElem? (i := 846) (by decide +kernel), by decide +kernel⟩
theorem mw_504 : Cond.code yX4_forget cX4_forget 2 (some .int) ∈ wAll := List.mem_filter.mpr ⟨List.mem_of_getElem? (i := 851) (by decide +kernel), by decide +kernel⟩
theorem mw_505 : Cond.code yX4_kindsOf cX4_kindsOf 7 (some .int) ∈ wAll := List.mem_filter.mpr ⟨List.mem_of_getElem? (i := 859) (by decide +kernel), by decide +kernel⟩
theorem mw_506 : Cond.methodLink RX4 150 yX4_kindsOf ∈ wAll := List.mem_filter.mpr ⟨List.mem_of_getElem? (i := 856) (by decide +kernel), by decide +kernel⟩
theorem mw_507 : Cond.instanceMethod yX4_kindsOf ∈ wAll := List.mem_filter.mpr ⟨List.mem_of_getElem? (i := 858) (by decide +kernel), by decide +kernel⟩
theorem mw_508 : Cond.selects RX4 yX4_kindsOf yX4_kindsOf ∈ wAll := List.mem_filter.mpr ⟨List.mem_of_getElem? (i := 39) (by decide +kernel), by decide +kernel⟩
theorem mw_509 : Cond.code yX4_is cX4_is 2 (some .int) ∈ wAll := List.mem_filter.mpr ⟨List.mem_of_getElem? (i := 855) (by decide +kernel), by decide +kernel⟩
theorem mw_510 : Cond.constant RX4 153 (1000000) ∈ wAll := List.mem_filter.mpr ⟨List.mem_of_getElem? (i := 864) (by decide +kernel), by decide +kernel⟩
theorem mw_511 : Cond.code yX4_look cX4_look 10 (some .int) ∈ wAll := List.mem_filter.mpr ⟨List.mem_of_getElem? (i := 863) (by decide +kernel), by decide +kernel⟩
theorem mw_512 : Cond.code yX4_manySources cX4_manySources 5 (some .int) ∈ wAll := List.mem_filter.mpr ⟨List.mem_of_getElem? (i := 872) (by decide +kernel), by decide +kernel⟩
theorem mw_513 : Cond.code yX4_areKindsEven cX4_areKindsEven 6 (some .boolean) ∈ wAll := List.mem_filter.mpr ⟨List.mem_of_getElem? (i := 876) (by decide +kernel), by decide +kernel⟩
theorem mw_514 : Cond.methodLink RX4 154 yX4_manySources ∈ wAll := List.mem_filter.mpr ⟨List.mem_of_getElem? (i := 869) (by decide +kernel), by decide +kernel⟩
theorem mw_515 : Cond.instanceMethod yX4_manySources ∈ wAll := List.mem_filter.mpr ⟨List.mem_of_getElem? (i := 871) (by decide +kernel), by decide +kernel⟩
theorem mw_516 : Cond.selects RX4 yX4_manySources yX4_manySources ∈ wAll := List.mem_filter.mpr ⟨List.mem_of_getElem? (i := 40) (by decide +kernel), by decide +kernel⟩
theorem mw_517 : Cond.methodLink RX4 157 yX4_areKindsEven ∈ wAll := List.mem_filter.mpr ⟨List.mem_of_getElem? (i := 873) (by decide +kernel), by decide +kernel⟩
theorem mw_518 : Cond.instanceMethod yX4_areKindsEven ∈ wAll := List.mem_filter.mpr ⟨List.mem_of_getElem? (i := 875) (by decide +kernel), by decide +kernel⟩
theorem mw_519 : Cond.selects RX4 yX4_areKindsEven yX4_areKindsEven ∈ wAll := List.mem_filter.mpr ⟨List.mem_of_getElem? (i := 41) (by decide +kernel), by decide +kernel⟩
theorem mw_520 : Cond.code yX4_source cX4_source 2 (some .int) ∈ wAll := List.mem_filter.mpr ⟨List.mem_of_getElem? (i := 868) (by decide +kernel), by decide +kernel⟩
theorem mw_521 : Cond.fieldLink RX4 161 "WantedLaterModel" "above" "J" ∈ wAll := List.mem_filter.mpr ⟨List.mem_of_getElem? (i := 640) (by decide +kernel), by decide +kernel⟩
theorem mw_522 : Cond.code yX4_fraction cX4_fraction 11 none ∈ wAll := List.mem_filter.mpr ⟨List.mem_of_getElem? (i := 885) (by decide +kernel), by decide +kernel⟩
theorem mw_523 : Cond.constantLong RX4 164 (10) ∈ wAll := List.mem_filter.mpr ⟨List.mem_of_getElem? (i := 881) (by decide +kernel), by decide +kernel⟩
theorem mw_524 : Cond.methodLink RX4 166 yX4_fraction ∈ wAll := List.mem_filter.mpr ⟨List.mem_of_getElem? (i := 882) (by decide +kernel), by decide +kernel⟩
theorem mw_525 : Cond.instanceMethod yX4_fraction ∈ wAll := List.mem_filter.mpr ⟨List.mem_of_getElem? (i := 884) (by decide +kernel), by decide +kernel⟩
theorem mw_526 : Cond.selects RX4 yX4_fraction yX4_fraction ∈ wAll := List.mem_filter.mpr ⟨List.mem_of_getElem? (i := 42) (by decide +kernel), by decide +kernel⟩
theorem mw_527 : Cond.code yX4_odds cX4_odds 12 (some .int) ∈ wAll := List.mem_filter.mpr ⟨List.mem_of_getElem? (i := 880) (by decide +kernel), by decide +kernel⟩
theorem mw_528 : Cond.constantLong RX4 170 (999999) ∈ wAll := List.mem_filter.mpr ⟨List.mem_of_getElem? (i := 890) (by decide +kernel), by decide +kernel⟩
theorem mw_529 : Cond.constantLong RX4 172 (1103515245) ∈ wAll := List.mem_filter.mpr ⟨List.mem_of_getElem? (i := 891) (by decide +kernel), by decide +kernel⟩
theorem mw_530 : Cond.constantLong RX4 174 (12345) ∈ wAll := List.mem_filter.mpr ⟨List.mem_of_getElem? (i := 892) (by decide +kernel), by decide +kernel⟩
theorem mw_531 : Cond.constantLong RX4 176 (2147483648) ∈ wAll := List.mem_filter.mpr ⟨List.mem_of_getElem? (i := 893) (by decide +kernel), by decide +kernel⟩
theorem mw_532 : Cond.constantLong RX4 178 (65536) ∈ wAll := List.mem_filter.mpr ⟨List.mem_of_getElem? (i := 894) (by decide +kernel), by decide +kernel⟩
theorem mw_533 : Cond.constantLong RX4 180 (2) ∈ wAll := List.mem_filter.mpr ⟨List.mem_of_getElem? (i := 895) (by decide +kernel), by decide +kernel⟩
theorem mw_534 : Cond.code yX4_years cX4_years 8 (some .int) ∈ wAll := List.mem_filter.mpr ⟨List.mem_of_getElem? (i := 889) (by decide +kernel), by decide +kernel⟩
theorem mw_535 : Cond.constantLong RX4 182 (127) ∈ wAll := List.mem_filter.mpr ⟨List.mem_of_getElem? (i := 900) (by decide +kernel), by decide +kernel⟩
theorem mw_536 : Cond.fieldLink RX4 184 "WantedLaterModel" "bytesLong" "I" ∈ wAll := List.mem_filter.mpr ⟨List.mem_of_getElem? (i := 650) (by decide +kernel), by decide +kernel⟩
theorem mw_537 : Cond.code yX4_type cX4_type 2 (some .int) ∈ wAll := List.mem_filter.mpr ⟨List.mem_of_getElem? (i := 899) (by decide +kernel), by decide +kernel⟩
theorem mw_538 : Cond.code yX4_clear cX4_clear 2 (some .int) ∈ wAll := List.mem_filter.mpr ⟨List.mem_of_getElem? (i := 904) (by decide +kernel), by decide +kernel⟩
theorem mw_539 : Cond.constantLong RX4 187 (97) ∈ wAll := List.mem_filter.mpr ⟨List.mem_of_getElem? (i := 916) (by decide +kernel), by decide +kernel⟩
theorem mw_540 : Cond.constantLong RX4 189 (122) ∈ wAll := List.mem_filter.mpr ⟨List.mem_of_getElem? (i := 917) (by decide +kernel), by decide +kernel⟩
theorem mw_541 : Cond.code yX4_isSmall cX4_isSmall 1 (some .boolean) ∈ wAll := List.mem_filter.mpr ⟨List.mem_of_getElem? (i := 915) (by decide +kernel), by decide +kernel⟩
theorem mw_542 : Cond.constantLong RX4 191 (48) ∈ wAll := List.mem_filter.mpr ⟨List.mem_of_getElem? (i := 921) (by decide +kernel), by decide +kernel⟩
theorem mw_543 : Cond.constantLong RX4 193 (57) ∈ wAll := List.mem_filter.mpr ⟨List.mem_of_getElem? (i := 922) (by decide +kernel), by decide +kernel⟩
theorem mw_544 : Cond.code yX4_isFigure cX4_isFigure 1 (some .boolean) ∈ wAll := List.mem_filter.mpr ⟨List.mem_of_getElem? (i := 920) (by decide +kernel), by decide +kernel⟩
theorem mw_545 : Cond.fieldLink RX4 195 "WantedLaterModel" "tokenAt" "I" ∈ wAll := List.mem_filter.mpr ⟨List.mem_of_getElem? (i := 651) (by decide +kernel), by decide +kernel⟩
theorem mw_546 : Cond.fieldLink RX4 198 "WantedLaterModel" "tokenLong" "I" ∈ wAll := List.mem_filter.mpr ⟨List.mem_of_getElem? (i := 652) (by decide +kernel), by decide +kernel⟩
theorem mw_547 : Cond.fieldLink RX4 201 "WantedLaterModel" "token" "I" ∈ wAll := List.mem_filter.mpr ⟨List.mem_of_getElem? (i := 653) (by decide +kernel), by decide +kernel⟩
theorem mw_548 : Cond.fieldLink RX4 204 "WantedLaterModel" "value" "I" ∈ wAll := List.mem_filter.mpr ⟨List.mem_of_getElem? (i := 654) (by decide +kernel), by decide +kernel⟩
theorem mw_549 : Cond.methodLink RX4 207 yX4_isSmall ∈ wAll := List.mem_filter.mpr ⟨List.mem_of_getElem? (i := 913) (by decide +kernel), by decide +kernel⟩
theorem mw_550 : Cond.static yX4_isSmall ∈ wAll := List.mem_filter.mpr ⟨List.mem_of_getElem? (i := 914) (by decide +kernel), by decide +kernel⟩
theorem mw_551 : Cond.methodLink RX4 210 yX4_isFigure ∈ wAll := List.mem_filter.mpr ⟨List.mem_of_getElem? (i := 918) (by decide +kernel), by decide +kernel⟩
theorem mw_552 : Cond.static yX4_isFigure ∈ wAll := List.mem_filter.mpr ⟨List.mem_of_getElem? (i := 919) (by decide +kernel), by decide +kernel⟩
theorem mw_553 : Cond.code yX4_lookAt cX4_lookAt 5 none ∈ wAll := List.mem_filter.mpr ⟨List.mem_of_getElem? (i := 912) (by decide +kernel), by decide +kernel⟩
theorem mw_554 : Cond.methodLink RX4 213 yX4_lookAt ∈ wAll := List.mem_filter.mpr ⟨List.mem_of_getElem? (i := 909) (by decide +kernel), by decide +kernel⟩
theorem mw_555 : Cond.instanceMethod yX4_lookAt ∈ wAll := List.mem_filter.mpr ⟨List.mem_of_getElem? (i := 911) (by decide +kernel), by decide +kernel⟩
theorem mw_556 : Cond.selects RX4 yX4_lookAt yX4_lookAt ∈ wAll := List.mem_filter.mpr ⟨List.mem_of_getElem? (i := 43) (by decide +kernel), by decide +kernel⟩
theorem mw_557 : Cond.code yX4_goBehind cX4_goBehind 1 none ∈ wAll := List.mem_filter.mpr ⟨List.mem_of_getElem? (i := 934) (by decide +kernel), by decide +kernel⟩
theorem mw_558 : Cond.code yX4_spells cX4_spells 10 (some .boolean) ∈ wAll := List.mem_filter.mpr ⟨List.mem_of_getElem? (i := 930) (by decide +kernel), by decide +kernel⟩
theorem mw_559 : Cond.methodLink RX4 217 yX4_goBehind ∈ wAll := List.mem_filter.mpr ⟨List.mem_of_getElem? (i := 931) (by decide +kernel), by decide +kernel⟩
theorem mw_560 : Cond.instanceMethod yX4_goBehind ∈ wAll := List.mem_filter.mpr ⟨List.mem_of_getElem? (i := 933) (by decide +kernel), by decide +kernel⟩
theorem mw_561 : Cond.selects RX4 yX4_goBehind yX4_goBehind ∈ wAll := List.mem_filter.mpr ⟨List.mem_of_getElem? (i := 46) (by decide +kernel), by decide +kernel⟩
theorem mw_562 : Cond.code yX4_takes cX4_takes 4 (some .boolean) ∈ wAll := List.mem_filter.mpr ⟨List.mem_of_getElem? (i := 938) (by decide +kernel), by decide +kernel⟩
theorem mw_563 : Cond.methodLink RX4 220 yX4_spells ∈ wAll := List.mem_filter.mpr ⟨List.mem_of_getElem? (i := 927) (by decide +kernel), by decide +kernel⟩
theorem mw_564 : Cond.instanceMethod yX4_spells ∈ wAll := List.mem_filter.mpr ⟨List.mem_of_getElem? (i := 929) (by decide +kernel), by decide +kernel⟩
theorem mw_565 : Cond.selects RX4 yX4_spells yX4_spells ∈ wAll := List.mem_filter.mpr ⟨List.mem_of_getElem? (i := 45) (by decide +kernel), by decide +kernel⟩
theorem mw_566 : Cond.methodLink RX4 224 yX4_takes ∈ wAll := List.mem_filter.mpr ⟨List.mem_of_getElem? (i := 935) (by decide +kernel), by decide +kernel⟩
theorem mw_567 : Cond.instanceMethod yX4_takes ∈ wAll := List.mem_filter.mpr ⟨List.mem_of_getElem? (i := 937) (by decide +kernel), by decide +kernel⟩
theorem mw_568 : Cond.selects RX4 yX4_takes yX4_takes ∈ wAll := List.mem_filter.mpr ⟨List.mem_of_getElem? (i := 47) (by decide +kernel), by decide +kernel⟩
theorem mw_569 : Cond.code yX4_takesTown cX4_takesTown 1 (some .boolean) ∈ wAll := List.mem_filter.mpr ⟨List.mem_of_getElem? (i := 926) (by decide +kernel), by decide +kernel⟩
theorem mw_570 : Cond.code yX4_takesOne cX4_takesOne 1 (some .boolean) ∈ wAll := List.mem_filter.mpr ⟨List.mem_of_getElem? (i := 946) (by decide +kernel), by decide +kernel⟩
theorem mw_571 : Cond.code yX4_takesBit cX4_takesBit 2 (some .boolean) ∈ wAll := List.mem_filter.mpr ⟨List.mem_of_getElem? (i := 950) (by decide +kernel), by decide +kernel⟩
theorem mw_572 : Cond.methodLink RX4 227 yX4_takesOne ∈ wAll := List.mem_filter.mpr ⟨List.mem_of_getElem? (i := 943) (by decide +kernel), by decide +kernel⟩
theorem mw_573 : Cond.instanceMethod yX4_takesOne ∈ wAll := List.mem_filter.mpr ⟨List.mem_of_getElem? (i := 945) (by decide +kernel), by decide +kernel⟩
theorem mw_574 : Cond.selects RX4 yX4_takesOne yX4_takesOne ∈ wAll := List.mem_filter.mpr ⟨List.mem_of_getElem? (i := 49) (by decide +kernel), by decide +kernel⟩
theorem mw_575 : Cond.methodLink RX4 230 yX4_takesBit ∈ wAll := List.mem_filter.mpr ⟨List.mem_of_getElem? (i := 947) (by decide +kernel), by decide +kernel⟩
theorem mw_576 : Cond.instanceMethod yX4_takesBit ∈ wAll := List.mem_filter.mpr ⟨List.mem_of_getElem? (i := 949) (by decide +kernel), by decide +kernel⟩
theorem mw_577 : Cond.selects RX4 yX4_takesBit yX4_takesBit ∈ wAll := List.mem_filter.mpr ⟨List.mem_of_getElem? (i := 50) (by decide +kernel), by decide +kernel⟩
theorem mw_578 : Cond.code yX4_takesItem cX4_takesItem 1 (some .boolean) ∈ wAll := List.mem_filter.mpr ⟨List.mem_of_getElem? (i := 942) (by decide +kernel), by decide +kernel⟩
theorem mw_579 : Cond.methodLink RX4 233 yX4_takesTown ∈ wAll := List.mem_filter.mpr ⟨List.mem_of_getElem? (i := 923) (by decide +kernel), by decide +kernel⟩
theorem mw_580 : Cond.instanceMethod yX4_takesTown ∈ wAll := List.mem_filter.mpr ⟨List.mem_of_getElem? (i := 925) (by decide +kernel), by decide +kernel⟩
theorem mw_581 : Cond.selects RX4 yX4_takesTown yX4_takesTown ∈ wAll := List.mem_filter.mpr ⟨List.mem_of_getElem? (i := 44) (by decide +kernel), by decide +kernel⟩
theorem mw_582 : Cond.methodLink RX4 236 yX4_takesItem ∈ wAll := List.mem_filter.mpr ⟨List.mem_of_getElem? (i := 939) (by decide +kernel), by decide +kernel⟩
theorem mw_583 : Cond.instanceMethod yX4_takesItem ∈ wAll := List.mem_filter.mpr ⟨List.mem_of_getElem? (i := 941) (by decide +kernel), by decide +kernel⟩
theorem mw_584 : Cond.selects RX4 yX4_takesItem yX4_takesItem ∈ wAll := List.mem_filter.mpr ⟨List.mem_of_getElem? (i := 48) (by decide +kernel), by decide +kernel⟩
theorem mw_585 : Cond.code yX4_read cX4_read 3 (some .int) ∈ wAll := List.mem_filter.mpr ⟨List.mem_of_getElem? (i := 908) (by decide +kernel), by decide +kernel⟩
theorem mw_586 : Cond.code yX4_part cX4_part 2 (some .long) ∈ wAll := List.mem_filter.mpr ⟨List.mem_of_getElem? (i := 954) (by decide +kernel), by decide +kernel⟩
theorem mw_587 : Cond.code yX4_image cX4_image 3 (some .int) ∈ wAll := List.mem_filter.mpr ⟨List.mem_of_getElem? (i := 958) (by decide +kernel), by decide +kernel⟩
theorem mw_588 : Cond.code yX4_from cX4_from 3 (some .int) ∈ wAll := List.mem_filter.mpr ⟨List.mem_of_getElem? (i := 962) (by decide +kernel), by decide +kernel⟩
theorem mw_589 : Cond.code yX4_status cX4_status 2 (some .int) ∈ wAll := List.mem_filter.mpr ⟨List.mem_of_getElem? (i := 966) (by decide +kernel), by decide +kernel⟩
theorem mw_590 : Cond.code yX4_counted cX4_counted 2 (some .int) ∈ wAll := List.mem_filter.mpr ⟨List.mem_of_getElem? (i := 975) (by decide +kernel), by decide +kernel⟩
theorem mw_591 : Cond.constantLong RX4 239 (7) ∈ wAll := List.mem_filter.mpr ⟨List.mem_of_getElem? (i := 971) (by decide +kernel), by decide +kernel⟩
theorem mw_592 : Cond.methodLink RX4 241 yX4_counted ∈ wAll := List.mem_filter.mpr ⟨List.mem_of_getElem? (i := 972) (by decide +kernel), by decide +kernel⟩
theorem mw_593 : Cond.instanceMethod yX4_counted ∈ wAll := List.mem_filter.mpr ⟨List.mem_of_getElem? (i := 974) (by decide +kernel), by decide +kernel⟩
theorem mw_594 : Cond.selects RX4 yX4_counted yX4_counted ∈ wAll := List.mem_filter.mpr ⟨List.mem_of_getElem? (i := 51) (by decide +kernel), by decide +kernel⟩
theorem mw_595 : Cond.code yX4_count cX4_count 2 (some .int) ∈ wAll := List.mem_filter.mpr ⟨List.mem_of_getElem? (i := 970) (by decide +kernel), by decide +kernel⟩
theorem mw_596 : Cond.constantLong RX4 244 (31) ∈ wAll := List.mem_filter.mpr ⟨List.mem_of_getElem? (i := 981) (by decide +kernel), by decide +kernel⟩
theorem mw_597 : Cond.code yX4_sums cX4_sums 8 (some .long) ∈ wAll := List.mem_filter.mpr ⟨List.mem_of_getElem? (i := 985) (by decide +kernel), by decide +kernel⟩
theorem mw_598 : Cond.constantLong RX4 246 (1213) ∈ wAll := List.mem_filter.mpr ⟨List.mem_of_getElem? (i := 980) (by decide +kernel), by decide +kernel⟩
theorem mw_599 : Cond.methodLink RX4 248 yX4_sums ∈ wAll := List.mem_filter.mpr ⟨List.mem_of_getElem? (i := 982) (by decide +kernel), by decide +kernel⟩
theorem mw_600 : Cond.instanceMethod yX4_sums ∈ wAll := List.mem_filter.mpr ⟨List.mem_of_getElem? (i := 984) (by decide +kernel), by decide +kernel⟩
theorem mw_601 : Cond.selects RX4 yX4_sums yX4_sums ∈ wAll := List.mem_filter.mpr ⟨List.mem_of_getElem? (i := 52) (by decide +kernel), by decide +kernel⟩
theorem mw_602 : Cond.code yX4_digest cX4_digest 4 (some .long) ∈ wAll := List.mem_filter.mpr ⟨List.mem_of_getElem? (i := 979) (by decide +kernel), by decide +kernel⟩
theorem mw_603 : Cond.classLink RL 7 RX3 ∈ wAll := List.mem_filter.mpr ⟨List.mem_of_getElem? (i := 66) (by decide +kernel), by decide +kernel⟩
theorem mw_604 : Cond.instantiable RX3 11 ∈ wAll := List.mem_filter.mpr ⟨List.mem_of_getElem? (i := 67) (by decide +kernel), by decide +kernel⟩
theorem mw_605 : Cond.classLink RL 10 RX4 ∈ wAll := List.mem_filter.mpr ⟨List.mem_of_getElem? (i := 627) (by decide +kernel), by decide +kernel⟩
theorem mw_606 : Cond.instantiable RX4 21 ∈ wAll := List.mem_filter.mpr ⟨List.mem_of_getElem? (i := 628) (by decide +kernel), by decide +kernel⟩
theorem mw_607 : Cond.methodLink RL 9 yX3_init ∈ wAll := List.mem_filter.mpr ⟨List.mem_of_getElem? (i := 68) (by decide +kernel), by decide +kernel⟩
theorem mw_608 : Cond.instanceMethod yX3_init ∈ wAll := List.mem_filter.mpr ⟨List.mem_of_getElem? (i := 69) (by decide +kernel), by decide +kernel⟩
theorem mw_609 : Cond.methodLink RL 12 yX4_init ∈ wAll := List.mem_filter.mpr ⟨List.mem_of_getElem? (i := 629) (by decide +kernel), by decide +kernel⟩
theorem mw_610 : Cond.instanceMethod yX4_init ∈ wAll := List.mem_filter.mpr ⟨List.mem_of_getElem? (i := 630) (by decide +kernel), by decide +kernel⟩
theorem mw_611 : Cond.methodLink RL 13 yX3_town ∈ wAll := List.mem_filter.mpr ⟨List.mem_of_getElem? (i := 230) (by decide +kernel), by decide +kernel⟩
theorem mw_612 : Cond.instanceMethod yX3_town ∈ wAll := List.mem_filter.mpr ⟨List.mem_of_getElem? (i := 231) (by decide +kernel), by decide +kernel⟩
theorem mw_613 : Cond.selects RX3 yX3_town yX3_town ∈ wAll := List.mem_filter.mpr ⟨List.mem_of_getElem? (i := 232) (by decide +kernel), by decide +kernel⟩
theorem mw_614 : Cond.methodLink RL 17 yX4_town ∈ wAll := List.mem_filter.mpr ⟨List.mem_of_getElem? (i := 700) (by decide +kernel), by decide +kernel⟩
theorem mw_615 : Cond.instanceMethod yX4_town ∈ wAll := List.mem_filter.mpr ⟨List.mem_of_getElem? (i := 701) (by decide +kernel), by decide +kernel⟩
theorem mw_616 : Cond.selects RX4 yX4_town yX4_town ∈ wAll := List.mem_filter.mpr ⟨List.mem_of_getElem? (i := 702) (by decide +kernel), by decide +kernel⟩
theorem mw_617 : Cond.methodLink RL 18 yX3_one ∈ wAll := List.mem_filter.mpr ⟨List.mem_of_getElem? (i := 245) (by decide +kernel), by decide +kernel⟩
theorem mw_618 : Cond.instanceMethod yX3_one ∈ wAll := List.mem_filter.mpr ⟨List.mem_of_getElem? (i := 246) (by decide +kernel), by decide +kernel⟩
theorem mw_619 : Cond.selects RX3 yX3_one yX3_one ∈ wAll := List.mem_filter.mpr ⟨List.mem_of_getElem? (i := 247) (by decide +kernel), by decide +kernel⟩
theorem mw_620 : Cond.methodLink RL 22 yX4_one ∈ wAll := List.mem_filter.mpr ⟨List.mem_of_getElem? (i := 716) (by decide +kernel), by decide +kernel⟩
theorem mw_621 : Cond.instanceMethod yX4_one ∈ wAll := List.mem_filter.mpr ⟨List.mem_of_getElem? (i := 717) (by decide +kernel), by decide +kernel⟩
theorem mw_622 : Cond.selects RX4 yX4_one yX4_one ∈ wAll := List.mem_filter.mpr ⟨List.mem_of_getElem? (i := 718) (by decide +kernel), by decide +kernel⟩
theorem mw_623 : Cond.methodLink RL 23 yX3_type ∈ wAll := List.mem_filter.mpr ⟨List.mem_of_getElem? (i := 257) (by decide +kernel), by decide +kernel⟩
theorem mw_624 : Cond.instanceMethod yX3_type ∈ wAll := List.mem_filter.mpr ⟨List.mem_of_getElem? (i := 258) (by decide +kernel), by decide +kernel⟩
theorem mw_625 : Cond.selects RX3 yX3_type yX3_type ∈ wAll := List.mem_filter.mpr ⟨List.mem_of_getElem? (i := 259) (by decide +kernel), by decide +kernel⟩
theorem mw_626 : Cond.methodLink RL 26 yX4_type ∈ wAll := List.mem_filter.mpr ⟨List.mem_of_getElem? (i := 896) (by decide +kernel), by decide +kernel⟩
theorem mw_627 : Cond.instanceMethod yX4_type ∈ wAll := List.mem_filter.mpr ⟨List.mem_of_getElem? (i := 897) (by decide +kernel), by decide +kernel⟩
theorem mw_628 : Cond.selects RX4 yX4_type yX4_type ∈ wAll := List.mem_filter.mpr ⟨List.mem_of_getElem? (i := 898) (by decide +kernel), by decide +kernel⟩
theorem mw_629 : Cond.methodLink RL 27 yX3_clear ∈ wAll := List.mem_filter.mpr ⟨List.mem_of_getElem? (i := 265) (by decide +kernel), by decide +kernel⟩
theorem mw_630 : Cond.instanceMethod yX3_clear ∈ wAll := List.mem_filter.mpr ⟨List.mem_of_getElem? (i := 266) (by decide +kernel), by decide +kernel⟩
theorem mw_631 : Cond.selects RX3 yX3_clear yX3_clear ∈ wAll := List.mem_filter.mpr ⟨List.mem_of_getElem? (i := 267) (by decide +kernel), by decide +kernel⟩
theorem mw_632 : Cond.methodLink RL 31 yX4_clear ∈ wAll := List.mem_filter.mpr ⟨List.mem_of_getElem? (i := 901) (by decide +kernel), by decide +kernel⟩
theorem mw_633 : Cond.instanceMethod yX4_clear ∈ wAll := List.mem_filter.mpr ⟨List.mem_of_getElem? (i := 902) (by decide +kernel), by decide +kernel⟩
theorem mw_634 : Cond.selects RX4 yX4_clear yX4_clear ∈ wAll := List.mem_filter.mpr ⟨List.mem_of_getElem? (i := 903) (by decide +kernel), by decide +kernel⟩
theorem mw_635 : Cond.methodLink RL 32 yX3_read ∈ wAll := List.mem_filter.mpr ⟨List.mem_of_getElem? (i := 269) (by decide +kernel), by decide +kernel⟩
theorem mw_636 : Cond.instanceMethod yX3_read ∈ wAll := List.mem_filter.mpr ⟨List.mem_of_getElem? (i := 270) (by decide +kernel), by decide +kernel⟩
theorem mw_637 : Cond.selects RX3 yX3_read yX3_read ∈ wAll := List.mem_filter.mpr ⟨List.mem_of_getElem? (i := 271) (by decide +kernel), by decide +kernel⟩
theorem mw_638 : Cond.methodLink RL 35 yX4_read ∈ wAll := List.mem_filter.mpr ⟨List.mem_of_getElem? (i := 905) (by decide +kernel), by decide +kernel⟩
theorem mw_639 : Cond.instanceMethod yX4_read ∈ wAll := List.mem_filter.mpr ⟨List.mem_of_getElem? (i := 906) (by decide +kernel), by decide +kernel⟩
theorem mw_640 : Cond.selects RX4 yX4_read yX4_read ∈ wAll := List.mem_filter.mpr ⟨List.mem_of_getElem? (i := 907) (by decide +kernel), by decide +kernel⟩
theorem mw_641 : Cond.methodLink RL 36 yX3_list ∈ wAll := List.mem_filter.mpr ⟨List.mem_of_getElem? (i := 381) (by decide +kernel), by decide +kernel⟩
theorem mw_642 : Cond.instanceMethod yX3_list ∈ wAll := List.mem_filter.mpr ⟨List.mem_of_getElem? (i := 382) (by decide +kernel), by decide +kernel⟩
theorem mw_643 : Cond.selects RX3 yX3_list yX3_list ∈ wAll := List.mem_filter.mpr ⟨List.mem_of_getElem? (i := 383) (by decide +kernel), by decide +kernel⟩
theorem mw_644 : Cond.methodLink RL 39 yX4_list ∈ wAll := List.mem_filter.mpr ⟨List.mem_of_getElem? (i := 728) (by decide +kernel), by decide +kernel⟩
theorem mw_645 : Cond.instanceMethod yX4_list ∈ wAll := List.mem_filter.mpr ⟨List.mem_of_getElem? (i := 729) (by decide +kernel), by decide +kernel⟩
theorem mw_646 : Cond.selects RX4 yX4_list yX4_list ∈ wAll := List.mem_filter.mpr ⟨List.mem_of_getElem? (i := 730) (by decide +kernel), by decide +kernel⟩
theorem mw_647 : Cond.methodLink RL 40 yX3_follow ∈ wAll := List.mem_filter.mpr ⟨List.mem_of_getElem? (i := 397) (by decide +kernel), by decide +kernel⟩
theorem mw_648 : Cond.instanceMethod yX3_follow ∈ wAll := List.mem_filter.mpr ⟨List.mem_of_getElem? (i := 398) (by decide +kernel), by decide +kernel⟩
theorem mw_649 : Cond.selects RX3 yX3_follow yX3_follow ∈ wAll := List.mem_filter.mpr ⟨List.mem_of_getElem? (i := 399) (by decide +kernel), by decide +kernel⟩
theorem mw_650 : Cond.methodLink RL 43 yX4_follow ∈ wAll := List.mem_filter.mpr ⟨List.mem_of_getElem? (i := 744) (by decide +kernel), by decide +kernel⟩
theorem mw_651 : Cond.instanceMethod yX4_follow ∈ wAll := List.mem_filter.mpr ⟨List.mem_of_getElem? (i := 745) (by decide +kernel), by decide +kernel⟩
theorem mw_652 : Cond.selects RX4 yX4_follow yX4_follow ∈ wAll := List.mem_filter.mpr ⟨List.mem_of_getElem? (i := 746) (by decide +kernel), by decide +kernel⟩
theorem mw_653 : Cond.methodLink RL 44 yX3_day ∈ wAll := List.mem_filter.mpr ⟨List.mem_of_getElem? (i := 401) (by decide +kernel), by decide +kernel⟩
theorem mw_654 : Cond.instanceMethod yX3_day ∈ wAll := List.mem_filter.mpr ⟨List.mem_of_getElem? (i := 402) (by decide +kernel), by decide +kernel⟩
theorem mw_655 : Cond.selects RX3 yX3_day yX3_day ∈ wAll := List.mem_filter.mpr ⟨List.mem_of_getElem? (i := 403) (by decide +kernel), by decide +kernel⟩
theorem mw_656 : Cond.methodLink RL 47 yX4_day ∈ wAll := List.mem_filter.mpr ⟨List.mem_of_getElem? (i := 748) (by decide +kernel), by decide +kernel⟩
theorem mw_657 : Cond.instanceMethod yX4_day ∈ wAll := List.mem_filter.mpr ⟨List.mem_of_getElem? (i := 749) (by decide +kernel), by decide +kernel⟩
theorem mw_658 : Cond.selects RX4 yX4_day yX4_day ∈ wAll := List.mem_filter.mpr ⟨List.mem_of_getElem? (i := 750) (by decide +kernel), by decide +kernel⟩
theorem mw_659 : Cond.methodLink RL 48 yX3_undo ∈ wAll := List.mem_filter.mpr ⟨List.mem_of_getElem? (i := 443) (by decide +kernel), by decide +kernel⟩
theorem mw_660 : Cond.instanceMethod yX3_undo ∈ wAll := List.mem_filter.mpr ⟨List.mem_of_getElem? (i := 444) (by decide +kernel), by decide +kernel⟩
theorem mw_661 : Cond.selects RX3 yX3_undo yX3_undo ∈ wAll := List.mem_filter.mpr ⟨List.mem_of_getElem? (i := 445) (by decide +kernel), by decide +kernel⟩
theorem mw_662 : Cond.methodLink RL 51 yX4_undo ∈ wAll := List.mem_filter.mpr ⟨List.mem_of_getElem? (i := 788) (by decide +kernel), by decide +kernel⟩
theorem mw_663 : Cond.instanceMethod yX4_undo ∈ wAll := List.mem_filter.mpr ⟨List.mem_of_getElem? (i := 789) (by decide +kernel), by decide +kernel⟩
theorem mw_664 : Cond.selects RX4 yX4_undo yX4_undo ∈ wAll := List.mem_filter.mpr ⟨List.mem_of_getElem? (i := 790) (by decide +kernel), by decide +kernel⟩
theorem mw_665 : Cond.methodLink RL 52 yX3_of ∈ wAll := List.mem_filter.mpr ⟨List.mem_of_getElem? (i := 455) (by decide +kernel), by decide +kernel⟩
theorem mw_666 : Cond.instanceMethod yX3_of ∈ wAll := List.mem_filter.mpr ⟨List.mem_of_getElem? (i := 456) (by decide +kernel), by decide +kernel⟩
theorem mw_667 : Cond.selects RX3 yX3_of yX3_of ∈ wAll := List.mem_filter.mpr ⟨List.mem_of_getElem? (i := 457) (by decide +kernel), by decide +kernel⟩
theorem mw_668 : Cond.methodLink RL 55 yX4_of ∈ wAll := List.mem_filter.mpr ⟨List.mem_of_getElem? (i := 796) (by decide +kernel), by decide +kernel⟩
theorem mw_669 : Cond.instanceMethod yX4_of ∈ wAll := List.mem_filter.mpr ⟨List.mem_of_getElem? (i := 797) (by decide +kernel), by decide +kernel⟩
theorem mw_670 : Cond.selects RX4 yX4_of yX4_of ∈ wAll := List.mem_filter.mpr ⟨List.mem_of_getElem? (i := 798) (by decide +kernel), by decide +kernel⟩
theorem mw_671 : Cond.methodLink RL 56 yX3_then ∈ wAll := List.mem_filter.mpr ⟨List.mem_of_getElem? (i := 468) (by decide +kernel), by decide +kernel⟩
theorem mw_672 : Cond.instanceMethod yX3_then ∈ wAll := List.mem_filter.mpr ⟨List.mem_of_getElem? (i := 469) (by decide +kernel), by decide +kernel⟩
theorem mw_673 : Cond.selects RX3 yX3_then yX3_then ∈ wAll := List.mem_filter.mpr ⟨List.mem_of_getElem? (i := 470) (by decide +kernel), by decide +kernel⟩
theorem mw_674 : Cond.methodLink RL 60 yX4_then ∈ wAll := List.mem_filter.mpr ⟨List.mem_of_getElem? (i := 801) (by decide +kernel), by decide +kernel⟩
theorem mw_675 : Cond.instanceMethod yX4_then ∈ wAll := List.mem_filter.mpr ⟨List.mem_of_getElem? (i := 802) (by decide +kernel), by decide +kernel⟩
theorem mw_676 : Cond.selects RX4 yX4_then yX4_then ∈ wAll := List.mem_filter.mpr ⟨List.mem_of_getElem? (i := 803) (by decide +kernel), by decide +kernel⟩
theorem mw_677 : Cond.methodLink RL 61 yX3_when ∈ wAll := List.mem_filter.mpr ⟨List.mem_of_getElem? (i := 473) (by decide +kernel), by decide +kernel⟩
theorem mw_678 : Cond.instanceMethod yX3_when ∈ wAll := List.mem_filter.mpr ⟨List.mem_of_getElem? (i := 474) (by decide +kernel), by decide +kernel⟩
theorem mw_679 : Cond.selects RX3 yX3_when yX3_when ∈ wAll := List.mem_filter.mpr ⟨List.mem_of_getElem? (i := 475) (by decide +kernel), by decide +kernel⟩
theorem mw_680 : Cond.methodLink RL 64 yX4_when ∈ wAll := List.mem_filter.mpr ⟨List.mem_of_getElem? (i := 805) (by decide +kernel), by decide +kernel⟩
theorem mw_681 : Cond.instanceMethod yX4_when ∈ wAll := List.mem_filter.mpr ⟨List.mem_of_getElem? (i := 806) (by decide +kernel), by decide +kernel⟩
theorem mw_682 : Cond.selects RX4 yX4_when yX4_when ∈ wAll := List.mem_filter.mpr ⟨List.mem_of_getElem? (i := 807) (by decide +kernel), by decide +kernel⟩
theorem mw_683 : Cond.methodLink RL 65 yX3_lack ∈ wAll := List.mem_filter.mpr ⟨List.mem_of_getElem? (i := 477) (by decide +kernel), by decide +kernel⟩
theorem mw_684 : Cond.instanceMethod yX3_lack ∈ wAll := List.mem_filter.mpr ⟨List.mem_of_getElem? (i := 478) (by decide +kernel), by decide +kernel⟩
theorem mw_685 : Cond.selects RX3 yX3_lack yX3_lack ∈ wAll := List.mem_filter.mpr ⟨List.mem_of_getElem? (i := 479) (by decide +kernel), by decide +kernel⟩
theorem mw_686 : Cond.methodLink RL 68 yX4_lack ∈ wAll := List.mem_filter.mpr ⟨List.mem_of_getElem? (i := 809) (by decide +kernel), by decide +kernel⟩
theorem mw_687 : Cond.instanceMethod yX4_lack ∈ wAll := List.mem_filter.mpr ⟨List.mem_of_getElem? (i := 810) (by decide +kernel), by decide +kernel⟩
theorem mw_688 : Cond.selects RX4 yX4_lack yX4_lack ∈ wAll := List.mem_filter.mpr ⟨List.mem_of_getElem? (i := 811) (by decide +kernel), by decide +kernel⟩
theorem mw_689 : Cond.methodLink RL 69 yX3_comesTrue ∈ wAll := List.mem_filter.mpr ⟨List.mem_of_getElem? (i := 490) (by decide +kernel), by decide +kernel⟩
theorem mw_690 : Cond.instanceMethod yX3_comesTrue ∈ wAll := List.mem_filter.mpr ⟨List.mem_of_getElem? (i := 491) (by decide +kernel), by decide +kernel⟩
theorem mw_691 : Cond.selects RX3 yX3_comesTrue yX3_comesTrue ∈ wAll := List.mem_filter.mpr ⟨List.mem_of_getElem? (i := 492) (by decide +kernel), by decide +kernel⟩
theorem mw_692 : Cond.methodLink RL 72 yX4_comesTrue ∈ wAll := List.mem_filter.mpr ⟨List.mem_of_getElem? (i := 817) (by decide +kernel), by decide +kernel⟩
theorem mw_693 : Cond.instanceMethod yX4_comesTrue ∈ wAll := List.mem_filter.mpr ⟨List.mem_of_getElem? (i := 818) (by decide +kernel), by decide +kernel⟩
theorem mw_694 : Cond.selects RX4 yX4_comesTrue yX4_comesTrue ∈ wAll := List.mem_filter.mpr ⟨List.mem_of_getElem? (i := 819) (by decide +kernel), by decide +kernel⟩
theorem mw_695 : Cond.methodLink RL 73 yX3_readings ∈ wAll := List.mem_filter.mpr ⟨List.mem_of_getElem? (i := 494) (by decide +kernel), by decide +kernel⟩
theorem mw_696 : Cond.instanceMethod yX3_readings ∈ wAll := List.mem_filter.mpr ⟨List.mem_of_getElem? (i := 495) (by decide +kernel), by decide +kernel⟩
theorem mw_697 : Cond.selects RX3 yX3_readings yX3_readings ∈ wAll := List.mem_filter.mpr ⟨List.mem_of_getElem? (i := 496) (by decide +kernel), by decide +kernel⟩
theorem mw_698 : Cond.methodLink RL 76 yX4_readings ∈ wAll := List.mem_filter.mpr ⟨List.mem_of_getElem? (i := 821) (by decide +kernel), by decide +kernel⟩
theorem mw_699 : Cond.instanceMethod yX4_readings ∈ wAll := List.mem_filter.mpr ⟨List.mem_of_getElem? (i := 822) (by decide +kernel), by decide +kernel⟩
theorem mw_700 : Cond.selects RX4 yX4_readings yX4_readings ∈ wAll := List.mem_filter.mpr ⟨List.mem_of_getElem? (i := 823) (by decide +kernel), by decide +kernel⟩
theorem mw_701 : Cond.methodLink RL 77 yX3_roster ∈ wAll := List.mem_filter.mpr ⟨List.mem_of_getElem? (i := 498) (by decide +kernel), by decide +kernel⟩
theorem mw_702 : Cond.instanceMethod yX3_roster ∈ wAll := List.mem_filter.mpr ⟨List.mem_of_getElem? (i := 499) (by decide +kernel), by decide +kernel⟩
theorem mw_703 : Cond.selects RX3 yX3_roster yX3_roster ∈ wAll := List.mem_filter.mpr ⟨List.mem_of_getElem? (i := 500) (by decide +kernel), by decide +kernel⟩
theorem mw_704 : Cond.methodLink RL 80 yX4_roster ∈ wAll := List.mem_filter.mpr ⟨List.mem_of_getElem? (i := 825) (by decide +kernel), by decide +kernel⟩
theorem mw_705 : Cond.instanceMethod yX4_roster ∈ wAll := List.mem_filter.mpr ⟨List.mem_of_getElem? (i := 826) (by decide +kernel), by decide +kernel⟩
theorem mw_706 : Cond.selects RX4 yX4_roster yX4_roster ∈ wAll := List.mem_filter.mpr ⟨List.mem_of_getElem? (i := 827) (by decide +kernel), by decide +kernel⟩
theorem mw_707 : Cond.methodLink RL 81 yX3_off ∈ wAll := List.mem_filter.mpr ⟨List.mem_of_getElem? (i := 503) (by decide +kernel), by decide +kernel⟩
theorem mw_708 : Cond.instanceMethod yX3_off ∈ wAll := List.mem_filter.mpr ⟨List.mem_of_getElem? (i := 504) (by decide +kernel), by decide +kernel⟩
theorem mw_709 : Cond.selects RX3 yX3_off yX3_off ∈ wAll := List.mem_filter.mpr ⟨List.mem_of_getElem? (i := 505) (by decide +kernel), by decide +kernel⟩
theorem mw_710 : Cond.methodLink RL 84 yX4_off ∈ wAll := List.mem_filter.mpr ⟨List.mem_of_getElem? (i := 830) (by decide +kernel), by decide +kernel⟩
theorem mw_711 : Cond.instanceMethod yX4_off ∈ wAll := List.mem_filter.mpr ⟨List.mem_of_getElem? (i := 831) (by decide +kernel), by decide +kernel⟩
theorem mw_712 : Cond.selects RX4 yX4_off yX4_off ∈ wAll := List.mem_filter.mpr ⟨List.mem_of_getElem? (i := 832) (by decide +kernel), by decide +kernel⟩
theorem mw_713 : Cond.methodLink RL 85 yX3_rests ∈ wAll := List.mem_filter.mpr ⟨List.mem_of_getElem? (i := 515) (by decide +kernel), by decide +kernel⟩
theorem mw_714 : Cond.instanceMethod yX3_rests ∈ wAll := List.mem_filter.mpr ⟨List.mem_of_getElem? (i := 516) (by decide +kernel), by decide +kernel⟩
theorem mw_715 : Cond.selects RX3 yX3_rests yX3_rests ∈ wAll := List.mem_filter.mpr ⟨List.mem_of_getElem? (i := 517) (by decide +kernel), by decide +kernel⟩
theorem mw_716 : Cond.methodLink RL 88 yX4_rests ∈ wAll := List.mem_filter.mpr ⟨List.mem_of_getElem? (i := 839) (by decide +kernel), by decide +kernel⟩
theorem mw_717 : Cond.instanceMethod yX4_rests ∈ wAll := List.mem_filter.mpr ⟨List.mem_of_getElem? (i := 840) (by decide +kernel), by decide +kernel⟩
theorem mw_718 : Cond.selects RX4 yX4_rests yX4_rests ∈ wAll := List.mem_filter.mpr ⟨List.mem_of_getElem? (i := 841) (by decide +kernel), by decide +kernel⟩
theorem mw_719 : Cond.methodLink RL 89 yX3_note ∈ wAll := List.mem_filter.mpr ⟨List.mem_of_getElem? (i := 535) (by decide +kernel), by decide +kernel⟩
theorem mw_720 : Cond.instanceMethod yX3_note ∈ wAll := List.mem_filter.mpr ⟨List.mem_of_getElem? (i := 536) (by decide +kernel), by decide +kernel⟩
theorem mw_721 : Cond.selects RX3 yX3_note yX3_note ∈ wAll := List.mem_filter.mpr ⟨List.mem_of_getElem? (i := 537) (by decide +kernel), by decide +kernel⟩
theorem mw_722 : Cond.methodLink RL 93 yX4_note ∈ wAll := List.mem_filter.mpr ⟨List.mem_of_getElem? (i := 843) (by decide +kernel), by decide +kernel⟩
theorem mw_723 : Cond.instanceMethod yX4_note ∈ wAll := List.mem_filter.mpr ⟨List.mem_of_getElem? (i := 844) (by decide +kernel), by decide +kernel⟩
theorem mw_724 : Cond.selects RX4 yX4_note yX4_note ∈ wAll := List.mem_filter.mpr ⟨List.mem_of_getElem? (i := 845) (by decide +kernel), by decide +kernel⟩
theorem mw_725 : Cond.methodLink RL 94 yX3_forget ∈ wAll := List.mem_filter.mpr ⟨List.mem_of_getElem? (i := 543) (by decide +kernel), by decide +kernel⟩
theorem mw_726 : Cond.instanceMethod yX3_forget ∈ wAll := List.mem_filter.mpr ⟨List.mem_of_getElem? (i := 544) (by decide +kernel), by decide +kernel⟩
theorem mw_727 : Cond.selects RX3 yX3_forget yX3_forget ∈ wAll := List.mem_filter.mpr ⟨List.mem_of_getElem? (i := 545) (by decide +kernel), by decide +kernel⟩
theorem mw_728 : Cond.methodLink RL 97 yX4_forget ∈ wAll := List.mem_filter.mpr ⟨List.mem_of_getElem? (i := 848) (by decide +kernel), by decide +kernel⟩
theorem mw_729 : Cond.instanceMethod yX4_forget ∈ wAll := List.mem_filter.mpr ⟨List.mem_of_getElem? (i := 849) (by decide +kernel), by decide +kernel⟩
theorem mw_730 : Cond.selects RX4 yX4_forget yX4_forget ∈ wAll := List.mem_filter.mpr ⟨List.mem_of_getElem? (i := 850) (by decide +kernel), by decide +kernel⟩
theorem mw_731 : Cond.methodLink RL 98 yX3_is ∈ wAll := List.mem_filter.mpr ⟨List.mem_of_getElem? (i := 547) (by decide +kernel), by decide +kernel⟩
theorem mw_732 : Cond.instanceMethod yX3_is ∈ wAll := List.mem_filter.mpr ⟨List.mem_of_getElem? (i := 548) (by decide +kernel), by decide +kernel⟩
theorem mw_733 : Cond.selects RX3 yX3_is yX3_is ∈ wAll := List.mem_filter.mpr ⟨List.mem_of_getElem? (i := 549) (by decide +kernel), by decide +kernel⟩
theorem mw_734 : Cond.methodLink RL 101 yX4_is ∈ wAll := List.mem_filter.mpr ⟨List.mem_of_getElem? (i := 852) (by decide +kernel), by decide +kernel⟩
theorem mw_735 : Cond.instanceMethod yX4_is ∈ wAll := List.mem_filter.mpr ⟨List.mem_of_getElem? (i := 853) (by decide +kernel), by decide +kernel⟩
theorem mw_736 : Cond.selects RX4 yX4_is yX4_is ∈ wAll := List.mem_filter.mpr ⟨List.mem_of_getElem? (i := 854) (by decide +kernel), by decide +kernel⟩
theorem mw_737 : Cond.methodLink RL 102 yX3_look ∈ wAll := List.mem_filter.mpr ⟨List.mem_of_getElem? (i := 560) (by decide +kernel), by decide +kernel⟩
theorem mw_738 : Cond.instanceMethod yX3_look ∈ wAll := List.mem_filter.mpr ⟨List.mem_of_getElem? (i := 561) (by decide +kernel), by decide +kernel⟩
theorem mw_739 : Cond.selects RX3 yX3_look yX3_look ∈ wAll := List.mem_filter.mpr ⟨List.mem_of_getElem? (i := 562) (by decide +kernel), by decide +kernel⟩
theorem mw_740 : Cond.methodLink RL 105 yX4_look ∈ wAll := List.mem_filter.mpr ⟨List.mem_of_getElem? (i := 860) (by decide +kernel), by decide +kernel⟩
theorem mw_741 : Cond.instanceMethod yX4_look ∈ wAll := List.mem_filter.mpr ⟨List.mem_of_getElem? (i := 861) (by decide +kernel), by decide +kernel⟩
theorem mw_742 : Cond.selects RX4 yX4_look yX4_look ∈ wAll := List.mem_filter.mpr ⟨List.mem_of_getElem? (i := 862) (by decide +kernel), by decide +kernel⟩
theorem mw_743 : Cond.methodLink RL 106 yX3_source ∈ wAll := List.mem_filter.mpr ⟨List.mem_of_getElem? (i := 567) (by decide +kernel), by decide +kernel⟩
theorem mw_744 : Cond.instanceMethod yX3_source ∈ wAll := List.mem_filter.mpr ⟨List.mem_of_getElem? (i := 568) (by decide +kernel), by decide +kernel⟩
theorem mw_745 : Cond.selects RX3 yX3_source yX3_source ∈ wAll := List.mem_filter.mpr ⟨List.mem_of_getElem? (i := 569) (by decide +kernel), by decide +kernel⟩
theorem mw_746 : Cond.methodLink RL 109 yX4_source ∈ wAll := List.mem_filter.mpr ⟨List.mem_of_getElem? (i := 865) (by decide +kernel), by decide +kernel⟩
theorem mw_747 : Cond.instanceMethod yX4_source ∈ wAll := List.mem_filter.mpr ⟨List.mem_of_getElem? (i := 866) (by decide +kernel), by decide +kernel⟩
theorem mw_748 : Cond.selects RX4 yX4_source yX4_source ∈ wAll := List.mem_filter.mpr ⟨List.mem_of_getElem? (i := 867) (by decide +kernel), by decide +kernel⟩
theorem mw_749 : Cond.methodLink RL 110 yX3_odds ∈ wAll := List.mem_filter.mpr ⟨List.mem_of_getElem? (i := 579) (by decide +kernel), by decide +kernel⟩
theorem mw_750 : Cond.instanceMethod yX3_odds ∈ wAll := List.mem_filter.mpr ⟨List.mem_of_getElem? (i := 580) (by decide +kernel), by decide +kernel⟩
theorem mw_751 : Cond.selects RX3 yX3_odds yX3_odds ∈ wAll := List.mem_filter.mpr ⟨List.mem_of_getElem? (i := 581) (by decide +kernel), by decide +kernel⟩
theorem mw_752 : Cond.methodLink RL 113 yX4_odds ∈ wAll := List.mem_filter.mpr ⟨List.mem_of_getElem? (i := 877) (by decide +kernel), by decide +kernel⟩
theorem mw_753 : Cond.instanceMethod yX4_odds ∈ wAll := List.mem_filter.mpr ⟨List.mem_of_getElem? (i := 878) (by decide +kernel), by decide +kernel⟩
theorem mw_754 : Cond.selects RX4 yX4_odds yX4_odds ∈ wAll := List.mem_filter.mpr ⟨List.mem_of_getElem? (i := 879) (by decide +kernel), by decide +kernel⟩
theorem mw_755 : Cond.methodLink RL 114 yX3_years ∈ wAll := List.mem_filter.mpr ⟨List.mem_of_getElem? (i := 587) (by decide +kernel), by decide +kernel⟩
theorem mw_756 : Cond.instanceMethod yX3_years ∈ wAll := List.mem_filter.mpr ⟨List.mem_of_getElem? (i := 588) (by decide +kernel), by decide +kernel⟩
theorem mw_757 : Cond.selects RX3 yX3_years yX3_years ∈ wAll := List.mem_filter.mpr ⟨List.mem_of_getElem? (i := 589) (by decide +kernel), by decide +kernel⟩
theorem mw_758 : Cond.methodLink RL 117 yX4_years ∈ wAll := List.mem_filter.mpr ⟨List.mem_of_getElem? (i := 886) (by decide +kernel), by decide +kernel⟩
theorem mw_759 : Cond.instanceMethod yX4_years ∈ wAll := List.mem_filter.mpr ⟨List.mem_of_getElem? (i := 887) (by decide +kernel), by decide +kernel⟩
theorem mw_760 : Cond.selects RX4 yX4_years yX4_years ∈ wAll := List.mem_filter.mpr ⟨List.mem_of_getElem? (i := 888) (by decide +kernel), by decide +kernel⟩
theorem mw_761 : Cond.methodLink RL 118 yX3_part ∈ wAll := List.mem_filter.mpr ⟨List.mem_of_getElem? (i := 597) (by decide +kernel), by decide +kernel⟩
theorem mw_762 : Cond.instanceMethod yX3_part ∈ wAll := List.mem_filter.mpr ⟨List.mem_of_getElem? (i := 598) (by decide +kernel), by decide +kernel⟩
theorem mw_763 : Cond.selects RX3 yX3_part yX3_part ∈ wAll := List.mem_filter.mpr ⟨List.mem_of_getElem? (i := 599) (by decide +kernel), by decide +kernel⟩
theorem mw_764 : Cond.methodLink RL 122 yX4_part ∈ wAll := List.mem_filter.mpr ⟨List.mem_of_getElem? (i := 951) (by decide +kernel), by decide +kernel⟩
theorem mw_765 : Cond.instanceMethod yX4_part ∈ wAll := List.mem_filter.mpr ⟨List.mem_of_getElem? (i := 952) (by decide +kernel), by decide +kernel⟩
theorem mw_766 : Cond.selects RX4 yX4_part yX4_part ∈ wAll := List.mem_filter.mpr ⟨List.mem_of_getElem? (i := 953) (by decide +kernel), by decide +kernel⟩
theorem mw_767 : Cond.methodLink RL 123 yX3_image ∈ wAll := List.mem_filter.mpr ⟨List.mem_of_getElem? (i := 601) (by decide +kernel), by decide +kernel⟩
theorem mw_768 : Cond.instanceMethod yX3_image ∈ wAll := List.mem_filter.mpr ⟨List.mem_of_getElem? (i := 602) (by decide +kernel), by decide +kernel⟩
theorem mw_769 : Cond.selects RX3 yX3_image yX3_image ∈ wAll := List.mem_filter.mpr ⟨List.mem_of_getElem? (i := 603) (by decide +kernel), by decide +kernel⟩
theorem mw_770 : Cond.methodLink RL 126 yX4_image ∈ wAll := List.mem_filter.mpr ⟨List.mem_of_getElem? (i := 955) (by decide +kernel), by decide +kernel⟩
theorem mw_771 : Cond.instanceMethod yX4_image ∈ wAll := List.mem_filter.mpr ⟨List.mem_of_getElem? (i := 956) (by decide +kernel), by decide +kernel⟩
theorem mw_772 : Cond.selects RX4 yX4_image yX4_image ∈ wAll := List.mem_filter.mpr ⟨List.mem_of_getElem? (i := 957) (by decide +kernel), by decide +kernel⟩
theorem mw_773 : Cond.methodLink RL 127 yX3_from ∈ wAll := List.mem_filter.mpr ⟨List.mem_of_getElem? (i := 605) (by decide +kernel), by decide +kernel⟩
theorem mw_774 : Cond.instanceMethod yX3_from ∈ wAll := List.mem_filter.mpr ⟨List.mem_of_getElem? (i := 606) (by decide +kernel), by decide +kernel⟩
theorem mw_775 : Cond.selects RX3 yX3_from yX3_from ∈ wAll := List.mem_filter.mpr ⟨List.mem_of_getElem? (i := 607) (by decide +kernel), by decide +kernel⟩
theorem mw_776 : Cond.methodLink RL 130 yX4_from ∈ wAll := List.mem_filter.mpr ⟨List.mem_of_getElem? (i := 959) (by decide +kernel), by decide +kernel⟩
theorem mw_777 : Cond.instanceMethod yX4_from ∈ wAll := List.mem_filter.mpr ⟨List.mem_of_getElem? (i := 960) (by decide +kernel), by decide +kernel⟩
theorem mw_778 : Cond.selects RX4 yX4_from yX4_from ∈ wAll := List.mem_filter.mpr ⟨List.mem_of_getElem? (i := 961) (by decide +kernel), by decide +kernel⟩
theorem mw_779 : Cond.methodLink RL 131 yX3_status ∈ wAll := List.mem_filter.mpr ⟨List.mem_of_getElem? (i := 609) (by decide +kernel), by decide +kernel⟩
theorem mw_780 : Cond.instanceMethod yX3_status ∈ wAll := List.mem_filter.mpr ⟨List.mem_of_getElem? (i := 610) (by decide +kernel), by decide +kernel⟩
theorem mw_781 : Cond.selects RX3 yX3_status yX3_status ∈ wAll := List.mem_filter.mpr ⟨List.mem_of_getElem? (i := 611) (by decide +kernel), by decide +kernel⟩
theorem mw_782 : Cond.methodLink RL 134 yX4_status ∈ wAll := List.mem_filter.mpr ⟨List.mem_of_getElem? (i := 963) (by decide +kernel), by decide +kernel⟩
theorem mw_783 : Cond.instanceMethod yX4_status ∈ wAll := List.mem_filter.mpr ⟨List.mem_of_getElem? (i := 964) (by decide +kernel), by decide +kernel⟩
theorem mw_784 : Cond.selects RX4 yX4_status yX4_status ∈ wAll := List.mem_filter.mpr ⟨List.mem_of_getElem? (i := 965) (by decide +kernel), by decide +kernel⟩
theorem mw_785 : Cond.methodLink RL 135 yX3_count ∈ wAll := List.mem_filter.mpr ⟨List.mem_of_getElem? (i := 613) (by decide +kernel), by decide +kernel⟩
theorem mw_786 : Cond.instanceMethod yX3_count ∈ wAll := List.mem_filter.mpr ⟨List.mem_of_getElem? (i := 614) (by decide +kernel), by decide +kernel⟩
theorem mw_787 : Cond.selects RX3 yX3_count yX3_count ∈ wAll := List.mem_filter.mpr ⟨List.mem_of_getElem? (i := 615) (by decide +kernel), by decide +kernel⟩
theorem mw_788 : Cond.methodLink RL 138 yX4_count ∈ wAll := List.mem_filter.mpr ⟨List.mem_of_getElem? (i := 967) (by decide +kernel), by decide +kernel⟩
theorem mw_789 : Cond.instanceMethod yX4_count ∈ wAll := List.mem_filter.mpr ⟨List.mem_of_getElem? (i := 968) (by decide +kernel), by decide +kernel⟩
theorem mw_790 : Cond.selects RX4 yX4_count yX4_count ∈ wAll := List.mem_filter.mpr ⟨List.mem_of_getElem? (i := 969) (by decide +kernel), by decide +kernel⟩
theorem mw_791 : Cond.methodLink RL 139 yX3_digest ∈ wAll := List.mem_filter.mpr ⟨List.mem_of_getElem? (i := 621) (by decide +kernel), by decide +kernel⟩
theorem mw_792 : Cond.instanceMethod yX3_digest ∈ wAll := List.mem_filter.mpr ⟨List.mem_of_getElem? (i := 622) (by decide +kernel), by decide +kernel⟩
theorem mw_793 : Cond.selects RX3 yX3_digest yX3_digest ∈ wAll := List.mem_filter.mpr ⟨List.mem_of_getElem? (i := 623) (by decide +kernel), by decide +kernel⟩
theorem mw_794 : Cond.methodLink RL 143 yX4_digest ∈ wAll := List.mem_filter.mpr ⟨List.mem_of_getElem? (i := 976) (by decide +kernel), by decide +kernel⟩
theorem mw_795 : Cond.instanceMethod yX4_digest ∈ wAll := List.mem_filter.mpr ⟨List.mem_of_getElem? (i := 977) (by decide +kernel), by decide +kernel⟩
theorem mw_796 : Cond.selects RX4 yX4_digest yX4_digest ∈ wAll := List.mem_filter.mpr ⟨List.mem_of_getElem? (i := 978) (by decide +kernel), by decide +kernel⟩
theorem mwF_0 : ∀ w ∈ u_ws RX0 TX0 6, w ∈ wAll := by decide +kernel
theorem mwF_1 : ∀ w ∈ u_ws RX1 TX1 12, w ∈ wAll := by decide +kernel
theorem mwF_2 : ∀ w ∈ u_ws RX2 TX2 6, w ∈ wAll := by decide +kernel
theorem mwF_3 : ∀ w ∈ u_ws RX3 TX3 11, w ∈ wAll := by decide +kernel
theorem mwF_4 : ∀ w ∈ u_ws RX4 TX4 21, w ∈ wAll := by decide +kernel
end
section
/-! CORE 2: joins, loops, calls by the kind of the answer -/
theorem wl_bx {α β : Type} {X : β} {v : α} {k : α → β} (h : X = wl_bnd v k) : ∃ u : α, u = v ∧ ∀ z : α, u = z → X = k z := ⟨v, rfl, fun z hz => by rw [h, hz]; rfl⟩
section WLL
variable {p : Program} {l : Launch} {e : Env} {R : Room} {s : State} {m : MethodId} {args : Array Value} {below : List Frame} {meth : Method} {c : Code} {H : Heap} {locs : List Loc} {cells slots : Nat} {Q : State → Prop}
variable {ls : Array Slot} {D : va_G} {A : Nat → Prop} {H0 : Heap}
/-- a join: what lies behind it, once for all values -/
theorem wl_J {τ : Type} (u : τ) (j : Nat) (st : τ → List Value) (nL : Nat) (lv : τ → List (Nat × Value)) (D : va_G) (A : Nat → Prop) (H0 : Heap) (wld : τ → va_W) {g : JFrame}
    (J : ∀ z : τ, u = z → ∀ (ls : Array Slot) (H : Heap) (locs : List Loc), va_P D vwCl (wld z) H → va_D A (wld z) → va_S A H0 H locs → lv_has ls nL (lv z) → W p l e R s m args below meth c H locs cells slots Q (F0 m j ls (st z)))
    (kk : (∀ z : τ, u = z → ∀ (ls : Array Slot) (H : Heap) (locs : List Loc), va_P D vwCl (wld z) H → va_D A (wld z) → va_S A H0 H locs → lv_has ls nL (lv z) → W p l e R s m args below meth c H locs cells slots Q (F0 m j ls (st z))) → W p l e R s m args below meth c H locs cells slots Q g) : W p l e R s m args below meth c H locs cells slots Q g := kk J
/-- a counting loop, k from k0 to B -/
theorem wl_for {σ : Type} (f : Nat → σ → σ) (n0 k0 B : Nat) (v0 : σ) (h : Nat) (nL : Nat) (lv : Nat → σ → List (Nat × Value)) (wld : Nat → σ → va_W) (I : Nat → σ → Prop) (hn0 : n0 + k0 = B) (hI0 : I k0 v0)
    (exit : ∀ v : σ, wl_iter f n0 k0 v0 = v → I B v → ∀ (ls : Array Slot) (H : Heap) (locs : List Loc), va_P D vwCl (wld B v) H → va_D A (wld B v) → va_S A H0 H locs → lv_has ls nL (lv B v) → W p l e R s m args below meth c H locs cells slots Q (F0 m h ls []))
    (step : ∀ (k : Nat) (v : σ), k0 ≤ k → k < B → I k v → (∀ v' : σ, f k v = v' → I (k + 1) v' → ∀ (ls : Array Slot) (H : Heap) (locs : List Loc), va_P D vwCl (wld (k + 1) v') H → va_D A (wld (k + 1) v') → va_S A H0 H locs → lv_has ls nL (lv (k + 1) v') → W p l e R s m args below meth c H locs cells slots Q (F0 m h ls [])) →
      ∀ (ls : Array Slot) (H : Heap) (locs : List Loc), va_P D vwCl (wld k v) H → va_D A (wld k v) → va_S A H0 H locs → lv_has ls nL (lv k v) → W p l e R s m args below meth c H locs cells slots Q (F0 m h ls []))
    (hP : va_P D vwCl (wld k0 v0) H) (hD : va_D A (wld k0 v0)) (hS : va_S A H0 H locs) (hl : lv_has ls nL (lv k0 v0)) : W p l e R s m args below meth c H locs cells slots Q (F0 m h ls []) := by
  have key : ∀ (n k : Nat) (v : σ), n + k = B → k0 ≤ k → wl_iter f n k v = wl_iter f n0 k0 v0 → I k v → ∀ (ls : Array Slot) (H : Heap) (locs : List Loc), va_P D vwCl (wld k v) H → va_D A (wld k v) → va_S A H0 H locs → lv_has ls nL (lv k v) → W p l e R s m args below meth c H locs cells slots Q (F0 m h ls []) := by
    intro n
    induction n with
    | zero =>
      intro k v hk _ he hI
      have hkB : k = B := by omega
      subst hkB
      exact exit v he.symm hI
    | succ n ih =>
      intro k v hk h0 he hI
      refine step k v h0 (by omega) hI (fun v' hv' hI' => ?_)
      subst hv'
      exact ih (k + 1) (f k v) (by omega) (by omega) he hI'
  exact key n0 k0 v0 hn0 (Nat.le_refl _) rfl hI0 ls H locs hP hD hS hl
/-- any loop, by a measure -/
theorem wl_while {σ ρ : Type} (f : σ → σ ⊕ ρ) (d : ρ) (n0 : Nat) (v0 : σ) (h : Nat) (nL : Nat) (lv : σ → List (Nat × Value)) (wld : σ → va_W) (I : σ → Prop) (μ : σ → Nat) (hI0 : I v0) (hμ : μ v0 < n0)
    (step : ∀ v : σ, I v → (∀ r : ρ, f v = .inr r → wl_run f d n0 v0 = r) → (∀ v' : σ, f v = .inl v' → I v' → μ v' < μ v → ∀ (ls : Array Slot) (H : Heap) (locs : List Loc), va_P D vwCl (wld v') H → va_D A (wld v') → va_S A H0 H locs → lv_has ls nL (lv v') → W p l e R s m args below meth c H locs cells slots Q (F0 m h ls [])) →
      ∀ (ls : Array Slot) (H : Heap) (locs : List Loc), va_P D vwCl (wld v) H → va_D A (wld v) → va_S A H0 H locs → lv_has ls nL (lv v) → W p l e R s m args below meth c H locs cells slots Q (F0 m h ls []))
    (hP : va_P D vwCl (wld v0) H) (hD : va_D A (wld v0)) (hS : va_S A H0 H locs) (hl : lv_has ls nL (lv v0)) : W p l e R s m args below meth c H locs cells slots Q (F0 m h ls []) := by
  have key : ∀ (n : Nat) (v : σ), μ v < n → wl_run f d n v = wl_run f d n0 v0 → I v → ∀ (ls : Array Slot) (H : Heap) (locs : List Loc), va_P D vwCl (wld v) H → va_D A (wld v) → va_S A H0 H locs → lv_has ls nL (lv v) → W p l e R s m args below meth c H locs cells slots Q (F0 m h ls []) := by
    intro n
    induction n with
    | zero => intro v hv; exact absurd hv (Nat.not_lt_zero _)
    | succ n ih =>
      intro v hv he hI
      exact step v hI (fun r hr => wl_run_r he hr) (fun v' h1 h2 h3 => ih v' (by omega) (wl_run_l he h1) h2)
  exact key n0 v0 hμ rfl hI0 ls H locs hP hD hS hl
end WLL
section WLK
variable {p : Program} {l : Launch} {e : Env} {R : Room} {s : State} {m : MethodId} {args : Array Value} {below : List Frame} {meth : Method} {c : Code} {H : Heap} {locs : List Loc} {cells slots : Nat} {Q : State → Prop}
variable {cc : ByteArray} {nL pc : Nat} {own : String} {D : va_G} {E : Nat → ClassId} {ls : Array Slot} {rest st0 : List Value} {A : Nat → Prop} {H0 : Heap} {w : va_W}
theorem wl_callVi {τ : Type} {G : τ → Int32} {Wo : τ → va_W} {x0 : τ} {y : MethodName} {bytes : ByteArray} {maxL n index : Nat} {ret : Option FieldType} {rm : Room} {b ci T1 : Nat} {As : List Value} {fs : List Value} {T : u_T} (hC : wl_Cx p s m args c cc nL own D E) (hM : wl_Met l D E y bytes maxL ret rm (.ref b :: As) w (fun z => some (.int (G z))) Wo x0)
    (lk : wl_lkV own index y bytes maxL ret n) (hn : As.length = n) (hR : wl_rm rm R maxL) (hP : va_P D vwCl w H) (hD : va_D A w) (hS : va_S A H0 H locs) (hA : ∀ q : Nat, H0.size ≤ q → A q) (q0 : Nat) (hrec : w[q0]? = some (b, .inr (ci, fs))) (hcl : vwCl[ci]? = some (y.cls, T, T1)) (hsize : ls.size = nL)
    (hst : st0 = As.reverse ++ .ref b :: rest) (hW : (rest.map fun v => v.category).sum ≤ 8) (hdg : decode cc pc = .ok (.invokevirtual index, 3)) (hcs : cells ≤ R.cells ∧ slots ≤ R.slots)
    (kk : ∀ z : τ, z = x0 → ∀ (H1 : Heap) (locs1 : List Loc), va_P D vwCl (Wo z) H1 → va_D A (Wo z) → va_S A H0 H1 locs1 → W p l e R s m args below meth c H1 locs1 cells slots Q (F0 m (pc + 3) ls (.int (G z) :: rest))) : W p l e R s m args below meth c H locs cells slots Q (F0 m pc ls st0) := wl_callV hC hM lk hn hR hP hD hS hA q0 hrec hcl hsize hst hW hdg hcs kk
theorem wl_callVl {τ : Type} {G : τ → Int64} {Wo : τ → va_W} {x0 : τ} {y : MethodName} {bytes : ByteArray} {maxL n index : Nat} {ret : Option FieldType} {rm : Room} {b ci T1 : Nat} {As : List Value} {fs : List Value} {T : u_T} (hC : wl_Cx p s m args c cc nL own D E) (hM : wl_Met l D E y bytes maxL ret rm (.ref b :: As) w (fun z => some (.long (G z))) Wo x0)
    (lk : wl_lkV own index y bytes maxL ret n) (hn : As.length = n) (hR : wl_rm rm R maxL) (hP : va_P D vwCl w H) (hD : va_D A w) (hS : va_S A H0 H locs) (hA : ∀ q : Nat, H0.size ≤ q → A q) (q0 : Nat) (hrec : w[q0]? = some (b, .inr (ci, fs))) (hcl : vwCl[ci]? = some (y.cls, T, T1)) (hsize : ls.size = nL)
    (hst : st0 = As.reverse ++ .ref b :: rest) (hW : (rest.map fun v => v.category).sum ≤ 8) (hdg : decode cc pc = .ok (.invokevirtual index, 3)) (hcs : cells ≤ R.cells ∧ slots ≤ R.slots)
    (kk : ∀ z : τ, z = x0 → ∀ (H1 : Heap) (locs1 : List Loc), va_P D vwCl (Wo z) H1 → va_D A (Wo z) → va_S A H0 H1 locs1 → W p l e R s m args below meth c H1 locs1 cells slots Q (F0 m (pc + 3) ls (.long (G z) :: rest))) : W p l e R s m args below meth c H locs cells slots Q (F0 m pc ls st0) := wl_callV hC hM lk hn hR hP hD hS hA q0 hrec hcl hsize hst hW hdg hcs kk
theorem wl_callVv {τ : Type} {Wo : τ → va_W} {x0 : τ} {y : MethodName} {bytes : ByteArray} {maxL n index : Nat} {ret : Option FieldType} {rm : Room} {b ci T1 : Nat} {As : List Value} {fs : List Value} {T : u_T} (hC : wl_Cx p s m args c cc nL own D E) (hM : wl_Met l D E y bytes maxL ret rm (.ref b :: As) w (fun _ => none) Wo x0)
    (lk : wl_lkV own index y bytes maxL ret n) (hn : As.length = n) (hR : wl_rm rm R maxL) (hP : va_P D vwCl w H) (hD : va_D A w) (hS : va_S A H0 H locs) (hA : ∀ q : Nat, H0.size ≤ q → A q) (q0 : Nat) (hrec : w[q0]? = some (b, .inr (ci, fs))) (hcl : vwCl[ci]? = some (y.cls, T, T1)) (hsize : ls.size = nL)
    (hst : st0 = As.reverse ++ .ref b :: rest) (hW : (rest.map fun v => v.category).sum ≤ 8) (hdg : decode cc pc = .ok (.invokevirtual index, 3)) (hcs : cells ≤ R.cells ∧ slots ≤ R.slots)
    (kk : ∀ z : τ, z = x0 → ∀ (H1 : Heap) (locs1 : List Loc), va_P D vwCl (Wo z) H1 → va_D A (Wo z) → va_S A H0 H1 locs1 → W p l e R s m args below meth c H1 locs1 cells slots Q (F0 m (pc + 3) ls (rest))) : W p l e R s m args below meth c H locs cells slots Q (F0 m pc ls st0) := wl_callV hC hM lk hn hR hP hD hS hA q0 hrec hcl hsize hst hW hdg hcs kk
theorem wl_callSi {τ : Type} {G : τ → Int32} {Wo : τ → va_W} {x0 : τ} {y : MethodName} {bytes : ByteArray} {maxL n index : Nat} {ret : Option FieldType} {rm : Room} {As : List Value} (hC : wl_Cx p s m args c cc nL own D E) (hM : wl_Met l D E y bytes maxL ret rm As w (fun z => some (.int (G z))) Wo x0)
    (lk : wl_lkS own index y bytes maxL ret n) (hn : As.length = n) (hR : wl_rm rm R maxL) (hP : va_P D vwCl w H) (hD : va_D A w) (hS : va_S A H0 H locs) (hA : ∀ q : Nat, H0.size ≤ q → A q) (hsize : ls.size = nL)
    (hst : st0 = As.reverse ++ rest) (hW : (rest.map fun v => v.category).sum ≤ 8) (hdg : decode cc pc = .ok (.invokestatic index, 3)) (hcs : cells ≤ R.cells ∧ slots ≤ R.slots)
    (kk : ∀ z : τ, z = x0 → ∀ (H1 : Heap) (locs1 : List Loc), va_P D vwCl (Wo z) H1 → va_D A (Wo z) → va_S A H0 H1 locs1 → W p l e R s m args below meth c H1 locs1 cells slots Q (F0 m (pc + 3) ls (.int (G z) :: rest))) : W p l e R s m args below meth c H locs cells slots Q (F0 m pc ls st0) := wl_callS hC hM lk hn hR hP hD hS hA hsize hst hW hdg hcs kk
theorem wl_callSl {τ : Type} {G : τ → Int64} {Wo : τ → va_W} {x0 : τ} {y : MethodName} {bytes : ByteArray} {maxL n index : Nat} {ret : Option FieldType} {rm : Room} {As : List Value} (hC : wl_Cx p s m args c cc nL own D E) (hM : wl_Met l D E y bytes maxL ret rm As w (fun z => some (.long (G z))) Wo x0)
    (lk : wl_lkS own index y bytes maxL ret n) (hn : As.length = n) (hR : wl_rm rm R maxL) (hP : va_P D vwCl w H) (hD : va_D A w) (hS : va_S A H0 H locs) (hA : ∀ q : Nat, H0.size ≤ q → A q) (hsize : ls.size = nL)
    (hst : st0 = As.reverse ++ rest) (hW : (rest.map fun v => v.category).sum ≤ 8) (hdg : decode cc pc = .ok (.invokestatic index, 3)) (hcs : cells ≤ R.cells ∧ slots ≤ R.slots)
    (kk : ∀ z : τ, z = x0 → ∀ (H1 : Heap) (locs1 : List Loc), va_P D vwCl (Wo z) H1 → va_D A (Wo z) → va_S A H0 H1 locs1 → W p l e R s m args below meth c H1 locs1 cells slots Q (F0 m (pc + 3) ls (.long (G z) :: rest))) : W p l e R s m args below meth c H locs cells slots Q (F0 m pc ls st0) := wl_callS hC hM lk hn hR hP hD hS hA hsize hst hW hdg hcs kk
theorem wl_callSv {τ : Type} {Wo : τ → va_W} {x0 : τ} {y : MethodName} {bytes : ByteArray} {maxL n index : Nat} {ret : Option FieldType} {rm : Room} {As : List Value} (hC : wl_Cx p s m args c cc nL own D E) (hM : wl_Met l D E y bytes maxL ret rm As w (fun _ => none) Wo x0)
    (lk : wl_lkS own index y bytes maxL ret n) (hn : As.length = n) (hR : wl_rm rm R maxL) (hP : va_P D vwCl w H) (hD : va_D A w) (hS : va_S A H0 H locs) (hA : ∀ q : Nat, H0.size ≤ q → A q) (hsize : ls.size = nL)
    (hst : st0 = As.reverse ++ rest) (hW : (rest.map fun v => v.category).sum ≤ 8) (hdg : decode cc pc = .ok (.invokestatic index, 3)) (hcs : cells ≤ R.cells ∧ slots ≤ R.slots)
    (kk : ∀ z : τ, z = x0 → ∀ (H1 : Heap) (locs1 : List Loc), va_P D vwCl (Wo z) H1 → va_D A (Wo z) → va_S A H0 H1 locs1 → W p l e R s m args below meth c H1 locs1 cells slots Q (F0 m (pc + 3) ls (rest))) : W p l e R s m args below meth c H locs cells slots Q (F0 m pc ls st0) := wl_callS hC hM lk hn hR hP hD hS hA hsize hst hW hdg hcs kk
theorem wl_callPi {τ : Type} {G : τ → Int32} {x0 : τ} {y : MethodName} {bytes : ByteArray} {maxL n index : Nat} {ret : Option FieldType} {rm : Room} {As : List Value} (hC : wl_Cx p s m args c cc nL own D E) (hM : wl_Met l D E y bytes maxL ret rm As [] (fun z => some (.int (G z))) (fun _ => []) x0)
    (lk : wl_lkS own index y bytes maxL ret n) (hn : As.length = n) (hR : wl_rm rm R maxL) (hP : va_P D vwCl w H) (hS : va_S A H0 H locs) (hA : ∀ q : Nat, H0.size ≤ q → A q) (hsize : ls.size = nL)
    (hst : st0 = As.reverse ++ rest) (hW : (rest.map fun v => v.category).sum ≤ 8) (hdg : decode cc pc = .ok (.invokestatic index, 3)) (hcs : cells ≤ R.cells ∧ slots ≤ R.slots)
    (kk : ∀ z : τ, z = x0 → ∀ (H1 : Heap) (locs1 : List Loc), va_P D vwCl w H1 → va_S A H0 H1 locs1 → W p l e R s m args below meth c H1 locs1 cells slots Q (F0 m (pc + 3) ls (.int (G z) :: rest))) : W p l e R s m args below meth c H locs cells slots Q (F0 m pc ls st0) := wl_callP hC hM lk hn hR hP hS hA hsize hst hW hdg hcs kk
theorem wl_callPl {τ : Type} {G : τ → Int64} {x0 : τ} {y : MethodName} {bytes : ByteArray} {maxL n index : Nat} {ret : Option FieldType} {rm : Room} {As : List Value} (hC : wl_Cx p s m args c cc nL own D E) (hM : wl_Met l D E y bytes maxL ret rm As [] (fun z => some (.long (G z))) (fun _ => []) x0)
    (lk : wl_lkS own index y bytes maxL ret n) (hn : As.length = n) (hR : wl_rm rm R maxL) (hP : va_P D vwCl w H) (hS : va_S A H0 H locs) (hA : ∀ q : Nat, H0.size ≤ q → A q) (hsize : ls.size = nL)
    (hst : st0 = As.reverse ++ rest) (hW : (rest.map fun v => v.category).sum ≤ 8) (hdg : decode cc pc = .ok (.invokestatic index, 3)) (hcs : cells ≤ R.cells ∧ slots ≤ R.slots)
    (kk : ∀ z : τ, z = x0 → ∀ (H1 : Heap) (locs1 : List Loc), va_P D vwCl w H1 → va_S A H0 H1 locs1 → W p l e R s m args below meth c H1 locs1 cells slots Q (F0 m (pc + 3) ls (.long (G z) :: rest))) : W p l e R s m args below meth c H locs cells slots Q (F0 m pc ls st0) := wl_callP hC hM lk hn hR hP hS hA hsize hst hW hdg hcs kk
theorem wl_callPv {τ : Type} {x0 : τ} {y : MethodName} {bytes : ByteArray} {maxL n index : Nat} {ret : Option FieldType} {rm : Room} {As : List Value} (hC : wl_Cx p s m args c cc nL own D E) (hM : wl_Met l D E y bytes maxL ret rm As [] (fun _ => none) (fun _ => []) x0)
    (lk : wl_lkS own index y bytes maxL ret n) (hn : As.length = n) (hR : wl_rm rm R maxL) (hP : va_P D vwCl w H) (hS : va_S A H0 H locs) (hA : ∀ q : Nat, H0.size ≤ q → A q) (hsize : ls.size = nL)
    (hst : st0 = As.reverse ++ rest) (hW : (rest.map fun v => v.category).sum ≤ 8) (hdg : decode cc pc = .ok (.invokestatic index, 3)) (hcs : cells ≤ R.cells ∧ slots ≤ R.slots)
    (kk : ∀ z : τ, z = x0 → ∀ (H1 : Heap) (locs1 : List Loc), va_P D vwCl w H1 → va_S A H0 H1 locs1 → W p l e R s m args below meth c H1 locs1 cells slots Q (F0 m (pc + 3) ls (rest))) : W p l e R s m args below meth c H locs cells slots Q (F0 m pc ls st0) := wl_callP hC hM lk hn hR hP hS hA hsize hst hW hdg hcs kk
theorem wl_callNi {τ : Type} {G : τ → Int32} {x0 : τ} {y : MethodName} {host : String} {bytes : ByteArray} {maxL n index : Nat} {ret : Option FieldType} {rm : Room} {As : List Value} (hC : wl_Cx p s m args c cc nL own D E) (hM : wl_Met l D E y bytes maxL ret rm As [] (fun z => some (.int (G z))) (fun _ => []) x0)
    (lk : wl_lkN own index y host bytes maxL ret n) (hn : As.length = n) (hR : wl_rm rm R maxL) (hP : va_P D vwCl w H) (hS : va_S A H0 H locs) (hA : ∀ q : Nat, H0.size ≤ q → A q) (hsize : ls.size = nL)
    (hst : st0 = As.reverse ++ rest) (hW : (rest.map fun v => v.category).sum ≤ 8) (hdg : decode cc pc = .ok (.invokestatic index, 3)) (hcs : cells ≤ R.cells ∧ slots ≤ R.slots)
    (kk : ∀ z : τ, z = x0 → ∀ (H1 : Heap) (locs1 : List Loc), va_P D vwCl w H1 → va_S A H0 H1 locs1 → W p l e R s m args below meth c H1 locs1 cells slots Q (F0 m (pc + 3) ls (.int (G z) :: rest))) : W p l e R s m args below meth c H locs cells slots Q (F0 m pc ls st0) := wl_callN hC hM lk hn hR hP hS hA hsize hst hW hdg hcs kk
theorem wl_callNl {τ : Type} {G : τ → Int64} {x0 : τ} {y : MethodName} {host : String} {bytes : ByteArray} {maxL n index : Nat} {ret : Option FieldType} {rm : Room} {As : List Value} (hC : wl_Cx p s m args c cc nL own D E) (hM : wl_Met l D E y bytes maxL ret rm As [] (fun z => some (.long (G z))) (fun _ => []) x0)
    (lk : wl_lkN own index y host bytes maxL ret n) (hn : As.length = n) (hR : wl_rm rm R maxL) (hP : va_P D vwCl w H) (hS : va_S A H0 H locs) (hA : ∀ q : Nat, H0.size ≤ q → A q) (hsize : ls.size = nL)
    (hst : st0 = As.reverse ++ rest) (hW : (rest.map fun v => v.category).sum ≤ 8) (hdg : decode cc pc = .ok (.invokestatic index, 3)) (hcs : cells ≤ R.cells ∧ slots ≤ R.slots)
    (kk : ∀ z : τ, z = x0 → ∀ (H1 : Heap) (locs1 : List Loc), va_P D vwCl w H1 → va_S A H0 H1 locs1 → W p l e R s m args below meth c H1 locs1 cells slots Q (F0 m (pc + 3) ls (.long (G z) :: rest))) : W p l e R s m args below meth c H locs cells slots Q (F0 m pc ls st0) := wl_callN hC hM lk hn hR hP hS hA hsize hst hW hdg hcs kk
theorem wl_callNv {τ : Type} {x0 : τ} {y : MethodName} {host : String} {bytes : ByteArray} {maxL n index : Nat} {ret : Option FieldType} {rm : Room} {As : List Value} (hC : wl_Cx p s m args c cc nL own D E) (hM : wl_Met l D E y bytes maxL ret rm As [] (fun _ => none) (fun _ => []) x0)
    (lk : wl_lkN own index y host bytes maxL ret n) (hn : As.length = n) (hR : wl_rm rm R maxL) (hP : va_P D vwCl w H) (hS : va_S A H0 H locs) (hA : ∀ q : Nat, H0.size ≤ q → A q) (hsize : ls.size = nL)
    (hst : st0 = As.reverse ++ rest) (hW : (rest.map fun v => v.category).sum ≤ 8) (hdg : decode cc pc = .ok (.invokestatic index, 3)) (hcs : cells ≤ R.cells ∧ slots ≤ R.slots)
    (kk : ∀ z : τ, z = x0 → ∀ (H1 : Heap) (locs1 : List Loc), va_P D vwCl w H1 → va_S A H0 H1 locs1 → W p l e R s m args below meth c H1 locs1 cells slots Q (F0 m (pc + 3) ls (rest))) : W p l e R s m args below meth c H locs cells slots Q (F0 m pc ls st0) := wl_callN hC hM lk hn hR hP hS hA hsize hst hW hdg hcs kk
end WLK
end
