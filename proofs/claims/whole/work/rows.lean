section
-- ===== PART A: goes FIRST, ahead of the names: the tables' words, and 'selects' of the private methods out of them =====
/-- a private method of a class that the tables say can be made, by its rows of tables_1 -/
def lw_okq (q : MethodName × Nat) : Prop := (q.1.cls ≠ "java/lang/invoke/MethodHandle" ∧ q.1.cls ≠ "java/lang/invoke/VarHandle") ∧ Cond.instantiable q.1.cls q.2 ∈ tables_1 ∧ Cond.privateMethod q.1 ∈ tables_1 ∧ Cond.instanceMethod q.1 ∈ tables_1
theorem lw_p0 : lw_okq (⟨"DreamDuty", "begin", "()V"⟩, 18) := ⟨⟨by decide +kernel, by decide +kernel⟩, List.mem_of_getElem? (i := 24) (by decide +kernel), List.mem_of_getElem? (i := 501) (by decide +kernel), List.mem_of_getElem? (i := 502) (by decide +kernel)⟩
theorem lw_p1 : lw_okq (⟨"DreamDuty", "putWord", "(I)V"⟩, 18) := ⟨⟨by decide +kernel, by decide +kernel⟩, List.mem_of_getElem? (i := 24) (by decide +kernel), List.mem_of_getElem? (i := 578) (by decide +kernel), List.mem_of_getElem? (i := 579) (by decide +kernel)⟩
theorem lw_p2 : lw_okq (⟨"DreamDuty$Tokens", "kindOf", "([III)I"⟩, 6) := ⟨⟨by decide +kernel, by decide +kernel⟩, List.mem_of_getElem? (i := 32) (by decide +kernel), List.mem_of_getElem? (i := 606) (by decide +kernel), List.mem_of_getElem? (i := 607) (by decide +kernel)⟩
theorem lw_p3 : lw_okq (⟨"DreamDuty$Tokens", "intOf", "([III)I"⟩, 6) := ⟨⟨by decide +kernel, by decide +kernel⟩, List.mem_of_getElem? (i := 32) (by decide +kernel), List.mem_of_getElem? (i := 610) (by decide +kernel), List.mem_of_getElem? (i := 611) (by decide +kernel)⟩
theorem lw_p4 : lw_okq (⟨"DreamDuty$Tokens", "nameOf", "([III)I"⟩, 6) := ⟨⟨by decide +kernel, by decide +kernel⟩, List.mem_of_getElem? (i := 32) (by decide +kernel), List.mem_of_getElem? (i := 615) (by decide +kernel), List.mem_of_getElem? (i := 616) (by decide +kernel)⟩
theorem lw_p5 : lw_okq (⟨"DreamDuty$Grammar", "tellOne", "(LDreamDuty$Text;)V"⟩, 7) := ⟨⟨by decide +kernel, by decide +kernel⟩, List.mem_of_getElem? (i := 111) (by decide +kernel), List.mem_of_getElem? (i := 689) (by decide +kernel), List.mem_of_getElem? (i := 690) (by decide +kernel)⟩
theorem lw_p6 : lw_okq (⟨"DreamDuty$Grammar", "step", "()V"⟩, 7) := ⟨⟨by decide +kernel, by decide +kernel⟩, List.mem_of_getElem? (i := 111) (by decide +kernel), List.mem_of_getElem? (i := 696) (by decide +kernel), List.mem_of_getElem? (i := 697) (by decide +kernel)⟩
theorem lw_p7 : lw_okq (⟨"DreamDuty$Grammar", "postOf", "()V"⟩, 7) := ⟨⟨by decide +kernel, by decide +kernel⟩, List.mem_of_getElem? (i := 111) (by decide +kernel), List.mem_of_getElem? (i := 700) (by decide +kernel), List.mem_of_getElem? (i := 701) (by decide +kernel)⟩
theorem lw_p8 : lw_okq (⟨"DreamDuty$Grammar", "take", "(I)V"⟩, 7) := ⟨⟨by decide +kernel, by decide +kernel⟩, List.mem_of_getElem? (i := 111) (by decide +kernel), List.mem_of_getElem? (i := 704) (by decide +kernel), List.mem_of_getElem? (i := 705) (by decide +kernel)⟩
theorem lw_p9 : lw_okq (⟨"DreamDuty$Grammar", "lawOf", "(LDreamDuty$Law;)V"⟩, 7) := ⟨⟨by decide +kernel, by decide +kernel⟩, List.mem_of_getElem? (i := 111) (by decide +kernel), List.mem_of_getElem? (i := 712) (by decide +kernel), List.mem_of_getElem? (i := 713) (by decide +kernel)⟩
theorem lw_p10 : lw_okq (⟨"DreamDuty$Grammar", "expression", "(LDreamDuty$Law;I)V"⟩, 7) := ⟨⟨by decide +kernel, by decide +kernel⟩, List.mem_of_getElem? (i := 111) (by decide +kernel), List.mem_of_getElem? (i := 717) (by decide +kernel), List.mem_of_getElem? (i := 718) (by decide +kernel)⟩
theorem lw_p11 : lw_okq (⟨"DreamDuty$Grammar", "unit", "(LDreamDuty$Law;)Z"⟩, 7) := ⟨⟨by decide +kernel, by decide +kernel⟩, List.mem_of_getElem? (i := 111) (by decide +kernel), List.mem_of_getElem? (i := 721) (by decide +kernel), List.mem_of_getElem? (i := 722) (by decide +kernel)⟩
theorem lw_p12 : lw_okq (⟨"DreamDuty$Grammar", "open", "()V"⟩, 7) := ⟨⟨by decide +kernel, by decide +kernel⟩, List.mem_of_getElem? (i := 111) (by decide +kernel), List.mem_of_getElem? (i := 725) (by decide +kernel), List.mem_of_getElem? (i := 726) (by decide +kernel)⟩
theorem lw_p13 : lw_okq (⟨"DreamDuty$Grammar", "push", "(I)V"⟩, 7) := ⟨⟨by decide +kernel, by decide +kernel⟩, List.mem_of_getElem? (i := 111) (by decide +kernel), List.mem_of_getElem? (i := 729) (by decide +kernel), List.mem_of_getElem? (i := 730) (by decide +kernel)⟩
theorem lw_p14 : lw_okq (⟨"DreamDuty$Grammar", "unwind", "(LDreamDuty$Law;I)V"⟩, 7) := ⟨⟨by decide +kernel, by decide +kernel⟩, List.mem_of_getElem? (i := 111) (by decide +kernel), List.mem_of_getElem? (i := 739) (by decide +kernel), List.mem_of_getElem? (i := 740) (by decide +kernel)⟩
theorem lw_p15 : lw_okq (⟨"DreamDuty$Grammar", "behindUnit", "(LDreamDuty$Law;)Z"⟩, 7) := ⟨⟨by decide +kernel, by decide +kernel⟩, List.mem_of_getElem? (i := 111) (by decide +kernel), List.mem_of_getElem? (i := 749) (by decide +kernel), List.mem_of_getElem? (i := 750) (by decide +kernel)⟩
def lw_privs_1 : List (MethodName × Nat) := [(⟨"DreamDuty", "begin", "()V"⟩, 18), (⟨"DreamDuty", "putWord", "(I)V"⟩, 18), (⟨"DreamDuty$Tokens", "kindOf", "([III)I"⟩, 6), (⟨"DreamDuty$Tokens", "intOf", "([III)I"⟩, 6), (⟨"DreamDuty$Tokens", "nameOf", "([III)I"⟩, 6), (⟨"DreamDuty$Grammar", "tellOne", "(LDreamDuty$Text;)V"⟩, 7), (⟨"DreamDuty$Grammar", "step", "()V"⟩, 7), (⟨"DreamDuty$Grammar", "postOf", "()V"⟩, 7), (⟨"DreamDuty$Grammar", "take", "(I)V"⟩, 7), (⟨"DreamDuty$Grammar", "lawOf", "(LDreamDuty$Law;)V"⟩, 7), (⟨"DreamDuty$Grammar", "expression", "(LDreamDuty$Law;I)V"⟩, 7), (⟨"DreamDuty$Grammar", "unit", "(LDreamDuty$Law;)Z"⟩, 7), (⟨"DreamDuty$Grammar", "open", "()V"⟩, 7), (⟨"DreamDuty$Grammar", "push", "(I)V"⟩, 7), (⟨"DreamDuty$Grammar", "unwind", "(LDreamDuty$Law;I)V"⟩, 7), (⟨"DreamDuty$Grammar", "behindUnit", "(LDreamDuty$Law;)Z"⟩, 7)]
theorem lw_r1 : ∀ q ∈ lw_privs_1, lw_okq q := List.forall_mem_cons.mpr ⟨lw_p0, List.forall_mem_cons.mpr ⟨lw_p1, List.forall_mem_cons.mpr ⟨lw_p2, List.forall_mem_cons.mpr ⟨lw_p3, List.forall_mem_cons.mpr ⟨lw_p4, List.forall_mem_cons.mpr ⟨lw_p5, List.forall_mem_cons.mpr ⟨lw_p6, List.forall_mem_cons.mpr ⟨lw_p7, List.forall_mem_cons.mpr ⟨lw_p8, List.forall_mem_cons.mpr ⟨lw_p9, List.forall_mem_cons.mpr ⟨lw_p10, List.forall_mem_cons.mpr ⟨lw_p11, List.forall_mem_cons.mpr ⟨lw_p12, List.forall_mem_cons.mpr ⟨lw_p13, List.forall_mem_cons.mpr ⟨lw_p14, List.forall_mem_cons.mpr ⟨lw_p15, fun _ h => absurd h List.not_mem_nil⟩⟩⟩⟩⟩⟩⟩⟩⟩⟩⟩⟩⟩⟩⟩⟩
theorem lw_p16 : lw_okq (⟨"DreamDuty$Grammar", "takeAll", "(Ljava/lang/String;)V"⟩, 7) := ⟨⟨by decide +kernel, by decide +kernel⟩, List.mem_of_getElem? (i := 111) (by decide +kernel), List.mem_of_getElem? (i := 771) (by decide +kernel), List.mem_of_getElem? (i := 772) (by decide +kernel)⟩
theorem lw_p17 : lw_okq (⟨"DreamDuty$Teller", "tellOne", "(LDreamDuty$Text;)V"⟩, 8) := ⟨⟨by decide +kernel, by decide +kernel⟩, List.mem_of_getElem? (i := 139) (by decide +kernel), List.mem_of_getElem? (i := 790) (by decide +kernel), List.mem_of_getElem? (i := 791) (by decide +kernel)⟩
theorem lw_p18 : lw_okq (⟨"DreamDuty$Teller", "thingOf", "(LDreamDuty$Text;)V"⟩, 8) := ⟨⟨by decide +kernel, by decide +kernel⟩, List.mem_of_getElem? (i := 139) (by decide +kernel), List.mem_of_getElem? (i := 794) (by decide +kernel), List.mem_of_getElem? (i := 795) (by decide +kernel)⟩
theorem lw_p19 : lw_okq (⟨"DreamDuty$Teller", "newName", "(II)V"⟩, 8) := ⟨⟨by decide +kernel, by decide +kernel⟩, List.mem_of_getElem? (i := 139) (by decide +kernel), List.mem_of_getElem? (i := 798) (by decide +kernel), List.mem_of_getElem? (i := 799) (by decide +kernel)⟩
theorem lw_p20 : lw_okq (⟨"DreamDuty$Teller", "find", "(J)I"⟩, 8) := ⟨⟨by decide +kernel, by decide +kernel⟩, List.mem_of_getElem? (i := 139) (by decide +kernel), List.mem_of_getElem? (i := 803) (by decide +kernel), List.mem_of_getElem? (i := 804) (by decide +kernel)⟩
theorem lw_p21 : lw_okq (⟨"DreamDuty$Teller", "fail", "(II)V"⟩, 8) := ⟨⟨by decide +kernel, by decide +kernel⟩, List.mem_of_getElem? (i := 139) (by decide +kernel), List.mem_of_getElem? (i := 807) (by decide +kernel), List.mem_of_getElem? (i := 808) (by decide +kernel)⟩
theorem lw_p22 : lw_okq (⟨"DreamDuty$Teller", "number", "(II)I"⟩, 8) := ⟨⟨by decide +kernel, by decide +kernel⟩, List.mem_of_getElem? (i := 139) (by decide +kernel), List.mem_of_getElem? (i := 811) (by decide +kernel), List.mem_of_getElem? (i := 812) (by decide +kernel)⟩
theorem lw_p23 : lw_okq (⟨"DreamDuty$Teller", "innOf", "(LDreamDuty$Text;)V"⟩, 8) := ⟨⟨by decide +kernel, by decide +kernel⟩, List.mem_of_getElem? (i := 139) (by decide +kernel), List.mem_of_getElem? (i := 815) (by decide +kernel), List.mem_of_getElem? (i := 816) (by decide +kernel)⟩
theorem lw_p24 : lw_okq (⟨"DreamDuty$Teller", "weightOf", "(LDreamDuty$Text;)V"⟩, 8) := ⟨⟨by decide +kernel, by decide +kernel⟩, List.mem_of_getElem? (i := 139) (by decide +kernel), List.mem_of_getElem? (i := 819) (by decide +kernel), List.mem_of_getElem? (i := 820) (by decide +kernel)⟩
theorem lw_p25 : lw_okq (⟨"DreamDuty$Teller", "formerName", "(I)I"⟩, 8) := ⟨⟨by decide +kernel, by decide +kernel⟩, List.mem_of_getElem? (i := 139) (by decide +kernel), List.mem_of_getElem? (i := 823) (by decide +kernel), List.mem_of_getElem? (i := 824) (by decide +kernel)⟩
theorem lw_p26 : lw_okq (⟨"DreamDuty$Teller", "guestOf", "(LDreamDuty$Text;)V"⟩, 8) := ⟨⟨by decide +kernel, by decide +kernel⟩, List.mem_of_getElem? (i := 139) (by decide +kernel), List.mem_of_getElem? (i := 827) (by decide +kernel), List.mem_of_getElem? (i := 828) (by decide +kernel)⟩
theorem lw_p27 : lw_okq (⟨"DreamDuty$Teller", "twinsOf", "(LDreamDuty$Text;)V"⟩, 8) := ⟨⟨by decide +kernel, by decide +kernel⟩, List.mem_of_getElem? (i := 139) (by decide +kernel), List.mem_of_getElem? (i := 831) (by decide +kernel), List.mem_of_getElem? (i := 832) (by decide +kernel)⟩
theorem lw_p28 : lw_okq (⟨"DreamDuty$Teller", "newTwin", "(LDreamDuty$Text;I)I"⟩, 8) := ⟨⟨by decide +kernel, by decide +kernel⟩, List.mem_of_getElem? (i := 139) (by decide +kernel), List.mem_of_getElem? (i := 835) (by decide +kernel), List.mem_of_getElem? (i := 836) (by decide +kernel)⟩
theorem lw_p29 : lw_okq (⟨"DreamDuty$Teller", "postOf", "(LDreamDuty$Text;)V"⟩, 8) := ⟨⟨by decide +kernel, by decide +kernel⟩, List.mem_of_getElem? (i := 139) (by decide +kernel), List.mem_of_getElem? (i := 839) (by decide +kernel), List.mem_of_getElem? (i := 840) (by decide +kernel)⟩
theorem lw_p30 : lw_okq (⟨"DreamDuty$Teller", "goBehindSemicolon", "()V"⟩, 8) := ⟨⟨by decide +kernel, by decide +kernel⟩, List.mem_of_getElem? (i := 139) (by decide +kernel), List.mem_of_getElem? (i := 843) (by decide +kernel), List.mem_of_getElem? (i := 844) (by decide +kernel)⟩
theorem lw_p31 : lw_okq (⟨"DreamDuty", "isGuest", "(I)Z"⟩, 18) := ⟨⟨by decide +kernel, by decide +kernel⟩, List.mem_of_getElem? (i := 24) (by decide +kernel), List.mem_of_getElem? (i := 868) (by decide +kernel), List.mem_of_getElem? (i := 869) (by decide +kernel)⟩
def lw_privs_2 : List (MethodName × Nat) := [(⟨"DreamDuty$Grammar", "takeAll", "(Ljava/lang/String;)V"⟩, 7), (⟨"DreamDuty$Teller", "tellOne", "(LDreamDuty$Text;)V"⟩, 8), (⟨"DreamDuty$Teller", "thingOf", "(LDreamDuty$Text;)V"⟩, 8), (⟨"DreamDuty$Teller", "newName", "(II)V"⟩, 8), (⟨"DreamDuty$Teller", "find", "(J)I"⟩, 8), (⟨"DreamDuty$Teller", "fail", "(II)V"⟩, 8), (⟨"DreamDuty$Teller", "number", "(II)I"⟩, 8), (⟨"DreamDuty$Teller", "innOf", "(LDreamDuty$Text;)V"⟩, 8), (⟨"DreamDuty$Teller", "weightOf", "(LDreamDuty$Text;)V"⟩, 8), (⟨"DreamDuty$Teller", "formerName", "(I)I"⟩, 8), (⟨"DreamDuty$Teller", "guestOf", "(LDreamDuty$Text;)V"⟩, 8), (⟨"DreamDuty$Teller", "twinsOf", "(LDreamDuty$Text;)V"⟩, 8), (⟨"DreamDuty$Teller", "newTwin", "(LDreamDuty$Text;I)I"⟩, 8), (⟨"DreamDuty$Teller", "postOf", "(LDreamDuty$Text;)V"⟩, 8), (⟨"DreamDuty$Teller", "goBehindSemicolon", "()V"⟩, 8), (⟨"DreamDuty", "isGuest", "(I)Z"⟩, 18)]
theorem lw_r2 : ∀ q ∈ lw_privs_2, lw_okq q := List.forall_mem_cons.mpr ⟨lw_p16, List.forall_mem_cons.mpr ⟨lw_p17, List.forall_mem_cons.mpr ⟨lw_p18, List.forall_mem_cons.mpr ⟨lw_p19, List.forall_mem_cons.mpr ⟨lw_p20, List.forall_mem_cons.mpr ⟨lw_p21, List.forall_mem_cons.mpr ⟨lw_p22, List.forall_mem_cons.mpr ⟨lw_p23, List.forall_mem_cons.mpr ⟨lw_p24, List.forall_mem_cons.mpr ⟨lw_p25, List.forall_mem_cons.mpr ⟨lw_p26, List.forall_mem_cons.mpr ⟨lw_p27, List.forall_mem_cons.mpr ⟨lw_p28, List.forall_mem_cons.mpr ⟨lw_p29, List.forall_mem_cons.mpr ⟨lw_p30, List.forall_mem_cons.mpr ⟨lw_p31, fun _ h => absurd h List.not_mem_nil⟩⟩⟩⟩⟩⟩⟩⟩⟩⟩⟩⟩⟩⟩⟩⟩
theorem lw_p32 : lw_okq (⟨"DreamDuty$Border", "look", "(III)V"⟩, 5) := ⟨⟨by decide +kernel, by decide +kernel⟩, List.mem_of_getElem? (i := 319) (by decide +kernel), List.mem_of_getElem? (i := 887) (by decide +kernel), List.mem_of_getElem? (i := 888) (by decide +kernel)⟩
theorem lw_p33 : lw_okq (⟨"DreamDuty$Border", "alike", "(II)I"⟩, 5) := ⟨⟨by decide +kernel, by decide +kernel⟩, List.mem_of_getElem? (i := 319) (by decide +kernel), List.mem_of_getElem? (i := 896) (by decide +kernel), List.mem_of_getElem? (i := 897) (by decide +kernel)⟩
theorem lw_p34 : lw_okq (⟨"DreamDuty$Law", "goalOf", "(I)I"⟩, 3) := ⟨⟨by decide +kernel, by decide +kernel⟩, List.mem_of_getElem? (i := 176) (by decide +kernel), List.mem_of_getElem? (i := 904) (by decide +kernel), List.mem_of_getElem? (i := 905) (by decide +kernel)⟩
theorem lw_p35 : lw_okq (⟨"DreamDuty", "isInn", "(I)Z"⟩, 18) := ⟨⟨by decide +kernel, by decide +kernel⟩, List.mem_of_getElem? (i := 24) (by decide +kernel), List.mem_of_getElem? (i := 921) (by decide +kernel), List.mem_of_getElem? (i := 922) (by decide +kernel)⟩
theorem lw_p36 : lw_okq (⟨"DreamDuty", "isThing", "(I)Z"⟩, 18) := ⟨⟨by decide +kernel, by decide +kernel⟩, List.mem_of_getElem? (i := 24) (by decide +kernel), List.mem_of_getElem? (i := 939) (by decide +kernel), List.mem_of_getElem? (i := 940) (by decide +kernel)⟩
theorem lw_p37 : lw_okq (⟨"DreamDuty$Border", "dreamAt", "(II)V"⟩, 5) := ⟨⟨by decide +kernel, by decide +kernel⟩, List.mem_of_getElem? (i := 319) (by decide +kernel), List.mem_of_getElem? (i := 968) (by decide +kernel), List.mem_of_getElem? (i := 969) (by decide +kernel)⟩
theorem lw_p38 : lw_okq (⟨"DreamDuty$Border", "drawn", "(II)I"⟩, 5) := ⟨⟨by decide +kernel, by decide +kernel⟩, List.mem_of_getElem? (i := 319) (by decide +kernel), List.mem_of_getElem? (i := 972) (by decide +kernel), List.mem_of_getElem? (i := 973) (by decide +kernel)⟩
theorem lw_p39 : lw_okq (⟨"DreamDuty$Border", "lot", "(II)I"⟩, 5) := ⟨⟨by decide +kernel, by decide +kernel⟩, List.mem_of_getElem? (i := 319) (by decide +kernel), List.mem_of_getElem? (i := 976) (by decide +kernel), List.mem_of_getElem? (i := 977) (by decide +kernel)⟩
theorem lw_p40 : lw_okq (⟨"DreamDuty$Border", "dreamWould", "(III)I"⟩, 5) := ⟨⟨by decide +kernel, by decide +kernel⟩, List.mem_of_getElem? (i := 319) (by decide +kernel), List.mem_of_getElem? (i := 985) (by decide +kernel), List.mem_of_getElem? (i := 986) (by decide +kernel)⟩
theorem lw_p41 : lw_okq (⟨"DreamDuty$Border", "paysAtCustoms", "(I)I"⟩, 5) := ⟨⟨by decide +kernel, by decide +kernel⟩, List.mem_of_getElem? (i := 319) (by decide +kernel), List.mem_of_getElem? (i := 1009) (by decide +kernel), List.mem_of_getElem? (i := 1010) (by decide +kernel)⟩
theorem lw_p42 : lw_okq (⟨"DreamDuty", "isLodgingSet", "(I)Z"⟩, 18) := ⟨⟨by decide +kernel, by decide +kernel⟩, List.mem_of_getElem? (i := 24) (by decide +kernel), List.mem_of_getElem? (i := 1072) (by decide +kernel), List.mem_of_getElem? (i := 1073) (by decide +kernel)⟩
theorem lw_p43 : lw_okq (⟨"DreamDuty$Lodgings", "prepare", "(LDreamDuty$Border;I)V"⟩, 8) := ⟨⟨by decide +kernel, by decide +kernel⟩, List.mem_of_getElem? (i := 435) (by decide +kernel), List.mem_of_getElem? (i := 1080) (by decide +kernel), List.mem_of_getElem? (i := 1081) (by decide +kernel)⟩
theorem lw_p44 : lw_okq (⟨"DreamDuty$Lodgings", "spread", "(II)V"⟩, 8) := ⟨⟨by decide +kernel, by decide +kernel⟩, List.mem_of_getElem? (i := 435) (by decide +kernel), List.mem_of_getElem? (i := 1090) (by decide +kernel), List.mem_of_getElem? (i := 1091) (by decide +kernel)⟩
theorem lw_p45 : lw_okq (⟨"DreamDuty$Lodgings", "fits", "(I)Z"⟩, 8) := ⟨⟨by decide +kernel, by decide +kernel⟩, List.mem_of_getElem? (i := 435) (by decide +kernel), List.mem_of_getElem? (i := 1094) (by decide +kernel), List.mem_of_getElem? (i := 1095) (by decide +kernel)⟩
theorem lw_p46 : lw_okq (⟨"DreamDuty$Lodgings", "sumOf", "()J"⟩, 8) := ⟨⟨by decide +kernel, by decide +kernel⟩, List.mem_of_getElem? (i := 435) (by decide +kernel), List.mem_of_getElem? (i := 1098) (by decide +kernel), List.mem_of_getElem? (i := 1099) (by decide +kernel)⟩
theorem lw_p47 : lw_okq (⟨"DreamDuty$Pairings", "pair", "(LDreamDuty$Border;IIII)V"⟩, 3) := ⟨⟨by decide +kernel, by decide +kernel⟩, List.mem_of_getElem? (i := 466) (by decide +kernel), List.mem_of_getElem? (i := 1130) (by decide +kernel), List.mem_of_getElem? (i := 1131) (by decide +kernel)⟩
def lw_privs_3 : List (MethodName × Nat) := [(⟨"DreamDuty$Border", "look", "(III)V"⟩, 5), (⟨"DreamDuty$Border", "alike", "(II)I"⟩, 5), (⟨"DreamDuty$Law", "goalOf", "(I)I"⟩, 3), (⟨"DreamDuty", "isInn", "(I)Z"⟩, 18), (⟨"DreamDuty", "isThing", "(I)Z"⟩, 18), (⟨"DreamDuty$Border", "dreamAt", "(II)V"⟩, 5), (⟨"DreamDuty$Border", "drawn", "(II)I"⟩, 5), (⟨"DreamDuty$Border", "lot", "(II)I"⟩, 5), (⟨"DreamDuty$Border", "dreamWould", "(III)I"⟩, 5), (⟨"DreamDuty$Border", "paysAtCustoms", "(I)I"⟩, 5), (⟨"DreamDuty", "isLodgingSet", "(I)Z"⟩, 18), (⟨"DreamDuty$Lodgings", "prepare", "(LDreamDuty$Border;I)V"⟩, 8), (⟨"DreamDuty$Lodgings", "spread", "(II)V"⟩, 8), (⟨"DreamDuty$Lodgings", "fits", "(I)Z"⟩, 8), (⟨"DreamDuty$Lodgings", "sumOf", "()J"⟩, 8), (⟨"DreamDuty$Pairings", "pair", "(LDreamDuty$Border;IIII)V"⟩, 3)]
theorem lw_r3 : ∀ q ∈ lw_privs_3, lw_okq q := List.forall_mem_cons.mpr ⟨lw_p32, List.forall_mem_cons.mpr ⟨lw_p33, List.forall_mem_cons.mpr ⟨lw_p34, List.forall_mem_cons.mpr ⟨lw_p35, List.forall_mem_cons.mpr ⟨lw_p36, List.forall_mem_cons.mpr ⟨lw_p37, List.forall_mem_cons.mpr ⟨lw_p38, List.forall_mem_cons.mpr ⟨lw_p39, List.forall_mem_cons.mpr ⟨lw_p40, List.forall_mem_cons.mpr ⟨lw_p41, List.forall_mem_cons.mpr ⟨lw_p42, List.forall_mem_cons.mpr ⟨lw_p43, List.forall_mem_cons.mpr ⟨lw_p44, List.forall_mem_cons.mpr ⟨lw_p45, List.forall_mem_cons.mpr ⟨lw_p46, List.forall_mem_cons.mpr ⟨lw_p47, fun _ h => absurd h List.not_mem_nil⟩⟩⟩⟩⟩⟩⟩⟩⟩⟩⟩⟩⟩⟩⟩⟩
theorem lw_p48 : lw_okq (⟨"DreamDuty$Pairings", "keepIfBetter", "(III)V"⟩, 3) := ⟨⟨by decide +kernel, by decide +kernel⟩, List.mem_of_getElem? (i := 466) (by decide +kernel), List.mem_of_getElem? (i := 1134) (by decide +kernel), List.mem_of_getElem? (i := 1135) (by decide +kernel)⟩
theorem lw_p49 : lw_okq (⟨"DreamDuty", "isKnown", "(I)Z"⟩, 18) := ⟨⟨by decide +kernel, by decide +kernel⟩, List.mem_of_getElem? (i := 24) (by decide +kernel), List.mem_of_getElem? (i := 1192) (by decide +kernel), List.mem_of_getElem? (i := 1193) (by decide +kernel)⟩
theorem lw_p50 : lw_okq (⟨"DreamDuty", "innsOf", "(I)I"⟩, 18) := ⟨⟨by decide +kernel, by decide +kernel⟩, List.mem_of_getElem? (i := 24) (by decide +kernel), List.mem_of_getElem? (i := 1196) (by decide +kernel), List.mem_of_getElem? (i := 1197) (by decide +kernel)⟩
theorem lw_p51 : lw_okq (⟨"DreamDuty", "weightsOf", "(II)J"⟩, 18) := ⟨⟨by decide +kernel, by decide +kernel⟩, List.mem_of_getElem? (i := 24) (by decide +kernel), List.mem_of_getElem? (i := 1200) (by decide +kernel), List.mem_of_getElem? (i := 1201) (by decide +kernel)⟩
theorem lw_p52 : lw_okq (⟨"DreamDuty", "allWeightsOf", "(II)J"⟩, 18) := ⟨⟨by decide +kernel, by decide +kernel⟩, List.mem_of_getElem? (i := 24) (by decide +kernel), List.mem_of_getElem? (i := 1211) (by decide +kernel), List.mem_of_getElem? (i := 1212) (by decide +kernel)⟩
theorem lw_p53 : lw_okq (⟨"DreamDuty", "heldSlots", "()I"⟩, 18) := ⟨⟨by decide +kernel, by decide +kernel⟩, List.mem_of_getElem? (i := 24) (by decide +kernel), List.mem_of_getElem? (i := 1232) (by decide +kernel), List.mem_of_getElem? (i := 1233) (by decide +kernel)⟩
theorem lw_p54 : lw_okq (⟨"DreamDutyModel", "plain", "(I)V"⟩, 75) := ⟨⟨by decide +kernel, by decide +kernel⟩, List.mem_of_getElem? (i := 1236) (by decide +kernel), List.mem_of_getElem? (i := 1242) (by decide +kernel), List.mem_of_getElem? (i := 1243) (by decide +kernel)⟩
theorem lw_p55 : lw_okq (⟨"DreamDutyModel", "begins", "()V"⟩, 75) := ⟨⟨by decide +kernel, by decide +kernel⟩, List.mem_of_getElem? (i := 1236) (by decide +kernel), List.mem_of_getElem? (i := 1253) (by decide +kernel), List.mem_of_getElem? (i := 1254) (by decide +kernel)⟩
theorem lw_p56 : lw_okq (⟨"DreamDutyModel", "keepsRow", "()V"⟩, 75) := ⟨⟨by decide +kernel, by decide +kernel⟩, List.mem_of_getElem? (i := 1236) (by decide +kernel), List.mem_of_getElem? (i := 1257) (by decide +kernel), List.mem_of_getElem? (i := 1258) (by decide +kernel)⟩
theorem lw_p57 : lw_okq (⟨"DreamDutyModel", "put", "(I)V"⟩, 75) := ⟨⟨by decide +kernel, by decide +kernel⟩, List.mem_of_getElem? (i := 1236) (by decide +kernel), List.mem_of_getElem? (i := 1490) (by decide +kernel), List.mem_of_getElem? (i := 1491) (by decide +kernel)⟩
theorem lw_p58 : lw_okq (⟨"DreamDutyModel", "cut", "()V"⟩, 75) := ⟨⟨by decide +kernel, by decide +kernel⟩, List.mem_of_getElem? (i := 1236) (by decide +kernel), List.mem_of_getElem? (i := 1502) (by decide +kernel), List.mem_of_getElem? (i := 1503) (by decide +kernel)⟩
theorem lw_p59 : lw_okq (⟨"DreamDutyModel", "byteAt", "(I)I"⟩, 75) := ⟨⟨by decide +kernel, by decide +kernel⟩, List.mem_of_getElem? (i := 1236) (by decide +kernel), List.mem_of_getElem? (i := 1506) (by decide +kernel), List.mem_of_getElem? (i := 1507) (by decide +kernel)⟩
theorem lw_p60 : lw_okq (⟨"DreamDutyModel", "token", "(IIIJ)V"⟩, 75) := ⟨⟨by decide +kernel, by decide +kernel⟩, List.mem_of_getElem? (i := 1236) (by decide +kernel), List.mem_of_getElem? (i := 1510) (by decide +kernel), List.mem_of_getElem? (i := 1511) (by decide +kernel)⟩
theorem lw_p61 : lw_okq (⟨"DreamDutyModel", "sign", "(III)I"⟩, 75) := ⟨⟨by decide +kernel, by decide +kernel⟩, List.mem_of_getElem? (i := 1236) (by decide +kernel), List.mem_of_getElem? (i := 1520) (by decide +kernel), List.mem_of_getElem? (i := 1521) (by decide +kernel)⟩
theorem lw_p62 : lw_okq (⟨"DreamDutyModel", "is", "(I)Z"⟩, 75) := ⟨⟨by decide +kernel, by decide +kernel⟩, List.mem_of_getElem? (i := 1236) (by decide +kernel), List.mem_of_getElem? (i := 1524) (by decide +kernel), List.mem_of_getElem? (i := 1525) (by decide +kernel)⟩
theorem lw_p63 : lw_okq (⟨"DreamDutyModel", "tellOne", "()V"⟩, 75) := ⟨⟨by decide +kernel, by decide +kernel⟩, List.mem_of_getElem? (i := 1236) (by decide +kernel), List.mem_of_getElem? (i := 1528) (by decide +kernel), List.mem_of_getElem? (i := 1529) (by decide +kernel)⟩
def lw_privs_4 : List (MethodName × Nat) := [(⟨"DreamDuty$Pairings", "keepIfBetter", "(III)V"⟩, 3), (⟨"DreamDuty", "isKnown", "(I)Z"⟩, 18), (⟨"DreamDuty", "innsOf", "(I)I"⟩, 18), (⟨"DreamDuty", "weightsOf", "(II)J"⟩, 18), (⟨"DreamDuty", "allWeightsOf", "(II)J"⟩, 18), (⟨"DreamDuty", "heldSlots", "()I"⟩, 18), (⟨"DreamDutyModel", "plain", "(I)V"⟩, 75), (⟨"DreamDutyModel", "begins", "()V"⟩, 75), (⟨"DreamDutyModel", "keepsRow", "()V"⟩, 75), (⟨"DreamDutyModel", "put", "(I)V"⟩, 75), (⟨"DreamDutyModel", "cut", "()V"⟩, 75), (⟨"DreamDutyModel", "byteAt", "(I)I"⟩, 75), (⟨"DreamDutyModel", "token", "(IIIJ)V"⟩, 75), (⟨"DreamDutyModel", "sign", "(III)I"⟩, 75), (⟨"DreamDutyModel", "is", "(I)Z"⟩, 75), (⟨"DreamDutyModel", "tellOne", "()V"⟩, 75)]
theorem lw_r4 : ∀ q ∈ lw_privs_4, lw_okq q := List.forall_mem_cons.mpr ⟨lw_p48, List.forall_mem_cons.mpr ⟨lw_p49, List.forall_mem_cons.mpr ⟨lw_p50, List.forall_mem_cons.mpr ⟨lw_p51, List.forall_mem_cons.mpr ⟨lw_p52, List.forall_mem_cons.mpr ⟨lw_p53, List.forall_mem_cons.mpr ⟨lw_p54, List.forall_mem_cons.mpr ⟨lw_p55, List.forall_mem_cons.mpr ⟨lw_p56, List.forall_mem_cons.mpr ⟨lw_p57, List.forall_mem_cons.mpr ⟨lw_p58, List.forall_mem_cons.mpr ⟨lw_p59, List.forall_mem_cons.mpr ⟨lw_p60, List.forall_mem_cons.mpr ⟨lw_p61, List.forall_mem_cons.mpr ⟨lw_p62, List.forall_mem_cons.mpr ⟨lw_p63, fun _ h => absurd h List.not_mem_nil⟩⟩⟩⟩⟩⟩⟩⟩⟩⟩⟩⟩⟩⟩⟩⟩
theorem lw_p64 : lw_okq (⟨"DreamDutyModel", "roomFor", "(II)V"⟩, 75) := ⟨⟨by decide +kernel, by decide +kernel⟩, List.mem_of_getElem? (i := 1236) (by decide +kernel), List.mem_of_getElem? (i := 1532) (by decide +kernel), List.mem_of_getElem? (i := 1533) (by decide +kernel)⟩
theorem lw_p65 : lw_okq (⟨"DreamDutyModel", "fail", "(I)V"⟩, 75) := ⟨⟨by decide +kernel, by decide +kernel⟩, List.mem_of_getElem? (i := 1236) (by decide +kernel), List.mem_of_getElem? (i := 1536) (by decide +kernel), List.mem_of_getElem? (i := 1537) (by decide +kernel)⟩
theorem lw_p66 : lw_okq (⟨"DreamDutyModel", "goesOn", "()V"⟩, 75) := ⟨⟨by decide +kernel, by decide +kernel⟩, List.mem_of_getElem? (i := 1236) (by decide +kernel), List.mem_of_getElem? (i := 1540) (by decide +kernel), List.mem_of_getElem? (i := 1541) (by decide +kernel)⟩
theorem lw_p67 : lw_okq (⟨"DreamDutyModel", "tellThing", "()V"⟩, 75) := ⟨⟨by decide +kernel, by decide +kernel⟩, List.mem_of_getElem? (i := 1236) (by decide +kernel), List.mem_of_getElem? (i := 1544) (by decide +kernel), List.mem_of_getElem? (i := 1545) (by decide +kernel)⟩
theorem lw_p68 : lw_okq (⟨"DreamDutyModel", "named", "()I"⟩, 75) := ⟨⟨by decide +kernel, by decide +kernel⟩, List.mem_of_getElem? (i := 1236) (by decide +kernel), List.mem_of_getElem? (i := 1548) (by decide +kernel), List.mem_of_getElem? (i := 1549) (by decide +kernel)⟩
theorem lw_p69 : lw_okq (⟨"DreamDutyModel", "must", "(I)V"⟩, 75) := ⟨⟨by decide +kernel, by decide +kernel⟩, List.mem_of_getElem? (i := 1236) (by decide +kernel), List.mem_of_getElem? (i := 1552) (by decide +kernel), List.mem_of_getElem? (i := 1553) (by decide +kernel)⟩
theorem lw_p70 : lw_okq (⟨"DreamDutyModel", "wrong", "(II)V"⟩, 75) := ⟨⟨by decide +kernel, by decide +kernel⟩, List.mem_of_getElem? (i := 1236) (by decide +kernel), List.mem_of_getElem? (i := 1556) (by decide +kernel), List.mem_of_getElem? (i := 1557) (by decide +kernel)⟩
theorem lw_p71 : lw_okq (⟨"DreamDutyModel", "bounded", "(II)I"⟩, 75) := ⟨⟨by decide +kernel, by decide +kernel⟩, List.mem_of_getElem? (i := 1236) (by decide +kernel), List.mem_of_getElem? (i := 1560) (by decide +kernel), List.mem_of_getElem? (i := 1561) (by decide +kernel)⟩
theorem lw_p72 : lw_okq (⟨"DreamDutyModel", "notes", "(III)V"⟩, 75) := ⟨⟨by decide +kernel, by decide +kernel⟩, List.mem_of_getElem? (i := 1236) (by decide +kernel), List.mem_of_getElem? (i := 1564) (by decide +kernel), List.mem_of_getElem? (i := 1565) (by decide +kernel)⟩
theorem lw_p73 : lw_okq (⟨"DreamDutyModel", "tellInn", "()V"⟩, 75) := ⟨⟨by decide +kernel, by decide +kernel⟩, List.mem_of_getElem? (i := 1236) (by decide +kernel), List.mem_of_getElem? (i := 1568) (by decide +kernel), List.mem_of_getElem? (i := 1569) (by decide +kernel)⟩
theorem lw_p74 : lw_okq (⟨"DreamDutyModel", "known", "(I)I"⟩, 75) := ⟨⟨by decide +kernel, by decide +kernel⟩, List.mem_of_getElem? (i := 1236) (by decide +kernel), List.mem_of_getElem? (i := 1572) (by decide +kernel), List.mem_of_getElem? (i := 1573) (by decide +kernel)⟩
theorem lw_p75 : lw_okq (⟨"DreamDutyModel", "tellGuest", "()V"⟩, 75) := ⟨⟨by decide +kernel, by decide +kernel⟩, List.mem_of_getElem? (i := 1236) (by decide +kernel), List.mem_of_getElem? (i := 1576) (by decide +kernel), List.mem_of_getElem? (i := 1577) (by decide +kernel)⟩
theorem lw_p76 : lw_okq (⟨"DreamDutyModel", "tellTwins", "()V"⟩, 75) := ⟨⟨by decide +kernel, by decide +kernel⟩, List.mem_of_getElem? (i := 1236) (by decide +kernel), List.mem_of_getElem? (i := 1580) (by decide +kernel), List.mem_of_getElem? (i := 1581) (by decide +kernel)⟩
theorem lw_p77 : lw_okq (⟨"DreamDutyModel", "tellPost", "()V"⟩, 75) := ⟨⟨by decide +kernel, by decide +kernel⟩, List.mem_of_getElem? (i := 1236) (by decide +kernel), List.mem_of_getElem? (i := 1584) (by decide +kernel), List.mem_of_getElem? (i := 1585) (by decide +kernel)⟩
theorem lw_p78 : lw_okq (⟨"DreamDutyModel", "tellLaw", "(I)V"⟩, 75) := ⟨⟨by decide +kernel, by decide +kernel⟩, List.mem_of_getElem? (i := 1236) (by decide +kernel), List.mem_of_getElem? (i := 1588) (by decide +kernel), List.mem_of_getElem? (i := 1589) (by decide +kernel)⟩
theorem lw_p79 : lw_okq (⟨"DreamDutyModel", "expression", "()V"⟩, 75) := ⟨⟨by decide +kernel, by decide +kernel⟩, List.mem_of_getElem? (i := 1236) (by decide +kernel), List.mem_of_getElem? (i := 1592) (by decide +kernel), List.mem_of_getElem? (i := 1593) (by decide +kernel)⟩
def lw_privs_5 : List (MethodName × Nat) := [(⟨"DreamDutyModel", "roomFor", "(II)V"⟩, 75), (⟨"DreamDutyModel", "fail", "(I)V"⟩, 75), (⟨"DreamDutyModel", "goesOn", "()V"⟩, 75), (⟨"DreamDutyModel", "tellThing", "()V"⟩, 75), (⟨"DreamDutyModel", "named", "()I"⟩, 75), (⟨"DreamDutyModel", "must", "(I)V"⟩, 75), (⟨"DreamDutyModel", "wrong", "(II)V"⟩, 75), (⟨"DreamDutyModel", "bounded", "(II)I"⟩, 75), (⟨"DreamDutyModel", "notes", "(III)V"⟩, 75), (⟨"DreamDutyModel", "tellInn", "()V"⟩, 75), (⟨"DreamDutyModel", "known", "(I)I"⟩, 75), (⟨"DreamDutyModel", "tellGuest", "()V"⟩, 75), (⟨"DreamDutyModel", "tellTwins", "()V"⟩, 75), (⟨"DreamDutyModel", "tellPost", "()V"⟩, 75), (⟨"DreamDutyModel", "tellLaw", "(I)V"⟩, 75), (⟨"DreamDutyModel", "expression", "()V"⟩, 75)]
theorem lw_r5 : ∀ q ∈ lw_privs_5, lw_okq q := List.forall_mem_cons.mpr ⟨lw_p64, List.forall_mem_cons.mpr ⟨lw_p65, List.forall_mem_cons.mpr ⟨lw_p66, List.forall_mem_cons.mpr ⟨lw_p67, List.forall_mem_cons.mpr ⟨lw_p68, List.forall_mem_cons.mpr ⟨lw_p69, List.forall_mem_cons.mpr ⟨lw_p70, List.forall_mem_cons.mpr ⟨lw_p71, List.forall_mem_cons.mpr ⟨lw_p72, List.forall_mem_cons.mpr ⟨lw_p73, List.forall_mem_cons.mpr ⟨lw_p74, List.forall_mem_cons.mpr ⟨lw_p75, List.forall_mem_cons.mpr ⟨lw_p76, List.forall_mem_cons.mpr ⟨lw_p77, List.forall_mem_cons.mpr ⟨lw_p78, List.forall_mem_cons.mpr ⟨lw_p79, fun _ h => absurd h List.not_mem_nil⟩⟩⟩⟩⟩⟩⟩⟩⟩⟩⟩⟩⟩⟩⟩⟩
theorem lw_p80 : lw_okq (⟨"DreamDutyModel", "unit", "()V"⟩, 75) := ⟨⟨by decide +kernel, by decide +kernel⟩, List.mem_of_getElem? (i := 1236) (by decide +kernel), List.mem_of_getElem? (i := 1596) (by decide +kernel), List.mem_of_getElem? (i := 1597) (by decide +kernel)⟩
theorem lw_p81 : lw_okq (⟨"DreamDutyModel", "emit", "(II)V"⟩, 75) := ⟨⟨by decide +kernel, by decide +kernel⟩, List.mem_of_getElem? (i := 1236) (by decide +kernel), List.mem_of_getElem? (i := 1600) (by decide +kernel), List.mem_of_getElem? (i := 1601) (by decide +kernel)⟩
theorem lw_p82 : lw_okq (⟨"DreamDutyModel", "comesOut", "(Z)V"⟩, 75) := ⟨⟨by decide +kernel, by decide +kernel⟩, List.mem_of_getElem? (i := 1236) (by decide +kernel), List.mem_of_getElem? (i := 1604) (by decide +kernel), List.mem_of_getElem? (i := 1605) (by decide +kernel)⟩
theorem lw_p83 : lw_okq (⟨"DreamDutyModel", "term", "()V"⟩, 75) := ⟨⟨by decide +kernel, by decide +kernel⟩, List.mem_of_getElem? (i := 1236) (by decide +kernel), List.mem_of_getElem? (i := 1608) (by decide +kernel), List.mem_of_getElem? (i := 1609) (by decide +kernel)⟩
theorem lw_p84 : lw_okq (⟨"DreamDutyModel", "isGuest", "(I)Z"⟩, 75) := ⟨⟨by decide +kernel, by decide +kernel⟩, List.mem_of_getElem? (i := 1236) (by decide +kernel), List.mem_of_getElem? (i := 1620) (by decide +kernel), List.mem_of_getElem? (i := 1621) (by decide +kernel)⟩
theorem lw_p85 : lw_okq (⟨"DreamDutyModel", "copies", "()V"⟩, 75) := ⟨⟨by decide +kernel, by decide +kernel⟩, List.mem_of_getElem? (i := 1236) (by decide +kernel), List.mem_of_getElem? (i := 1628) (by decide +kernel), List.mem_of_getElem? (i := 1629) (by decide +kernel)⟩
theorem lw_p86 : lw_okq (⟨"DreamDutyModel", "owesNow", "(I)I"⟩, 75) := ⟨⟨by decide +kernel, by decide +kernel⟩, List.mem_of_getElem? (i := 1236) (by decide +kernel), List.mem_of_getElem? (i := 1632) (by decide +kernel), List.mem_of_getElem? (i := 1633) (by decide +kernel)⟩
theorem lw_p87 : lw_okq (⟨"DreamDutyModel", "ownDuty", "(I)I"⟩, 75) := ⟨⟨by decide +kernel, by decide +kernel⟩, List.mem_of_getElem? (i := 1236) (by decide +kernel), List.mem_of_getElem? (i := 1636) (by decide +kernel), List.mem_of_getElem? (i := 1637) (by decide +kernel)⟩
theorem lw_p88 : lw_okq (⟨"DreamDutyModel", "dutyOf", "(IIIII)I"⟩, 75) := ⟨⟨by decide +kernel, by decide +kernel⟩, List.mem_of_getElem? (i := 1236) (by decide +kernel), List.mem_of_getElem? (i := 1640) (by decide +kernel), List.mem_of_getElem? (i := 1641) (by decide +kernel)⟩
theorem lw_p89 : lw_okq (⟨"DreamDutyModel", "looks", "(IIIII)V"⟩, 75) := ⟨⟨by decide +kernel, by decide +kernel⟩, List.mem_of_getElem? (i := 1236) (by decide +kernel), List.mem_of_getElem? (i := 1644) (by decide +kernel), List.mem_of_getElem? (i := 1645) (by decide +kernel)⟩
theorem lw_p90 : lw_okq (⟨"DreamDutyModel", "alikeTo", "(II)I"⟩, 75) := ⟨⟨by decide +kernel, by decide +kernel⟩, List.mem_of_getElem? (i := 1236) (by decide +kernel), List.mem_of_getElem? (i := 1648) (by decide +kernel), List.mem_of_getElem? (i := 1649) (by decide +kernel)⟩
theorem lw_p91 : lw_okq (⟨"DreamDutyModel", "asks", "(III)I"⟩, 75) := ⟨⟨by decide +kernel, by decide +kernel⟩, List.mem_of_getElem? (i := 1236) (by decide +kernel), List.mem_of_getElem? (i := 1652) (by decide +kernel), List.mem_of_getElem? (i := 1653) (by decide +kernel)⟩
theorem lw_p92 : lw_okq (⟨"DreamDutyModel", "termOf", "(II)I"⟩, 75) := ⟨⟨by decide +kernel, by decide +kernel⟩, List.mem_of_getElem? (i := 1236) (by decide +kernel), List.mem_of_getElem? (i := 1656) (by decide +kernel), List.mem_of_getElem? (i := 1657) (by decide +kernel)⟩
theorem lw_p93 : lw_okq (⟨"DreamDutyModel", "isInn", "(I)Z"⟩, 75) := ⟨⟨by decide +kernel, by decide +kernel⟩, List.mem_of_getElem? (i := 1236) (by decide +kernel), List.mem_of_getElem? (i := 1664) (by decide +kernel), List.mem_of_getElem? (i := 1665) (by decide +kernel)⟩
theorem lw_p94 : lw_okq (⟨"DreamDutyModel", "lodgedAt", "(I)I"⟩, 75) := ⟨⟨by decide +kernel, by decide +kernel⟩, List.mem_of_getElem? (i := 1236) (by decide +kernel), List.mem_of_getElem? (i := 1668) (by decide +kernel), List.mem_of_getElem? (i := 1669) (by decide +kernel)⟩
theorem lw_p95 : lw_okq (⟨"DreamDutyModel", "weightsOf", "(I)I"⟩, 75) := ⟨⟨by decide +kernel, by decide +kernel⟩, List.mem_of_getElem? (i := 1236) (by decide +kernel), List.mem_of_getElem? (i := 1675) (by decide +kernel), List.mem_of_getElem? (i := 1676) (by decide +kernel)⟩
def lw_privs_6 : List (MethodName × Nat) := [(⟨"DreamDutyModel", "unit", "()V"⟩, 75), (⟨"DreamDutyModel", "emit", "(II)V"⟩, 75), (⟨"DreamDutyModel", "comesOut", "(Z)V"⟩, 75), (⟨"DreamDutyModel", "term", "()V"⟩, 75), (⟨"DreamDutyModel", "isGuest", "(I)Z"⟩, 75), (⟨"DreamDutyModel", "copies", "()V"⟩, 75), (⟨"DreamDutyModel", "owesNow", "(I)I"⟩, 75), (⟨"DreamDutyModel", "ownDuty", "(I)I"⟩, 75), (⟨"DreamDutyModel", "dutyOf", "(IIIII)I"⟩, 75), (⟨"DreamDutyModel", "looks", "(IIIII)V"⟩, 75), (⟨"DreamDutyModel", "alikeTo", "(II)I"⟩, 75), (⟨"DreamDutyModel", "asks", "(III)I"⟩, 75), (⟨"DreamDutyModel", "termOf", "(II)I"⟩, 75), (⟨"DreamDutyModel", "isInn", "(I)Z"⟩, 75), (⟨"DreamDutyModel", "lodgedAt", "(I)I"⟩, 75), (⟨"DreamDutyModel", "weightsOf", "(I)I"⟩, 75)]
theorem lw_r6 : ∀ q ∈ lw_privs_6, lw_okq q := List.forall_mem_cons.mpr ⟨lw_p80, List.forall_mem_cons.mpr ⟨lw_p81, List.forall_mem_cons.mpr ⟨lw_p82, List.forall_mem_cons.mpr ⟨lw_p83, List.forall_mem_cons.mpr ⟨lw_p84, List.forall_mem_cons.mpr ⟨lw_p85, List.forall_mem_cons.mpr ⟨lw_p86, List.forall_mem_cons.mpr ⟨lw_p87, List.forall_mem_cons.mpr ⟨lw_p88, List.forall_mem_cons.mpr ⟨lw_p89, List.forall_mem_cons.mpr ⟨lw_p90, List.forall_mem_cons.mpr ⟨lw_p91, List.forall_mem_cons.mpr ⟨lw_p92, List.forall_mem_cons.mpr ⟨lw_p93, List.forall_mem_cons.mpr ⟨lw_p94, List.forall_mem_cons.mpr ⟨lw_p95, fun _ h => absurd h List.not_mem_nil⟩⟩⟩⟩⟩⟩⟩⟩⟩⟩⟩⟩⟩⟩⟩⟩
theorem lw_p96 : lw_okq (⟨"DreamDutyModel", "weightIn", "(II)I"⟩, 75) := ⟨⟨by decide +kernel, by decide +kernel⟩, List.mem_of_getElem? (i := 1236) (by decide +kernel), List.mem_of_getElem? (i := 1679) (by decide +kernel), List.mem_of_getElem? (i := 1680) (by decide +kernel)⟩
theorem lw_p97 : lw_okq (⟨"DreamDutyModel", "isThing", "(I)Z"⟩, 75) := ⟨⟨by decide +kernel, by decide +kernel⟩, List.mem_of_getElem? (i := 1236) (by decide +kernel), List.mem_of_getElem? (i := 1687) (by decide +kernel), List.mem_of_getElem? (i := 1688) (by decide +kernel)⟩
theorem lw_p98 : lw_okq (⟨"DreamDutyModel", "keeps", "()V"⟩, 75) := ⟨⟨by decide +kernel, by decide +kernel⟩, List.mem_of_getElem? (i := 1236) (by decide +kernel), List.mem_of_getElem? (i := 1695) (by decide +kernel), List.mem_of_getElem? (i := 1696) (by decide +kernel)⟩
theorem lw_p99 : lw_okq (⟨"DreamDutyModel", "nightGoes", "()V"⟩, 75) := ⟨⟨by decide +kernel, by decide +kernel⟩, List.mem_of_getElem? (i := 1236) (by decide +kernel), List.mem_of_getElem? (i := 1703) (by decide +kernel), List.mem_of_getElem? (i := 1704) (by decide +kernel)⟩
theorem lw_p100 : lw_okq (⟨"DreamDutyModel", "sleeps", "(I)V"⟩, 75) := ⟨⟨by decide +kernel, by decide +kernel⟩, List.mem_of_getElem? (i := 1236) (by decide +kernel), List.mem_of_getElem? (i := 1707) (by decide +kernel), List.mem_of_getElem? (i := 1708) (by decide +kernel)⟩
theorem lw_p101 : lw_okq (⟨"DreamDutyModel", "losesDream", "(I)V"⟩, 75) := ⟨⟨by decide +kernel, by decide +kernel⟩, List.mem_of_getElem? (i := 1236) (by decide +kernel), List.mem_of_getElem? (i := 1711) (by decide +kernel), List.mem_of_getElem? (i := 1712) (by decide +kernel)⟩
theorem lw_p102 : lw_okq (⟨"DreamDutyModel", "lotOf", "(II)I"⟩, 75) := ⟨⟨by decide +kernel, by decide +kernel⟩, List.mem_of_getElem? (i := 1236) (by decide +kernel), List.mem_of_getElem? (i := 1715) (by decide +kernel), List.mem_of_getElem? (i := 1716) (by decide +kernel)⟩
theorem lw_p103 : lw_okq (⟨"DreamDutyModel", "isTwice", "(III)Z"⟩, 75) := ⟨⟨by decide +kernel, by decide +kernel⟩, List.mem_of_getElem? (i := 1236) (by decide +kernel), List.mem_of_getElem? (i := 1723) (by decide +kernel), List.mem_of_getElem? (i := 1724) (by decide +kernel)⟩
theorem lw_p104 : lw_okq (⟨"DreamDutyModel", "muchOf", "(IIII)I"⟩, 75) := ⟨⟨by decide +kernel, by decide +kernel⟩, List.mem_of_getElem? (i := 1236) (by decide +kernel), List.mem_of_getElem? (i := 1727) (by decide +kernel), List.mem_of_getElem? (i := 1728) (by decide +kernel)⟩
theorem lw_p105 : lw_okq (⟨"DreamDutyModel", "withDreams", "()I"⟩, 75) := ⟨⟨by decide +kernel, by decide +kernel⟩, List.mem_of_getElem? (i := 1236) (by decide +kernel), List.mem_of_getElem? (i := 1735) (by decide +kernel), List.mem_of_getElem? (i := 1736) (by decide +kernel)⟩
theorem lw_p106 : lw_okq (⟨"DreamDutyModel", "morningGoes", "()I"⟩, 75) := ⟨⟨by decide +kernel, by decide +kernel⟩, List.mem_of_getElem? (i := 1236) (by decide +kernel), List.mem_of_getElem? (i := 1739) (by decide +kernel), List.mem_of_getElem? (i := 1740) (by decide +kernel)⟩
theorem lw_p107 : lw_okq (⟨"DreamDutyModel", "paysIn", "(I)I"⟩, 75) := ⟨⟨by decide +kernel, by decide +kernel⟩, List.mem_of_getElem? (i := 1236) (by decide +kernel), List.mem_of_getElem? (i := 1743) (by decide +kernel), List.mem_of_getElem? (i := 1744) (by decide +kernel)⟩
theorem lw_p108 : lw_okq (⟨"DreamDutyModel", "showsNow", "(I)I"⟩, 75) := ⟨⟨by decide +kernel, by decide +kernel⟩, List.mem_of_getElem? (i := 1236) (by decide +kernel), List.mem_of_getElem? (i := 1747) (by decide +kernel), List.mem_of_getElem? (i := 1748) (by decide +kernel)⟩
theorem lw_p109 : lw_okq (⟨"DreamDutyModel", "swapsTwo", "(II)V"⟩, 75) := ⟨⟨by decide +kernel, by decide +kernel⟩, List.mem_of_getElem? (i := 1236) (by decide +kernel), List.mem_of_getElem? (i := 1755) (by decide +kernel), List.mem_of_getElem? (i := 1756) (by decide +kernel)⟩
theorem lw_p110 : lw_okq (⟨"DreamDutyModel", "meanAbove", "(II)I"⟩, 75) := ⟨⟨by decide +kernel, by decide +kernel⟩, List.mem_of_getElem? (i := 1236) (by decide +kernel), List.mem_of_getElem? (i := 1775) (by decide +kernel), List.mem_of_getElem? (i := 1776) (by decide +kernel)⟩
theorem lw_p111 : lw_okq (⟨"DreamDutyModel", "isSet", "(I)Z"⟩, 75) := ⟨⟨by decide +kernel, by decide +kernel⟩, List.mem_of_getElem? (i := 1236) (by decide +kernel), List.mem_of_getElem? (i := 1790) (by decide +kernel), List.mem_of_getElem? (i := 1791) (by decide +kernel)⟩
def lw_privs_7 : List (MethodName × Nat) := [(⟨"DreamDutyModel", "weightIn", "(II)I"⟩, 75), (⟨"DreamDutyModel", "isThing", "(I)Z"⟩, 75), (⟨"DreamDutyModel", "keeps", "()V"⟩, 75), (⟨"DreamDutyModel", "nightGoes", "()V"⟩, 75), (⟨"DreamDutyModel", "sleeps", "(I)V"⟩, 75), (⟨"DreamDutyModel", "losesDream", "(I)V"⟩, 75), (⟨"DreamDutyModel", "lotOf", "(II)I"⟩, 75), (⟨"DreamDutyModel", "isTwice", "(III)Z"⟩, 75), (⟨"DreamDutyModel", "muchOf", "(IIII)I"⟩, 75), (⟨"DreamDutyModel", "withDreams", "()I"⟩, 75), (⟨"DreamDutyModel", "morningGoes", "()I"⟩, 75), (⟨"DreamDutyModel", "paysIn", "(I)I"⟩, 75), (⟨"DreamDutyModel", "showsNow", "(I)I"⟩, 75), (⟨"DreamDutyModel", "swapsTwo", "(II)V"⟩, 75), (⟨"DreamDutyModel", "meanAbove", "(II)I"⟩, 75), (⟨"DreamDutyModel", "isSet", "(I)Z"⟩, 75)]
theorem lw_r7 : ∀ q ∈ lw_privs_7, lw_okq q := List.forall_mem_cons.mpr ⟨lw_p96, List.forall_mem_cons.mpr ⟨lw_p97, List.forall_mem_cons.mpr ⟨lw_p98, List.forall_mem_cons.mpr ⟨lw_p99, List.forall_mem_cons.mpr ⟨lw_p100, List.forall_mem_cons.mpr ⟨lw_p101, List.forall_mem_cons.mpr ⟨lw_p102, List.forall_mem_cons.mpr ⟨lw_p103, List.forall_mem_cons.mpr ⟨lw_p104, List.forall_mem_cons.mpr ⟨lw_p105, List.forall_mem_cons.mpr ⟨lw_p106, List.forall_mem_cons.mpr ⟨lw_p107, List.forall_mem_cons.mpr ⟨lw_p108, List.forall_mem_cons.mpr ⟨lw_p109, List.forall_mem_cons.mpr ⟨lw_p110, List.forall_mem_cons.mpr ⟨lw_p111, fun _ h => absurd h List.not_mem_nil⟩⟩⟩⟩⟩⟩⟩⟩⟩⟩⟩⟩⟩⟩⟩⟩
theorem lw_p112 : lw_okq (⟨"DreamDutyModel", "fillsLodging", "(I)V"⟩, 75) := ⟨⟨by decide +kernel, by decide +kernel⟩, List.mem_of_getElem? (i := 1236) (by decide +kernel), List.mem_of_getElem? (i := 1794) (by decide +kernel), List.mem_of_getElem? (i := 1795) (by decide +kernel)⟩
theorem lw_p113 : lw_okq (⟨"DreamDutyModel", "fillsCosts", "()V"⟩, 75) := ⟨⟨by decide +kernel, by decide +kernel⟩, List.mem_of_getElem? (i := 1236) (by decide +kernel), List.mem_of_getElem? (i := 1798) (by decide +kernel), List.mem_of_getElem? (i := 1799) (by decide +kernel)⟩
theorem lw_p114 : lw_okq (⟨"DreamDutyModel", "hasBeds", "(II)Z"⟩, 75) := ⟨⟨by decide +kernel, by decide +kernel⟩, List.mem_of_getElem? (i := 1236) (by decide +kernel), List.mem_of_getElem? (i := 1806) (by decide +kernel), List.mem_of_getElem? (i := 1807) (by decide +kernel)⟩
theorem lw_p115 : lw_okq (⟨"DreamDutyModel", "innIn", "(III)I"⟩, 75) := ⟨⟨by decide +kernel, by decide +kernel⟩, List.mem_of_getElem? (i := 1236) (by decide +kernel), List.mem_of_getElem? (i := 1810) (by decide +kernel), List.mem_of_getElem? (i := 1811) (by decide +kernel)⟩
theorem lw_p116 : lw_okq (⟨"DreamDutyModel", "fillsSwaps", "()V"⟩, 75) := ⟨⟨by decide +kernel, by decide +kernel⟩, List.mem_of_getElem? (i := 1236) (by decide +kernel), List.mem_of_getElem? (i := 1822) (by decide +kernel), List.mem_of_getElem? (i := 1823) (by decide +kernel)⟩
theorem lw_p117 : lw_okq (⟨"DreamDutyModel", "fillsPairs", "()V"⟩, 75) := ⟨⟨by decide +kernel, by decide +kernel⟩, List.mem_of_getElem? (i := 1236) (by decide +kernel), List.mem_of_getElem? (i := 1826) (by decide +kernel), List.mem_of_getElem? (i := 1827) (by decide +kernel)⟩
theorem lw_p118 : lw_okq (⟨"DreamDutyModel", "swapsAll", "(I)Z"⟩, 75) := ⟨⟨by decide +kernel, by decide +kernel⟩, List.mem_of_getElem? (i := 1236) (by decide +kernel), List.mem_of_getElem? (i := 1830) (by decide +kernel), List.mem_of_getElem? (i := 1831) (by decide +kernel)⟩
theorem lw_p119 : lw_okq (⟨"DreamDutyModel", "isResting", "(II)Z"⟩, 75) := ⟨⟨by decide +kernel, by decide +kernel⟩, List.mem_of_getElem? (i := 1236) (by decide +kernel), List.mem_of_getElem? (i := 1838) (by decide +kernel), List.mem_of_getElem? (i := 1839) (by decide +kernel)⟩
theorem lw_p120 : lw_okq (⟨"DreamDutyModel", "paysBy", "(II)I"⟩, 75) := ⟨⟨by decide +kernel, by decide +kernel⟩, List.mem_of_getElem? (i := 1236) (by decide +kernel), List.mem_of_getElem? (i := 1842) (by decide +kernel), List.mem_of_getElem? (i := 1843) (by decide +kernel)⟩
theorem lw_p121 : lw_okq (⟨"DreamDutyModel", "fromBy", "(I)I"⟩, 75) := ⟨⟨by decide +kernel, by decide +kernel⟩, List.mem_of_getElem? (i := 1236) (by decide +kernel), List.mem_of_getElem? (i := 1874) (by decide +kernel), List.mem_of_getElem? (i := 1875) (by decide +kernel)⟩
theorem lw_p122 : lw_okq (⟨"DreamDutyModel", "productIn", "(IIZ)J"⟩, 75) := ⟨⟨by decide +kernel, by decide +kernel⟩, List.mem_of_getElem? (i := 1236) (by decide +kernel), List.mem_of_getElem? (i := 1882) (by decide +kernel), List.mem_of_getElem? (i := 1883) (by decide +kernel)⟩
def lw_privs_8 : List (MethodName × Nat) := [(⟨"DreamDutyModel", "fillsLodging", "(I)V"⟩, 75), (⟨"DreamDutyModel", "fillsCosts", "()V"⟩, 75), (⟨"DreamDutyModel", "hasBeds", "(II)Z"⟩, 75), (⟨"DreamDutyModel", "innIn", "(III)I"⟩, 75), (⟨"DreamDutyModel", "fillsSwaps", "()V"⟩, 75), (⟨"DreamDutyModel", "fillsPairs", "()V"⟩, 75), (⟨"DreamDutyModel", "swapsAll", "(I)Z"⟩, 75), (⟨"DreamDutyModel", "isResting", "(II)Z"⟩, 75), (⟨"DreamDutyModel", "paysBy", "(II)I"⟩, 75), (⟨"DreamDutyModel", "fromBy", "(I)I"⟩, 75), (⟨"DreamDutyModel", "productIn", "(IIZ)J"⟩, 75)]
theorem lw_r8 : ∀ q ∈ lw_privs_8, lw_okq q := List.forall_mem_cons.mpr ⟨lw_p112, List.forall_mem_cons.mpr ⟨lw_p113, List.forall_mem_cons.mpr ⟨lw_p114, List.forall_mem_cons.mpr ⟨lw_p115, List.forall_mem_cons.mpr ⟨lw_p116, List.forall_mem_cons.mpr ⟨lw_p117, List.forall_mem_cons.mpr ⟨lw_p118, List.forall_mem_cons.mpr ⟨lw_p119, List.forall_mem_cons.mpr ⟨lw_p120, List.forall_mem_cons.mpr ⟨lw_p121, List.forall_mem_cons.mpr ⟨lw_p122, fun _ h => absurd h List.not_mem_nil⟩⟩⟩⟩⟩⟩⟩⟩⟩⟩⟩
def lw_privs : List (MethodName × Nat) := lw_privs_1 ++ (lw_privs_2 ++ (lw_privs_3 ++ (lw_privs_4 ++ (lw_privs_5 ++ (lw_privs_6 ++ (lw_privs_7 ++ (lw_privs_8)))))))
def lw_tbl : List Cond := k2_sels lw_privs ++ tables_1
theorem lw_privs_ok : ∀ q ∈ lw_privs, lw_okq q := by
  show ∀ q ∈ lw_privs_1 ++ (lw_privs_2 ++ (lw_privs_3 ++ (lw_privs_4 ++ (lw_privs_5 ++ (lw_privs_6 ++ (lw_privs_7 ++ (lw_privs_8))))))), lw_okq q
  exact List.forall_mem_append.mpr ⟨lw_r1, List.forall_mem_append.mpr ⟨lw_r2, List.forall_mem_append.mpr ⟨lw_r3, List.forall_mem_append.mpr ⟨lw_r4, List.forall_mem_append.mpr ⟨lw_r5, List.forall_mem_append.mpr ⟨lw_r6, List.forall_mem_append.mpr ⟨lw_r7, lw_r8⟩⟩⟩⟩⟩⟩⟩
end
section
/-! THE PURE MACHINE: one list of cells for the heap (a cell: a class's number, or 100 and more for an array, and what it holds), locals and stack as lists of values; a reference is a place in the list, from 100000 on a thing that is only read (the script, the constant texts). -/
abbrev pCell : Type := Nat × List Value
abbrev pHeap : Type := List pCell
abbrev pRes : Type := Option (Value × pHeap)
/-- an instruction, its length, two numbers, a constant, a switch's table -/
abbrev pE : Type := Instr × Nat × Nat × Nat × Value × List (Int32 × Nat)
def pNth : List Value → Nat → Value
  | [], _ => .retAddr 0
  | a :: _, 0 => a
  | _ :: l, n + 1 => pNth l n
def pKill : Value → Value
  | .long _ => .retAddr 0
  | .double _ => .retAddr 0
  | v => v
def pSet : List Value → Nat → Value → List Value
  | [], _, _ => []
  | _ :: l, 0, v => v :: l
  | a :: l, n + 1, v => (match n with | 0 => pKill a | _ => a) :: pSet l n v
def pBlot : List Value → List Value
  | [] => []
  | _ :: l => .retAddr 0 :: l
def pSetJ : List Value → Nat → Value → List Value
  | [], _, _ => []
  | _ :: l, 0, v => v :: pBlot l
  | a :: l, n + 1, v => (match n with | 0 => pKill a | _ => a) :: pSetJ l n v
def pAt : List (Nat × pE) → Nat → Option pE
  | [], _ => none
  | q :: r, pc => bif Nat.beq q.1 pc then some q.2 else pAt r pc
def pMem : List Nat → Nat → Bool
  | [], _ => false
  | a :: l, n => Nat.beq a n || pMem l n
/-- the constant texts, by their signs -/
def pTexts : List String := ["thing inn gives guest twins post much owes shows fine seed if then else night tariff units cheese degree honest which twice alike ", ";=+-*/<()", "n1;", "n111;", "nn1;", "nn;", "1;"]
def pSigns : List (List Nat) := [[116,104,105,110,103,32,105,110,110,32,103,105,118,101,115,32,103,117,101,115,116,32,116,119,105,110,115,32,112,111,115,116,32,109,117,99,104,32,111,119,101,115,32,115,104,111,119,115,32,102,105,110,101,32,115,101,101,100,32,105,102,32,116,104,101,110,32,101,108,115,101,32,110,105,103,104,116,32,116,97,114,105,102,102,32,117,110,105,116,115,32,99,104,101,101,115,101,32,100,101,103,114,101,101,32,104,111,110,101,115,116,32,119,104,105,99,104,32,116,119,105,99,101,32,97,108,105,107,101,32],[59,61,43,45,42,47,60,40,41],[110,49,59],[110,49,49,49,59],[110,110,49,59],[110,110,59],[49,59]]
def pROs : List pCell := [(50, [.ref 100008, .int 0]), (50, [.ref 100009, .int 0]), (50, [.ref 100010, .int 0]), (50, [.ref 100011, .int 0]), (50, [.ref 100012, .int 0]), (50, [.ref 100013, .int 0]), (50, [.ref 100014, .int 0])] ++ pSigns.map (fun l => (101, l.map (fun c => .int (Int32.ofNat c))))
/-- what is only read, by its place -/
abbrev pG : Type := Nat → Option pCell
def pRO (X : List Int32) : pG := fun j => ((100, X.map Value.int) :: pROs)[j]?
def pCellAt (X : pG) (h : pHeap) (o : Nat) : Option pCell := bif Nat.blt o 100000 then h[o]? else X (o - 100000)
def pGet (X : pG) (h : pHeap) (o c k : Nat) : Option Value := (pCellAt X h o).bind fun p => bif Nat.beq p.1 c && Nat.blt c 100 then p.2[k]? else none
def pGetI (X : pG) (h : pHeap) (o c k : Nat) : Option Int32 := (pGet X h o c k).bind fun v => match v with | .int x => some x | _ => none
def pGetJ (X : pG) (h : pHeap) (o c k : Nat) : Option Int64 := (pGet X h o c k).bind fun v => match v with | .long x => some x | _ => none
def pGetR (X : pG) (h : pHeap) (o c k : Nat) : Option Nat := (pGet X h o c k).bind fun v => match v with | .ref x => some x | _ => none
def pPut (h : pHeap) (o c k : Nat) (v : Value) : Option pHeap := (h[o]?).bind fun p => bif Nat.beq p.1 c && (Nat.blt c 100 && (Nat.blt k p.2.length && Nat.blt o 100000)) then some (h.set o (p.1, p.2.set k v)) else none
def pIn (i : Int32) (n : Nat) : Bool := !decide (i < 0) && Nat.blt i.toNatClampNeg n
def pAld (X : pG) (h : pHeap) (o t : Nat) (i : Int32) : Option Value := (pCellAt X h o).bind fun p => bif Nat.beq p.1 t && (Nat.ble 100 t && pIn i p.2.length) then p.2[i.toNatClampNeg]? else none
def pAldI (X : pG) (h : pHeap) (o t : Nat) (i : Int32) : Option Int32 := (pAld X h o t i).bind fun v => match v with | .int x => some x | _ => none
def pAldJ (X : pG) (h : pHeap) (o t : Nat) (i : Int32) : Option Int64 := (pAld X h o t i).bind fun v => match v with | .long x => some x | _ => none
def pAldR (X : pG) (h : pHeap) (o t : Nat) (i : Int32) : Option Nat := (pAld X h o t i).bind fun v => match v with | .ref x => some x | _ => none
def pAst (h : pHeap) (o t : Nat) (i : Int32) (v : Value) : Option pHeap := (h[o]?).bind fun p => bif Nat.beq p.1 t && (Nat.ble 100 t && (pIn i p.2.length && Nat.blt o 100000)) then some (h.set o (p.1, p.2.set i.toNatClampNeg v)) else none
def pAlen (X : pG) (h : pHeap) (o : Nat) : Option Int32 := (pCellAt X h o).bind fun p => bif Nat.ble 100 p.1 then some (Int32.ofNat p.2.length) else none
def pIsI : Value → Bool
  | .int _ => true
  | _ => false
def pCopy (h : pHeap) (o1 : Nat) (sp : Int32) (o2 : Nat) (dp n : Int32) : Option pHeap := (h[o1]?).bind fun p => (h[o2]?).bind fun q =>
  bif Nat.beq p.1 100 && (Nat.beq q.1 100 && (Nat.blt o1 100000 && (Nat.blt o2 100000 && (!decide (sp < 0) && (!decide (dp < 0) && (!decide (n < 0) && (Nat.ble (sp.toNatClampNeg + n.toNatClampNeg) p.2.length && (Nat.ble (dp.toNatClampNeg + n.toNatClampNeg) q.2.length && (p.2.all pIsI && q.2.all pIsI)))))))))
  then some (h.set o2 (100, (List.range q.2.length).map (fun j => if dp.toNatClampNeg ≤ j ∧ j < dp.toNatClampNeg + n.toNatClampNeg then p.2.getD (sp.toNatClampNeg + (j - dp.toNatClampNeg)) .null else q.2.getD j .null))) else none
def pPutOK : Value → Value → Bool
  | .int _, .int _ => true
  | .float _, .int x => x == 0 || x == 1
  | .long _, .long _ => true
  | .null, .ref _ => true
  | _, _ => false
def pDefs : List (List Value) := [[.null, .null, .null, .null, .int 0], [.null, .null, .null, .int 0, .int 0, .int 0, .int 0], [.null, .int 0, .int 0], [.null, .null, .int 0], [.null, .null, .null, .null, .null, .int 0, .long 0, .long 0], [.int 0, .int 0, .int 0], [.null, .null, .int 0], [.int 0, .int 0, .int 0, .null, .null, .null, .null, .null, .null, .null, .null, .null], [.null, .null, .null, .null, .int 0, .int 0, .int 0, .int 0], [.int 0, .int 0, .int 0, .int 0, .int 0, .int 0, .null, .null, .null, .null, .null, .null, .null, .null, .null, .null, .null, .null, .null, .null], [.null, .null, .null, .null, .int 0, .int 0], [.null, .int 0, .int 0, .null, .null, .null, .null, .null, .null, .null, .null, .null, .null, .null, .int 0, .null, .null, .null], [.int 0, .null, .int 0, .null, .int 0, .null, .null, .null, .null, .null, .int 0, .int 0, .int 0, .int 0, .int 0, .int 0, .int 0, .int 0, .int 0, .int 0, .int 0, .null, .null, .null, .null, .null, .null, .null, .null, .null, .null, .null, .null, .null, .null, .null, .null, .null, .null, .null, .null, .null, .null, .int 0, .null, .null, .null, .null, .null, .int 0, .null, .null, .null, .int 0, .null, .null, .int 0, .null, .null, .int 0, .null, .int 0, .null, .long 0, .null, .long 0, .int 0, .null, .null, .int 0, .int 0, .int 0, .null, .null, .null]]
/-- the straight instructions, what follows them given -/
def pmI {α : Type} (X : pG) (e : pE) (L S : List Value) (h : pHeap) (k : List Value → List Value → pHeap → Option α) : Option α :=
  match e.1 with
  | .iconst _ => k L (e.2.2.2.2.1 :: S) h
  | .bipush _ => k L (e.2.2.2.2.1 :: S) h
  | .sipush _ => k L (e.2.2.2.2.1 :: S) h
  | .lconst _ => k L (e.2.2.2.2.1 :: S) h
  | .ldc _ => k L (e.2.2.2.2.1 :: S) h
  | .ldc_w _ => k L (e.2.2.2.2.1 :: S) h
  | .ldc2_w _ => k L (e.2.2.2.2.1 :: S) h
  | .getstatic _ => k L (e.2.2.2.2.1 :: S) h
  | .iload_n i => match pNth L i.val with | .int x => k L (.int x :: S) h | _ => none
  | .iload i => match pNth L i with | .int x => k L (.int x :: S) h | _ => none
  | .lload_n i => match pNth L i.val with | .long x => k L (.long x :: S) h | _ => none
  | .lload i => match pNth L i with | .long x => k L (.long x :: S) h | _ => none
  | .aload_n i => match pNth L i.val with | .ref x => k L (.ref x :: S) h | .float b => k L (.float b :: S) h | _ => none
  | .aload i => match pNth L i with | .ref x => k L (.ref x :: S) h | .float b => k L (.float b :: S) h | _ => none
  | .istore_n i => match S with | .int x :: S' => k (pSet L i.val (.int x)) S' h | _ => none
  | .istore i => match S with | .int x :: S' => k (pSet L i (.int x)) S' h | _ => none
  | .lstore_n i => match S with | .long x :: S' => k (pSetJ L i.val (.long x)) S' h | _ => none
  | .lstore i => match S with | .long x :: S' => k (pSetJ L i (.long x)) S' h | _ => none
  | .astore_n i => match S with | .ref x :: S' => k (pSet L i.val (.ref x)) S' h | _ => none
  | .astore i => match S with | .ref x :: S' => k (pSet L i (.ref x)) S' h | _ => none
  | .iinc i _ => match pNth L i, e.2.2.2.2.1 with | .int x, .int c => k (pSet L i (.int (x + c))) S h | _, _ => none
  | .iadd => match S with | .int y :: .int x :: S' => k L (.int (x + y) :: S') h | _ => none
  | .isub => match S with | .int y :: .int x :: S' => k L (.int (x - y) :: S') h | _ => none
  | .imul => match S with | .int y :: .int x :: S' => k L (.int (x * y) :: S') h | _ => none
  | .iand => match S with | .int y :: .int x :: S' => k L (.int (x &&& y) :: S') h | _ => none
  | .ior => match S with | .int y :: .int x :: S' => k L (.int (x ||| y) :: S') h | _ => none
  | .ixor => match S with | .int y :: .int x :: S' => k L (.int (x ^^^ y) :: S') h | _ => none
  | .idiv => match S with | .int y :: .int x :: S' => if y = 0 then none else k L (.int (x / y) :: S') h | _ => none
  | .irem => match S with | .int y :: .int x :: S' => if y = 0 then none else k L (.int (x - x / y * y) :: S') h | _ => none
  | .ishl => match S with | .int y :: .int x :: S' => k L (.int (x <<< (y &&& 31)) :: S') h | _ => none
  | .ishr => match S with | .int y :: .int x :: S' => k L (.int (x >>> (y &&& 31)) :: S') h | _ => none
  | .iushr => match S with | .int y :: .int x :: S' => k L (.int (x.toUInt32 >>> (y.toUInt32 &&& Int32.toUInt32 31)).toInt32 :: S') h | _ => none
  | .ladd => match S with | .long y :: .long x :: S' => k L (.long (x + y) :: S') h | _ => none
  | .lmul => match S with | .long y :: .long x :: S' => k L (.long (x * y) :: S') h | _ => none
  | .ldiv => match S with | .long y :: .long x :: S' => if y = 0 then none else k L (.long (x / y) :: S') h | _ => none
  | .lrem => match S with | .long y :: .long x :: S' => if y = 0 then none else k L (.long (x - x / y * y) :: S') h | _ => none
  | .lcmp => match S with | .long y :: .long x :: S' => k L (.int (lg_cmp x y) :: S') h | _ => none
  | .i2l => match S with | .int x :: S' => k L (.long x.toInt64 :: S') h | _ => none
  | .l2i => match S with | .long x :: S' => k L (.int x.toInt32 :: S') h | _ => none
  | .i2b => match S with | .int x :: S' => k L (.int x.toInt8.toInt32 :: S') h | _ => none
  | .i2c => match S with | .int x :: S' => k L (.int (x.toUInt32 % 65536).toInt32 :: S') h | _ => none
  | .dup => match S with | .ref o :: S' => k L (.ref o :: .ref o :: S') h | .int x :: S' => k L (.int x :: .int x :: S') h | _ => none
  | .dup2 => match S with | .int i :: .ref o :: S' => k L (.int i :: .ref o :: .int i :: .ref o :: S') h | _ => none
  | .pop => match S with | .int _ :: S' => k L S' h | .ref _ :: S' => k L S' h | _ => none
  | .getfield _ => match S, e.2.2.2.2.1 with
    | .ref o :: S', .int _ => (pGetI X h o e.2.2.1 e.2.2.2.1).bind fun x => k L (.int x :: S') h
    | .ref o :: S', .float _ => (pGetI X h o e.2.2.1 e.2.2.2.1).bind fun x => k L (.int x :: S') h
    | .ref o :: S', .long _ => (pGetJ X h o e.2.2.1 e.2.2.2.1).bind fun x => k L (.long x :: S') h
    | .ref o :: S', .null => (pGetR X h o e.2.2.1 e.2.2.2.1).bind fun x => k L (.ref x :: S') h
    | _, _ => none
  | .putfield _ => match S with
    | v :: .ref o :: S' => bif pPutOK e.2.2.2.2.1 v then (pPut h o e.2.2.1 e.2.2.2.1 v).bind fun h' => k L S' h' else none
    | _ => none
  | .iaload => match S with | .int i :: .ref o :: S' => (pAldI X h o 100 i).bind fun x => k L (.int x :: S') h | _ => none
  | .baload => match S with | .int i :: .ref o :: S' => (pAldI X h o e.2.2.1 i).bind fun x => k L (.int x :: S') h | _ => none
  | .laload => match S with | .int i :: .ref o :: S' => (pAldJ X h o 103 i).bind fun x => k L (.long x :: S') h | _ => none
  | .aaload => match S with | .int i :: .ref o :: S' => (pAldR X h o 104 i).bind fun x => k L (.ref x :: S') h | _ => none
  | .iastore => match S with | .int x :: .int i :: .ref o :: S' => (pAst h o 100 i (.int x)).bind fun h' => k L S' h' | _ => none
  | .bastore => match S with | .int x :: .int i :: .ref o :: S' => (pAst h o e.2.2.1 i (.int (bif Nat.beq e.2.2.1 101 then x.toInt8.toInt32 else x &&& 1))).bind fun h' => k L S' h' | _ => none
  | .lastore => match S with | .long x :: .int i :: .ref o :: S' => (pAst h o 103 i (.long x)).bind fun h' => k L S' h' | _ => none
  | .aastore => match S with | .ref x :: .int i :: .ref o :: S' => (pAst h o 104 i (.ref x)).bind fun h' => bif (pCellAt X h x).any (fun p => Nat.beq p.1 7) && Nat.blt x 100000 then k L S' h' else none | _ => none
  | .arraylength => match S with | .ref o :: S' => (pAlen X h o).bind fun x => k L (.int x :: S') h | _ => none
  | .newarray _ => match S with
    | .int n :: S' => bif !decide (n < 0) && (Nat.blt n.toNatClampNeg 100000 && Nat.blt h.length 99999) then k L (.ref h.length :: S') (h ++ [(e.2.2.1, List.replicate n.toNatClampNeg e.2.2.2.2.1)]) else none
    | _ => none
  | .new _ => bif Nat.blt h.length 99999 then k L (.ref h.length :: S) (h ++ [(e.2.2.1, pDefs.getD e.2.2.1 [])]) else none
  | .anewarray _ => match S with
    | .int n :: S' => bif !decide (n < 0) && (Nat.blt n.toNatClampNeg 100000 && Nat.blt h.length 99999) then k L (.ref h.length :: S') (h ++ [(104, List.replicate n.toNatClampNeg .null)]) else none
    | _ => none
  | _ => none
def pIf (c : ClassFile.Cond) (x y : Int32) {α : Type} (a b : α) : α :=
  match c with
  | .eq => if x = y then a else b
  | .ne => if x = y then b else a
  | .lt => if x < y then a else b
  | .ge => if x < y then b else a
  | .gt => if y < x then a else b
  | .le => if y < x then b else a
def pSw {α : Type} (x : Int32) (d : Nat) (k : Nat → α) : List (Int32 × Nat) → α
  | [] => k d
  | q :: r => if x = q.1 then k q.2 else pSw x d k r
def pCatV : Value → Nat
  | .long _ => 2
  | .double _ => 2
  | _ => 1
def pCat : List Value → Nat
  | [] => 0
  | v :: r => pCatV v + pCat r
def pAI (m : pRes) : Option (Int32 × pHeap) := m.bind fun r => match r.1 with | .int x => some (x, r.2) | _ => none
def pAJ (m : pRes) : Option (Int64 × pHeap) := m.bind fun r => match r.1 with | .long x => some (x, r.2) | _ => none
def pAR (m : pRes) : Option (Nat × pHeap) := m.bind fun r => match r.1 with | .ref x => some (x, r.2) | _ => none
def pAV (m : pRes) : Option pHeap := m.bind fun r => some r.2
def pTake : Nat → List Value → List Value
  | 0, _ => []
  | _ + 1, [] => []
  | n + 1, v :: r => v :: pTake n r
def pDrop : Nat → List Value → List Value
  | 0, l => l
  | _ + 1, [] => []
  | n + 1, _ :: r => pDrop n r
def pRev : List Value → List Value → List Value
  | [], a => a
  | v :: r, a => pRev r (v :: a)
/-- calls that the kit knows: Object's own start, arraycopy, Math's max and min -/
def pSpK {α : Type} (rk key : Nat) (S : List Value) (h : pHeap) (k : List Value → pHeap → Option α) : Option α :=
  bif Nat.beq key 9999 then (match S with | .ref _ :: S' => bif Nat.ble (pCat S') 8 && Nat.blt 0 rk then k S' h else none | _ => none)
  else bif Nat.beq key 9998 then (match S with | .int n :: .int dp :: .ref o2 :: .int sp :: .ref o1 :: S' => bif Nat.ble (pCat S') 8 && Nat.blt 0 rk then (pCopy h o1 sp o2 dp n).bind fun h' => k S' h' else none | _ => none)
  else bif Nat.beq key 9996 then (match S with | .int y :: .int x :: S' => bif Nat.ble (pCat S') 8 && Nat.blt 0 rk then k (.int (if x < y then y else x) :: S') h else none | _ => none)
  else bif Nat.beq key 9995 then (match S with | .int y :: .int x :: S' => bif Nat.ble (pCat S') 8 && Nat.blt 0 rk then k (.int (if y < x then y else x) :: S') h else none | _ => none)
  else bif Nat.beq key 9994 then (match S with | .long y :: .long x :: S' => bif Nat.ble (pCat S') 8 && Nat.blt 0 rk then k (.long (if y < x then y else x) :: S') h else none | _ => none)
  else none
def pInv {α : Type} (rank : Nat → List Value → Nat) (C : Nat → List Value → pHeap → pRes) (rk : Nat) (e : pE) (S : List Value) (h : pHeap) (k : List Value → pHeap → Option α) : Option α :=
  bif Nat.ble 9990 e.2.2.1 then pSpK rk e.2.2.1 S h k
  else bif Nat.blt (rank e.2.2.1 (pRev (pTake e.2.2.2.1 S) [])) rk && Nat.ble (pCat (pDrop e.2.2.2.1 S)) 8 then
    (match e.2.2.2.2.1 with
    | .int _ => (pAI (C e.2.2.1 (pRev (pTake e.2.2.2.1 S) []) h)).bind fun r => k (.int r.1 :: pDrop e.2.2.2.1 S) r.2
    | .long _ => (pAJ (C e.2.2.1 (pRev (pTake e.2.2.2.1 S) []) h)).bind fun r => k (.long r.1 :: pDrop e.2.2.2.1 S) r.2
    | .null => (pAR (C e.2.2.1 (pRev (pTake e.2.2.2.1 S) []) h)).bind fun r => k (.ref r.1 :: pDrop e.2.2.2.1 S) r.2
    | _ => (pAV (C e.2.2.1 (pRev (pTake e.2.2.2.1 S) []) h)).bind fun h' => k (pDrop e.2.2.2.1 S) h')
  else none
/-- a return's own type: 0 whole, 1 a truth, 2 a sign, 3 a byte -/
def pNar (t : Nat) (x : Int32) : Bool := bif Nat.beq t 0 then true else bif Nat.beq t 1 then x == 0 || x == 1 else bif Nat.beq t 2 then !decide (x < 0) && decide (x < 65536) else x.toInt8.toInt32 == x
/-- from a place on, to the next place at which code is cut -/
def pEv (X : pG) (rank : Nat → List Value → Nat) (C : Nat → List Value → pHeap → pRes) (K : Nat → List Value → List Value → pHeap → pRes) (cuts : List Nat) (code : List (Nat × pE)) (rk : Nat) : Nat → Bool → Nat → List Value → List Value → pHeap → pRes
  | 0, _, _, _, _, _ => none
  | n + 1, st, pc, L, S, h =>
    bif !st && pMem cuts pc then K pc L S h else
    match pAt code pc with
    | none => none
    | some e =>
    match e.1 with
    | .goto _ => pEv X rank C K cuts code rk n false e.2.2.1 L S h
    | .if_icmp c _ => match S with
      | .int y :: .int x :: S' => pIf c x y (pEv X rank C K cuts code rk n false e.2.2.1 L S' h) (pEv X rank C K cuts code rk n false (pc + e.2.1) L S' h)
      | _ => none
    | .ifCond c _ => match S with
      | .int x :: S' => pIf c x 0 (pEv X rank C K cuts code rk n false e.2.2.1 L S' h) (pEv X rank C K cuts code rk n false (pc + e.2.1) L S' h)
      | _ => none
    | .tableswitch _ _ _ _ => match S with
      | .int x :: S' => pSw x e.2.2.1 (fun t => pEv X rank C K cuts code rk n false t L S' h) e.2.2.2.2.2
      | _ => none
    | .ireturn => match S with | [.int x] => bif pNar e.2.2.1 x then some (.int x, h) else none | _ => none
    | .lreturn => match S with | [.long x] => some (.long x, h) | _ => none
    | .areturn => match S with | [.ref x] => some (.ref x, h) | _ => none
    | .return_ => match S with | [] => some (.retAddr 0, h) | _ => none
    | .invokevirtual _ => pInv rank C rk e S h fun S' h' => pEv X rank C K cuts code rk n false (pc + 3) L S' h'
    | .invokespecial _ => pInv rank C rk e S h fun S' h' => pEv X rank C K cuts code rk n false (pc + 3) L S' h'
    | .invokestatic _ => pInv rank C rk e S h fun S' h' => pEv X rank C K cuts code rk n false (pc + 3) L S' h'
    | _ => pmI X e L S h fun L' S' h' => pEv X rank C K cuts code rk n false (pc + e.2.1) L' S' h'
/-- arguments as locals: a long takes two -/
def pArgs : List Value → List Value
  | [] => []
  | .long x :: r => .long x :: .retAddr 0 :: pArgs r
  | .double x :: r => .double x :: .retAddr 0 :: pArgs r
  | v :: r => v :: pArgs r
def pPad (n : Nat) (l : List Value) : List Value := l ++ List.replicate (n - l.length) (.retAddr 0)
theorem pm_cond_bind {α β : Type} (b : Bool) (x : Option α) (g : α → Option β) : (bif b then x else none).bind g = bif b then x.bind g else none := by cases b <;> rfl
theorem pSpK_bind {α β : Type} {rk key : Nat} {S : List Value} {h : pHeap} (k : List Value → pHeap → Option α) (g : α → Option β) : (pSpK rk key S h k).bind g = pSpK rk key S h (fun S h => (k S h).bind g) := by
  unfold pSpK
  cases Nat.beq key 9999 <;> simp only [cond_false, cond_true]
  · cases Nat.beq key 9998 <;> simp only [cond_false, cond_true]
    · cases Nat.beq key 9996 <;> simp only [cond_false, cond_true]
      · cases Nat.beq key 9995 <;> simp only [cond_false, cond_true]
        · cases Nat.beq key 9994 <;> simp only [cond_false, cond_true]
          · rfl
          · split <;> first | (simp only [pm_cond_bind]; done) | rfl
        · split <;> first | (simp only [pm_cond_bind]; done) | rfl
      · split <;> first | (simp only [pm_cond_bind]; done) | rfl
    · split <;> first | (simp only [pm_cond_bind, Option.bind_assoc]; done) | rfl
  · split <;> first | (simp only [pm_cond_bind]; done) | rfl
theorem pmI_bind {α β : Type} (X : pG) (e : pE) (L S : List Value) (h : pHeap) (k : List Value → List Value → pHeap → Option α) (g : α → Option β) : (pmI X e L S h k).bind g = pmI X e L S h (fun L S h => (k L S h).bind g) := by
  unfold pmI
  split <;> (try rfl) <;> (repeat' split) <;> (try rfl) <;> (try simp only [Option.bind_assoc, Option.bind_none, pm_cond_bind]) <;> (try rfl)
end
section
/-! THE PROGRAM for the pure machine, laid by wip/whole/gen03.py out of what TURN printed -/
abbrev k_Bo_init : Nat := 0
abbrev k_Bo_begin : Nat := 1
abbrev k_Bo_takeOver : Nat := 2
abbrev k_Bo_lodgersOf : Nat := 3
abbrev k_Bo_usedInns : Nat := 4
abbrev k_Bo_dreamers : Nat := 5
abbrev k_Bo_sleep : Nat := 6
abbrev k_Bo_dreamAt : Nat := 7
abbrev k_Bo_drawn : Nat := 8
abbrev k_Bo_lot : Nat := 9
abbrev k_Bo_stirred : Nat := 10
abbrev k_Bo_dreamWould : Nat := 11
abbrev k_Bo_twiceAt : Nat := 12
abbrev k_Bo_dutyFor : Nat := 13
abbrev k_Bo_eyesOf : Nat := 14
abbrev k_Bo_look : Nat := 15
abbrev k_Bo_alike : Nat := 16
abbrev k_Bo_weighAll : Nat := 17
abbrev k_Bo_customs : Nat := 18
abbrev k_Bo_paysAtCustoms : Nat := 19
abbrev k_Bo_meanSum : Nat := 20
abbrev k_Gr_init : Nat := 21
abbrev k_Gr_check : Nat := 22
abbrev k_Gr_stopped : Nat := 23
abbrev k_Gr_tellOne : Nat := 24
abbrev k_Gr_mostOf : Nat := 25
abbrev k_Gr_shapeOf : Nat := 26
abbrev k_Gr_takeAll : Nat := 27
abbrev k_Gr_postOf : Nat := 28
abbrev k_Gr_lawOf : Nat := 29
abbrev k_Gr_expression : Nat := 30
abbrev k_Gr_unit : Nat := 31
abbrev k_Gr_open : Nat := 32
abbrev k_Gr_behindUnit : Nat := 33
abbrev k_Gr_push : Nat := 34
abbrev k_Gr_unwind : Nat := 35
abbrev k_Gr_rankOf : Nat := 36
abbrev k_Gr_stepOf : Nat := 37
abbrev k_Gr_take : Nat := 38
abbrev k_Gr_step : Nat := 39
abbrev k_Hi_init : Nat := 40
abbrev k_Hi_clear : Nat := 41
abbrev k_Hi_remember : Nat := 42
abbrev k_Hi_goBack : Nat := 43
abbrev k_La_init : Nat := 44
abbrev k_La_clear : Nat := 45
abbrev k_La_add : Nat := 46
abbrev k_La_addJump : Nat := 47
abbrev k_La_land : Nat := 48
abbrev k_La_tells : Nat := 49
abbrev k_La_goalOf : Nat := 50
abbrev k_La_worked : Nat := 51
abbrev k_Lo_init : Nat := 52
abbrev k_Lo_find : Nat := 53
abbrev k_Lo_sum : Nat := 54
abbrev k_Lo_innOf : Nat := 55
abbrev k_Lo_prepare : Nat := 56
abbrev k_Lo_spread : Nat := 57
abbrev k_Lo_fits : Nat := 58
abbrev k_Lo_sumOf : Nat := 59
abbrev k_Pa_init : Nat := 60
abbrev k_Pa_find : Nat := 61
abbrev k_Pa_pair : Nat := 62
abbrev k_Pa_keepIfBetter : Nat := 63
abbrev k_Re_init : Nat := 64
abbrev k_Re_weigh : Nat := 65
abbrev k_Re_holds : Nat := 66
abbrev k_St_init : Nat := 67
abbrev k_St_begin : Nat := 68
abbrev k_St_copy : Nat := 69
abbrev k_St_change : Nat := 70
abbrev k_St_leave : Nat := 71
abbrev k_St_takeBack : Nat := 72
abbrev k_Tl_init : Nat := 73
abbrev k_Tl_check : Nat := 74
abbrev k_Tl_stopped : Nat := 75
abbrev k_Tl_tellOne : Nat := 76
abbrev k_Tl_thingOf : Nat := 77
abbrev k_Tl_innOf : Nat := 78
abbrev k_Tl_guestOf : Nat := 79
abbrev k_Tl_weightOf : Nat := 80
abbrev k_Tl_twinsOf : Nat := 81
abbrev k_Tl_newTwin : Nat := 82
abbrev k_Tl_postOf : Nat := 83
abbrev k_Tl_newName : Nat := 84
abbrev k_Tl_formerName : Nat := 85
abbrev k_Tl_find : Nat := 86
abbrev k_Tl_number : Nat := 87
abbrev k_Tl_goBehindSemicolon : Nat := 88
abbrev k_Tl_fail : Nat := 89
abbrev k_Tx_init : Nat := 90
abbrev k_Tx_clear : Nat := 91
abbrev k_Tx_addUp : Nat := 92
abbrev k_Tx_weightOf : Nat := 93
abbrev k_Tx_watchedBy : Nat := 94
abbrev k_Tx_lawOf : Nat := 95
abbrev k_Tk_init : Nat := 96
abbrev k_Tk_scan : Nat := 97
abbrev k_Tk_kindAt : Nat := 98
abbrev k_Tk_placeAt : Nat := 99
abbrev k_Tk_valueAt : Nat := 100
abbrev k_Tk_variable : Nat := 101
abbrev k_Tk_isBlank : Nat := 102
abbrev k_Tk_isLetter : Nat := 103
abbrev k_Tk_isDigit : Nat := 104
abbrev k_Tk_endOf : Nat := 105
abbrev k_Tk_kindOf : Nat := 106
abbrev k_Tk_intOf : Nat := 107
abbrev k_Tk_nameOf : Nat := 108
abbrev k_D_init : Nat := 109
abbrev k_D_feed : Nat := 110
abbrev k_D_back : Nat := 111
abbrev k_D_read : Nat := 112
abbrev k_D_place : Nat := 113
abbrev k_D_guest : Nat := 114
abbrev k_D_inn : Nat := 115
abbrev k_D_gives : Nat := 116
abbrev k_D_lodge : Nat := 117
abbrev k_D_nights : Nat := 118
abbrev k_D_morning : Nat := 119
abbrev k_D_swap : Nat := 120
abbrev k_D_deposit : Nat := 121
abbrev k_D_undo : Nat := 122
abbrev k_D_owes : Nat := 123
abbrev k_D_mean : Nat := 124
abbrev k_D_sure : Nat := 125
abbrev k_D_lodging : Nat := 126
abbrev k_D_lodgingAt : Nat := 127
abbrev k_D_swaps : Nat := 128
abbrev k_D_declares : Nat := 129
abbrev k_D_posts : Nat := 130
abbrev k_D_year : Nat := 131
abbrev k_D_poorBy : Nat := 132
abbrev k_D_shows : Nat := 133
abbrev k_D_tell : Nat := 134
abbrev k_D_forget : Nat := 135
abbrev k_D_from : Nat := 136
abbrev k_D_likeliest : Nat := 137
abbrev k_D_whose : Nat := 138
abbrev k_D_hold : Nat := 139
abbrev k_D_restore : Nat := 140
abbrev k_D_count : Nat := 141
abbrev k_D_begin : Nat := 142
abbrev k_D_putWord : Nat := 143
abbrev k_D_isThing : Nat := 144
abbrev k_D_isInn : Nat := 145
abbrev k_D_isGuest : Nat := 146
abbrev k_D_isLodgingSet : Nat := 147
abbrev k_D_isKnown : Nat := 148
abbrev k_D_heldSlots : Nat := 149
abbrev k_D_innsOf : Nat := 150
abbrev k_D_weightsOf : Nat := 151
abbrev k_D_allWeightsOf : Nat := 152
abbrev k_D_dreamOf : Nat := 153
abbrev k_D_thingOf : Nat := 154
abbrev k_D_unitsOf : Nat := 155
abbrev k_D_twiceOf : Nat := 156
abbrev k_D_clamp : Nat := 157
abbrev k_D_commonDivisor : Nat := 158
abbrev k_M_init : Nat := 159
abbrev k_M_feed : Nat := 160
abbrev k_M_put : Nat := 161
abbrev k_M_back : Nat := 162
abbrev k_M_byteAt : Nat := 163
abbrev k_M_isDigit : Nat := 164
abbrev k_M_isLetter : Nat := 165
abbrev k_M_appends : Nat := 166
abbrev k_M_word : Nat := 167
abbrev k_M_token : Nat := 168
abbrev k_M_cut : Nat := 169
abbrev k_M_sign : Nat := 170
abbrev k_M_is : Nat := 171
abbrev k_M_fail : Nat := 172
abbrev k_M_wrong : Nat := 173
abbrev k_M_goesOn : Nat := 174
abbrev k_M_must : Nat := 175
abbrev k_M_plain : Nat := 176
abbrev k_M_read : Nat := 177
abbrev k_M_place : Nat := 178
abbrev k_M_roomFor : Nat := 179
abbrev k_M_tellOne : Nat := 180
abbrev k_M_named : Nat := 181
abbrev k_M_notes : Nat := 182
abbrev k_M_known : Nat := 183
abbrev k_M_bounded : Nat := 184
abbrev k_M_tellThing : Nat := 185
abbrev k_M_tellInn : Nat := 186
abbrev k_M_tellGuest : Nat := 187
abbrev k_M_tellTwins : Nat := 188
abbrev k_M_tellPost : Nat := 189
abbrev k_M_tellLaw : Nat := 190
abbrev k_M_term : Nat := 191
abbrev k_M_emit : Nat := 192
abbrev k_M_comesOut : Nat := 193
abbrev k_M_expression : Nat := 194
abbrev k_M_unit : Nat := 195
abbrev k_M_termOf : Nat := 196
abbrev k_M_in : Nat := 197
abbrev k_M_bits : Nat := 198
abbrev k_M_isGuest : Nat := 199
abbrev k_M_isInn : Nat := 200
abbrev k_M_isThing : Nat := 201
abbrev k_M_begins : Nat := 202
abbrev k_M_keepsRow : Nat := 203
abbrev k_M_copies : Nat := 204
abbrev k_M_mixed : Nat := 205
abbrev k_M_lotOf : Nat := 206
abbrev k_M_weightIn : Nat := 207
abbrev k_M_weightsOf : Nat := 208
abbrev k_M_alikeTo : Nat := 209
abbrev k_M_isTwice : Nat := 210
abbrev k_M_looks : Nat := 211
abbrev k_M_asks : Nat := 212
abbrev k_M_muchOf : Nat := 213
abbrev k_M_dutyOf : Nat := 214
abbrev k_M_ownDuty : Nat := 215
abbrev k_M_owesNow : Nat := 216
abbrev k_M_showsNow : Nat := 217
abbrev k_M_losesDream : Nat := 218
abbrev k_M_sleeps : Nat := 219
abbrev k_M_nightGoes : Nat := 220
abbrev k_M_paysIn : Nat := 221
abbrev k_M_morningGoes : Nat := 222
abbrev k_M_withDreams : Nat := 223
abbrev k_M_lodgedAt : Nat := 224
abbrev k_M_guest : Nat := 225
abbrev k_M_inn : Nat := 226
abbrev k_M_gives : Nat := 227
abbrev k_M_keeps : Nat := 228
abbrev k_M_lodge : Nat := 229
abbrev k_M_nights : Nat := 230
abbrev k_M_morning : Nat := 231
abbrev k_M_swapsTwo : Nat := 232
abbrev k_M_swap : Nat := 233
abbrev k_M_deposit : Nat := 234
abbrev k_M_undo : Nat := 235
abbrev k_M_owes : Nat := 236
abbrev k_M_common : Nat := 237
abbrev k_M_meanAbove : Nat := 238
abbrev k_M_mean : Nat := 239
abbrev k_M_sure : Nat := 240
abbrev k_M_fillsCosts : Nat := 241
abbrev k_M_fives : Nat := 242
abbrev k_M_innIn : Nat := 243
abbrev k_M_hasBeds : Nat := 244
abbrev k_M_fillsLodging : Nat := 245
abbrev k_M_isSet : Nat := 246
abbrev k_M_lodging : Nat := 247
abbrev k_M_lodgingAt : Nat := 248
abbrev k_M_fillsPairs : Nat := 249
abbrev k_M_swapsAll : Nat := 250
abbrev k_M_fillsSwaps : Nat := 251
abbrev k_M_swaps : Nat := 252
abbrev k_M_paysBy : Nat := 253
abbrev k_M_isResting : Nat := 254
abbrev k_M_declares : Nat := 255
abbrev k_M_posts : Nat := 256
abbrev k_M_year : Nat := 257
abbrev k_M_poorBy : Nat := 258
abbrev k_M_shows : Nat := 259
abbrev k_M_tell : Nat := 260
abbrev k_M_forget : Nat := 261
abbrev k_M_fromBy : Nat := 262
abbrev k_M_from : Nat := 263
abbrev k_M_productIn : Nat := 264
abbrev k_M_likeliest : Nat := 265
abbrev k_M_whose : Nat := 266
abbrev k_M_hold : Nat := 267
abbrev k_M_restore : Nat := 268
abbrev k_M_count : Nat := 269
abbrev k_jI_bitCount : Nat := 270
abbrev k_jA_fill : Nat := 271
abbrev k_jS_length : Nat := 272
abbrev k_jS_coder : Nat := 273
abbrev k_jS_charAt : Nat := 274
abbrev k_jS_isLatin1 : Nat := 275
abbrev k_jT_charAt : Nat := 276
abbrev k_jS_checkIndex : Nat := 277
abbrev k_jP_checkIndex : Nat := 278
abbrev k_jS_indexOf : Nat := 279
abbrev k_jS_indexOf2 : Nat := 280
abbrev k_jT_indexOf : Nat := 281
abbrev k_jT_canEncode : Nat := 282
abbrev k_jT_indexOfChar : Nat := 283
abbrev k_L_law : Nat := 284
def cd_Bo_init : List (Nat × pE) := [(0, .aload_n 0, 1, 0, 0, .null, []), (1, .invokespecial 3, 3, 9999, 1, .retAddr 0, []), (4, .aload_n 0, 1, 0, 0, .null, []), (5, .new 9, 3, 7, 0, .null, []), (8, .dup, 1, 0, 0, .null, []), (9, .invokespecial 11, 3, 67, 1, .retAddr 0, []), (12, .putfield 12, 3, 0, 0, .null, []), (15, .aload_n 0, 1, 0, 0, .null, []), (16, .bipush 6, 2, 0, 0, .int 6, []), (18, .newarray .int, 2, 100, 0, .int 0, []), (20, .putfield 18, 3, 0, 1, .null, []), (23, .aload_n 0, 1, 0, 0, .null, []), (24, .bipush 9, 2, 0, 0, .int 9, []), (26, .newarray .int, 2, 100, 0, .int 0, []), (28, .putfield 24, 3, 0, 2, .null, []), (31, .return_, 1, 0, 0, .null, [])]
def cd_Bo_begin : List (Nat × pE) := [(0, .aload_n 0, 1, 0, 0, .null, []), (1, .aload_n 1, 1, 0, 0, .null, []), (2, .putfield 27, 3, 0, 3, .null, []), (5, .aload_n 0, 1, 0, 0, .null, []), (6, .aload_n 1, 1, 0, 0, .null, []), (7, .getfield 31, 3, 9, 5, .int 0, []), (10, .putfield 37, 3, 0, 4, .int 0, []), (13, .aload_n 0, 1, 0, 0, .null, []), (14, .getfield 12, 3, 0, 0, .null, []), (17, .aload_n 1, 1, 0, 0, .null, []), (18, .invokevirtual 38, 3, 68, 2, .retAddr 0, []), (21, .return_, 1, 0, 0, .null, [])]
def cd_Bo_takeOver : List (Nat × pE) := [(0, .aload_n 0, 1, 0, 0, .null, []), (1, .aload_n 1, 1, 0, 0, .null, []), (2, .getfield 27, 3, 0, 3, .null, []), (5, .putfield 27, 3, 0, 3, .null, []), (8, .aload_n 0, 1, 0, 0, .null, []), (9, .aload_n 1, 1, 0, 0, .null, []), (10, .getfield 37, 3, 0, 4, .int 0, []), (13, .putfield 37, 3, 0, 4, .int 0, []), (16, .aload_n 0, 1, 0, 0, .null, []), (17, .getfield 12, 3, 0, 0, .null, []), (20, .aload_n 1, 1, 0, 0, .null, []), (21, .getfield 12, 3, 0, 0, .null, []), (24, .invokevirtual 42, 3, 69, 2, .retAddr 0, []), (27, .return_, 1, 0, 0, .null, [])]
def cd_Bo_lodgersOf : List (Nat × pE) := [(0, .iconst 0, 1, 0, 0, .int 0, []), (1, .istore_n 2, 1, 0, 0, .null, []), (2, .iconst 0, 1, 0, 0, .int 0, []), (3, .istore_n 3, 1, 0, 0, .null, []), (4, .iload_n 3, 1, 0, 0, .null, []), (5, .aload_n 0, 1, 0, 0, .null, []), (6, .getfield 27, 3, 0, 3, .null, []), (9, .getfield 46, 3, 9, 2, .int 0, []), (12, .if_icmp .ge 28, 3, 40, 0, .null, []), (15, .aload_n 0, 1, 0, 0, .null, []), (16, .getfield 12, 3, 0, 0, .null, []), (19, .getfield 49, 3, 7, 4, .null, []), (22, .iload_n 3, 1, 0, 0, .null, []), (23, .iaload, 1, 0, 0, .null, []), (24, .iload_n 1, 1, 0, 0, .null, []), (25, .if_icmp .ne 9, 3, 34, 0, .null, []), (28, .iload_n 2, 1, 0, 0, .null, []), (29, .iconst 1, 1, 0, 0, .int 1, []), (30, .iload_n 3, 1, 0, 0, .null, []), (31, .ishl, 1, 0, 0, .null, []), (32, .ior, 1, 0, 0, .null, []), (33, .istore_n 2, 1, 0, 0, .null, []), (34, .iinc 3 1, 3, 0, 0, .int 1, []), (37, .goto (-33), 3, 4, 0, .null, []), (40, .iload_n 2, 1, 0, 0, .null, []), (41, .ireturn, 1, 0, 0, .null, [])]
def cd_Bo_usedInns : List (Nat × pE) := [(0, .iconst 0, 1, 0, 0, .int 0, []), (1, .istore_n 1, 1, 0, 0, .null, []), (2, .iconst 0, 1, 0, 0, .int 0, []), (3, .istore_n 2, 1, 0, 0, .null, []), (4, .iload_n 2, 1, 0, 0, .null, []), (5, .aload_n 0, 1, 0, 0, .null, []), (6, .getfield 27, 3, 0, 3, .null, []), (9, .getfield 46, 3, 9, 2, .int 0, []), (12, .if_icmp .ge 35, 3, 47, 0, .null, []), (15, .aload_n 0, 1, 0, 0, .null, []), (16, .getfield 12, 3, 0, 0, .null, []), (19, .getfield 49, 3, 7, 4, .null, []), (22, .iload_n 2, 1, 0, 0, .null, []), (23, .iaload, 1, 0, 0, .null, []), (24, .ifCond .lt 17, 3, 41, 0, .null, []), (27, .iload_n 1, 1, 0, 0, .null, []), (28, .iconst 1, 1, 0, 0, .int 1, []), (29, .aload_n 0, 1, 0, 0, .null, []), (30, .getfield 12, 3, 0, 0, .null, []), (33, .getfield 49, 3, 7, 4, .null, []), (36, .iload_n 2, 1, 0, 0, .null, []), (37, .iaload, 1, 0, 0, .null, []), (38, .ishl, 1, 0, 0, .null, []), (39, .ior, 1, 0, 0, .null, []), (40, .istore_n 1, 1, 0, 0, .null, []), (41, .iinc 2 1, 3, 0, 0, .int 1, []), (44, .goto (-40), 3, 4, 0, .null, []), (47, .iload_n 1, 1, 0, 0, .null, []), (48, .ireturn, 1, 0, 0, .null, [])]
def cd_Bo_dreamers : List (Nat × pE) := [(0, .iconst 0, 1, 0, 0, .int 0, []), (1, .istore_n 1, 1, 0, 0, .null, []), (2, .iconst 0, 1, 0, 0, .int 0, []), (3, .istore_n 2, 1, 0, 0, .null, []), (4, .iload_n 2, 1, 0, 0, .null, []), (5, .aload_n 0, 1, 0, 0, .null, []), (6, .getfield 27, 3, 0, 3, .null, []), (9, .getfield 46, 3, 9, 2, .int 0, []), (12, .if_icmp .ge 29, 3, 41, 0, .null, []), (15, .aload_n 0, 1, 0, 0, .null, []), (16, .getfield 12, 3, 0, 0, .null, []), (19, .getfield 52, 3, 7, 5, .null, []), (22, .iload_n 2, 1, 0, 0, .null, []), (23, .iaload, 1, 0, 0, .null, []), (24, .bipush (-2), 2, 0, 0, .int (-2), []), (26, .if_icmp .eq 9, 3, 35, 0, .null, []), (29, .iload_n 1, 1, 0, 0, .null, []), (30, .iconst 1, 1, 0, 0, .int 1, []), (31, .iload_n 2, 1, 0, 0, .null, []), (32, .ishl, 1, 0, 0, .null, []), (33, .ior, 1, 0, 0, .null, []), (34, .istore_n 1, 1, 0, 0, .null, []), (35, .iinc 2 1, 3, 0, 0, .int 1, []), (38, .goto (-34), 3, 4, 0, .null, []), (41, .iload_n 1, 1, 0, 0, .null, []), (42, .ireturn, 1, 0, 0, .null, [])]
def cd_Bo_sleep : List (Nat × pE) := [(0, .iconst 0, 1, 0, 0, .int 0, []), (1, .istore_n 1, 1, 0, 0, .null, []), (2, .iload_n 1, 1, 0, 0, .null, []), (3, .aload_n 0, 1, 0, 0, .null, []), (4, .getfield 27, 3, 0, 3, .null, []), (7, .getfield 46, 3, 9, 2, .int 0, []), (10, .if_icmp .ge 71, 3, 81, 0, .null, []), (13, .aload_n 0, 1, 0, 0, .null, []), (14, .getfield 12, 3, 0, 0, .null, []), (17, .getfield 49, 3, 7, 4, .null, []), (20, .iload_n 1, 1, 0, 0, .null, []), (21, .iaload, 1, 0, 0, .null, []), (22, .istore_n 2, 1, 0, 0, .null, []), (23, .iload_n 2, 1, 0, 0, .null, []), (24, .ifCond .lt 51, 3, 75, 0, .null, []), (27, .aload_n 0, 1, 0, 0, .null, []), (28, .getfield 12, 3, 0, 0, .null, []), (31, .getfield 55, 3, 7, 3, .null, []), (34, .iload_n 1, 1, 0, 0, .null, []), (35, .dup2, 1, 0, 0, .null, []), (36, .iaload, 1, 0, 0, .null, []), (37, .aload_n 0, 1, 0, 0, .null, []), (38, .getfield 27, 3, 0, 3, .null, []), (41, .getfield 58, 3, 9, 7, .null, []), (44, .iload_n 2, 1, 0, 0, .null, []), (45, .iaload, 1, 0, 0, .null, []), (46, .isub, 1, 0, 0, .null, []), (47, .iastore, 1, 0, 0, .null, []), (48, .aload_n 0, 1, 0, 0, .null, []), (49, .getfield 12, 3, 0, 0, .null, []), (52, .dup, 1, 0, 0, .null, []), (53, .getfield 61, 3, 7, 2, .int 0, []), (56, .aload_n 0, 1, 0, 0, .null, []), (57, .getfield 27, 3, 0, 3, .null, []), (60, .getfield 58, 3, 9, 7, .null, []), (63, .iload_n 2, 1, 0, 0, .null, []), (64, .iaload, 1, 0, 0, .null, []), (65, .iadd, 1, 0, 0, .null, []), (66, .putfield 61, 3, 7, 2, .int 0, []), (69, .aload_n 0, 1, 0, 0, .null, []), (70, .iload_n 1, 1, 0, 0, .null, []), (71, .iload_n 2, 1, 0, 0, .null, []), (72, .invokevirtual 64, 3, 7, 3, .retAddr 0, []), (75, .iinc 1 1, 3, 0, 0, .int 1, []), (78, .goto (-76), 3, 2, 0, .null, []), (81, .aload_n 0, 1, 0, 0, .null, []), (82, .getfield 12, 3, 0, 0, .null, []), (85, .dup, 1, 0, 0, .null, []), (86, .getfield 68, 3, 7, 0, .int 0, []), (89, .iconst 1, 1, 0, 0, .int 1, []), (90, .iadd, 1, 0, 0, .null, []), (91, .putfield 68, 3, 7, 0, .int 0, []), (94, .return_, 1, 0, 0, .null, [])]
def cd_Bo_dreamAt : List (Nat × pE) := [(0, .aload_n 0, 1, 0, 0, .null, []), (1, .iload_n 1, 1, 0, 0, .null, []), (2, .iload_n 2, 1, 0, 0, .null, []), (3, .invokevirtual 71, 3, 8, 3, .int 0, []), (6, .istore_n 3, 1, 0, 0, .null, []), (7, .iload_n 3, 1, 0, 0, .null, []), (8, .ifCond .ge 15, 3, 23, 0, .null, []), (11, .aload_n 0, 1, 0, 0, .null, []), (12, .getfield 12, 3, 0, 0, .null, []), (15, .getfield 52, 3, 7, 5, .null, []), (18, .iload_n 1, 1, 0, 0, .null, []), (19, .bipush (-2), 2, 0, 0, .int (-2), []), (21, .iastore, 1, 0, 0, .null, []), (22, .return_, 1, 0, 0, .null, []), (23, .aload_n 0, 1, 0, 0, .null, []), (24, .getfield 12, 3, 0, 0, .null, []), (27, .getfield 52, 3, 7, 5, .null, []), (30, .iload_n 1, 1, 0, 0, .null, []), (31, .aload_n 0, 1, 0, 0, .null, []), (32, .iload_n 1, 1, 0, 0, .null, []), (33, .iload_n 2, 1, 0, 0, .null, []), (34, .iload_n 3, 1, 0, 0, .null, []), (35, .invokevirtual 75, 3, 11, 4, .int 0, []), (38, .iastore, 1, 0, 0, .null, []), (39, .aload_n 0, 1, 0, 0, .null, []), (40, .getfield 12, 3, 0, 0, .null, []), (43, .getfield 79, 3, 7, 10, .null, []), (46, .iload_n 2, 1, 0, 0, .null, []), (47, .iload_n 3, 1, 0, 0, .null, []), (48, .iastore, 1, 0, 0, .null, []), (49, .aload_n 0, 1, 0, 0, .null, []), (50, .getfield 12, 3, 0, 0, .null, []), (53, .getfield 82, 3, 7, 11, .null, []), (56, .iload_n 2, 1, 0, 0, .null, []), (57, .iload_n 1, 1, 0, 0, .null, []), (58, .iastore, 1, 0, 0, .null, []), (59, .return_, 1, 0, 0, .null, [])]
def cd_Bo_drawn : List (Nat × pE) := [(0, .aload_n 0, 1, 0, 0, .null, []), (1, .getfield 27, 3, 0, 3, .null, []), (4, .getfield 85, 3, 9, 11, .null, []), (7, .iload_n 2, 1, 0, 0, .null, []), (8, .iaload, 1, 0, 0, .null, []), (9, .istore_n 3, 1, 0, 0, .null, []), (10, .iload_n 3, 1, 0, 0, .null, []), (11, .ifCond .gt 6, 3, 17, 0, .null, []), (14, .bipush (-2), 2, 0, 0, .int (-2), []), (16, .ireturn, 1, 0, 0, .null, []), (17, .aload_n 0, 1, 0, 0, .null, []), (18, .iload_n 3, 1, 0, 0, .null, []), (19, .iload_n 1, 1, 0, 0, .null, []), (20, .invokevirtual 88, 3, 9, 3, .int 0, []), (23, .istore 4, 2, 0, 0, .null, []), (25, .iconst 0, 1, 0, 0, .int 0, []), (26, .istore 5, 2, 0, 0, .null, []), (28, .iload 5, 2, 0, 0, .null, []), (30, .aload_n 0, 1, 0, 0, .null, []), (31, .getfield 27, 3, 0, 3, .null, []), (34, .getfield 91, 3, 9, 0, .int 0, []), (37, .if_icmp .ge 32, 3, 69, 0, .null, []), (40, .iload 4, 2, 0, 0, .null, []), (42, .aload_n 0, 1, 0, 0, .null, []), (43, .getfield 27, 3, 0, 3, .null, []), (46, .iload_n 2, 1, 0, 0, .null, []), (47, .iload 5, 2, 0, 0, .null, []), (49, .invokevirtual 94, 3, 93, 3, .int 0, []), (52, .isub, 1, 0, 0, .null, []), (53, .istore 4, 2, 0, 0, .null, []), (55, .iload 4, 2, 0, 0, .null, []), (57, .ifCond .ge 6, 3, 63, 0, .null, []), (60, .iload 5, 2, 0, 0, .null, []), (62, .ireturn, 1, 0, 0, .null, []), (63, .iinc 5 1, 3, 0, 0, .int 1, []), (66, .goto (-38), 3, 28, 0, .null, []), (69, .bipush (-2), 2, 0, 0, .int (-2), []), (71, .ireturn, 1, 0, 0, .null, [])]
def cd_Bo_lot : List (Nat × pE) := [(0, .aload_n 0, 1, 0, 0, .null, []), (1, .getfield 37, 3, 0, 4, .int 0, []), (4, .bipush 63, 2, 0, 0, .int 63, []), (6, .invokestatic 97, 3, 10, 2, .int 0, []), (9, .bipush 64, 2, 0, 0, .int 64, []), (11, .aload_n 0, 1, 0, 0, .null, []), (12, .getfield 12, 3, 0, 0, .null, []), (15, .getfield 68, 3, 7, 0, .int 0, []), (18, .imul, 1, 0, 0, .null, []), (19, .iload_n 2, 1, 0, 0, .null, []), (20, .iadd, 1, 0, 0, .null, []), (21, .invokestatic 97, 3, 10, 2, .int 0, []), (24, .istore_n 3, 1, 0, 0, .null, []), (25, .iload_n 1, 1, 0, 0, .null, []), (26, .ifCond .le 11, 3, 37, 0, .null, []), (29, .iload_n 3, 1, 0, 0, .null, []), (30, .iconst 1, 1, 0, 0, .int 1, []), (31, .iushr, 1, 0, 0, .null, []), (32, .iload_n 1, 1, 0, 0, .null, []), (33, .irem, 1, 0, 0, .null, []), (34, .goto 4, 3, 38, 0, .null, []), (37, .iconst 0, 1, 0, 0, .int 0, []), (38, .ireturn, 1, 0, 0, .null, [])]
def cd_Bo_stirred : List (Nat × pE) := [(0, .iload_n 0, 1, 0, 0, .null, []), (1, .iload_n 1, 1, 0, 0, .null, []), (2, .ixor, 1, 0, 0, .null, []), (3, .ldc 100, 2, 0, 0, .int 1103515245, []), (5, .imul, 1, 0, 0, .null, []), (6, .sipush 12345, 3, 0, 0, .int 12345, []), (9, .iadd, 1, 0, 0, .null, []), (10, .istore_n 2, 1, 0, 0, .null, []), (11, .iload_n 2, 1, 0, 0, .null, []), (12, .iload_n 2, 1, 0, 0, .null, []), (13, .bipush 15, 2, 0, 0, .int 15, []), (15, .iushr, 1, 0, 0, .null, []), (16, .ixor, 1, 0, 0, .null, []), (17, .ireturn, 1, 0, 0, .null, [])]
def cd_Bo_dreamWould : List (Nat × pE) := [(0, .aload_n 0, 1, 0, 0, .null, []), (1, .iload_n 1, 1, 0, 0, .null, []), (2, .iload_n 2, 1, 0, 0, .null, []), (3, .iload_n 3, 1, 0, 0, .null, []), (4, .invokevirtual 101, 3, 12, 4, .int 0, []), (7, .istore 4, 2, 0, 0, .null, []), (9, .aload_n 0, 1, 0, 0, .null, []), (10, .iload_n 1, 1, 0, 0, .null, []), (11, .iload_n 2, 1, 0, 0, .null, []), (12, .iload_n 3, 1, 0, 0, .null, []), (13, .iconst 0, 1, 0, 0, .int 0, []), (14, .iload 4, 2, 0, 0, .null, []), (16, .invokestatic 104, 3, 153, 3, .int 0, []), (19, .invokevirtual 107, 3, 15, 4, .retAddr 0, []), (22, .iload_n 3, 1, 0, 0, .null, []), (23, .aload_n 0, 1, 0, 0, .null, []), (24, .getfield 27, 3, 0, 3, .null, []), (27, .getfield 111, 3, 9, 17, .null, []), (30, .aload_n 0, 1, 0, 0, .null, []), (31, .getfield 24, 3, 0, 2, .null, []), (34, .invokevirtual 115, 3, 49, 2, .int 0, []), (37, .bipush 99, 2, 0, 0, .int 99, []), (39, .invokestatic 119, 3, 157, 2, .int 0, []), (42, .iload 4, 2, 0, 0, .null, []), (44, .invokestatic 104, 3, 153, 3, .int 0, []), (47, .ireturn, 1, 0, 0, .null, [])]
def cd_Bo_twiceAt : List (Nat × pE) := [(0, .iload_n 2, 1, 0, 0, .null, []), (1, .ifCond .ge 5, 3, 6, 0, .null, []), (4, .iconst 0, 1, 0, 0, .int 0, []), (5, .ireturn, 1, 0, 0, .null, []), (6, .aload_n 0, 1, 0, 0, .null, []), (7, .getfield 12, 3, 0, 0, .null, []), (10, .getfield 79, 3, 7, 10, .null, []), (13, .iload_n 2, 1, 0, 0, .null, []), (14, .iaload, 1, 0, 0, .null, []), (15, .iload_n 3, 1, 0, 0, .null, []), (16, .if_icmp .ne 20, 3, 36, 0, .null, []), (19, .aload_n 0, 1, 0, 0, .null, []), (20, .getfield 12, 3, 0, 0, .null, []), (23, .getfield 82, 3, 7, 11, .null, []), (26, .iload_n 2, 1, 0, 0, .null, []), (27, .iaload, 1, 0, 0, .null, []), (28, .iload_n 1, 1, 0, 0, .null, []), (29, .if_icmp .eq 7, 3, 36, 0, .null, []), (32, .iconst 1, 1, 0, 0, .int 1, []), (33, .goto 4, 3, 37, 0, .null, []), (36, .iconst 0, 1, 0, 0, .int 0, []), (37, .ireturn, 1, 0, 0, .null, [])]
def cd_Bo_dutyFor : List (Nat × pE) := [(0, .aload_n 0, 1, 0, 0, .null, []), (1, .iload_n 1, 1, 0, 0, .null, []), (2, .iload_n 2, 1, 0, 0, .null, []), (3, .iload_n 3, 1, 0, 0, .null, []), (4, .invokevirtual 107, 3, 15, 4, .retAddr 0, []), (7, .aload_n 0, 1, 0, 0, .null, []), (8, .getfield 27, 3, 0, 3, .null, []), (11, .getfield 122, 3, 9, 18, .null, []), (14, .aload_n 0, 1, 0, 0, .null, []), (15, .getfield 24, 3, 0, 2, .null, []), (18, .invokevirtual 115, 3, 49, 2, .int 0, []), (21, .sipush 999, 3, 0, 0, .int 999, []), (24, .invokestatic 119, 3, 157, 2, .int 0, []), (27, .ireturn, 1, 0, 0, .null, [])]
def cd_Bo_eyesOf : List (Nat × pE) := [(0, .aload_n 0, 1, 0, 0, .null, []), (1, .iload_n 1, 1, 0, 0, .null, []), (2, .aload_n 0, 1, 0, 0, .null, []), (3, .getfield 12, 3, 0, 0, .null, []), (6, .getfield 49, 3, 7, 4, .null, []), (9, .iload_n 1, 1, 0, 0, .null, []), (10, .iaload, 1, 0, 0, .null, []), (11, .aload_n 0, 1, 0, 0, .null, []), (12, .getfield 12, 3, 0, 0, .null, []), (15, .getfield 52, 3, 7, 5, .null, []), (18, .iload_n 1, 1, 0, 0, .null, []), (19, .iaload, 1, 0, 0, .null, []), (20, .invokevirtual 107, 3, 15, 4, .retAddr 0, []), (23, .aload_n 0, 1, 0, 0, .null, []), (24, .getfield 27, 3, 0, 3, .null, []), (27, .getfield 125, 3, 9, 19, .null, []), (30, .aload_n 0, 1, 0, 0, .null, []), (31, .getfield 24, 3, 0, 2, .null, []), (34, .invokevirtual 115, 3, 49, 2, .int 0, []), (37, .bipush 100, 2, 0, 0, .int 100, []), (39, .invokestatic 119, 3, 157, 2, .int 0, []), (42, .ireturn, 1, 0, 0, .null, [])]
def cd_Bo_look : List (Nat × pE) := [(0, .iload_n 3, 1, 0, 0, .null, []), (1, .invokestatic 128, 3, 154, 1, .int 0, []), (4, .istore 4, 2, 0, 0, .null, []), (6, .aload_n 0, 1, 0, 0, .null, []), (7, .getfield 24, 3, 0, 2, .null, []), (10, .iconst 0, 1, 0, 0, .int 0, []), (11, .aload_n 0, 1, 0, 0, .null, []), (12, .getfield 12, 3, 0, 0, .null, []), (15, .getfield 68, 3, 7, 0, .int 0, []), (18, .iastore, 1, 0, 0, .null, []), (19, .aload_n 0, 1, 0, 0, .null, []), (20, .getfield 24, 3, 0, 2, .null, []), (23, .iconst 1, 1, 0, 0, .int 1, []), (24, .iload 4, 2, 0, 0, .null, []), (26, .ifCond .lt 16, 3, 42, 0, .null, []), (29, .aload_n 0, 1, 0, 0, .null, []), (30, .getfield 27, 3, 0, 3, .null, []), (33, .getfield 132, 3, 9, 6, .null, []), (36, .iload 4, 2, 0, 0, .null, []), (38, .iaload, 1, 0, 0, .null, []), (39, .goto 4, 3, 43, 0, .null, []), (42, .iconst 0, 1, 0, 0, .int 0, []), (43, .iastore, 1, 0, 0, .null, []), (44, .aload_n 0, 1, 0, 0, .null, []), (45, .getfield 24, 3, 0, 2, .null, []), (48, .iconst 2, 1, 0, 0, .int 2, []), (49, .iload_n 3, 1, 0, 0, .null, []), (50, .invokestatic 135, 3, 155, 1, .int 0, []), (53, .iastore, 1, 0, 0, .null, []), (54, .aload_n 0, 1, 0, 0, .null, []), (55, .getfield 24, 3, 0, 2, .null, []), (58, .iconst 3, 1, 0, 0, .int 3, []), (59, .iload_n 2, 1, 0, 0, .null, []), (60, .ifCond .lt 15, 3, 75, 0, .null, []), (63, .aload_n 0, 1, 0, 0, .null, []), (64, .getfield 27, 3, 0, 3, .null, []), (67, .getfield 138, 3, 9, 9, .null, []), (70, .iload_n 2, 1, 0, 0, .null, []), (71, .iaload, 1, 0, 0, .null, []), (72, .goto 4, 3, 76, 0, .null, []), (75, .iconst 0, 1, 0, 0, .int 0, []), (76, .iastore, 1, 0, 0, .null, []), (77, .aload_n 0, 1, 0, 0, .null, []), (78, .getfield 24, 3, 0, 2, .null, []), (81, .iconst 4, 1, 0, 0, .int 4, []), (82, .aload_n 0, 1, 0, 0, .null, []), (83, .getfield 27, 3, 0, 3, .null, []), (86, .getfield 141, 3, 9, 14, .null, []), (89, .iload_n 1, 1, 0, 0, .null, []), (90, .iaload, 1, 0, 0, .null, []), (91, .iastore, 1, 0, 0, .null, []), (92, .aload_n 0, 1, 0, 0, .null, []), (93, .getfield 24, 3, 0, 2, .null, []), (96, .iconst 5, 1, 0, 0, .int 5, []), (97, .aload_n 0, 1, 0, 0, .null, []), (98, .getfield 27, 3, 0, 3, .null, []), (101, .getfield 144, 3, 9, 13, .null, []), (104, .iload_n 1, 1, 0, 0, .null, []), (105, .iaload, 1, 0, 0, .null, []), (106, .iastore, 1, 0, 0, .null, []), (107, .aload_n 0, 1, 0, 0, .null, []), (108, .getfield 24, 3, 0, 2, .null, []), (111, .bipush 6, 2, 0, 0, .int 6, []), (113, .iload 4, 2, 0, 0, .null, []), (115, .iastore, 1, 0, 0, .null, []), (116, .aload_n 0, 1, 0, 0, .null, []), (117, .getfield 24, 3, 0, 2, .null, []), (120, .bipush 7, 2, 0, 0, .int 7, []), (122, .iload_n 3, 1, 0, 0, .null, []), (123, .invokestatic 147, 3, 156, 1, .int 0, []), (126, .iastore, 1, 0, 0, .null, []), (127, .aload_n 0, 1, 0, 0, .null, []), (128, .getfield 24, 3, 0, 2, .null, []), (131, .bipush 8, 2, 0, 0, .int 8, []), (133, .aload_n 0, 1, 0, 0, .null, []), (134, .iload_n 1, 1, 0, 0, .null, []), (135, .iload 4, 2, 0, 0, .null, []), (137, .invokevirtual 150, 3, 16, 3, .int 0, []), (140, .iastore, 1, 0, 0, .null, []), (141, .return_, 1, 0, 0, .null, [])]
def cd_Bo_alike : List (Nat × pE) := [(0, .iconst 0, 1, 0, 0, .int 0, []), (1, .istore_n 3, 1, 0, 0, .null, []), (2, .iconst 0, 1, 0, 0, .int 0, []), (3, .istore 4, 2, 0, 0, .null, []), (5, .iload 4, 2, 0, 0, .null, []), (7, .aload_n 0, 1, 0, 0, .null, []), (8, .getfield 27, 3, 0, 3, .null, []), (11, .getfield 46, 3, 9, 2, .int 0, []), (14, .if_icmp .ge 47, 3, 61, 0, .null, []), (17, .aload_n 0, 1, 0, 0, .null, []), (18, .getfield 12, 3, 0, 0, .null, []), (21, .getfield 52, 3, 7, 5, .null, []), (24, .iload 4, 2, 0, 0, .null, []), (26, .iaload, 1, 0, 0, .null, []), (27, .istore 5, 2, 0, 0, .null, []), (29, .iload 4, 2, 0, 0, .null, []), (31, .iload_n 1, 1, 0, 0, .null, []), (32, .if_icmp .eq 23, 3, 55, 0, .null, []), (35, .iload 5, 2, 0, 0, .null, []), (37, .bipush (-2), 2, 0, 0, .int (-2), []), (39, .if_icmp .eq 16, 3, 55, 0, .null, []), (42, .iload 5, 2, 0, 0, .null, []), (44, .sipush 200, 3, 0, 0, .int 200, []), (47, .idiv, 1, 0, 0, .null, []), (48, .iload_n 2, 1, 0, 0, .null, []), (49, .if_icmp .ne 6, 3, 55, 0, .null, []), (52, .iinc 3 1, 3, 0, 0, .int 1, []), (55, .iinc 4 1, 3, 0, 0, .int 1, []), (58, .goto (-53), 3, 5, 0, .null, []), (61, .iload_n 3, 1, 0, 0, .null, []), (62, .ireturn, 1, 0, 0, .null, [])]
def cd_Bo_weighAll : List (Nat × pE) := [(0, .iconst 0, 1, 0, 0, .int 0, []), (1, .istore_n 1, 1, 0, 0, .null, []), (2, .iload_n 1, 1, 0, 0, .null, []), (3, .aload_n 0, 1, 0, 0, .null, []), (4, .getfield 27, 3, 0, 3, .null, []), (7, .getfield 46, 3, 9, 2, .int 0, []), (10, .if_icmp .ge 50, 3, 60, 0, .null, []), (13, .aload_n 0, 1, 0, 0, .null, []), (14, .getfield 12, 3, 0, 0, .null, []), (17, .getfield 52, 3, 7, 5, .null, []), (20, .iload_n 1, 1, 0, 0, .null, []), (21, .iaload, 1, 0, 0, .null, []), (22, .istore_n 2, 1, 0, 0, .null, []), (23, .aload_n 0, 1, 0, 0, .null, []), (24, .getfield 18, 3, 0, 1, .null, []), (27, .iload_n 1, 1, 0, 0, .null, []), (28, .iload_n 2, 1, 0, 0, .null, []), (29, .bipush (-2), 2, 0, 0, .int (-2), []), (31, .if_icmp .ne 7, 3, 38, 0, .null, []), (34, .iconst 0, 1, 0, 0, .int 0, []), (35, .goto 18, 3, 53, 0, .null, []), (38, .aload_n 0, 1, 0, 0, .null, []), (39, .iload_n 1, 1, 0, 0, .null, []), (40, .aload_n 0, 1, 0, 0, .null, []), (41, .getfield 12, 3, 0, 0, .null, []), (44, .getfield 49, 3, 7, 4, .null, []), (47, .iload_n 1, 1, 0, 0, .null, []), (48, .iaload, 1, 0, 0, .null, []), (49, .iload_n 2, 1, 0, 0, .null, []), (50, .invokevirtual 153, 3, 13, 4, .int 0, []), (53, .iastore, 1, 0, 0, .null, []), (54, .iinc 1 1, 3, 0, 0, .int 1, []), (57, .goto (-55), 3, 2, 0, .null, []), (60, .iconst 0, 1, 0, 0, .int 0, []), (61, .istore_n 1, 1, 0, 0, .null, []), (62, .iconst 0, 1, 0, 0, .int 0, []), (63, .istore_n 2, 1, 0, 0, .null, []), (64, .iload_n 2, 1, 0, 0, .null, []), (65, .aload_n 0, 1, 0, 0, .null, []), (66, .getfield 27, 3, 0, 3, .null, []), (69, .getfield 46, 3, 9, 2, .int 0, []), (72, .if_icmp .ge 87, 3, 159, 0, .null, []), (75, .aload_n 0, 1, 0, 0, .null, []), (76, .getfield 27, 3, 0, 3, .null, []), (79, .getfield 156, 3, 9, 15, .null, []), (82, .iload_n 2, 1, 0, 0, .null, []), (83, .iaload, 1, 0, 0, .null, []), (84, .istore_n 3, 1, 0, 0, .null, []), (85, .iload_n 3, 1, 0, 0, .null, []), (86, .iload_n 2, 1, 0, 0, .null, []), (87, .if_icmp .le 57, 3, 144, 0, .null, []), (90, .aload_n 0, 1, 0, 0, .null, []), (91, .getfield 12, 3, 0, 0, .null, []), (94, .getfield 52, 3, 7, 5, .null, []), (97, .iload_n 2, 1, 0, 0, .null, []), (98, .iaload, 1, 0, 0, .null, []), (99, .bipush (-2), 2, 0, 0, .int (-2), []), (101, .if_icmp .eq 43, 3, 144, 0, .null, []), (104, .aload_n 0, 1, 0, 0, .null, []), (105, .getfield 12, 3, 0, 0, .null, []), (108, .getfield 52, 3, 7, 5, .null, []), (111, .iload_n 3, 1, 0, 0, .null, []), (112, .iaload, 1, 0, 0, .null, []), (113, .bipush (-2), 2, 0, 0, .int (-2), []), (115, .if_icmp .eq 29, 3, 144, 0, .null, []), (118, .aload_n 0, 1, 0, 0, .null, []), (119, .getfield 18, 3, 0, 1, .null, []), (122, .aload_n 0, 1, 0, 0, .null, []), (123, .getfield 18, 3, 0, 1, .null, []), (126, .iload_n 3, 1, 0, 0, .null, []), (127, .iaload, 1, 0, 0, .null, []), (128, .aload_n 0, 1, 0, 0, .null, []), (129, .getfield 18, 3, 0, 1, .null, []), (132, .iload_n 2, 1, 0, 0, .null, []), (133, .iaload, 1, 0, 0, .null, []), (134, .if_icmp .le 7, 3, 141, 0, .null, []), (137, .iload_n 2, 1, 0, 0, .null, []), (138, .goto 4, 3, 142, 0, .null, []), (141, .iload_n 3, 1, 0, 0, .null, []), (142, .iconst 0, 1, 0, 0, .int 0, []), (143, .iastore, 1, 0, 0, .null, []), (144, .iload_n 1, 1, 0, 0, .null, []), (145, .aload_n 0, 1, 0, 0, .null, []), (146, .getfield 18, 3, 0, 1, .null, []), (149, .iload_n 2, 1, 0, 0, .null, []), (150, .iaload, 1, 0, 0, .null, []), (151, .iadd, 1, 0, 0, .null, []), (152, .istore_n 1, 1, 0, 0, .null, []), (153, .iinc 2 1, 3, 0, 0, .int 1, []), (156, .goto (-92), 3, 64, 0, .null, []), (159, .iload_n 1, 1, 0, 0, .null, []), (160, .ireturn, 1, 0, 0, .null, [])]
def cd_Bo_customs : List (Nat × pE) := [(0, .aload_n 0, 1, 0, 0, .null, []), (1, .invokevirtual 159, 3, 17, 1, .int 0, []), (4, .pop, 1, 0, 0, .null, []), (5, .iconst 0, 1, 0, 0, .int 0, []), (6, .istore_n 1, 1, 0, 0, .null, []), (7, .iconst 0, 1, 0, 0, .int 0, []), (8, .istore_n 2, 1, 0, 0, .null, []), (9, .iload_n 2, 1, 0, 0, .null, []), (10, .aload_n 0, 1, 0, 0, .null, []), (11, .getfield 27, 3, 0, 3, .null, []), (14, .getfield 46, 3, 9, 2, .int 0, []), (17, .if_icmp .ge 46, 3, 63, 0, .null, []), (20, .aload_n 0, 1, 0, 0, .null, []), (21, .getfield 12, 3, 0, 0, .null, []), (24, .getfield 52, 3, 7, 5, .null, []), (27, .iload_n 2, 1, 0, 0, .null, []), (28, .iaload, 1, 0, 0, .null, []), (29, .bipush (-2), 2, 0, 0, .int (-2), []), (31, .if_icmp .eq 26, 3, 57, 0, .null, []), (34, .aload_n 0, 1, 0, 0, .null, []), (35, .iload_n 2, 1, 0, 0, .null, []), (36, .invokevirtual 163, 3, 19, 2, .int 0, []), (39, .istore_n 3, 1, 0, 0, .null, []), (40, .aload_n 0, 1, 0, 0, .null, []), (41, .getfield 12, 3, 0, 0, .null, []), (44, .getfield 55, 3, 7, 3, .null, []), (47, .iload_n 2, 1, 0, 0, .null, []), (48, .dup2, 1, 0, 0, .null, []), (49, .iaload, 1, 0, 0, .null, []), (50, .iload_n 3, 1, 0, 0, .null, []), (51, .isub, 1, 0, 0, .null, []), (52, .iastore, 1, 0, 0, .null, []), (53, .iload_n 1, 1, 0, 0, .null, []), (54, .iload_n 3, 1, 0, 0, .null, []), (55, .iadd, 1, 0, 0, .null, []), (56, .istore_n 1, 1, 0, 0, .null, []), (57, .iinc 2 1, 3, 0, 0, .int 1, []), (60, .goto (-51), 3, 9, 0, .null, []), (63, .aload_n 0, 1, 0, 0, .null, []), (64, .getfield 12, 3, 0, 0, .null, []), (67, .dup, 1, 0, 0, .null, []), (68, .getfield 166, 3, 7, 1, .int 0, []), (71, .iload_n 1, 1, 0, 0, .null, []), (72, .iadd, 1, 0, 0, .null, []), (73, .putfield 166, 3, 7, 1, .int 0, []), (76, .aload_n 0, 1, 0, 0, .null, []), (77, .getfield 12, 3, 0, 0, .null, []), (80, .getfield 52, 3, 7, 5, .null, []), (83, .bipush (-2), 2, 0, 0, .int (-2), []), (85, .invokestatic 169, 3, 271, 2, .retAddr 0, []), (88, .iload_n 1, 1, 0, 0, .null, []), (89, .ireturn, 1, 0, 0, .null, [])]
def cd_Bo_paysAtCustoms : List (Nat × pE) := [(0, .aload_n 0, 1, 0, 0, .null, []), (1, .bipush 100, 2, 0, 0, .int 100, []), (3, .bipush 16, 2, 0, 0, .int 16, []), (5, .iload_n 1, 1, 0, 0, .null, []), (6, .iadd, 1, 0, 0, .null, []), (7, .invokevirtual 88, 3, 9, 3, .int 0, []), (10, .aload_n 0, 1, 0, 0, .null, []), (11, .getfield 27, 3, 0, 3, .null, []), (14, .getfield 144, 3, 9, 13, .null, []), (17, .iload_n 1, 1, 0, 0, .null, []), (18, .iaload, 1, 0, 0, .null, []), (19, .if_icmp .ge 23, 3, 42, 0, .null, []), (22, .aload_n 0, 1, 0, 0, .null, []), (23, .getfield 12, 3, 0, 0, .null, []), (26, .getfield 175, 3, 7, 8, .null, []), (29, .iload_n 1, 1, 0, 0, .null, []), (30, .dup2, 1, 0, 0, .null, []), (31, .iaload, 1, 0, 0, .null, []), (32, .iconst 1, 1, 0, 0, .int 1, []), (33, .iadd, 1, 0, 0, .null, []), (34, .iastore, 1, 0, 0, .null, []), (35, .aload_n 0, 1, 0, 0, .null, []), (36, .getfield 18, 3, 0, 1, .null, []), (39, .iload_n 1, 1, 0, 0, .null, []), (40, .iaload, 1, 0, 0, .null, []), (41, .ireturn, 1, 0, 0, .null, []), (42, .aload_n 0, 1, 0, 0, .null, []), (43, .bipush 100, 2, 0, 0, .int 100, []), (45, .bipush 32, 2, 0, 0, .int 32, []), (47, .iload_n 1, 1, 0, 0, .null, []), (48, .iadd, 1, 0, 0, .null, []), (49, .invokevirtual 88, 3, 9, 3, .int 0, []), (52, .aload_n 0, 1, 0, 0, .null, []), (53, .iload_n 1, 1, 0, 0, .null, []), (54, .invokevirtual 178, 3, 14, 2, .int 0, []), (57, .if_icmp .ge 31, 3, 88, 0, .null, []), (60, .aload_n 0, 1, 0, 0, .null, []), (61, .getfield 12, 3, 0, 0, .null, []), (64, .getfield 181, 3, 7, 9, .null, []), (67, .iload_n 1, 1, 0, 0, .null, []), (68, .dup2, 1, 0, 0, .null, []), (69, .iaload, 1, 0, 0, .null, []), (70, .iconst 1, 1, 0, 0, .int 1, []), (71, .iadd, 1, 0, 0, .null, []), (72, .iastore, 1, 0, 0, .null, []), (73, .aload_n 0, 1, 0, 0, .null, []), (74, .getfield 27, 3, 0, 3, .null, []), (77, .getfield 184, 3, 9, 4, .int 0, []), (80, .aload_n 0, 1, 0, 0, .null, []), (81, .getfield 18, 3, 0, 1, .null, []), (84, .iload_n 1, 1, 0, 0, .null, []), (85, .iaload, 1, 0, 0, .null, []), (86, .imul, 1, 0, 0, .null, []), (87, .ireturn, 1, 0, 0, .null, []), (88, .iconst 0, 1, 0, 0, .int 0, []), (89, .ireturn, 1, 0, 0, .null, [])]
def cd_Bo_meanSum : List (Nat × pE) := [(0, .iconst 0, 1, 0, 0, .int 0, []), (1, .istore_n 3, 1, 0, 0, .null, []), (2, .iconst 0, 1, 0, 0, .int 0, []), (3, .istore 4, 2, 0, 0, .null, []), (5, .iload 4, 2, 0, 0, .null, []), (7, .aload_n 0, 1, 0, 0, .null, []), (8, .getfield 27, 3, 0, 3, .null, []), (11, .getfield 91, 3, 9, 0, .int 0, []), (14, .if_icmp .ge 46, 3, 60, 0, .null, []), (17, .aload_n 0, 1, 0, 0, .null, []), (18, .getfield 27, 3, 0, 3, .null, []), (21, .iload_n 2, 1, 0, 0, .null, []), (22, .iload 4, 2, 0, 0, .null, []), (24, .invokevirtual 94, 3, 93, 3, .int 0, []), (27, .istore 5, 2, 0, 0, .null, []), (29, .iload 5, 2, 0, 0, .null, []), (31, .ifCond .le 23, 3, 54, 0, .null, []), (34, .iload_n 3, 1, 0, 0, .null, []), (35, .iload 5, 2, 0, 0, .null, []), (37, .aload_n 0, 1, 0, 0, .null, []), (38, .iload_n 1, 1, 0, 0, .null, []), (39, .iload_n 2, 1, 0, 0, .null, []), (40, .aload_n 0, 1, 0, 0, .null, []), (41, .iload_n 1, 1, 0, 0, .null, []), (42, .iload_n 2, 1, 0, 0, .null, []), (43, .iload 4, 2, 0, 0, .null, []), (45, .invokevirtual 75, 3, 11, 4, .int 0, []), (48, .invokevirtual 153, 3, 13, 4, .int 0, []), (51, .imul, 1, 0, 0, .null, []), (52, .iadd, 1, 0, 0, .null, []), (53, .istore_n 3, 1, 0, 0, .null, []), (54, .iinc 4 1, 3, 0, 0, .int 1, []), (57, .goto (-52), 3, 5, 0, .null, []), (60, .iload_n 3, 1, 0, 0, .null, []), (61, .ireturn, 1, 0, 0, .null, [])]
def cd_Gr_init : List (Nat × pE) := [(0, .aload_n 0, 1, 0, 0, .null, []), (1, .invokespecial 3, 3, 9999, 1, .retAddr 0, []), (4, .aload_n 0, 1, 0, 0, .null, []), (5, .bipush 11, 2, 0, 0, .int 11, []), (7, .newarray .int, 2, 100, 0, .int 0, []), (9, .putfield 11, 3, 1, 1, .null, []), (12, .aload_n 0, 1, 0, 0, .null, []), (13, .bipush 32, 2, 0, 0, .int 32, []), (15, .newarray .int, 2, 100, 0, .int 0, []), (17, .putfield 17, 3, 1, 2, .null, []), (20, .aload_n 0, 1, 0, 0, .null, []), (21, .aload_n 1, 1, 0, 0, .null, []), (22, .putfield 20, 3, 1, 0, .null, []), (25, .return_, 1, 0, 0, .null, [])]
def cd_Gr_check : List (Nat × pE) := [(0, .aload_n 0, 1, 0, 0, .null, []), (1, .iconst 0, 1, 0, 0, .int 0, []), (2, .putfield 24, 3, 1, 5, .int 0, []), (5, .aload_n 0, 1, 0, 0, .null, []), (6, .iconst 0, 1, 0, 0, .int 0, []), (7, .putfield 28, 3, 1, 6, .int 0, []), (10, .aload_n 0, 1, 0, 0, .null, []), (11, .getfield 11, 3, 1, 1, .null, []), (14, .iconst 0, 1, 0, 0, .int 0, []), (15, .invokestatic 31, 3, 271, 2, .retAddr 0, []), (18, .iconst 0, 1, 0, 0, .int 0, []), (19, .istore_n 2, 1, 0, 0, .null, []), (20, .iload_n 2, 1, 0, 0, .null, []), (21, .sipush 400, 3, 0, 0, .int 400, []), (24, .if_icmp .gt 36, 3, 60, 0, .null, []), (27, .aload_n 0, 1, 0, 0, .null, []), (28, .getfield 28, 3, 1, 6, .int 0, []), (31, .ifCond .ne 29, 3, 60, 0, .null, []), (34, .aload_n 0, 1, 0, 0, .null, []), (35, .getfield 20, 3, 1, 0, .null, []), (38, .aload_n 0, 1, 0, 0, .null, []), (39, .getfield 24, 3, 1, 5, .int 0, []), (42, .invokevirtual 37, 3, 98, 2, .int 0, []), (45, .iconst 4, 1, 0, 0, .int 4, []), (46, .if_icmp .eq 14, 3, 60, 0, .null, []), (49, .aload_n 0, 1, 0, 0, .null, []), (50, .aload_n 1, 1, 0, 0, .null, []), (51, .invokevirtual 41, 3, 24, 2, .retAddr 0, []), (54, .iinc 2 1, 3, 0, 0, .int 1, []), (57, .goto (-37), 3, 20, 0, .null, []), (60, .aload_n 0, 1, 0, 0, .null, []), (61, .getfield 28, 3, 1, 6, .int 0, []), (64, .ireturn, 1, 0, 0, .null, [])]
def cd_Gr_stopped : List (Nat × pE) := [(0, .aload_n 0, 1, 0, 0, .null, []), (1, .getfield 20, 3, 1, 0, .null, []), (4, .aload_n 0, 1, 0, 0, .null, []), (5, .getfield 24, 3, 1, 5, .int 0, []), (8, .invokevirtual 45, 3, 99, 2, .int 0, []), (11, .ireturn, 1, 0, 0, .null, [])]
def cd_Gr_tellOne : List (Nat × pE) := [(0, .aload_n 0, 1, 0, 0, .null, []), (1, .getfield 20, 3, 1, 0, .null, []), (4, .aload_n 0, 1, 0, 0, .null, []), (5, .getfield 24, 3, 1, 5, .int 0, []), (8, .invokevirtual 37, 3, 98, 2, .int 0, []), (11, .istore_n 2, 1, 0, 0, .null, []), (12, .iload_n 2, 1, 0, 0, .null, []), (13, .sipush 200, 3, 0, 0, .int 200, []), (16, .if_icmp .lt 10, 3, 26, 0, .null, []), (19, .iload_n 2, 1, 0, 0, .null, []), (20, .sipush 210, 3, 0, 0, .int 210, []), (23, .if_icmp .le 9, 3, 32, 0, .null, []), (26, .aload_n 0, 1, 0, 0, .null, []), (27, .iconst 1, 1, 0, 0, .int 1, []), (28, .putfield 28, 3, 1, 6, .int 0, []), (31, .return_, 1, 0, 0, .null, []), (32, .aload_n 0, 1, 0, 0, .null, []), (33, .getfield 11, 3, 1, 1, .null, []), (36, .iload_n 2, 1, 0, 0, .null, []), (37, .sipush 200, 3, 0, 0, .int 200, []), (40, .isub, 1, 0, 0, .null, []), (41, .dup2, 1, 0, 0, .null, []), (42, .iaload, 1, 0, 0, .null, []), (43, .iconst 1, 1, 0, 0, .int 1, []), (44, .iadd, 1, 0, 0, .null, []), (45, .iastore, 1, 0, 0, .null, []), (46, .aload_n 0, 1, 0, 0, .null, []), (47, .getfield 11, 3, 1, 1, .null, []), (50, .iload_n 2, 1, 0, 0, .null, []), (51, .sipush 200, 3, 0, 0, .int 200, []), (54, .isub, 1, 0, 0, .null, []), (55, .iaload, 1, 0, 0, .null, []), (56, .iload_n 2, 1, 0, 0, .null, []), (57, .invokestatic 48, 3, 25, 1, .int 0, []), (60, .if_icmp .le 9, 3, 69, 0, .null, []), (63, .aload_n 0, 1, 0, 0, .null, []), (64, .iconst 2, 1, 0, 0, .int 2, []), (65, .putfield 28, 3, 1, 6, .int 0, []), (68, .return_, 1, 0, 0, .null, []), (69, .aload_n 0, 1, 0, 0, .null, []), (70, .invokevirtual 51, 3, 39, 1, .retAddr 0, []), (73, .iload_n 2, 1, 0, 0, .null, []), (74, .sipush 205, 3, 0, 0, .int 205, []), (77, .if_icmp .ne 10, 3, 87, 0, .null, []), (80, .aload_n 0, 1, 0, 0, .null, []), (81, .invokevirtual 54, 3, 28, 1, .retAddr 0, []), (84, .goto 37, 3, 121, 0, .null, []), (87, .iload_n 2, 1, 0, 0, .null, []), (88, .sipush 206, 3, 0, 0, .int 206, []), (91, .if_icmp .lt 22, 3, 113, 0, .null, []), (94, .iload_n 2, 1, 0, 0, .null, []), (95, .sipush 208, 3, 0, 0, .int 208, []), (98, .if_icmp .gt 15, 3, 113, 0, .null, []), (101, .aload_n 0, 1, 0, 0, .null, []), (102, .aload_n 1, 1, 0, 0, .null, []), (103, .iload_n 2, 1, 0, 0, .null, []), (104, .invokevirtual 57, 3, 95, 2, .null, []), (107, .invokevirtual 63, 3, 29, 2, .retAddr 0, []), (110, .goto 11, 3, 121, 0, .null, []), (113, .aload_n 0, 1, 0, 0, .null, []), (114, .iload_n 2, 1, 0, 0, .null, []), (115, .invokestatic 66, 3, 26, 1, .null, []), (118, .invokevirtual 70, 3, 27, 2, .retAddr 0, []), (121, .return_, 1, 0, 0, .null, [])]
def cd_Gr_mostOf : List (Nat × pE) := [(0, .iload_n 0, 1, 0, 0, .null, []), (1, .tableswitch 52 200 205 #[39, 42, 52, 44, 47, 49], 39, 53, 0, .null, [(200, 40), (201, 43), (202, 53), (203, 45), (204, 48), (205, 50)]), (40, .bipush 7, 2, 0, 0, .int 7, []), (42, .ireturn, 1, 0, 0, .null, []), (43, .iconst 5, 1, 0, 0, .int 5, []), (44, .ireturn, 1, 0, 0, .null, []), (45, .bipush 6, 2, 0, 0, .int 6, []), (47, .ireturn, 1, 0, 0, .null, []), (48, .iconst 3, 1, 0, 0, .int 3, []), (49, .ireturn, 1, 0, 0, .null, []), (50, .bipush 6, 2, 0, 0, .int 6, []), (52, .ireturn, 1, 0, 0, .null, []), (53, .sipush 400, 3, 0, 0, .int 400, []), (56, .ireturn, 1, 0, 0, .null, [])]
def cd_Gr_shapeOf : List (Nat × pE) := [(0, .iload_n 0, 1, 0, 0, .null, []), (1, .tableswitch 47 200 204 #[35, 38, 41, 38, 44], 35, 48, 0, .null, [(200, 36), (201, 39), (202, 42), (203, 39), (204, 45)]), (36, .ldc 74, 2, 0, 0, .ref 100003, []), (38, .areturn, 1, 0, 0, .null, []), (39, .ldc 76, 2, 0, 0, .ref 100004, []), (41, .areturn, 1, 0, 0, .null, []), (42, .ldc 78, 2, 0, 0, .ref 100005, []), (44, .areturn, 1, 0, 0, .null, []), (45, .ldc 80, 2, 0, 0, .ref 100006, []), (47, .areturn, 1, 0, 0, .null, []), (48, .ldc 82, 2, 0, 0, .ref 100007, []), (50, .areturn, 1, 0, 0, .null, [])]
def cd_Gr_takeAll : List (Nat × pE) := [(0, .iconst 0, 1, 0, 0, .int 0, []), (1, .istore_n 2, 1, 0, 0, .null, []), (2, .iload_n 2, 1, 0, 0, .null, []), (3, .aload_n 1, 1, 0, 0, .null, []), (4, .invokevirtual 84, 3, 272, 1, .int 0, []), (7, .if_icmp .ge 44, 3, 51, 0, .null, []), (10, .aload_n 1, 1, 0, 0, .null, []), (11, .iload_n 2, 1, 0, 0, .null, []), (12, .invokevirtual 90, 3, 274, 2, .int 0, []), (15, .istore_n 3, 1, 0, 0, .null, []), (16, .iload_n 3, 1, 0, 0, .null, []), (17, .bipush 110, 2, 0, 0, .int 110, []), (19, .if_icmp .ne 11, 3, 30, 0, .null, []), (22, .aload_n 0, 1, 0, 0, .null, []), (23, .iconst 1, 1, 0, 0, .int 1, []), (24, .invokevirtual 94, 3, 38, 2, .retAddr 0, []), (27, .goto 18, 3, 45, 0, .null, []), (30, .aload_n 0, 1, 0, 0, .null, []), (31, .iload_n 3, 1, 0, 0, .null, []), (32, .bipush 49, 2, 0, 0, .int 49, []), (34, .if_icmp .ne 7, 3, 41, 0, .null, []), (37, .iconst 2, 1, 0, 0, .int 2, []), (38, .goto 4, 3, 42, 0, .null, []), (41, .iload_n 3, 1, 0, 0, .null, []), (42, .invokevirtual 94, 3, 38, 2, .retAddr 0, []), (45, .iinc 2 1, 3, 0, 0, .int 1, []), (48, .goto (-46), 3, 2, 0, .null, []), (51, .return_, 1, 0, 0, .null, [])]
def cd_Gr_postOf : List (Nat × pE) := [(0, .aload_n 0, 1, 0, 0, .null, []), (1, .iconst 1, 1, 0, 0, .int 1, []), (2, .invokevirtual 94, 3, 38, 2, .retAddr 0, []), (5, .iconst 0, 1, 0, 0, .int 0, []), (6, .istore_n 1, 1, 0, 0, .null, []), (7, .iload_n 1, 1, 0, 0, .null, []), (8, .sipush 400, 3, 0, 0, .int 400, []), (11, .if_icmp .gt 35, 3, 46, 0, .null, []), (14, .aload_n 0, 1, 0, 0, .null, []), (15, .getfield 28, 3, 1, 6, .int 0, []), (18, .ifCond .ne 28, 3, 46, 0, .null, []), (21, .aload_n 0, 1, 0, 0, .null, []), (22, .getfield 20, 3, 1, 0, .null, []), (25, .aload_n 0, 1, 0, 0, .null, []), (26, .getfield 24, 3, 1, 5, .int 0, []), (29, .invokevirtual 37, 3, 98, 2, .int 0, []), (32, .iconst 1, 1, 0, 0, .int 1, []), (33, .if_icmp .ne 13, 3, 46, 0, .null, []), (36, .aload_n 0, 1, 0, 0, .null, []), (37, .invokevirtual 51, 3, 39, 1, .retAddr 0, []), (40, .iinc 1 1, 3, 0, 0, .int 1, []), (43, .goto (-36), 3, 7, 0, .null, []), (46, .aload_n 0, 1, 0, 0, .null, []), (47, .bipush 59, 2, 0, 0, .int 59, []), (49, .invokevirtual 94, 3, 38, 2, .retAddr 0, []), (52, .return_, 1, 0, 0, .null, [])]
def cd_Gr_lawOf : List (Nat × pE) := [(0, .aload_n 1, 1, 0, 0, .null, []), (1, .invokevirtual 98, 3, 45, 1, .retAddr 0, []), (4, .aload_n 0, 1, 0, 0, .null, []), (5, .bipush 61, 2, 0, 0, .int 61, []), (7, .invokevirtual 94, 3, 38, 2, .retAddr 0, []), (10, .iconst 0, 1, 0, 0, .int 0, []), (11, .istore_n 2, 1, 0, 0, .null, []), (12, .iload_n 2, 1, 0, 0, .null, []), (13, .iconst 4, 1, 0, 0, .int 4, []), (14, .if_icmp .gt 87, 3, 101, 0, .null, []), (17, .aload_n 0, 1, 0, 0, .null, []), (18, .getfield 28, 3, 1, 6, .int 0, []), (21, .ifCond .ne 80, 3, 101, 0, .null, []), (24, .aload_n 0, 1, 0, 0, .null, []), (25, .getfield 20, 3, 1, 0, .null, []), (28, .aload_n 0, 1, 0, 0, .null, []), (29, .getfield 24, 3, 1, 5, .int 0, []), (32, .invokevirtual 37, 3, 98, 2, .int 0, []), (35, .sipush 211, 3, 0, 0, .int 211, []), (38, .if_icmp .ne 63, 3, 101, 0, .null, []), (41, .iload_n 2, 1, 0, 0, .null, []), (42, .iconst 4, 1, 0, 0, .int 4, []), (43, .if_icmp .ne 9, 3, 52, 0, .null, []), (46, .aload_n 0, 1, 0, 0, .null, []), (47, .iconst 2, 1, 0, 0, .int 2, []), (48, .putfield 28, 3, 1, 6, .int 0, []), (51, .return_, 1, 0, 0, .null, []), (52, .aload_n 0, 1, 0, 0, .null, []), (53, .invokevirtual 51, 3, 39, 1, .retAddr 0, []), (56, .aload_n 0, 1, 0, 0, .null, []), (57, .aload_n 1, 1, 0, 0, .null, []), (58, .bipush 60, 2, 0, 0, .int 60, []), (60, .invokevirtual 103, 3, 30, 3, .retAddr 0, []), (63, .aload_n 0, 1, 0, 0, .null, []), (64, .aload_n 1, 1, 0, 0, .null, []), (65, .sipush 212, 3, 0, 0, .int 212, []), (68, .invokevirtual 103, 3, 30, 3, .retAddr 0, []), (71, .aload_n 1, 1, 0, 0, .null, []), (72, .invokevirtual 107, 3, 47, 1, .int 0, []), (75, .istore_n 3, 1, 0, 0, .null, []), (76, .aload_n 0, 1, 0, 0, .null, []), (77, .aload_n 1, 1, 0, 0, .null, []), (78, .sipush 213, 3, 0, 0, .int 213, []), (81, .invokevirtual 103, 3, 30, 3, .retAddr 0, []), (84, .aload_n 1, 1, 0, 0, .null, []), (85, .bipush (-15), 2, 0, 0, .int (-15), []), (87, .invokevirtual 110, 3, 46, 2, .retAddr 0, []), (90, .aload_n 1, 1, 0, 0, .null, []), (91, .iload_n 3, 1, 0, 0, .null, []), (92, .invokevirtual 113, 3, 48, 2, .retAddr 0, []), (95, .iinc 2 1, 3, 0, 0, .int 1, []), (98, .goto (-86), 3, 12, 0, .null, []), (101, .aload_n 0, 1, 0, 0, .null, []), (102, .aload_n 1, 1, 0, 0, .null, []), (103, .bipush 59, 2, 0, 0, .int 59, []), (105, .invokevirtual 103, 3, 30, 3, .retAddr 0, []), (108, .aload_n 1, 1, 0, 0, .null, []), (109, .bipush (-15), 2, 0, 0, .int (-15), []), (111, .invokevirtual 110, 3, 46, 2, .retAddr 0, []), (114, .return_, 1, 0, 0, .null, [])]
def cd_Gr_expression : List (Nat × pE) := [(0, .aload_n 0, 1, 0, 0, .null, []), (1, .iconst 0, 1, 0, 0, .int 0, []), (2, .putfield 116, 3, 1, 3, .int 0, []), (5, .aload_n 0, 1, 0, 0, .null, []), (6, .iconst 0, 1, 0, 0, .int 0, []), (7, .putfield 119, 3, 1, 4, .int 0, []), (10, .iconst 0, 1, 0, 0, .int 0, []), (11, .istore_n 3, 1, 0, 0, .null, []), (12, .iconst 0, 1, 0, 0, .int 0, []), (13, .istore 4, 2, 0, 0, .null, []), (15, .iconst 0, 1, 0, 0, .int 0, []), (16, .istore 5, 2, 0, 0, .null, []), (18, .iload 5, 2, 0, 0, .null, []), (20, .sipush 400, 3, 0, 0, .int 400, []), (23, .if_icmp .gt 78, 3, 101, 0, .null, []), (26, .aload_n 0, 1, 0, 0, .null, []), (27, .getfield 28, 3, 1, 6, .int 0, []), (30, .ifCond .ne 71, 3, 101, 0, .null, []), (33, .iload 4, 2, 0, 0, .null, []), (35, .ifCond .ne 66, 3, 101, 0, .null, []), (38, .iload_n 3, 1, 0, 0, .null, []), (39, .ifCond .ne 12, 3, 51, 0, .null, []), (42, .aload_n 0, 1, 0, 0, .null, []), (43, .aload_n 1, 1, 0, 0, .null, []), (44, .invokevirtual 122, 3, 31, 2, .int 0, []), (47, .istore_n 3, 1, 0, 0, .null, []), (48, .goto 47, 3, 95, 0, .null, []), (51, .aload_n 0, 1, 0, 0, .null, []), (52, .getfield 119, 3, 1, 4, .int 0, []), (55, .ifCond .ne 34, 3, 89, 0, .null, []), (58, .aload_n 0, 1, 0, 0, .null, []), (59, .getfield 20, 3, 1, 0, .null, []), (62, .aload_n 0, 1, 0, 0, .null, []), (63, .getfield 24, 3, 1, 5, .int 0, []), (66, .invokevirtual 37, 3, 98, 2, .int 0, []), (69, .iload_n 2, 1, 0, 0, .null, []), (70, .if_icmp .ne 19, 3, 89, 0, .null, []), (73, .aload_n 0, 1, 0, 0, .null, []), (74, .aload_n 1, 1, 0, 0, .null, []), (75, .iconst 0, 1, 0, 0, .int 0, []), (76, .invokevirtual 126, 3, 35, 3, .retAddr 0, []), (79, .aload_n 0, 1, 0, 0, .null, []), (80, .invokevirtual 51, 3, 39, 1, .retAddr 0, []), (83, .iconst 1, 1, 0, 0, .int 1, []), (84, .istore 4, 2, 0, 0, .null, []), (86, .goto 9, 3, 95, 0, .null, []), (89, .aload_n 0, 1, 0, 0, .null, []), (90, .aload_n 1, 1, 0, 0, .null, []), (91, .invokevirtual 129, 3, 33, 2, .int 0, []), (94, .istore_n 3, 1, 0, 0, .null, []), (95, .iinc 5 1, 3, 0, 0, .int 1, []), (98, .goto (-80), 3, 18, 0, .null, []), (101, .return_, 1, 0, 0, .null, [])]
def cd_Gr_unit : List (Nat × pE) := [(0, .aload_n 0, 1, 0, 0, .null, []), (1, .getfield 20, 3, 1, 0, .null, []), (4, .aload_n 0, 1, 0, 0, .null, []), (5, .getfield 24, 3, 1, 5, .int 0, []), (8, .invokevirtual 37, 3, 98, 2, .int 0, []), (11, .istore_n 2, 1, 0, 0, .null, []), (12, .iload_n 2, 1, 0, 0, .null, []), (13, .bipush 40, 2, 0, 0, .int 40, []), (15, .if_icmp .ne 9, 3, 24, 0, .null, []), (18, .aload_n 0, 1, 0, 0, .null, []), (19, .invokevirtual 132, 3, 32, 1, .retAddr 0, []), (22, .iconst 0, 1, 0, 0, .int 0, []), (23, .ireturn, 1, 1, 0, .null, []), (24, .iload_n 2, 1, 0, 0, .null, []), (25, .iconst 2, 1, 0, 0, .int 2, []), (26, .if_icmp .ne 22, 3, 48, 0, .null, []), (29, .aload_n 1, 1, 0, 0, .null, []), (30, .aload_n 0, 1, 0, 0, .null, []), (31, .getfield 20, 3, 1, 0, .null, []), (34, .aload_n 0, 1, 0, 0, .null, []), (35, .getfield 24, 3, 1, 5, .int 0, []), (38, .invokevirtual 135, 3, 100, 2, .long 0, []), (41, .l2i, 1, 0, 0, .null, []), (42, .invokevirtual 110, 3, 46, 2, .retAddr 0, []), (45, .goto 35, 3, 80, 0, .null, []), (48, .iload_n 2, 1, 0, 0, .null, []), (49, .sipush 214, 3, 0, 0, .int 214, []), (52, .if_icmp .lt 21, 3, 73, 0, .null, []), (55, .iload_n 2, 1, 0, 0, .null, []), (56, .sipush 222, 3, 0, 0, .int 222, []), (59, .if_icmp .gt 14, 3, 73, 0, .null, []), (62, .aload_n 1, 1, 0, 0, .null, []), (63, .iload_n 2, 1, 0, 0, .null, []), (64, .invokestatic 139, 3, 101, 1, .int 0, []), (67, .invokevirtual 110, 3, 46, 2, .retAddr 0, []), (70, .goto 10, 3, 80, 0, .null, []), (73, .aload_n 0, 1, 0, 0, .null, []), (74, .iconst 1, 1, 0, 0, .int 1, []), (75, .putfield 28, 3, 1, 6, .int 0, []), (78, .iconst 0, 1, 0, 0, .int 0, []), (79, .ireturn, 1, 1, 0, .null, []), (80, .aload_n 0, 1, 0, 0, .null, []), (81, .invokevirtual 51, 3, 39, 1, .retAddr 0, []), (84, .iconst 1, 1, 0, 0, .int 1, []), (85, .ireturn, 1, 1, 0, .null, [])]
def cd_Gr_open : List (Nat × pE) := [(0, .aload_n 0, 1, 0, 0, .null, []), (1, .getfield 119, 3, 1, 4, .int 0, []), (4, .bipush 6, 2, 0, 0, .int 6, []), (6, .if_icmp .lt 9, 3, 15, 0, .null, []), (9, .aload_n 0, 1, 0, 0, .null, []), (10, .iconst 2, 1, 0, 0, .int 2, []), (11, .putfield 28, 3, 1, 6, .int 0, []), (14, .return_, 1, 0, 0, .null, []), (15, .aload_n 0, 1, 0, 0, .null, []), (16, .dup, 1, 0, 0, .null, []), (17, .getfield 119, 3, 1, 4, .int 0, []), (20, .iconst 1, 1, 0, 0, .int 1, []), (21, .iadd, 1, 0, 0, .null, []), (22, .putfield 119, 3, 1, 4, .int 0, []), (25, .aload_n 0, 1, 0, 0, .null, []), (26, .bipush 40, 2, 0, 0, .int 40, []), (28, .invokevirtual 142, 3, 34, 2, .retAddr 0, []), (31, .aload_n 0, 1, 0, 0, .null, []), (32, .invokevirtual 51, 3, 39, 1, .retAddr 0, []), (35, .return_, 1, 0, 0, .null, [])]
def cd_Gr_behindUnit : List (Nat × pE) := [(0, .aload_n 0, 1, 0, 0, .null, []), (1, .getfield 20, 3, 1, 0, .null, []), (4, .aload_n 0, 1, 0, 0, .null, []), (5, .getfield 24, 3, 1, 5, .int 0, []), (8, .invokevirtual 37, 3, 98, 2, .int 0, []), (11, .istore_n 2, 1, 0, 0, .null, []), (12, .iload_n 2, 1, 0, 0, .null, []), (13, .bipush 41, 2, 0, 0, .int 41, []), (15, .if_icmp .ne 46, 3, 61, 0, .null, []), (18, .aload_n 0, 1, 0, 0, .null, []), (19, .getfield 119, 3, 1, 4, .int 0, []), (22, .ifCond .le 39, 3, 61, 0, .null, []), (25, .aload_n 0, 1, 0, 0, .null, []), (26, .aload_n 1, 1, 0, 0, .null, []), (27, .iconst 0, 1, 0, 0, .int 0, []), (28, .invokevirtual 126, 3, 35, 3, .retAddr 0, []), (31, .aload_n 0, 1, 0, 0, .null, []), (32, .iconst 0, 1, 0, 0, .int 0, []), (33, .aload_n 0, 1, 0, 0, .null, []), (34, .getfield 116, 3, 1, 3, .int 0, []), (37, .iconst 1, 1, 0, 0, .int 1, []), (38, .isub, 1, 0, 0, .null, []), (39, .invokestatic 145, 3, 9996, 2, .int 0, []), (42, .putfield 116, 3, 1, 3, .int 0, []), (45, .aload_n 0, 1, 0, 0, .null, []), (46, .dup, 1, 0, 0, .null, []), (47, .getfield 119, 3, 1, 4, .int 0, []), (50, .iconst 1, 1, 0, 0, .int 1, []), (51, .isub, 1, 0, 0, .null, []), (52, .putfield 119, 3, 1, 4, .int 0, []), (55, .aload_n 0, 1, 0, 0, .null, []), (56, .invokevirtual 51, 3, 39, 1, .retAddr 0, []), (59, .iconst 1, 1, 0, 0, .int 1, []), (60, .ireturn, 1, 1, 0, .null, []), (61, .iload_n 2, 1, 0, 0, .null, []), (62, .invokestatic 151, 3, 36, 1, .int 0, []), (65, .istore_n 3, 1, 0, 0, .null, []), (66, .iload_n 3, 1, 0, 0, .null, []), (67, .ifCond .ne 10, 3, 77, 0, .null, []), (70, .aload_n 0, 1, 0, 0, .null, []), (71, .iconst 1, 1, 0, 0, .int 1, []), (72, .putfield 28, 3, 1, 6, .int 0, []), (75, .iconst 1, 1, 0, 0, .int 1, []), (76, .ireturn, 1, 1, 0, .null, []), (77, .aload_n 0, 1, 0, 0, .null, []), (78, .aload_n 1, 1, 0, 0, .null, []), (79, .iload_n 3, 1, 0, 0, .null, []), (80, .invokevirtual 126, 3, 35, 3, .retAddr 0, []), (83, .aload_n 0, 1, 0, 0, .null, []), (84, .iload_n 2, 1, 0, 0, .null, []), (85, .invokevirtual 142, 3, 34, 2, .retAddr 0, []), (88, .aload_n 0, 1, 0, 0, .null, []), (89, .invokevirtual 51, 3, 39, 1, .retAddr 0, []), (92, .iconst 0, 1, 0, 0, .int 0, []), (93, .ireturn, 1, 1, 0, .null, [])]
def cd_Gr_push : List (Nat × pE) := [(0, .aload_n 0, 1, 0, 0, .null, []), (1, .getfield 116, 3, 1, 3, .int 0, []), (4, .aload_n 0, 1, 0, 0, .null, []), (5, .getfield 17, 3, 1, 2, .null, []), (8, .arraylength, 1, 0, 0, .null, []), (9, .if_icmp .ge 23, 3, 32, 0, .null, []), (12, .aload_n 0, 1, 0, 0, .null, []), (13, .getfield 17, 3, 1, 2, .null, []), (16, .aload_n 0, 1, 0, 0, .null, []), (17, .getfield 116, 3, 1, 3, .int 0, []), (20, .iload_n 1, 1, 0, 0, .null, []), (21, .iastore, 1, 0, 0, .null, []), (22, .aload_n 0, 1, 0, 0, .null, []), (23, .dup, 1, 0, 0, .null, []), (24, .getfield 116, 3, 1, 3, .int 0, []), (27, .iconst 1, 1, 0, 0, .int 1, []), (28, .iadd, 1, 0, 0, .null, []), (29, .putfield 116, 3, 1, 3, .int 0, []), (32, .return_, 1, 0, 0, .null, [])]
def cd_Gr_unwind : List (Nat × pE) := [(0, .aload_n 0, 1, 0, 0, .null, []), (1, .getfield 116, 3, 1, 3, .int 0, []), (4, .ifCond .le 66, 3, 70, 0, .null, []), (7, .aload_n 0, 1, 0, 0, .null, []), (8, .getfield 17, 3, 1, 2, .null, []), (11, .aload_n 0, 1, 0, 0, .null, []), (12, .getfield 116, 3, 1, 3, .int 0, []), (15, .iconst 1, 1, 0, 0, .int 1, []), (16, .isub, 1, 0, 0, .null, []), (17, .iaload, 1, 0, 0, .null, []), (18, .bipush 40, 2, 0, 0, .int 40, []), (20, .if_icmp .eq 50, 3, 70, 0, .null, []), (23, .aload_n 0, 1, 0, 0, .null, []), (24, .getfield 17, 3, 1, 2, .null, []), (27, .aload_n 0, 1, 0, 0, .null, []), (28, .getfield 116, 3, 1, 3, .int 0, []), (31, .iconst 1, 1, 0, 0, .int 1, []), (32, .isub, 1, 0, 0, .null, []), (33, .iaload, 1, 0, 0, .null, []), (34, .invokestatic 151, 3, 36, 1, .int 0, []), (37, .iload_n 2, 1, 0, 0, .null, []), (38, .if_icmp .lt 32, 3, 70, 0, .null, []), (41, .aload_n 0, 1, 0, 0, .null, []), (42, .dup, 1, 0, 0, .null, []), (43, .getfield 116, 3, 1, 3, .int 0, []), (46, .iconst 1, 1, 0, 0, .int 1, []), (47, .isub, 1, 0, 0, .null, []), (48, .putfield 116, 3, 1, 3, .int 0, []), (51, .aload_n 1, 1, 0, 0, .null, []), (52, .aload_n 0, 1, 0, 0, .null, []), (53, .getfield 17, 3, 1, 2, .null, []), (56, .aload_n 0, 1, 0, 0, .null, []), (57, .getfield 116, 3, 1, 3, .int 0, []), (60, .iaload, 1, 0, 0, .null, []), (61, .invokestatic 154, 3, 37, 1, .int 0, []), (64, .invokevirtual 110, 3, 46, 2, .retAddr 0, []), (67, .goto (-67), 3, 0, 0, .null, []), (70, .return_, 1, 0, 0, .null, [])]
def cd_Gr_rankOf : List (Nat × pE) := [(0, .iload_n 0, 1, 0, 0, .null, []), (1, .bipush 43, 2, 0, 0, .int 43, []), (3, .if_icmp .eq 9, 3, 12, 0, .null, []), (6, .iload_n 0, 1, 0, 0, .null, []), (7, .bipush 45, 2, 0, 0, .int 45, []), (9, .if_icmp .ne 5, 3, 14, 0, .null, []), (12, .iconst 1, 1, 0, 0, .int 1, []), (13, .ireturn, 1, 0, 0, .null, []), (14, .iload_n 0, 1, 0, 0, .null, []), (15, .bipush 42, 2, 0, 0, .int 42, []), (17, .if_icmp .eq 9, 3, 26, 0, .null, []), (20, .iload_n 0, 1, 0, 0, .null, []), (21, .bipush 47, 2, 0, 0, .int 47, []), (23, .if_icmp .ne 7, 3, 30, 0, .null, []), (26, .iconst 2, 1, 0, 0, .int 2, []), (27, .goto 4, 3, 31, 0, .null, []), (30, .iconst 0, 1, 0, 0, .int 0, []), (31, .ireturn, 1, 0, 0, .null, [])]
def cd_Gr_stepOf : List (Nat × pE) := [(0, .iload_n 0, 1, 0, 0, .null, []), (1, .tableswitch 40 42 45 #[37, 31, 40, 34], 31, 41, 0, .null, [(42, 38), (43, 32), (44, 41), (45, 35)]), (32, .bipush (-10), 2, 0, 0, .int (-10), []), (34, .ireturn, 1, 0, 0, .null, []), (35, .bipush (-11), 2, 0, 0, .int (-11), []), (37, .ireturn, 1, 0, 0, .null, []), (38, .bipush (-12), 2, 0, 0, .int (-12), []), (40, .ireturn, 1, 0, 0, .null, []), (41, .bipush (-13), 2, 0, 0, .int (-13), []), (43, .ireturn, 1, 0, 0, .null, [])]
def cd_Gr_take : List (Nat × pE) := [(0, .aload_n 0, 1, 0, 0, .null, []), (1, .getfield 28, 3, 1, 6, .int 0, []), (4, .ifCond .eq 4, 3, 8, 0, .null, []), (7, .return_, 1, 0, 0, .null, []), (8, .aload_n 0, 1, 0, 0, .null, []), (9, .getfield 20, 3, 1, 0, .null, []), (12, .aload_n 0, 1, 0, 0, .null, []), (13, .getfield 24, 3, 1, 5, .int 0, []), (16, .invokevirtual 37, 3, 98, 2, .int 0, []), (19, .iload_n 1, 1, 0, 0, .null, []), (20, .if_icmp .ne 10, 3, 30, 0, .null, []), (23, .aload_n 0, 1, 0, 0, .null, []), (24, .invokevirtual 51, 3, 39, 1, .retAddr 0, []), (27, .goto 8, 3, 35, 0, .null, []), (30, .aload_n 0, 1, 0, 0, .null, []), (31, .iconst 1, 1, 0, 0, .int 1, []), (32, .putfield 28, 3, 1, 6, .int 0, []), (35, .return_, 1, 0, 0, .null, [])]
def cd_Gr_step : List (Nat × pE) := [(0, .aload_n 0, 1, 0, 0, .null, []), (1, .getfield 24, 3, 1, 5, .int 0, []), (4, .sipush 400, 3, 0, 0, .int 400, []), (7, .if_icmp .lt 11, 3, 18, 0, .null, []), (10, .aload_n 0, 1, 0, 0, .null, []), (11, .iconst 2, 1, 0, 0, .int 2, []), (12, .putfield 28, 3, 1, 6, .int 0, []), (15, .goto 13, 3, 28, 0, .null, []), (18, .aload_n 0, 1, 0, 0, .null, []), (19, .dup, 1, 0, 0, .null, []), (20, .getfield 24, 3, 1, 5, .int 0, []), (23, .iconst 1, 1, 0, 0, .int 1, []), (24, .iadd, 1, 0, 0, .null, []), (25, .putfield 24, 3, 1, 5, .int 0, []), (28, .return_, 1, 0, 0, .null, [])]
def cd_Hi_init : List (Nat × pE) := [(0, .aload_n 0, 1, 0, 0, .null, []), (1, .invokespecial 3, 3, 9999, 1, .retAddr 0, []), (4, .aload_n 0, 1, 0, 0, .null, []), (5, .bipush 40, 2, 0, 0, .int 40, []), (7, .anewarray 9, 3, 0, 0, .null, []), (10, .putfield 11, 3, 2, 0, .null, []), (13, .iconst 0, 1, 0, 0, .int 0, []), (14, .istore_n 1, 1, 0, 0, .null, []), (15, .iload_n 1, 1, 0, 0, .null, []), (16, .bipush 40, 2, 0, 0, .int 40, []), (18, .if_icmp .ge 22, 3, 40, 0, .null, []), (21, .aload_n 0, 1, 0, 0, .null, []), (22, .getfield 11, 3, 2, 0, .null, []), (25, .iload_n 1, 1, 0, 0, .null, []), (26, .new 9, 3, 7, 0, .null, []), (29, .dup, 1, 0, 0, .null, []), (30, .invokespecial 17, 3, 67, 1, .retAddr 0, []), (33, .aastore, 1, 0, 0, .null, []), (34, .iinc 1 1, 3, 0, 0, .int 1, []), (37, .goto (-22), 3, 15, 0, .null, []), (40, .return_, 1, 0, 0, .null, [])]
def cd_Hi_clear : List (Nat × pE) := [(0, .aload_n 0, 1, 0, 0, .null, []), (1, .iconst 0, 1, 0, 0, .int 0, []), (2, .putfield 18, 3, 2, 1, .int 0, []), (5, .aload_n 0, 1, 0, 0, .null, []), (6, .iconst 0, 1, 0, 0, .int 0, []), (7, .putfield 22, 3, 2, 2, .int 0, []), (10, .return_, 1, 0, 0, .null, [])]
def cd_Hi_remember : List (Nat × pE) := [(0, .aload_n 0, 1, 0, 0, .null, []), (1, .getfield 11, 3, 2, 0, .null, []), (4, .aload_n 0, 1, 0, 0, .null, []), (5, .getfield 18, 3, 2, 1, .int 0, []), (8, .aaload, 1, 0, 0, .null, []), (9, .aload_n 1, 1, 0, 0, .null, []), (10, .invokevirtual 25, 3, 69, 2, .retAddr 0, []), (13, .aload_n 0, 1, 0, 0, .null, []), (14, .aload_n 0, 1, 0, 0, .null, []), (15, .getfield 18, 3, 2, 1, .int 0, []), (18, .iconst 1, 1, 0, 0, .int 1, []), (19, .iadd, 1, 0, 0, .null, []), (20, .bipush 40, 2, 0, 0, .int 40, []), (22, .irem, 1, 0, 0, .null, []), (23, .putfield 18, 3, 2, 1, .int 0, []), (26, .aload_n 0, 1, 0, 0, .null, []), (27, .aload_n 0, 1, 0, 0, .null, []), (28, .getfield 22, 3, 2, 2, .int 0, []), (31, .iconst 1, 1, 0, 0, .int 1, []), (32, .iadd, 1, 0, 0, .null, []), (33, .bipush 40, 2, 0, 0, .int 40, []), (35, .invokestatic 29, 3, 9995, 2, .int 0, []), (38, .putfield 22, 3, 2, 2, .int 0, []), (41, .return_, 1, 0, 0, .null, [])]
def cd_Hi_goBack : List (Nat × pE) := [(0, .aload_n 0, 1, 0, 0, .null, []), (1, .getfield 22, 3, 2, 2, .int 0, []), (4, .ifCond .ne 5, 3, 9, 0, .null, []), (7, .iconst 0, 1, 0, 0, .int 0, []), (8, .ireturn, 1, 1, 0, .null, []), (9, .aload_n 0, 1, 0, 0, .null, []), (10, .dup, 1, 0, 0, .null, []), (11, .getfield 22, 3, 2, 2, .int 0, []), (14, .iconst 1, 1, 0, 0, .int 1, []), (15, .isub, 1, 0, 0, .null, []), (16, .putfield 22, 3, 2, 2, .int 0, []), (19, .aload_n 0, 1, 0, 0, .null, []), (20, .aload_n 0, 1, 0, 0, .null, []), (21, .getfield 18, 3, 2, 1, .int 0, []), (24, .bipush 40, 2, 0, 0, .int 40, []), (26, .iadd, 1, 0, 0, .null, []), (27, .iconst 1, 1, 0, 0, .int 1, []), (28, .isub, 1, 0, 0, .null, []), (29, .bipush 40, 2, 0, 0, .int 40, []), (31, .irem, 1, 0, 0, .null, []), (32, .putfield 18, 3, 2, 1, .int 0, []), (35, .aload_n 1, 1, 0, 0, .null, []), (36, .aload_n 0, 1, 0, 0, .null, []), (37, .getfield 11, 3, 2, 0, .null, []), (40, .aload_n 0, 1, 0, 0, .null, []), (41, .getfield 18, 3, 2, 1, .int 0, []), (44, .aaload, 1, 0, 0, .null, []), (45, .invokevirtual 25, 3, 69, 2, .retAddr 0, []), (48, .iconst 1, 1, 0, 0, .int 1, []), (49, .ireturn, 1, 1, 0, .null, [])]
def cd_La_init : List (Nat × pE) := [(0, .aload_n 0, 1, 0, 0, .null, []), (1, .invokespecial 1, 3, 9999, 1, .retAddr 0, []), (4, .aload_n 0, 1, 0, 0, .null, []), (5, .sipush 512, 3, 0, 0, .int 512, []), (8, .newarray .int, 2, 100, 0, .int 0, []), (10, .putfield 7, 3, 3, 0, .null, []), (13, .aload_n 0, 1, 0, 0, .null, []), (14, .bipush 64, 2, 0, 0, .int 64, []), (16, .newarray .int, 2, 100, 0, .int 0, []), (18, .putfield 13, 3, 3, 1, .null, []), (21, .return_, 1, 0, 0, .null, [])]
def cd_La_clear : List (Nat × pE) := [(0, .aload_n 0, 1, 0, 0, .null, []), (1, .iconst 0, 1, 0, 0, .int 0, []), (2, .putfield 16, 3, 3, 2, .int 0, []), (5, .return_, 1, 0, 0, .null, [])]
def cd_La_add : List (Nat × pE) := [(0, .aload_n 0, 1, 0, 0, .null, []), (1, .getfield 16, 3, 3, 2, .int 0, []), (4, .aload_n 0, 1, 0, 0, .null, []), (5, .getfield 7, 3, 3, 0, .null, []), (8, .arraylength, 1, 0, 0, .null, []), (9, .if_icmp .ge 23, 3, 32, 0, .null, []), (12, .aload_n 0, 1, 0, 0, .null, []), (13, .getfield 7, 3, 3, 0, .null, []), (16, .aload_n 0, 1, 0, 0, .null, []), (17, .getfield 16, 3, 3, 2, .int 0, []), (20, .iload_n 1, 1, 0, 0, .null, []), (21, .iastore, 1, 0, 0, .null, []), (22, .aload_n 0, 1, 0, 0, .null, []), (23, .dup, 1, 0, 0, .null, []), (24, .getfield 16, 3, 3, 2, .int 0, []), (27, .iconst 1, 1, 0, 0, .int 1, []), (28, .iadd, 1, 0, 0, .null, []), (29, .putfield 16, 3, 3, 2, .int 0, []), (32, .return_, 1, 0, 0, .null, [])]
def cd_La_addJump : List (Nat × pE) := [(0, .aload_n 0, 1, 0, 0, .null, []), (1, .bipush (-14), 2, 0, 0, .int (-14), []), (3, .invokevirtual 20, 3, 46, 2, .retAddr 0, []), (6, .aload_n 0, 1, 0, 0, .null, []), (7, .iconst 0, 1, 0, 0, .int 0, []), (8, .invokevirtual 20, 3, 46, 2, .retAddr 0, []), (11, .aload_n 0, 1, 0, 0, .null, []), (12, .getfield 16, 3, 3, 2, .int 0, []), (15, .iconst 1, 1, 0, 0, .int 1, []), (16, .isub, 1, 0, 0, .null, []), (17, .ireturn, 1, 0, 0, .null, [])]
def cd_La_land : List (Nat × pE) := [(0, .iload_n 1, 1, 0, 0, .null, []), (1, .ifCond .lt 21, 3, 22, 0, .null, []), (4, .iload_n 1, 1, 0, 0, .null, []), (5, .aload_n 0, 1, 0, 0, .null, []), (6, .getfield 16, 3, 3, 2, .int 0, []), (9, .if_icmp .ge 13, 3, 22, 0, .null, []), (12, .aload_n 0, 1, 0, 0, .null, []), (13, .getfield 7, 3, 3, 0, .null, []), (16, .iload_n 1, 1, 0, 0, .null, []), (17, .aload_n 0, 1, 0, 0, .null, []), (18, .getfield 16, 3, 3, 2, .int 0, []), (21, .iastore, 1, 0, 0, .null, []), (22, .return_, 1, 0, 0, .null, [])]
def cd_La_tells : List (Nat × pE) := [(0, .iconst 0, 1, 0, 0, .int 0, []), (1, .istore_n 2, 1, 0, 0, .null, []), (2, .iconst 0, 1, 0, 0, .int 0, []), (3, .istore_n 3, 1, 0, 0, .null, []), (4, .iload_n 3, 1, 0, 0, .null, []), (5, .aload_n 0, 1, 0, 0, .null, []), (6, .getfield 16, 3, 3, 2, .int 0, []), (9, .if_icmp .ge 184, 3, 193, 0, .null, []), (12, .aload_n 0, 1, 0, 0, .null, []), (13, .getfield 7, 3, 3, 0, .null, []), (16, .iload_n 3, 1, 0, 0, .null, []), (17, .iaload, 1, 0, 0, .null, []), (18, .istore 4, 2, 0, 0, .null, []), (20, .iload 4, 2, 0, 0, .null, []), (22, .bipush (-10), 2, 0, 0, .int (-10), []), (24, .if_icmp .le 42, 3, 66, 0, .null, []), (27, .iload_n 2, 1, 0, 0, .null, []), (28, .aload_n 0, 1, 0, 0, .null, []), (29, .getfield 13, 3, 3, 1, .null, []), (32, .arraylength, 1, 0, 0, .null, []), (33, .if_icmp .lt 5, 3, 38, 0, .null, []), (36, .iconst 0, 1, 0, 0, .int 0, []), (37, .ireturn, 1, 0, 0, .null, []), (38, .aload_n 0, 1, 0, 0, .null, []), (39, .getfield 13, 3, 3, 1, .null, []), (42, .iload_n 2, 1, 0, 0, .null, []), (43, .iload 4, 2, 0, 0, .null, []), (45, .ifCond .lt 8, 3, 53, 0, .null, []), (48, .iload 4, 2, 0, 0, .null, []), (50, .goto 9, 3, 59, 0, .null, []), (53, .aload_n 1, 1, 0, 0, .null, []), (54, .iconst (-1), 1, 0, 0, .int (-1), []), (55, .iload 4, 2, 0, 0, .null, []), (57, .isub, 1, 0, 0, .null, []), (58, .iaload, 1, 0, 0, .null, []), (59, .iastore, 1, 0, 0, .null, []), (60, .iinc 2 1, 3, 0, 0, .int 1, []), (63, .goto 124, 3, 187, 0, .null, []), (66, .iload 4, 2, 0, 0, .null, []), (68, .bipush (-15), 2, 0, 0, .int (-15), []), (70, .if_icmp .ne 20, 3, 90, 0, .null, []), (73, .iload_n 2, 1, 0, 0, .null, []), (74, .ifCond .le 14, 3, 88, 0, .null, []), (77, .aload_n 0, 1, 0, 0, .null, []), (78, .getfield 13, 3, 3, 1, .null, []), (81, .iload_n 2, 1, 0, 0, .null, []), (82, .iconst 1, 1, 0, 0, .int 1, []), (83, .isub, 1, 0, 0, .null, []), (84, .iaload, 1, 0, 0, .null, []), (85, .goto 4, 3, 89, 0, .null, []), (88, .iconst 0, 1, 0, 0, .int 0, []), (89, .ireturn, 1, 0, 0, .null, []), (90, .iload_n 2, 1, 0, 0, .null, []), (91, .iconst 2, 1, 0, 0, .int 2, []), (92, .if_icmp .lt 21, 3, 113, 0, .null, []), (95, .iload 4, 2, 0, 0, .null, []), (97, .bipush (-13), 2, 0, 0, .int (-13), []), (99, .if_icmp .ne 16, 3, 115, 0, .null, []), (102, .aload_n 0, 1, 0, 0, .null, []), (103, .getfield 13, 3, 3, 1, .null, []), (106, .iload_n 2, 1, 0, 0, .null, []), (107, .iconst 1, 1, 0, 0, .int 1, []), (108, .isub, 1, 0, 0, .null, []), (109, .iaload, 1, 0, 0, .null, []), (110, .ifCond .ne 5, 3, 115, 0, .null, []), (113, .iconst 0, 1, 0, 0, .int 0, []), (114, .ireturn, 1, 0, 0, .null, []), (115, .iinc 2 (-2), 3, 0, 0, .int (-2), []), (118, .aload_n 0, 1, 0, 0, .null, []), (119, .getfield 13, 3, 3, 1, .null, []), (122, .iload_n 2, 1, 0, 0, .null, []), (123, .iaload, 1, 0, 0, .null, []), (124, .istore 5, 2, 0, 0, .null, []), (126, .aload_n 0, 1, 0, 0, .null, []), (127, .getfield 13, 3, 3, 1, .null, []), (130, .iload_n 2, 1, 0, 0, .null, []), (131, .iconst 1, 1, 0, 0, .int 1, []), (132, .iadd, 1, 0, 0, .null, []), (133, .iaload, 1, 0, 0, .null, []), (134, .istore 6, 2, 0, 0, .null, []), (136, .iload 4, 2, 0, 0, .null, []), (138, .bipush (-14), 2, 0, 0, .int (-14), []), (140, .if_icmp .ne 29, 3, 169, 0, .null, []), (143, .iload_n 3, 1, 0, 0, .null, []), (144, .iconst 1, 1, 0, 0, .int 1, []), (145, .iadd, 1, 0, 0, .null, []), (146, .iload 5, 2, 0, 0, .null, []), (148, .iload 6, 2, 0, 0, .null, []), (150, .if_icmp .ge 7, 3, 157, 0, .null, []), (153, .iconst 0, 1, 0, 0, .int 0, []), (154, .goto 8, 3, 162, 0, .null, []), (157, .aload_n 0, 1, 0, 0, .null, []), (158, .iload_n 3, 1, 0, 0, .null, []), (159, .invokevirtual 24, 3, 50, 2, .int 0, []), (162, .invokestatic 28, 3, 9996, 2, .int 0, []), (165, .istore_n 3, 1, 0, 0, .null, []), (166, .goto 21, 3, 187, 0, .null, []), (169, .aload_n 0, 1, 0, 0, .null, []), (170, .getfield 13, 3, 3, 1, .null, []), (173, .iload_n 2, 1, 0, 0, .null, []), (174, .iload 4, 2, 0, 0, .null, []), (176, .iload 5, 2, 0, 0, .null, []), (178, .iload 6, 2, 0, 0, .null, []), (180, .invokestatic 34, 3, 51, 3, .int 0, []), (183, .iastore, 1, 0, 0, .null, []), (184, .iinc 2 1, 3, 0, 0, .int 1, []), (187, .iinc 3 1, 3, 0, 0, .int 1, []), (190, .goto (-186), 3, 4, 0, .null, []), (193, .iconst 0, 1, 0, 0, .int 0, []), (194, .ireturn, 1, 0, 0, .null, [])]
def cd_La_goalOf : List (Nat × pE) := [(0, .iload_n 1, 1, 0, 0, .null, []), (1, .iconst 1, 1, 0, 0, .int 1, []), (2, .iadd, 1, 0, 0, .null, []), (3, .aload_n 0, 1, 0, 0, .null, []), (4, .getfield 16, 3, 3, 2, .int 0, []), (7, .if_icmp .ge 16, 3, 23, 0, .null, []), (10, .aload_n 0, 1, 0, 0, .null, []), (11, .getfield 7, 3, 3, 0, .null, []), (14, .iload_n 1, 1, 0, 0, .null, []), (15, .iconst 1, 1, 0, 0, .int 1, []), (16, .iadd, 1, 0, 0, .null, []), (17, .iaload, 1, 0, 0, .null, []), (18, .iconst 1, 1, 0, 0, .int 1, []), (19, .isub, 1, 0, 0, .null, []), (20, .goto 7, 3, 27, 0, .null, []), (23, .aload_n 0, 1, 0, 0, .null, []), (24, .getfield 16, 3, 3, 2, .int 0, []), (27, .ireturn, 1, 0, 0, .null, [])]
def cd_La_worked : List (Nat × pE) := [(0, .iload_n 0, 1, 0, 0, .null, []), (1, .tableswitch 39 (-12) (-10) #[35, 31, 27], 27, 40, 0, .null, [((-12), 36), ((-11), 32), ((-10), 28)]), (28, .iload_n 1, 1, 0, 0, .null, []), (29, .iload_n 2, 1, 0, 0, .null, []), (30, .iadd, 1, 0, 0, .null, []), (31, .ireturn, 1, 0, 0, .null, []), (32, .iload_n 1, 1, 0, 0, .null, []), (33, .iload_n 2, 1, 0, 0, .null, []), (34, .isub, 1, 0, 0, .null, []), (35, .ireturn, 1, 0, 0, .null, []), (36, .iload_n 1, 1, 0, 0, .null, []), (37, .iload_n 2, 1, 0, 0, .null, []), (38, .imul, 1, 0, 0, .null, []), (39, .ireturn, 1, 0, 0, .null, []), (40, .iload_n 2, 1, 0, 0, .null, []), (41, .ifCond .ne 7, 3, 48, 0, .null, []), (44, .iconst 0, 1, 0, 0, .int 0, []), (45, .goto 6, 3, 51, 0, .null, []), (48, .iload_n 1, 1, 0, 0, .null, []), (49, .iload_n 2, 1, 0, 0, .null, []), (50, .idiv, 1, 0, 0, .null, []), (51, .ireturn, 1, 0, 0, .null, [])]
def cd_Lo_init : List (Nat × pE) := [(0, .aload_n 0, 1, 0, 0, .null, []), (1, .invokespecial 3, 3, 9999, 1, .retAddr 0, []), (4, .aload_n 0, 1, 0, 0, .null, []), (5, .iconst 4, 1, 0, 0, .int 4, []), (6, .newarray .int, 2, 100, 0, .int 0, []), (8, .putfield 9, 3, 4, 0, .null, []), (11, .aload_n 0, 1, 0, 0, .null, []), (12, .iconst 4, 1, 0, 0, .int 4, []), (13, .newarray .int, 2, 100, 0, .int 0, []), (15, .putfield 15, 3, 4, 1, .null, []), (18, .aload_n 0, 1, 0, 0, .null, []), (19, .iconst 4, 1, 0, 0, .int 4, []), (20, .newarray .int, 2, 100, 0, .int 0, []), (22, .putfield 18, 3, 4, 2, .null, []), (25, .aload_n 0, 1, 0, 0, .null, []), (26, .iconst 5, 1, 0, 0, .int 5, []), (27, .newarray .int, 2, 100, 0, .int 0, []), (29, .putfield 21, 3, 4, 3, .null, []), (32, .aload_n 0, 1, 0, 0, .null, []), (33, .bipush 20, 2, 0, 0, .int 20, []), (35, .newarray .long, 2, 103, 0, .long 0, []), (37, .putfield 24, 3, 4, 4, .null, []), (40, .return_, 1, 0, 0, .null, [])]
def cd_Lo_find : List (Nat × pE) := [(0, .aload_n 0, 1, 0, 0, .null, []), (1, .aload_n 1, 1, 0, 0, .null, []), (2, .iload_n 2, 1, 0, 0, .null, []), (3, .invokevirtual 28, 3, 56, 3, .retAddr 0, []), (6, .aload_n 1, 1, 0, 0, .null, []), (7, .getfield 32, 3, 0, 3, .null, []), (10, .getfield 38, 3, 9, 1, .int 0, []), (13, .istore_n 3, 1, 0, 0, .null, []), (14, .iload_n 3, 1, 0, 0, .null, []), (15, .ifCond .ne 7, 3, 22, 0, .null, []), (18, .iconst 0, 1, 0, 0, .int 0, []), (19, .goto 4, 3, 23, 0, .null, []), (22, .iconst 1, 1, 0, 0, .int 1, []), (23, .istore 4, 2, 0, 0, .null, []), (25, .iconst 0, 1, 0, 0, .int 0, []), (26, .istore 5, 2, 0, 0, .null, []), (28, .iload 5, 2, 0, 0, .null, []), (30, .aload_n 0, 1, 0, 0, .null, []), (31, .getfield 44, 3, 4, 5, .int 0, []), (34, .if_icmp .ge 15, 3, 49, 0, .null, []), (37, .iload 4, 2, 0, 0, .null, []), (39, .iload_n 3, 1, 0, 0, .null, []), (40, .imul, 1, 0, 0, .null, []), (41, .istore 4, 2, 0, 0, .null, []), (43, .iinc 5 1, 3, 0, 0, .int 1, []), (46, .goto (-18), 3, 28, 0, .null, []), (49, .aload_n 0, 1, 0, 0, .null, []), (50, .ldc2_w 47, 3, 0, 0, .long (-1), []), (53, .putfield 49, 3, 4, 7, .long 0, []), (56, .iconst 0, 1, 0, 0, .int 0, []), (57, .istore 5, 2, 0, 0, .null, []), (59, .iload 5, 2, 0, 0, .null, []), (61, .iload 4, 2, 0, 0, .null, []), (63, .if_icmp .ge 82, 3, 145, 0, .null, []), (66, .aload_n 0, 1, 0, 0, .null, []), (67, .iload 5, 2, 0, 0, .null, []), (69, .iload_n 3, 1, 0, 0, .null, []), (70, .invokevirtual 53, 3, 57, 3, .retAddr 0, []), (73, .aload_n 0, 1, 0, 0, .null, []), (74, .iload_n 3, 1, 0, 0, .null, []), (75, .invokevirtual 57, 3, 58, 2, .int 0, []), (78, .ifCond .eq 10, 3, 88, 0, .null, []), (81, .aload_n 0, 1, 0, 0, .null, []), (82, .invokevirtual 61, 3, 59, 1, .long 0, []), (85, .goto 6, 3, 91, 0, .null, []), (88, .ldc2_w 47, 3, 0, 0, .long (-1), []), (91, .lstore 6, 2, 0, 0, .null, []), (93, .lload 6, 2, 0, 0, .null, []), (95, .lconst 0, 1, 0, 0, .long 0, []), (96, .lcmp, 1, 0, 0, .null, []), (97, .ifCond .lt 42, 3, 139, 0, .null, []), (100, .aload_n 0, 1, 0, 0, .null, []), (101, .getfield 49, 3, 4, 7, .long 0, []), (104, .lconst 0, 1, 0, 0, .long 0, []), (105, .lcmp, 1, 0, 0, .null, []), (106, .ifCond .lt 13, 3, 119, 0, .null, []), (109, .lload 6, 2, 0, 0, .null, []), (111, .aload_n 0, 1, 0, 0, .null, []), (112, .getfield 49, 3, 4, 7, .long 0, []), (115, .lcmp, 1, 0, 0, .null, []), (116, .ifCond .ge 23, 3, 139, 0, .null, []), (119, .aload_n 0, 1, 0, 0, .null, []), (120, .lload 6, 2, 0, 0, .null, []), (122, .putfield 49, 3, 4, 7, .long 0, []), (125, .aload_n 0, 1, 0, 0, .null, []), (126, .getfield 15, 3, 4, 1, .null, []), (129, .iconst 0, 1, 0, 0, .int 0, []), (130, .aload_n 0, 1, 0, 0, .null, []), (131, .getfield 18, 3, 4, 2, .null, []), (134, .iconst 0, 1, 0, 0, .int 0, []), (135, .iconst 4, 1, 0, 0, .int 4, []), (136, .invokestatic 65, 3, 9998, 5, .retAddr 0, []), (139, .iinc 5 1, 3, 0, 0, .int 1, []), (142, .goto (-83), 3, 59, 0, .null, []), (145, .aload_n 0, 1, 0, 0, .null, []), (146, .getfield 49, 3, 4, 7, .long 0, []), (149, .lconst 0, 1, 0, 0, .long 0, []), (150, .lcmp, 1, 0, 0, .null, []), (151, .ifCond .lt 7, 3, 158, 0, .null, []), (154, .iconst 1, 1, 0, 0, .int 1, []), (155, .goto 4, 3, 159, 0, .null, []), (158, .iconst 0, 1, 0, 0, .int 0, []), (159, .ireturn, 1, 1, 0, .null, [])]
def cd_Lo_sum : List (Nat × pE) := [(0, .aload_n 0, 1, 0, 0, .null, []), (1, .getfield 71, 3, 4, 6, .long 0, []), (4, .lconst 0, 1, 0, 0, .long 0, []), (5, .lcmp, 1, 0, 0, .null, []), (6, .ifCond .le 16, 3, 22, 0, .null, []), (9, .aload_n 0, 1, 0, 0, .null, []), (10, .getfield 49, 3, 4, 7, .long 0, []), (13, .aload_n 0, 1, 0, 0, .null, []), (14, .getfield 71, 3, 4, 6, .long 0, []), (17, .ldiv, 1, 0, 0, .null, []), (18, .l2i, 1, 0, 0, .null, []), (19, .goto 4, 3, 23, 0, .null, []), (22, .iconst (-1), 1, 0, 0, .int (-1), []), (23, .ireturn, 1, 0, 0, .null, [])]
def cd_Lo_innOf : List (Nat × pE) := [(0, .iload_n 1, 1, 0, 0, .null, []), (1, .ifCond .lt 20, 3, 21, 0, .null, []), (4, .iload_n 1, 1, 0, 0, .null, []), (5, .aload_n 0, 1, 0, 0, .null, []), (6, .getfield 44, 3, 4, 5, .int 0, []), (9, .if_icmp .ge 12, 3, 21, 0, .null, []), (12, .aload_n 0, 1, 0, 0, .null, []), (13, .getfield 18, 3, 4, 2, .null, []), (16, .iload_n 1, 1, 0, 0, .null, []), (17, .iaload, 1, 0, 0, .null, []), (18, .goto 4, 3, 22, 0, .null, []), (21, .iconst (-1), 1, 0, 0, .int (-1), []), (22, .ireturn, 1, 0, 0, .null, [])]
def cd_Lo_prepare : List (Nat × pE) := [(0, .aload_n 1, 1, 0, 0, .null, []), (1, .getfield 32, 3, 0, 3, .null, []), (4, .astore_n 3, 1, 0, 0, .null, []), (5, .aload_n 0, 1, 0, 0, .null, []), (6, .iconst 0, 1, 0, 0, .int 0, []), (7, .putfield 44, 3, 4, 5, .int 0, []), (10, .iconst 0, 1, 0, 0, .int 0, []), (11, .istore 4, 2, 0, 0, .null, []), (13, .iload 4, 2, 0, 0, .null, []), (15, .aload_n 3, 1, 0, 0, .null, []), (16, .getfield 74, 3, 9, 2, .int 0, []), (19, .if_icmp .ge 48, 3, 67, 0, .null, []), (22, .iload_n 2, 1, 0, 0, .null, []), (23, .iload 4, 2, 0, 0, .null, []), (25, .ishr, 1, 0, 0, .null, []), (26, .iconst 1, 1, 0, 0, .int 1, []), (27, .iand, 1, 0, 0, .null, []), (28, .iconst 1, 1, 0, 0, .int 1, []), (29, .if_icmp .ne 32, 3, 61, 0, .null, []), (32, .aload_n 0, 1, 0, 0, .null, []), (33, .getfield 44, 3, 4, 5, .int 0, []), (36, .iconst 4, 1, 0, 0, .int 4, []), (37, .if_icmp .ge 24, 3, 61, 0, .null, []), (40, .aload_n 0, 1, 0, 0, .null, []), (41, .getfield 9, 3, 4, 0, .null, []), (44, .aload_n 0, 1, 0, 0, .null, []), (45, .getfield 44, 3, 4, 5, .int 0, []), (48, .iload 4, 2, 0, 0, .null, []), (50, .iastore, 1, 0, 0, .null, []), (51, .aload_n 0, 1, 0, 0, .null, []), (52, .dup, 1, 0, 0, .null, []), (53, .getfield 44, 3, 4, 5, .int 0, []), (56, .iconst 1, 1, 0, 0, .int 1, []), (57, .iadd, 1, 0, 0, .null, []), (58, .putfield 44, 3, 4, 5, .int 0, []), (61, .iinc 4 1, 3, 0, 0, .int 1, []), (64, .goto (-51), 3, 13, 0, .null, []), (67, .aload_n 0, 1, 0, 0, .null, []), (68, .lconst 1, 1, 0, 0, .long 1, []), (69, .putfield 71, 3, 4, 6, .long 0, []), (72, .iconst 0, 1, 0, 0, .int 0, []), (73, .istore 4, 2, 0, 0, .null, []), (75, .iload 4, 2, 0, 0, .null, []), (77, .aload_n 3, 1, 0, 0, .null, []), (78, .getfield 38, 3, 9, 1, .int 0, []), (81, .if_icmp .ge 73, 3, 154, 0, .null, []), (84, .aload_n 0, 1, 0, 0, .null, []), (85, .getfield 21, 3, 4, 3, .null, []), (88, .iload 4, 2, 0, 0, .null, []), (90, .aload_n 3, 1, 0, 0, .null, []), (91, .getfield 77, 3, 9, 8, .null, []), (94, .iload 4, 2, 0, 0, .null, []), (96, .iaload, 1, 0, 0, .null, []), (97, .aload_n 1, 1, 0, 0, .null, []), (98, .iload 4, 2, 0, 0, .null, []), (100, .invokevirtual 80, 3, 3, 2, .int 0, []), (103, .iload_n 2, 1, 0, 0, .null, []), (104, .iconst (-1), 1, 0, 0, .int (-1), []), (105, .ixor, 1, 0, 0, .null, []), (106, .iand, 1, 0, 0, .null, []), (107, .invokestatic 84, 3, 270, 1, .int 0, []), (110, .isub, 1, 0, 0, .null, []), (111, .iastore, 1, 0, 0, .null, []), (112, .iconst 1, 1, 0, 0, .int 1, []), (113, .aload_n 3, 1, 0, 0, .null, []), (114, .getfield 89, 3, 9, 11, .null, []), (117, .iload 4, 2, 0, 0, .null, []), (119, .iaload, 1, 0, 0, .null, []), (120, .invokestatic 92, 3, 9996, 2, .int 0, []), (123, .istore 5, 2, 0, 0, .null, []), (125, .aload_n 0, 1, 0, 0, .null, []), (126, .aload_n 0, 1, 0, 0, .null, []), (127, .getfield 71, 3, 4, 6, .long 0, []), (130, .aload_n 0, 1, 0, 0, .null, []), (131, .getfield 71, 3, 4, 6, .long 0, []), (134, .iload 5, 2, 0, 0, .null, []), (136, .i2l, 1, 0, 0, .null, []), (137, .invokestatic 98, 3, 158, 2, .long 0, []), (140, .ldiv, 1, 0, 0, .null, []), (141, .iload 5, 2, 0, 0, .null, []), (143, .i2l, 1, 0, 0, .null, []), (144, .lmul, 1, 0, 0, .null, []), (145, .putfield 71, 3, 4, 6, .long 0, []), (148, .iinc 4 1, 3, 0, 0, .int 1, []), (151, .goto (-76), 3, 75, 0, .null, []), (154, .iconst 0, 1, 0, 0, .int 0, []), (155, .istore 4, 2, 0, 0, .null, []), (157, .iload 4, 2, 0, 0, .null, []), (159, .aload_n 0, 1, 0, 0, .null, []), (160, .getfield 44, 3, 4, 5, .int 0, []), (163, .if_icmp .ge 89, 3, 252, 0, .null, []), (166, .iconst 0, 1, 0, 0, .int 0, []), (167, .istore 5, 2, 0, 0, .null, []), (169, .iload 5, 2, 0, 0, .null, []), (171, .aload_n 3, 1, 0, 0, .null, []), (172, .getfield 38, 3, 9, 1, .int 0, []), (175, .if_icmp .ge 71, 3, 246, 0, .null, []), (178, .aload_n 0, 1, 0, 0, .null, []), (179, .getfield 71, 3, 4, 6, .long 0, []), (182, .iconst 1, 1, 0, 0, .int 1, []), (183, .aload_n 3, 1, 0, 0, .null, []), (184, .getfield 89, 3, 9, 11, .null, []), (187, .iload 5, 2, 0, 0, .null, []), (189, .iaload, 1, 0, 0, .null, []), (190, .invokestatic 92, 3, 9996, 2, .int 0, []), (193, .i2l, 1, 0, 0, .null, []), (194, .ldiv, 1, 0, 0, .null, []), (195, .lstore 6, 2, 0, 0, .null, []), (197, .aload_n 0, 1, 0, 0, .null, []), (198, .getfield 24, 3, 4, 4, .null, []), (201, .iload 4, 2, 0, 0, .null, []), (203, .iconst 5, 1, 0, 0, .int 5, []), (204, .imul, 1, 0, 0, .null, []), (205, .iload 5, 2, 0, 0, .null, []), (207, .iadd, 1, 0, 0, .null, []), (208, .aload_n 3, 1, 0, 0, .null, []), (209, .getfield 102, 3, 9, 7, .null, []), (212, .iload 5, 2, 0, 0, .null, []), (214, .iaload, 1, 0, 0, .null, []), (215, .i2l, 1, 0, 0, .null, []), (216, .aload_n 0, 1, 0, 0, .null, []), (217, .getfield 71, 3, 4, 6, .long 0, []), (220, .lmul, 1, 0, 0, .null, []), (221, .aload_n 1, 1, 0, 0, .null, []), (222, .aload_n 0, 1, 0, 0, .null, []), (223, .getfield 9, 3, 4, 0, .null, []), (226, .iload 4, 2, 0, 0, .null, []), (228, .iaload, 1, 0, 0, .null, []), (229, .iload 5, 2, 0, 0, .null, []), (231, .invokevirtual 105, 3, 20, 3, .int 0, []), (234, .i2l, 1, 0, 0, .null, []), (235, .lload 6, 2, 0, 0, .null, []), (237, .lmul, 1, 0, 0, .null, []), (238, .ladd, 1, 0, 0, .null, []), (239, .lastore, 1, 0, 0, .null, []), (240, .iinc 5 1, 3, 0, 0, .int 1, []), (243, .goto (-74), 3, 169, 0, .null, []), (246, .iinc 4 1, 3, 0, 0, .int 1, []), (249, .goto (-92), 3, 157, 0, .null, []), (252, .return_, 1, 0, 0, .null, [])]
def cd_Lo_spread : List (Nat × pE) := [(0, .iload_n 1, 1, 0, 0, .null, []), (1, .istore_n 3, 1, 0, 0, .null, []), (2, .aload_n 0, 1, 0, 0, .null, []), (3, .getfield 44, 3, 4, 5, .int 0, []), (6, .iconst 1, 1, 0, 0, .int 1, []), (7, .isub, 1, 0, 0, .null, []), (8, .istore 4, 2, 0, 0, .null, []), (10, .iload 4, 2, 0, 0, .null, []), (12, .ifCond .lt 27, 3, 39, 0, .null, []), (15, .iload_n 2, 1, 0, 0, .null, []), (16, .ifCond .le 23, 3, 39, 0, .null, []), (19, .aload_n 0, 1, 0, 0, .null, []), (20, .getfield 15, 3, 4, 1, .null, []), (23, .iload 4, 2, 0, 0, .null, []), (25, .iload_n 3, 1, 0, 0, .null, []), (26, .iload_n 2, 1, 0, 0, .null, []), (27, .irem, 1, 0, 0, .null, []), (28, .iastore, 1, 0, 0, .null, []), (29, .iload_n 3, 1, 0, 0, .null, []), (30, .iload_n 2, 1, 0, 0, .null, []), (31, .idiv, 1, 0, 0, .null, []), (32, .istore_n 3, 1, 0, 0, .null, []), (33, .iinc 4 (-1), 3, 0, 0, .int (-1), []), (36, .goto (-26), 3, 10, 0, .null, []), (39, .return_, 1, 0, 0, .null, [])]
def cd_Lo_fits : List (Nat × pE) := [(0, .iconst 0, 1, 0, 0, .int 0, []), (1, .istore_n 2, 1, 0, 0, .null, []), (2, .iload_n 2, 1, 0, 0, .null, []), (3, .iload_n 1, 1, 0, 0, .null, []), (4, .if_icmp .ge 64, 3, 68, 0, .null, []), (7, .iconst 0, 1, 0, 0, .int 0, []), (8, .istore_n 3, 1, 0, 0, .null, []), (9, .iconst 0, 1, 0, 0, .int 0, []), (10, .istore 4, 2, 0, 0, .null, []), (12, .iload 4, 2, 0, 0, .null, []), (14, .aload_n 0, 1, 0, 0, .null, []), (15, .getfield 44, 3, 4, 5, .int 0, []), (18, .if_icmp .ge 28, 3, 46, 0, .null, []), (21, .iload_n 3, 1, 0, 0, .null, []), (22, .aload_n 0, 1, 0, 0, .null, []), (23, .getfield 15, 3, 4, 1, .null, []), (26, .iload 4, 2, 0, 0, .null, []), (28, .iaload, 1, 0, 0, .null, []), (29, .iload_n 2, 1, 0, 0, .null, []), (30, .if_icmp .ne 7, 3, 37, 0, .null, []), (33, .iconst 1, 1, 0, 0, .int 1, []), (34, .goto 4, 3, 38, 0, .null, []), (37, .iconst 0, 1, 0, 0, .int 0, []), (38, .iadd, 1, 0, 0, .null, []), (39, .istore_n 3, 1, 0, 0, .null, []), (40, .iinc 4 1, 3, 0, 0, .int 1, []), (43, .goto (-31), 3, 12, 0, .null, []), (46, .iload_n 3, 1, 0, 0, .null, []), (47, .ifCond .le 15, 3, 62, 0, .null, []), (50, .iload_n 3, 1, 0, 0, .null, []), (51, .aload_n 0, 1, 0, 0, .null, []), (52, .getfield 21, 3, 4, 3, .null, []), (55, .iload_n 2, 1, 0, 0, .null, []), (56, .iaload, 1, 0, 0, .null, []), (57, .if_icmp .le 5, 3, 62, 0, .null, []), (60, .iconst 0, 1, 0, 0, .int 0, []), (61, .ireturn, 1, 1, 0, .null, []), (62, .iinc 2 1, 3, 0, 0, .int 1, []), (65, .goto (-63), 3, 2, 0, .null, []), (68, .iconst 1, 1, 0, 0, .int 1, []), (69, .ireturn, 1, 1, 0, .null, [])]
def cd_Lo_sumOf : List (Nat × pE) := [(0, .lconst 0, 1, 0, 0, .long 0, []), (1, .lstore_n 1, 1, 0, 0, .null, []), (2, .iconst 0, 1, 0, 0, .int 0, []), (3, .istore_n 3, 1, 0, 0, .null, []), (4, .iload_n 3, 1, 0, 0, .null, []), (5, .aload_n 0, 1, 0, 0, .null, []), (6, .getfield 44, 3, 4, 5, .int 0, []), (9, .if_icmp .ge 27, 3, 36, 0, .null, []), (12, .lload_n 1, 1, 0, 0, .null, []), (13, .aload_n 0, 1, 0, 0, .null, []), (14, .getfield 24, 3, 4, 4, .null, []), (17, .iload_n 3, 1, 0, 0, .null, []), (18, .iconst 5, 1, 0, 0, .int 5, []), (19, .imul, 1, 0, 0, .null, []), (20, .aload_n 0, 1, 0, 0, .null, []), (21, .getfield 15, 3, 4, 1, .null, []), (24, .iload_n 3, 1, 0, 0, .null, []), (25, .iaload, 1, 0, 0, .null, []), (26, .iadd, 1, 0, 0, .null, []), (27, .laload, 1, 0, 0, .null, []), (28, .ladd, 1, 0, 0, .null, []), (29, .lstore_n 1, 1, 0, 0, .null, []), (30, .iinc 3 1, 3, 0, 0, .int 1, []), (33, .goto (-29), 3, 4, 0, .null, []), (36, .lload_n 1, 1, 0, 0, .null, []), (37, .lreturn, 1, 0, 0, .null, [])]
def cd_Pa_init : List (Nat × pE) := [(0, .aload_n 0, 1, 0, 0, .null, []), (1, .invokespecial 3, 3, 9999, 1, .retAddr 0, []), (4, .return_, 1, 0, 0, .null, [])]
def cd_Pa_find : List (Nat × pE) := [(0, .aload_n 0, 1, 0, 0, .null, []), (1, .aload_n 1, 1, 0, 0, .null, []), (2, .invokevirtual 9, 3, 17, 1, .int 0, []), (5, .putfield 15, 3, 5, 0, .int 0, []), (8, .aload_n 0, 1, 0, 0, .null, []), (9, .iconst 0, 1, 0, 0, .int 0, []), (10, .putfield 21, 3, 5, 1, .int 0, []), (13, .aload_n 0, 1, 0, 0, .null, []), (14, .bipush (-2), 2, 0, 0, .int (-2), []), (16, .putfield 24, 3, 5, 2, .int 0, []), (19, .aload_n 0, 1, 0, 0, .null, []), (20, .aload_n 1, 1, 0, 0, .null, []), (21, .aload_n 1, 1, 0, 0, .null, []), (22, .invokevirtual 27, 3, 5, 1, .int 0, []), (25, .iconst 0, 1, 0, 0, .int 0, []), (26, .bipush (-2), 2, 0, 0, .int (-2), []), (28, .iconst 0, 1, 0, 0, .int 0, []), (29, .invokevirtual 30, 3, 62, 6, .retAddr 0, []), (32, .return_, 1, 0, 0, .null, [])]
def cd_Pa_pair : List (Nat × pE) := [(0, .iload 5, 2, 0, 0, .null, []), (2, .aload_n 1, 1, 0, 0, .null, []), (3, .getfield 34, 3, 0, 3, .null, []), (6, .getfield 38, 3, 9, 2, .int 0, []), (9, .if_icmp .ge 10, 3, 19, 0, .null, []), (12, .iload 5, 2, 0, 0, .null, []), (14, .bipush 6, 2, 0, 0, .int 6, []), (16, .if_icmp .lt 15, 3, 31, 0, .null, []), (19, .aload_n 0, 1, 0, 0, .null, []), (20, .aload_n 1, 1, 0, 0, .null, []), (21, .invokevirtual 9, 3, 17, 1, .int 0, []), (24, .iload_n 3, 1, 0, 0, .null, []), (25, .iload 4, 2, 0, 0, .null, []), (27, .invokevirtual 43, 3, 63, 4, .retAddr 0, []), (30, .return_, 1, 0, 0, .null, []), (31, .iload_n 2, 1, 0, 0, .null, []), (32, .iload 5, 2, 0, 0, .null, []), (34, .ishr, 1, 0, 0, .null, []), (35, .iconst 1, 1, 0, 0, .int 1, []), (36, .iand, 1, 0, 0, .null, []), (37, .iconst 1, 1, 0, 0, .int 1, []), (38, .if_icmp .ne 101, 3, 139, 0, .null, []), (41, .iload 5, 2, 0, 0, .null, []), (43, .iconst 1, 1, 0, 0, .int 1, []), (44, .iadd, 1, 0, 0, .null, []), (45, .istore 6, 2, 0, 0, .null, []), (47, .iload 6, 2, 0, 0, .null, []), (49, .aload_n 1, 1, 0, 0, .null, []), (50, .getfield 34, 3, 0, 3, .null, []), (53, .getfield 38, 3, 9, 2, .int 0, []), (56, .if_icmp .ge 83, 3, 139, 0, .null, []), (59, .iload_n 2, 1, 0, 0, .null, []), (60, .iload 6, 2, 0, 0, .null, []), (62, .ishr, 1, 0, 0, .null, []), (63, .iconst 1, 1, 0, 0, .int 1, []), (64, .iand, 1, 0, 0, .null, []), (65, .iconst 1, 1, 0, 0, .int 1, []), (66, .if_icmp .ne 67, 3, 133, 0, .null, []), (69, .aload_n 1, 1, 0, 0, .null, []), (70, .getfield 47, 3, 0, 0, .null, []), (73, .iload 5, 2, 0, 0, .null, []), (75, .iload 6, 2, 0, 0, .null, []), (77, .invokevirtual 51, 3, 70, 3, .retAddr 0, []), (80, .aload_n 0, 1, 0, 0, .null, []), (81, .aload_n 1, 1, 0, 0, .null, []), (82, .iload_n 2, 1, 0, 0, .null, []), (83, .iconst 1, 1, 0, 0, .int 1, []), (84, .iload 5, 2, 0, 0, .null, []), (86, .ishl, 1, 0, 0, .null, []), (87, .iconst 1, 1, 0, 0, .int 1, []), (88, .iload 6, 2, 0, 0, .null, []), (90, .ishl, 1, 0, 0, .null, []), (91, .ior, 1, 0, 0, .null, []), (92, .iconst (-1), 1, 0, 0, .int (-1), []), (93, .ixor, 1, 0, 0, .null, []), (94, .iand, 1, 0, 0, .null, []), (95, .iload_n 3, 1, 0, 0, .null, []), (96, .iconst 1, 1, 0, 0, .int 1, []), (97, .iadd, 1, 0, 0, .null, []), (98, .iload_n 3, 1, 0, 0, .null, []), (99, .ifCond .ne 14, 3, 113, 0, .null, []), (102, .bipush 10, 2, 0, 0, .int 10, []), (104, .iload 5, 2, 0, 0, .null, []), (106, .imul, 1, 0, 0, .null, []), (107, .iload 6, 2, 0, 0, .null, []), (109, .iadd, 1, 0, 0, .null, []), (110, .goto 5, 3, 115, 0, .null, []), (113, .iload 4, 2, 0, 0, .null, []), (115, .iload 5, 2, 0, 0, .null, []), (117, .iconst 1, 1, 0, 0, .int 1, []), (118, .iadd, 1, 0, 0, .null, []), (119, .invokevirtual 30, 3, 62, 6, .retAddr 0, []), (122, .aload_n 1, 1, 0, 0, .null, []), (123, .getfield 47, 3, 0, 0, .null, []), (126, .iload 5, 2, 0, 0, .null, []), (128, .iload 6, 2, 0, 0, .null, []), (130, .invokevirtual 51, 3, 70, 3, .retAddr 0, []), (133, .iinc 6 1, 3, 0, 0, .int 1, []), (136, .goto (-89), 3, 47, 0, .null, []), (139, .aload_n 0, 1, 0, 0, .null, []), (140, .aload_n 1, 1, 0, 0, .null, []), (141, .iload_n 2, 1, 0, 0, .null, []), (142, .iload_n 3, 1, 0, 0, .null, []), (143, .iload 4, 2, 0, 0, .null, []), (145, .iload 5, 2, 0, 0, .null, []), (147, .iconst 1, 1, 0, 0, .int 1, []), (148, .iadd, 1, 0, 0, .null, []), (149, .invokevirtual 30, 3, 62, 6, .retAddr 0, []), (152, .return_, 1, 0, 0, .null, [])]
def cd_Pa_keepIfBetter : List (Nat × pE) := [(0, .iload_n 1, 1, 0, 0, .null, []), (1, .aload_n 0, 1, 0, 0, .null, []), (2, .getfield 15, 3, 5, 0, .int 0, []), (5, .if_icmp .lt 19, 3, 24, 0, .null, []), (8, .iload_n 1, 1, 0, 0, .null, []), (9, .aload_n 0, 1, 0, 0, .null, []), (10, .getfield 15, 3, 5, 0, .int 0, []), (13, .if_icmp .ne 26, 3, 39, 0, .null, []), (16, .iload_n 2, 1, 0, 0, .null, []), (17, .aload_n 0, 1, 0, 0, .null, []), (18, .getfield 21, 3, 5, 1, .int 0, []), (21, .if_icmp .ge 18, 3, 39, 0, .null, []), (24, .aload_n 0, 1, 0, 0, .null, []), (25, .iload_n 1, 1, 0, 0, .null, []), (26, .putfield 15, 3, 5, 0, .int 0, []), (29, .aload_n 0, 1, 0, 0, .null, []), (30, .iload_n 2, 1, 0, 0, .null, []), (31, .putfield 21, 3, 5, 1, .int 0, []), (34, .aload_n 0, 1, 0, 0, .null, []), (35, .iload_n 3, 1, 0, 0, .null, []), (36, .putfield 24, 3, 5, 2, .int 0, []), (39, .return_, 1, 0, 0, .null, [])]
def cd_Re_init : List (Nat × pE) := [(0, .aload_n 0, 1, 0, 0, .null, []), (1, .invokespecial 3, 3, 9999, 1, .retAddr 0, []), (4, .aload_n 0, 1, 0, 0, .null, []), (5, .bipush 6, 2, 0, 0, .int 6, []), (7, .newarray .int, 2, 100, 0, .int 0, []), (9, .putfield 9, 3, 6, 0, .null, []), (12, .aload_n 0, 1, 0, 0, .null, []), (13, .bipush 6, 2, 0, 0, .int 6, []), (15, .newarray .int, 2, 100, 0, .int 0, []), (17, .putfield 15, 3, 6, 1, .null, []), (20, .return_, 1, 0, 0, .null, [])]
def cd_Re_weigh : List (Nat × pE) := [(0, .aload_n 0, 1, 0, 0, .null, []), (1, .aload_n 1, 1, 0, 0, .null, []), (2, .invokevirtual 18, 3, 5, 1, .int 0, []), (5, .putfield 24, 3, 6, 2, .int 0, []), (8, .aload_n 1, 1, 0, 0, .null, []), (9, .invokevirtual 27, 3, 17, 1, .int 0, []), (12, .pop, 1, 0, 0, .null, []), (13, .iconst 0, 1, 0, 0, .int 0, []), (14, .istore_n 2, 1, 0, 0, .null, []), (15, .iload_n 2, 1, 0, 0, .null, []), (16, .aload_n 1, 1, 0, 0, .null, []), (17, .getfield 30, 3, 0, 3, .null, []), (20, .getfield 34, 3, 9, 2, .int 0, []), (23, .if_icmp .ge 62, 3, 85, 0, .null, []), (26, .aload_n 0, 1, 0, 0, .null, []), (27, .getfield 24, 3, 6, 2, .int 0, []), (30, .iload_n 2, 1, 0, 0, .null, []), (31, .ishr, 1, 0, 0, .null, []), (32, .iconst 1, 1, 0, 0, .int 1, []), (33, .iand, 1, 0, 0, .null, []), (34, .iconst 1, 1, 0, 0, .int 1, []), (35, .if_icmp .ne 44, 3, 79, 0, .null, []), (38, .aload_n 0, 1, 0, 0, .null, []), (39, .getfield 9, 3, 6, 0, .null, []), (42, .iload_n 2, 1, 0, 0, .null, []), (43, .aload_n 1, 1, 0, 0, .null, []), (44, .getfield 39, 3, 0, 1, .null, []), (47, .iload_n 2, 1, 0, 0, .null, []), (48, .iaload, 1, 0, 0, .null, []), (49, .bipush 100, 2, 0, 0, .int 100, []), (51, .imul, 1, 0, 0, .null, []), (52, .iastore, 1, 0, 0, .null, []), (53, .aload_n 0, 1, 0, 0, .null, []), (54, .getfield 15, 3, 6, 1, .null, []), (57, .iload_n 2, 1, 0, 0, .null, []), (58, .aload_n 1, 1, 0, 0, .null, []), (59, .getfield 30, 3, 0, 3, .null, []), (62, .getfield 42, 3, 9, 4, .int 0, []), (65, .aload_n 1, 1, 0, 0, .null, []), (66, .getfield 39, 3, 0, 1, .null, []), (69, .iload_n 2, 1, 0, 0, .null, []), (70, .iaload, 1, 0, 0, .null, []), (71, .imul, 1, 0, 0, .null, []), (72, .aload_n 1, 1, 0, 0, .null, []), (73, .iload_n 2, 1, 0, 0, .null, []), (74, .invokevirtual 45, 3, 14, 2, .int 0, []), (77, .imul, 1, 0, 0, .null, []), (78, .iastore, 1, 0, 0, .null, []), (79, .iinc 2 1, 3, 0, 0, .int 1, []), (82, .goto (-67), 3, 15, 0, .null, []), (85, .return_, 1, 0, 0, .null, [])]
def cd_Re_holds : List (Nat × pE) := [(0, .iload_n 1, 1, 0, 0, .null, []), (1, .aload_n 0, 1, 0, 0, .null, []), (2, .getfield 24, 3, 6, 2, .int 0, []), (5, .iconst (-1), 1, 0, 0, .int (-1), []), (6, .ixor, 1, 0, 0, .null, []), (7, .iand, 1, 0, 0, .null, []), (8, .ifCond .eq 5, 3, 13, 0, .null, []), (11, .iconst 0, 1, 0, 0, .int 0, []), (12, .ireturn, 1, 1, 0, .null, []), (13, .iconst 0, 1, 0, 0, .int 0, []), (14, .istore_n 2, 1, 0, 0, .null, []), (15, .iload_n 2, 1, 0, 0, .null, []), (16, .bipush 6, 2, 0, 0, .int 6, []), (18, .if_icmp .ge 88, 3, 106, 0, .null, []), (21, .aload_n 0, 1, 0, 0, .null, []), (22, .getfield 24, 3, 6, 2, .int 0, []), (25, .iload_n 2, 1, 0, 0, .null, []), (26, .ishr, 1, 0, 0, .null, []), (27, .iconst 1, 1, 0, 0, .int 1, []), (28, .iand, 1, 0, 0, .null, []), (29, .iconst 1, 1, 0, 0, .int 1, []), (30, .if_icmp .ne 70, 3, 100, 0, .null, []), (33, .aload_n 0, 1, 0, 0, .null, []), (34, .getfield 15, 3, 6, 1, .null, []), (37, .iload_n 2, 1, 0, 0, .null, []), (38, .iaload, 1, 0, 0, .null, []), (39, .bipush 100, 2, 0, 0, .int 100, []), (41, .iload_n 1, 1, 0, 0, .null, []), (42, .iconst 1, 1, 0, 0, .int 1, []), (43, .iload_n 2, 1, 0, 0, .null, []), (44, .ishl, 1, 0, 0, .null, []), (45, .iconst (-1), 1, 0, 0, .int (-1), []), (46, .ixor, 1, 0, 0, .null, []), (47, .iand, 1, 0, 0, .null, []), (48, .invokestatic 49, 3, 270, 1, .int 0, []), (51, .imul, 1, 0, 0, .null, []), (52, .iadd, 1, 0, 0, .null, []), (53, .istore_n 3, 1, 0, 0, .null, []), (54, .iload_n 1, 1, 0, 0, .null, []), (55, .iload_n 2, 1, 0, 0, .null, []), (56, .ishr, 1, 0, 0, .null, []), (57, .iconst 1, 1, 0, 0, .int 1, []), (58, .iand, 1, 0, 0, .null, []), (59, .iconst 1, 1, 0, 0, .int 1, []), (60, .if_icmp .ne 7, 3, 67, 0, .null, []), (63, .iconst 1, 1, 0, 0, .int 1, []), (64, .goto 4, 3, 68, 0, .null, []), (67, .iconst 0, 1, 0, 0, .int 0, []), (68, .istore 4, 2, 0, 0, .null, []), (70, .iload 4, 2, 0, 0, .null, []), (72, .ifCond .eq 16, 3, 88, 0, .null, []), (75, .aload_n 0, 1, 0, 0, .null, []), (76, .getfield 9, 3, 6, 0, .null, []), (79, .iload_n 2, 1, 0, 0, .null, []), (80, .iaload, 1, 0, 0, .null, []), (81, .iload_n 3, 1, 0, 0, .null, []), (82, .if_icmp .ge 18, 3, 100, 0, .null, []), (85, .goto 13, 3, 98, 0, .null, []), (88, .iload_n 3, 1, 0, 0, .null, []), (89, .aload_n 0, 1, 0, 0, .null, []), (90, .getfield 9, 3, 6, 0, .null, []), (93, .iload_n 2, 1, 0, 0, .null, []), (94, .iaload, 1, 0, 0, .null, []), (95, .if_icmp .ge 5, 3, 100, 0, .null, []), (98, .iconst 0, 1, 0, 0, .int 0, []), (99, .ireturn, 1, 1, 0, .null, []), (100, .iinc 2 1, 3, 0, 0, .int 1, []), (103, .goto (-88), 3, 15, 0, .null, []), (106, .iconst 1, 1, 0, 0, .int 1, []), (107, .ireturn, 1, 1, 0, .null, [])]
def cd_St_init : List (Nat × pE) := [(0, .aload_n 0, 1, 0, 0, .null, []), (1, .invokespecial 3, 3, 9999, 1, .retAddr 0, []), (4, .aload_n 0, 1, 0, 0, .null, []), (5, .bipush 6, 2, 0, 0, .int 6, []), (7, .newarray .int, 2, 100, 0, .int 0, []), (9, .putfield 9, 3, 7, 3, .null, []), (12, .aload_n 0, 1, 0, 0, .null, []), (13, .bipush 6, 2, 0, 0, .int 6, []), (15, .newarray .int, 2, 100, 0, .int 0, []), (17, .putfield 15, 3, 7, 4, .null, []), (20, .aload_n 0, 1, 0, 0, .null, []), (21, .bipush 6, 2, 0, 0, .int 6, []), (23, .newarray .int, 2, 100, 0, .int 0, []), (25, .putfield 18, 3, 7, 5, .null, []), (28, .aload_n 0, 1, 0, 0, .null, []), (29, .bipush 30, 2, 0, 0, .int 30, []), (31, .newarray .int, 2, 100, 0, .int 0, []), (33, .putfield 21, 3, 7, 6, .null, []), (36, .aload_n 0, 1, 0, 0, .null, []), (37, .bipush 6, 2, 0, 0, .int 6, []), (39, .newarray .int, 2, 100, 0, .int 0, []), (41, .putfield 24, 3, 7, 7, .null, []), (44, .aload_n 0, 1, 0, 0, .null, []), (45, .bipush 6, 2, 0, 0, .int 6, []), (47, .newarray .int, 2, 100, 0, .int 0, []), (49, .putfield 27, 3, 7, 8, .null, []), (52, .aload_n 0, 1, 0, 0, .null, []), (53, .bipush 6, 2, 0, 0, .int 6, []), (55, .newarray .int, 2, 100, 0, .int 0, []), (57, .putfield 30, 3, 7, 9, .null, []), (60, .aload_n 0, 1, 0, 0, .null, []), (61, .iconst 5, 1, 0, 0, .int 5, []), (62, .newarray .int, 2, 100, 0, .int 0, []), (64, .putfield 33, 3, 7, 10, .null, []), (67, .aload_n 0, 1, 0, 0, .null, []), (68, .iconst 5, 1, 0, 0, .int 5, []), (69, .newarray .int, 2, 100, 0, .int 0, []), (71, .putfield 36, 3, 7, 11, .null, []), (74, .return_, 1, 0, 0, .null, [])]
def cd_St_begin : List (Nat × pE) := [(0, .aload_n 0, 1, 0, 0, .null, []), (1, .iconst 0, 1, 0, 0, .int 0, []), (2, .putfield 39, 3, 7, 0, .int 0, []), (5, .aload_n 0, 1, 0, 0, .null, []), (6, .iconst 0, 1, 0, 0, .int 0, []), (7, .putfield 43, 3, 7, 1, .int 0, []), (10, .aload_n 0, 1, 0, 0, .null, []), (11, .iconst 0, 1, 0, 0, .int 0, []), (12, .putfield 46, 3, 7, 2, .int 0, []), (15, .iconst 0, 1, 0, 0, .int 0, []), (16, .istore_n 2, 1, 0, 0, .null, []), (17, .iload_n 2, 1, 0, 0, .null, []), (18, .aload_n 1, 1, 0, 0, .null, []), (19, .getfield 49, 3, 9, 2, .int 0, []), (22, .if_icmp .ge 21, 3, 43, 0, .null, []), (25, .aload_n 0, 1, 0, 0, .null, []), (26, .getfield 9, 3, 7, 3, .null, []), (29, .iload_n 2, 1, 0, 0, .null, []), (30, .aload_n 1, 1, 0, 0, .null, []), (31, .getfield 54, 3, 9, 12, .null, []), (34, .iload_n 2, 1, 0, 0, .null, []), (35, .iaload, 1, 0, 0, .null, []), (36, .iastore, 1, 0, 0, .null, []), (37, .iinc 2 1, 3, 0, 0, .int 1, []), (40, .goto (-23), 3, 17, 0, .null, []), (43, .aload_n 0, 1, 0, 0, .null, []), (44, .getfield 15, 3, 7, 4, .null, []), (47, .bipush (-2), 2, 0, 0, .int (-2), []), (49, .invokestatic 55, 3, 271, 2, .retAddr 0, []), (52, .aload_n 0, 1, 0, 0, .null, []), (53, .getfield 18, 3, 7, 5, .null, []), (56, .bipush (-2), 2, 0, 0, .int (-2), []), (58, .invokestatic 55, 3, 271, 2, .retAddr 0, []), (61, .aload_n 0, 1, 0, 0, .null, []), (62, .getfield 24, 3, 7, 7, .null, []), (65, .iconst 0, 1, 0, 0, .int 0, []), (66, .invokestatic 55, 3, 271, 2, .retAddr 0, []), (69, .aload_n 0, 1, 0, 0, .null, []), (70, .getfield 27, 3, 7, 8, .null, []), (73, .iconst 0, 1, 0, 0, .int 0, []), (74, .invokestatic 55, 3, 271, 2, .retAddr 0, []), (77, .aload_n 0, 1, 0, 0, .null, []), (78, .getfield 30, 3, 7, 9, .null, []), (81, .iconst 0, 1, 0, 0, .int 0, []), (82, .invokestatic 55, 3, 271, 2, .retAddr 0, []), (85, .aload_n 0, 1, 0, 0, .null, []), (86, .getfield 33, 3, 7, 10, .null, []), (89, .bipush (-2), 2, 0, 0, .int (-2), []), (91, .invokestatic 55, 3, 271, 2, .retAddr 0, []), (94, .aload_n 0, 1, 0, 0, .null, []), (95, .getfield 36, 3, 7, 11, .null, []), (98, .bipush (-2), 2, 0, 0, .int (-2), []), (100, .invokestatic 55, 3, 271, 2, .retAddr 0, []), (103, .return_, 1, 0, 0, .null, [])]
def cd_St_copy : List (Nat × pE) := [(0, .aload_n 0, 1, 0, 0, .null, []), (1, .aload_n 1, 1, 0, 0, .null, []), (2, .getfield 39, 3, 7, 0, .int 0, []), (5, .putfield 39, 3, 7, 0, .int 0, []), (8, .aload_n 0, 1, 0, 0, .null, []), (9, .aload_n 1, 1, 0, 0, .null, []), (10, .getfield 43, 3, 7, 1, .int 0, []), (13, .putfield 43, 3, 7, 1, .int 0, []), (16, .aload_n 0, 1, 0, 0, .null, []), (17, .aload_n 1, 1, 0, 0, .null, []), (18, .getfield 46, 3, 7, 2, .int 0, []), (21, .putfield 46, 3, 7, 2, .int 0, []), (24, .aload_n 1, 1, 0, 0, .null, []), (25, .getfield 9, 3, 7, 3, .null, []), (28, .iconst 0, 1, 0, 0, .int 0, []), (29, .aload_n 0, 1, 0, 0, .null, []), (30, .getfield 9, 3, 7, 3, .null, []), (33, .iconst 0, 1, 0, 0, .int 0, []), (34, .bipush 6, 2, 0, 0, .int 6, []), (36, .invokestatic 61, 3, 9998, 5, .retAddr 0, []), (39, .aload_n 1, 1, 0, 0, .null, []), (40, .getfield 15, 3, 7, 4, .null, []), (43, .iconst 0, 1, 0, 0, .int 0, []), (44, .aload_n 0, 1, 0, 0, .null, []), (45, .getfield 15, 3, 7, 4, .null, []), (48, .iconst 0, 1, 0, 0, .int 0, []), (49, .bipush 6, 2, 0, 0, .int 6, []), (51, .invokestatic 61, 3, 9998, 5, .retAddr 0, []), (54, .aload_n 1, 1, 0, 0, .null, []), (55, .getfield 18, 3, 7, 5, .null, []), (58, .iconst 0, 1, 0, 0, .int 0, []), (59, .aload_n 0, 1, 0, 0, .null, []), (60, .getfield 18, 3, 7, 5, .null, []), (63, .iconst 0, 1, 0, 0, .int 0, []), (64, .bipush 6, 2, 0, 0, .int 6, []), (66, .invokestatic 61, 3, 9998, 5, .retAddr 0, []), (69, .aload_n 1, 1, 0, 0, .null, []), (70, .getfield 21, 3, 7, 6, .null, []), (73, .iconst 0, 1, 0, 0, .int 0, []), (74, .aload_n 0, 1, 0, 0, .null, []), (75, .getfield 21, 3, 7, 6, .null, []), (78, .iconst 0, 1, 0, 0, .int 0, []), (79, .bipush 30, 2, 0, 0, .int 30, []), (81, .invokestatic 61, 3, 9998, 5, .retAddr 0, []), (84, .aload_n 1, 1, 0, 0, .null, []), (85, .getfield 24, 3, 7, 7, .null, []), (88, .iconst 0, 1, 0, 0, .int 0, []), (89, .aload_n 0, 1, 0, 0, .null, []), (90, .getfield 24, 3, 7, 7, .null, []), (93, .iconst 0, 1, 0, 0, .int 0, []), (94, .bipush 6, 2, 0, 0, .int 6, []), (96, .invokestatic 61, 3, 9998, 5, .retAddr 0, []), (99, .aload_n 1, 1, 0, 0, .null, []), (100, .getfield 27, 3, 7, 8, .null, []), (103, .iconst 0, 1, 0, 0, .int 0, []), (104, .aload_n 0, 1, 0, 0, .null, []), (105, .getfield 27, 3, 7, 8, .null, []), (108, .iconst 0, 1, 0, 0, .int 0, []), (109, .bipush 6, 2, 0, 0, .int 6, []), (111, .invokestatic 61, 3, 9998, 5, .retAddr 0, []), (114, .aload_n 1, 1, 0, 0, .null, []), (115, .getfield 30, 3, 7, 9, .null, []), (118, .iconst 0, 1, 0, 0, .int 0, []), (119, .aload_n 0, 1, 0, 0, .null, []), (120, .getfield 30, 3, 7, 9, .null, []), (123, .iconst 0, 1, 0, 0, .int 0, []), (124, .bipush 6, 2, 0, 0, .int 6, []), (126, .invokestatic 61, 3, 9998, 5, .retAddr 0, []), (129, .aload_n 1, 1, 0, 0, .null, []), (130, .getfield 33, 3, 7, 10, .null, []), (133, .iconst 0, 1, 0, 0, .int 0, []), (134, .aload_n 0, 1, 0, 0, .null, []), (135, .getfield 33, 3, 7, 10, .null, []), (138, .iconst 0, 1, 0, 0, .int 0, []), (139, .iconst 5, 1, 0, 0, .int 5, []), (140, .invokestatic 61, 3, 9998, 5, .retAddr 0, []), (143, .aload_n 1, 1, 0, 0, .null, []), (144, .getfield 36, 3, 7, 11, .null, []), (147, .iconst 0, 1, 0, 0, .int 0, []), (148, .aload_n 0, 1, 0, 0, .null, []), (149, .getfield 36, 3, 7, 11, .null, []), (152, .iconst 0, 1, 0, 0, .int 0, []), (153, .iconst 5, 1, 0, 0, .int 5, []), (154, .invokestatic 61, 3, 9998, 5, .retAddr 0, []), (157, .return_, 1, 0, 0, .null, [])]
def cd_St_change : List (Nat × pE) := [(0, .aload_n 0, 1, 0, 0, .null, []), (1, .getfield 18, 3, 7, 5, .null, []), (4, .iload_n 1, 1, 0, 0, .null, []), (5, .iaload, 1, 0, 0, .null, []), (6, .istore_n 3, 1, 0, 0, .null, []), (7, .aload_n 0, 1, 0, 0, .null, []), (8, .getfield 18, 3, 7, 5, .null, []), (11, .iload_n 1, 1, 0, 0, .null, []), (12, .aload_n 0, 1, 0, 0, .null, []), (13, .getfield 18, 3, 7, 5, .null, []), (16, .iload_n 2, 1, 0, 0, .null, []), (17, .iaload, 1, 0, 0, .null, []), (18, .iastore, 1, 0, 0, .null, []), (19, .aload_n 0, 1, 0, 0, .null, []), (20, .getfield 18, 3, 7, 5, .null, []), (23, .iload_n 2, 1, 0, 0, .null, []), (24, .iload_n 3, 1, 0, 0, .null, []), (25, .iastore, 1, 0, 0, .null, []), (26, .return_, 1, 0, 0, .null, [])]
def cd_St_leave : List (Nat × pE) := [(0, .aload_n 0, 1, 0, 0, .null, []), (1, .getfield 24, 3, 7, 7, .null, []), (4, .iload_n 1, 1, 0, 0, .null, []), (5, .iaload, 1, 0, 0, .null, []), (6, .iconst 5, 1, 0, 0, .int 5, []), (7, .if_icmp .ge 42, 3, 49, 0, .null, []), (10, .aload_n 0, 1, 0, 0, .null, []), (11, .getfield 21, 3, 7, 6, .null, []), (14, .iload_n 1, 1, 0, 0, .null, []), (15, .iconst 5, 1, 0, 0, .int 5, []), (16, .imul, 1, 0, 0, .null, []), (17, .aload_n 0, 1, 0, 0, .null, []), (18, .getfield 24, 3, 7, 7, .null, []), (21, .iload_n 1, 1, 0, 0, .null, []), (22, .iaload, 1, 0, 0, .null, []), (23, .iadd, 1, 0, 0, .null, []), (24, .aload_n 0, 1, 0, 0, .null, []), (25, .getfield 18, 3, 7, 5, .null, []), (28, .iload_n 1, 1, 0, 0, .null, []), (29, .iaload, 1, 0, 0, .null, []), (30, .iastore, 1, 0, 0, .null, []), (31, .aload_n 0, 1, 0, 0, .null, []), (32, .getfield 24, 3, 7, 7, .null, []), (35, .iload_n 1, 1, 0, 0, .null, []), (36, .dup2, 1, 0, 0, .null, []), (37, .iaload, 1, 0, 0, .null, []), (38, .iconst 1, 1, 0, 0, .int 1, []), (39, .iadd, 1, 0, 0, .null, []), (40, .iastore, 1, 0, 0, .null, []), (41, .aload_n 0, 1, 0, 0, .null, []), (42, .getfield 18, 3, 7, 5, .null, []), (45, .iload_n 1, 1, 0, 0, .null, []), (46, .bipush (-2), 2, 0, 0, .int (-2), []), (48, .iastore, 1, 0, 0, .null, []), (49, .return_, 1, 0, 0, .null, [])]
def cd_St_takeBack : List (Nat × pE) := [(0, .aload_n 0, 1, 0, 0, .null, []), (1, .getfield 24, 3, 7, 7, .null, []), (4, .iload_n 1, 1, 0, 0, .null, []), (5, .iaload, 1, 0, 0, .null, []), (6, .ifCond .le 34, 3, 40, 0, .null, []), (9, .aload_n 0, 1, 0, 0, .null, []), (10, .getfield 24, 3, 7, 7, .null, []), (13, .iload_n 1, 1, 0, 0, .null, []), (14, .dup2, 1, 0, 0, .null, []), (15, .iaload, 1, 0, 0, .null, []), (16, .iconst 1, 1, 0, 0, .int 1, []), (17, .isub, 1, 0, 0, .null, []), (18, .iastore, 1, 0, 0, .null, []), (19, .aload_n 0, 1, 0, 0, .null, []), (20, .getfield 18, 3, 7, 5, .null, []), (23, .iload_n 1, 1, 0, 0, .null, []), (24, .aload_n 0, 1, 0, 0, .null, []), (25, .getfield 21, 3, 7, 6, .null, []), (28, .iload_n 1, 1, 0, 0, .null, []), (29, .iconst 5, 1, 0, 0, .int 5, []), (30, .imul, 1, 0, 0, .null, []), (31, .aload_n 0, 1, 0, 0, .null, []), (32, .getfield 24, 3, 7, 7, .null, []), (35, .iload_n 1, 1, 0, 0, .null, []), (36, .iaload, 1, 0, 0, .null, []), (37, .iadd, 1, 0, 0, .null, []), (38, .iaload, 1, 0, 0, .null, []), (39, .iastore, 1, 0, 0, .null, []), (40, .return_, 1, 0, 0, .null, [])]
def cd_Tl_init : List (Nat × pE) := [(0, .aload_n 0, 1, 0, 0, .null, []), (1, .invokespecial 3, 3, 9999, 1, .retAddr 0, []), (4, .aload_n 0, 1, 0, 0, .null, []), (5, .bipush 24, 2, 0, 0, .int 24, []), (7, .newarray .long, 2, 103, 0, .long 0, []), (9, .putfield 11, 3, 8, 1, .null, []), (12, .aload_n 0, 1, 0, 0, .null, []), (13, .bipush 24, 2, 0, 0, .int 24, []), (15, .newarray .int, 2, 100, 0, .int 0, []), (17, .putfield 15, 3, 8, 2, .null, []), (20, .aload_n 0, 1, 0, 0, .null, []), (21, .bipush 24, 2, 0, 0, .int 24, []), (23, .newarray .int, 2, 100, 0, .int 0, []), (25, .putfield 19, 3, 8, 3, .null, []), (28, .aload_n 0, 1, 0, 0, .null, []), (29, .aload_n 1, 1, 0, 0, .null, []), (30, .putfield 22, 3, 8, 0, .null, []), (33, .return_, 1, 0, 0, .null, [])]
def cd_Tl_check : List (Nat × pE) := [(0, .aload_n 0, 1, 0, 0, .null, []), (1, .iconst 0, 1, 0, 0, .int 0, []), (2, .putfield 26, 3, 8, 4, .int 0, []), (5, .aload_n 0, 1, 0, 0, .null, []), (6, .iconst 0, 1, 0, 0, .int 0, []), (7, .putfield 30, 3, 8, 5, .int 0, []), (10, .aload_n 0, 1, 0, 0, .null, []), (11, .iconst 0, 1, 0, 0, .int 0, []), (12, .putfield 33, 3, 8, 6, .int 0, []), (15, .aload_n 0, 1, 0, 0, .null, []), (16, .iconst 0, 1, 0, 0, .int 0, []), (17, .putfield 36, 3, 8, 7, .int 0, []), (20, .iconst 0, 1, 0, 0, .int 0, []), (21, .istore_n 2, 1, 0, 0, .null, []), (22, .iload_n 2, 1, 0, 0, .null, []), (23, .sipush 400, 3, 0, 0, .int 400, []), (26, .if_icmp .gt 36, 3, 62, 0, .null, []), (29, .aload_n 0, 1, 0, 0, .null, []), (30, .getfield 33, 3, 8, 6, .int 0, []), (33, .ifCond .ne 29, 3, 62, 0, .null, []), (36, .aload_n 0, 1, 0, 0, .null, []), (37, .getfield 22, 3, 8, 0, .null, []), (40, .aload_n 0, 1, 0, 0, .null, []), (41, .getfield 30, 3, 8, 5, .int 0, []), (44, .invokevirtual 41, 3, 98, 2, .int 0, []), (47, .iconst 4, 1, 0, 0, .int 4, []), (48, .if_icmp .eq 14, 3, 62, 0, .null, []), (51, .aload_n 0, 1, 0, 0, .null, []), (52, .aload_n 1, 1, 0, 0, .null, []), (53, .invokevirtual 45, 3, 76, 2, .retAddr 0, []), (56, .iinc 2 1, 3, 0, 0, .int 1, []), (59, .goto (-37), 3, 22, 0, .null, []), (62, .aload_n 1, 1, 0, 0, .null, []), (63, .invokevirtual 49, 3, 92, 1, .retAddr 0, []), (66, .aload_n 0, 1, 0, 0, .null, []), (67, .getfield 33, 3, 8, 6, .int 0, []), (70, .ireturn, 1, 0, 0, .null, [])]
def cd_Tl_stopped : List (Nat × pE) := [(0, .aload_n 0, 1, 0, 0, .null, []), (1, .getfield 22, 3, 8, 0, .null, []), (4, .aload_n 0, 1, 0, 0, .null, []), (5, .getfield 36, 3, 8, 7, .int 0, []), (8, .invokevirtual 54, 3, 99, 2, .int 0, []), (11, .ireturn, 1, 0, 0, .null, [])]
def cd_Tl_tellOne : List (Nat × pE) := [(0, .aload_n 0, 1, 0, 0, .null, []), (1, .getfield 22, 3, 8, 0, .null, []), (4, .aload_n 0, 1, 0, 0, .null, []), (5, .getfield 30, 3, 8, 5, .int 0, []), (8, .invokevirtual 41, 3, 98, 2, .int 0, []), (11, .istore_n 2, 1, 0, 0, .null, []), (12, .aload_n 0, 1, 0, 0, .null, []), (13, .dup, 1, 0, 0, .null, []), (14, .getfield 30, 3, 8, 5, .int 0, []), (17, .iconst 1, 1, 0, 0, .int 1, []), (18, .iadd, 1, 0, 0, .null, []), (19, .putfield 30, 3, 8, 5, .int 0, []), (22, .iload_n 2, 1, 0, 0, .null, []), (23, .tableswitch 134 200 210 #[57, 65, 73, 81, 89, 97, 134, 134, 134, 105, 119], 57, 157, 0, .null, [(200, 80), (201, 88), (202, 96), (203, 104), (204, 112), (205, 120), (206, 157), (207, 157), (208, 157), (209, 128), (210, 142)]), (80, .aload_n 0, 1, 0, 0, .null, []), (81, .aload_n 1, 1, 0, 0, .null, []), (82, .invokevirtual 57, 3, 77, 2, .retAddr 0, []), (85, .goto 72, 3, 157, 0, .null, []), (88, .aload_n 0, 1, 0, 0, .null, []), (89, .aload_n 1, 1, 0, 0, .null, []), (90, .invokevirtual 60, 3, 78, 2, .retAddr 0, []), (93, .goto 64, 3, 157, 0, .null, []), (96, .aload_n 0, 1, 0, 0, .null, []), (97, .aload_n 1, 1, 0, 0, .null, []), (98, .invokevirtual 63, 3, 80, 2, .retAddr 0, []), (101, .goto 56, 3, 157, 0, .null, []), (104, .aload_n 0, 1, 0, 0, .null, []), (105, .aload_n 1, 1, 0, 0, .null, []), (106, .invokevirtual 66, 3, 79, 2, .retAddr 0, []), (109, .goto 48, 3, 157, 0, .null, []), (112, .aload_n 0, 1, 0, 0, .null, []), (113, .aload_n 1, 1, 0, 0, .null, []), (114, .invokevirtual 69, 3, 81, 2, .retAddr 0, []), (117, .goto 40, 3, 157, 0, .null, []), (120, .aload_n 0, 1, 0, 0, .null, []), (121, .aload_n 1, 1, 0, 0, .null, []), (122, .invokevirtual 72, 3, 83, 2, .retAddr 0, []), (125, .goto 32, 3, 157, 0, .null, []), (128, .aload_n 1, 1, 0, 0, .null, []), (129, .aload_n 0, 1, 0, 0, .null, []), (130, .iconst 1, 1, 0, 0, .int 1, []), (131, .bipush 9, 2, 0, 0, .int 9, []), (133, .invokevirtual 75, 3, 87, 3, .int 0, []), (136, .putfield 79, 3, 9, 4, .int 0, []), (139, .goto 18, 3, 157, 0, .null, []), (142, .aload_n 1, 1, 0, 0, .null, []), (143, .aload_n 0, 1, 0, 0, .null, []), (144, .iconst 0, 1, 0, 0, .int 0, []), (145, .sipush 9999, 3, 0, 0, .int 9999, []), (148, .invokevirtual 75, 3, 87, 3, .int 0, []), (151, .putfield 82, 3, 9, 5, .int 0, []), (154, .goto 3, 3, 157, 0, .null, []), (157, .aload_n 0, 1, 0, 0, .null, []), (158, .invokevirtual 85, 3, 88, 1, .retAddr 0, []), (161, .return_, 1, 0, 0, .null, [])]
def cd_Tl_thingOf : List (Nat × pE) := [(0, .aload_n 1, 1, 0, 0, .null, []), (1, .getfield 88, 3, 9, 0, .int 0, []), (4, .istore_n 2, 1, 0, 0, .null, []), (5, .iload_n 2, 1, 0, 0, .null, []), (6, .bipush 7, 2, 0, 0, .int 7, []), (8, .if_icmp .ge 34, 3, 42, 0, .null, []), (11, .aload_n 0, 1, 0, 0, .null, []), (12, .sipush 200, 3, 0, 0, .int 200, []), (15, .iload_n 2, 1, 0, 0, .null, []), (16, .invokevirtual 91, 3, 84, 3, .retAddr 0, []), (19, .aload_n 1, 1, 0, 0, .null, []), (20, .getfield 95, 3, 9, 6, .null, []), (23, .iload_n 2, 1, 0, 0, .null, []), (24, .aload_n 0, 1, 0, 0, .null, []), (25, .iconst 0, 1, 0, 0, .int 0, []), (26, .bipush 99, 2, 0, 0, .int 99, []), (28, .invokevirtual 75, 3, 87, 3, .int 0, []), (31, .iastore, 1, 0, 0, .null, []), (32, .aload_n 1, 1, 0, 0, .null, []), (33, .dup, 1, 0, 0, .null, []), (34, .getfield 88, 3, 9, 0, .int 0, []), (37, .iconst 1, 1, 0, 0, .int 1, []), (38, .iadd, 1, 0, 0, .null, []), (39, .putfield 88, 3, 9, 0, .int 0, []), (42, .return_, 1, 0, 0, .null, [])]
def cd_Tl_innOf : List (Nat × pE) := [(0, .aload_n 1, 1, 0, 0, .null, []), (1, .getfield 98, 3, 9, 1, .int 0, []), (4, .istore_n 2, 1, 0, 0, .null, []), (5, .iload_n 2, 1, 0, 0, .null, []), (6, .iconst 5, 1, 0, 0, .int 5, []), (7, .if_icmp .ge 60, 3, 67, 0, .null, []), (10, .aload_n 0, 1, 0, 0, .null, []), (11, .sipush 201, 3, 0, 0, .int 201, []), (14, .iload_n 2, 1, 0, 0, .null, []), (15, .invokevirtual 91, 3, 84, 3, .retAddr 0, []), (18, .aload_n 1, 1, 0, 0, .null, []), (19, .getfield 101, 3, 9, 7, .null, []), (22, .iload_n 2, 1, 0, 0, .null, []), (23, .aload_n 0, 1, 0, 0, .null, []), (24, .iconst 0, 1, 0, 0, .int 0, []), (25, .bipush 99, 2, 0, 0, .int 99, []), (27, .invokevirtual 75, 3, 87, 3, .int 0, []), (30, .iastore, 1, 0, 0, .null, []), (31, .aload_n 1, 1, 0, 0, .null, []), (32, .getfield 104, 3, 9, 8, .null, []), (35, .iload_n 2, 1, 0, 0, .null, []), (36, .aload_n 0, 1, 0, 0, .null, []), (37, .iconst 1, 1, 0, 0, .int 1, []), (38, .bipush 7, 2, 0, 0, .int 7, []), (40, .invokevirtual 75, 3, 87, 3, .int 0, []), (43, .iastore, 1, 0, 0, .null, []), (44, .aload_n 1, 1, 0, 0, .null, []), (45, .getfield 107, 3, 9, 9, .null, []), (48, .iload_n 2, 1, 0, 0, .null, []), (49, .aload_n 0, 1, 0, 0, .null, []), (50, .iconst 0, 1, 0, 0, .int 0, []), (51, .bipush 9, 2, 0, 0, .int 9, []), (53, .invokevirtual 75, 3, 87, 3, .int 0, []), (56, .iastore, 1, 0, 0, .null, []), (57, .aload_n 1, 1, 0, 0, .null, []), (58, .dup, 1, 0, 0, .null, []), (59, .getfield 98, 3, 9, 1, .int 0, []), (62, .iconst 1, 1, 0, 0, .int 1, []), (63, .iadd, 1, 0, 0, .null, []), (64, .putfield 98, 3, 9, 1, .int 0, []), (67, .return_, 1, 0, 0, .null, [])]
def cd_Tl_guestOf : List (Nat × pE) := [(0, .aload_n 1, 1, 0, 0, .null, []), (1, .getfield 110, 3, 9, 2, .int 0, []), (4, .istore_n 2, 1, 0, 0, .null, []), (5, .iload_n 2, 1, 0, 0, .null, []), (6, .bipush 6, 2, 0, 0, .int 6, []), (8, .if_icmp .ge 61, 3, 69, 0, .null, []), (11, .aload_n 0, 1, 0, 0, .null, []), (12, .sipush 203, 3, 0, 0, .int 203, []), (15, .iload_n 2, 1, 0, 0, .null, []), (16, .invokevirtual 91, 3, 84, 3, .retAddr 0, []), (19, .aload_n 1, 1, 0, 0, .null, []), (20, .getfield 113, 3, 9, 12, .null, []), (23, .iload_n 2, 1, 0, 0, .null, []), (24, .aload_n 0, 1, 0, 0, .null, []), (25, .iconst 0, 1, 0, 0, .int 0, []), (26, .sipush 999, 3, 0, 0, .int 999, []), (29, .invokevirtual 75, 3, 87, 3, .int 0, []), (32, .iastore, 1, 0, 0, .null, []), (33, .aload_n 1, 1, 0, 0, .null, []), (34, .getfield 116, 3, 9, 13, .null, []), (37, .iload_n 2, 1, 0, 0, .null, []), (38, .aload_n 0, 1, 0, 0, .null, []), (39, .iconst 0, 1, 0, 0, .int 0, []), (40, .bipush 100, 2, 0, 0, .int 100, []), (42, .invokevirtual 75, 3, 87, 3, .int 0, []), (45, .iastore, 1, 0, 0, .null, []), (46, .aload_n 1, 1, 0, 0, .null, []), (47, .getfield 119, 3, 9, 14, .null, []), (50, .iload_n 2, 1, 0, 0, .null, []), (51, .aload_n 0, 1, 0, 0, .null, []), (52, .iconst 0, 1, 0, 0, .int 0, []), (53, .bipush 9, 2, 0, 0, .int 9, []), (55, .invokevirtual 75, 3, 87, 3, .int 0, []), (58, .iastore, 1, 0, 0, .null, []), (59, .aload_n 1, 1, 0, 0, .null, []), (60, .dup, 1, 0, 0, .null, []), (61, .getfield 110, 3, 9, 2, .int 0, []), (64, .iconst 1, 1, 0, 0, .int 1, []), (65, .iadd, 1, 0, 0, .null, []), (66, .putfield 110, 3, 9, 2, .int 0, []), (69, .return_, 1, 0, 0, .null, [])]
def cd_Tl_weightOf : List (Nat × pE) := [(0, .aload_n 0, 1, 0, 0, .null, []), (1, .sipush 201, 3, 0, 0, .int 201, []), (4, .invokevirtual 122, 3, 85, 2, .int 0, []), (7, .istore_n 2, 1, 0, 0, .null, []), (8, .aload_n 0, 1, 0, 0, .null, []), (9, .sipush 200, 3, 0, 0, .int 200, []), (12, .invokevirtual 122, 3, 85, 2, .int 0, []), (15, .istore_n 3, 1, 0, 0, .null, []), (16, .aload_n 0, 1, 0, 0, .null, []), (17, .iconst 0, 1, 0, 0, .int 0, []), (18, .bipush 9, 2, 0, 0, .int 9, []), (20, .invokevirtual 75, 3, 87, 3, .int 0, []), (23, .istore 4, 2, 0, 0, .null, []), (25, .iload_n 2, 1, 0, 0, .null, []), (26, .ifCond .lt 20, 3, 46, 0, .null, []), (29, .iload_n 3, 1, 0, 0, .null, []), (30, .ifCond .lt 16, 3, 46, 0, .null, []), (33, .aload_n 1, 1, 0, 0, .null, []), (34, .getfield 125, 3, 9, 10, .null, []), (37, .iload_n 2, 1, 0, 0, .null, []), (38, .bipush 7, 2, 0, 0, .int 7, []), (40, .imul, 1, 0, 0, .null, []), (41, .iload_n 3, 1, 0, 0, .null, []), (42, .iadd, 1, 0, 0, .null, []), (43, .iload 4, 2, 0, 0, .null, []), (45, .iastore, 1, 0, 0, .null, []), (46, .return_, 1, 0, 0, .null, [])]
def cd_Tl_twinsOf : List (Nat × pE) := [(0, .aload_n 0, 1, 0, 0, .null, []), (1, .aload_n 1, 1, 0, 0, .null, []), (2, .iconst (-1), 1, 0, 0, .int (-1), []), (3, .invokevirtual 128, 3, 82, 3, .int 0, []), (6, .istore_n 2, 1, 0, 0, .null, []), (7, .aload_n 0, 1, 0, 0, .null, []), (8, .aload_n 1, 1, 0, 0, .null, []), (9, .iload_n 2, 1, 0, 0, .null, []), (10, .invokevirtual 128, 3, 82, 3, .int 0, []), (13, .istore_n 3, 1, 0, 0, .null, []), (14, .iload_n 2, 1, 0, 0, .null, []), (15, .ifCond .lt 21, 3, 36, 0, .null, []), (18, .iload_n 3, 1, 0, 0, .null, []), (19, .ifCond .lt 17, 3, 36, 0, .null, []), (22, .aload_n 1, 1, 0, 0, .null, []), (23, .getfield 132, 3, 9, 15, .null, []), (26, .iload_n 2, 1, 0, 0, .null, []), (27, .iload_n 3, 1, 0, 0, .null, []), (28, .iastore, 1, 0, 0, .null, []), (29, .aload_n 1, 1, 0, 0, .null, []), (30, .getfield 132, 3, 9, 15, .null, []), (33, .iload_n 3, 1, 0, 0, .null, []), (34, .iload_n 2, 1, 0, 0, .null, []), (35, .iastore, 1, 0, 0, .null, []), (36, .return_, 1, 0, 0, .null, [])]
def cd_Tl_newTwin : List (Nat × pE) := [(0, .aload_n 0, 1, 0, 0, .null, []), (1, .getfield 30, 3, 8, 5, .int 0, []), (4, .istore_n 3, 1, 0, 0, .null, []), (5, .aload_n 0, 1, 0, 0, .null, []), (6, .sipush 203, 3, 0, 0, .int 203, []), (9, .invokevirtual 122, 3, 85, 2, .int 0, []), (12, .istore 4, 2, 0, 0, .null, []), (14, .iload 4, 2, 0, 0, .null, []), (16, .ifCond .lt 25, 3, 41, 0, .null, []), (19, .iload 4, 2, 0, 0, .null, []), (21, .iload_n 2, 1, 0, 0, .null, []), (22, .if_icmp .eq 13, 3, 35, 0, .null, []), (25, .aload_n 1, 1, 0, 0, .null, []), (26, .getfield 132, 3, 9, 15, .null, []), (29, .iload 4, 2, 0, 0, .null, []), (31, .iaload, 1, 0, 0, .null, []), (32, .ifCond .lt 9, 3, 41, 0, .null, []), (35, .aload_n 0, 1, 0, 0, .null, []), (36, .iconst 3, 1, 0, 0, .int 3, []), (37, .iload_n 3, 1, 0, 0, .null, []), (38, .invokevirtual 135, 3, 89, 3, .retAddr 0, []), (41, .iload 4, 2, 0, 0, .null, []), (43, .ireturn, 1, 0, 0, .null, [])]
def cd_Tl_postOf : List (Nat × pE) := [(0, .aload_n 1, 1, 0, 0, .null, []), (1, .getfield 138, 3, 9, 3, .int 0, []), (4, .istore_n 2, 1, 0, 0, .null, []), (5, .iload_n 2, 1, 0, 0, .null, []), (6, .bipush 6, 2, 0, 0, .int 6, []), (8, .if_icmp .lt 4, 3, 12, 0, .null, []), (11, .return_, 1, 0, 0, .null, []), (12, .aload_n 0, 1, 0, 0, .null, []), (13, .sipush 205, 3, 0, 0, .int 205, []), (16, .iload_n 2, 1, 0, 0, .null, []), (17, .invokevirtual 91, 3, 84, 3, .retAddr 0, []), (20, .iconst 0, 1, 0, 0, .int 0, []), (21, .istore_n 3, 1, 0, 0, .null, []), (22, .iload_n 3, 1, 0, 0, .null, []), (23, .sipush 400, 3, 0, 0, .int 400, []), (26, .if_icmp .gt 79, 3, 105, 0, .null, []), (29, .aload_n 0, 1, 0, 0, .null, []), (30, .getfield 22, 3, 8, 0, .null, []), (33, .aload_n 0, 1, 0, 0, .null, []), (34, .getfield 30, 3, 8, 5, .int 0, []), (37, .invokevirtual 41, 3, 98, 2, .int 0, []), (40, .iconst 1, 1, 0, 0, .int 1, []), (41, .if_icmp .ne 64, 3, 105, 0, .null, []), (44, .aload_n 0, 1, 0, 0, .null, []), (45, .getfield 30, 3, 8, 5, .int 0, []), (48, .istore 4, 2, 0, 0, .null, []), (50, .aload_n 0, 1, 0, 0, .null, []), (51, .sipush 201, 3, 0, 0, .int 201, []), (54, .invokevirtual 122, 3, 85, 2, .int 0, []), (57, .istore 5, 2, 0, 0, .null, []), (59, .iload 5, 2, 0, 0, .null, []), (61, .ifCond .lt 38, 3, 99, 0, .null, []), (64, .aload_n 1, 1, 0, 0, .null, []), (65, .getfield 141, 3, 9, 16, .null, []), (68, .iload_n 2, 1, 0, 0, .null, []), (69, .iaload, 1, 0, 0, .null, []), (70, .iload 5, 2, 0, 0, .null, []), (72, .ishr, 1, 0, 0, .null, []), (73, .iconst 1, 1, 0, 0, .int 1, []), (74, .iand, 1, 0, 0, .null, []), (75, .iconst 1, 1, 0, 0, .int 1, []), (76, .if_icmp .ne 10, 3, 86, 0, .null, []), (79, .aload_n 0, 1, 0, 0, .null, []), (80, .iconst 3, 1, 0, 0, .int 3, []), (81, .iload 4, 2, 0, 0, .null, []), (83, .invokevirtual 135, 3, 89, 3, .retAddr 0, []), (86, .aload_n 1, 1, 0, 0, .null, []), (87, .getfield 141, 3, 9, 16, .null, []), (90, .iload_n 2, 1, 0, 0, .null, []), (91, .dup2, 1, 0, 0, .null, []), (92, .iaload, 1, 0, 0, .null, []), (93, .iconst 1, 1, 0, 0, .int 1, []), (94, .iload 5, 2, 0, 0, .null, []), (96, .ishl, 1, 0, 0, .null, []), (97, .ior, 1, 0, 0, .null, []), (98, .iastore, 1, 0, 0, .null, []), (99, .iinc 3 1, 3, 0, 0, .int 1, []), (102, .goto (-80), 3, 22, 0, .null, []), (105, .aload_n 1, 1, 0, 0, .null, []), (106, .dup, 1, 0, 0, .null, []), (107, .getfield 138, 3, 9, 3, .int 0, []), (110, .iconst 1, 1, 0, 0, .int 1, []), (111, .iadd, 1, 0, 0, .null, []), (112, .putfield 138, 3, 9, 3, .int 0, []), (115, .return_, 1, 0, 0, .null, [])]
def cd_Tl_newName : List (Nat × pE) := [(0, .aload_n 0, 1, 0, 0, .null, []), (1, .aload_n 0, 1, 0, 0, .null, []), (2, .getfield 22, 3, 8, 0, .null, []), (5, .aload_n 0, 1, 0, 0, .null, []), (6, .getfield 30, 3, 8, 5, .int 0, []), (9, .invokevirtual 144, 3, 100, 2, .long 0, []), (12, .invokevirtual 148, 3, 86, 2, .int 0, []), (15, .ifCond .lt 15, 3, 30, 0, .null, []), (18, .aload_n 0, 1, 0, 0, .null, []), (19, .iconst 3, 1, 0, 0, .int 3, []), (20, .aload_n 0, 1, 0, 0, .null, []), (21, .getfield 30, 3, 8, 5, .int 0, []), (24, .invokevirtual 135, 3, 89, 3, .retAddr 0, []), (27, .goto 62, 3, 89, 0, .null, []), (30, .aload_n 0, 1, 0, 0, .null, []), (31, .getfield 26, 3, 8, 4, .int 0, []), (34, .bipush 24, 2, 0, 0, .int 24, []), (36, .if_icmp .ge 53, 3, 89, 0, .null, []), (39, .aload_n 0, 1, 0, 0, .null, []), (40, .getfield 11, 3, 8, 1, .null, []), (43, .aload_n 0, 1, 0, 0, .null, []), (44, .getfield 26, 3, 8, 4, .int 0, []), (47, .aload_n 0, 1, 0, 0, .null, []), (48, .getfield 22, 3, 8, 0, .null, []), (51, .aload_n 0, 1, 0, 0, .null, []), (52, .getfield 30, 3, 8, 5, .int 0, []), (55, .invokevirtual 144, 3, 100, 2, .long 0, []), (58, .lastore, 1, 0, 0, .null, []), (59, .aload_n 0, 1, 0, 0, .null, []), (60, .getfield 15, 3, 8, 2, .null, []), (63, .aload_n 0, 1, 0, 0, .null, []), (64, .getfield 26, 3, 8, 4, .int 0, []), (67, .iload_n 1, 1, 0, 0, .null, []), (68, .iastore, 1, 0, 0, .null, []), (69, .aload_n 0, 1, 0, 0, .null, []), (70, .getfield 19, 3, 8, 3, .null, []), (73, .aload_n 0, 1, 0, 0, .null, []), (74, .getfield 26, 3, 8, 4, .int 0, []), (77, .iload_n 2, 1, 0, 0, .null, []), (78, .iastore, 1, 0, 0, .null, []), (79, .aload_n 0, 1, 0, 0, .null, []), (80, .dup, 1, 0, 0, .null, []), (81, .getfield 26, 3, 8, 4, .int 0, []), (84, .iconst 1, 1, 0, 0, .int 1, []), (85, .iadd, 1, 0, 0, .null, []), (86, .putfield 26, 3, 8, 4, .int 0, []), (89, .aload_n 0, 1, 0, 0, .null, []), (90, .dup, 1, 0, 0, .null, []), (91, .getfield 30, 3, 8, 5, .int 0, []), (94, .iconst 1, 1, 0, 0, .int 1, []), (95, .iadd, 1, 0, 0, .null, []), (96, .putfield 30, 3, 8, 5, .int 0, []), (99, .return_, 1, 0, 0, .null, [])]
def cd_Tl_formerName : List (Nat × pE) := [(0, .aload_n 0, 1, 0, 0, .null, []), (1, .aload_n 0, 1, 0, 0, .null, []), (2, .getfield 22, 3, 8, 0, .null, []), (5, .aload_n 0, 1, 0, 0, .null, []), (6, .getfield 30, 3, 8, 5, .int 0, []), (9, .invokevirtual 144, 3, 100, 2, .long 0, []), (12, .invokevirtual 148, 3, 86, 2, .int 0, []), (15, .istore_n 2, 1, 0, 0, .null, []), (16, .iload_n 2, 1, 0, 0, .null, []), (17, .ifCond .lt 17, 3, 34, 0, .null, []), (20, .aload_n 0, 1, 0, 0, .null, []), (21, .getfield 15, 3, 8, 2, .null, []), (24, .iload_n 2, 1, 0, 0, .null, []), (25, .iaload, 1, 0, 0, .null, []), (26, .iload_n 1, 1, 0, 0, .null, []), (27, .if_icmp .ne 7, 3, 34, 0, .null, []), (30, .iconst 1, 1, 0, 0, .int 1, []), (31, .goto 4, 3, 35, 0, .null, []), (34, .iconst 0, 1, 0, 0, .int 0, []), (35, .istore_n 3, 1, 0, 0, .null, []), (36, .iload_n 3, 1, 0, 0, .null, []), (37, .ifCond .ne 12, 3, 49, 0, .null, []), (40, .aload_n 0, 1, 0, 0, .null, []), (41, .iconst 4, 1, 0, 0, .int 4, []), (42, .aload_n 0, 1, 0, 0, .null, []), (43, .getfield 30, 3, 8, 5, .int 0, []), (46, .invokevirtual 135, 3, 89, 3, .retAddr 0, []), (49, .aload_n 0, 1, 0, 0, .null, []), (50, .dup, 1, 0, 0, .null, []), (51, .getfield 30, 3, 8, 5, .int 0, []), (54, .iconst 1, 1, 0, 0, .int 1, []), (55, .iadd, 1, 0, 0, .null, []), (56, .putfield 30, 3, 8, 5, .int 0, []), (59, .iload_n 3, 1, 0, 0, .null, []), (60, .ifCond .eq 12, 3, 72, 0, .null, []), (63, .aload_n 0, 1, 0, 0, .null, []), (64, .getfield 19, 3, 8, 3, .null, []), (67, .iload_n 2, 1, 0, 0, .null, []), (68, .iaload, 1, 0, 0, .null, []), (69, .goto 4, 3, 73, 0, .null, []), (72, .iconst (-1), 1, 0, 0, .int (-1), []), (73, .ireturn, 1, 0, 0, .null, [])]
def cd_Tl_find : List (Nat × pE) := [(0, .iconst 0, 1, 0, 0, .int 0, []), (1, .istore_n 3, 1, 0, 0, .null, []), (2, .iload_n 3, 1, 0, 0, .null, []), (3, .aload_n 0, 1, 0, 0, .null, []), (4, .getfield 26, 3, 8, 4, .int 0, []), (7, .if_icmp .ge 22, 3, 29, 0, .null, []), (10, .aload_n 0, 1, 0, 0, .null, []), (11, .getfield 11, 3, 8, 1, .null, []), (14, .iload_n 3, 1, 0, 0, .null, []), (15, .laload, 1, 0, 0, .null, []), (16, .lload_n 1, 1, 0, 0, .null, []), (17, .lcmp, 1, 0, 0, .null, []), (18, .ifCond .ne 5, 3, 23, 0, .null, []), (21, .iload_n 3, 1, 0, 0, .null, []), (22, .ireturn, 1, 0, 0, .null, []), (23, .iinc 3 1, 3, 0, 0, .int 1, []), (26, .goto (-24), 3, 2, 0, .null, []), (29, .iconst (-1), 1, 0, 0, .int (-1), []), (30, .ireturn, 1, 0, 0, .null, [])]
def cd_Tl_number : List (Nat × pE) := [(0, .aload_n 0, 1, 0, 0, .null, []), (1, .getfield 22, 3, 8, 0, .null, []), (4, .aload_n 0, 1, 0, 0, .null, []), (5, .getfield 30, 3, 8, 5, .int 0, []), (8, .invokevirtual 144, 3, 100, 2, .long 0, []), (11, .l2i, 1, 0, 0, .null, []), (12, .istore_n 3, 1, 0, 0, .null, []), (13, .iload_n 3, 1, 0, 0, .null, []), (14, .iload_n 1, 1, 0, 0, .null, []), (15, .if_icmp .lt 8, 3, 23, 0, .null, []), (18, .iload_n 3, 1, 0, 0, .null, []), (19, .iload_n 2, 1, 0, 0, .null, []), (20, .if_icmp .le 12, 3, 32, 0, .null, []), (23, .aload_n 0, 1, 0, 0, .null, []), (24, .iconst 5, 1, 0, 0, .int 5, []), (25, .aload_n 0, 1, 0, 0, .null, []), (26, .getfield 30, 3, 8, 5, .int 0, []), (29, .invokevirtual 135, 3, 89, 3, .retAddr 0, []), (32, .aload_n 0, 1, 0, 0, .null, []), (33, .dup, 1, 0, 0, .null, []), (34, .getfield 30, 3, 8, 5, .int 0, []), (37, .iconst 1, 1, 0, 0, .int 1, []), (38, .iadd, 1, 0, 0, .null, []), (39, .putfield 30, 3, 8, 5, .int 0, []), (42, .iload_n 3, 1, 0, 0, .null, []), (43, .ireturn, 1, 0, 0, .null, [])]
def cd_Tl_goBehindSemicolon : List (Nat × pE) := [(0, .iconst 0, 1, 0, 0, .int 0, []), (1, .istore_n 1, 1, 0, 0, .null, []), (2, .iload_n 1, 1, 0, 0, .null, []), (3, .sipush 400, 3, 0, 0, .int 400, []), (6, .if_icmp .gt 50, 3, 56, 0, .null, []), (9, .aload_n 0, 1, 0, 0, .null, []), (10, .getfield 22, 3, 8, 0, .null, []), (13, .aload_n 0, 1, 0, 0, .null, []), (14, .getfield 30, 3, 8, 5, .int 0, []), (17, .invokevirtual 41, 3, 98, 2, .int 0, []), (20, .bipush 59, 2, 0, 0, .int 59, []), (22, .if_icmp .eq 34, 3, 56, 0, .null, []), (25, .aload_n 0, 1, 0, 0, .null, []), (26, .getfield 22, 3, 8, 0, .null, []), (29, .aload_n 0, 1, 0, 0, .null, []), (30, .getfield 30, 3, 8, 5, .int 0, []), (33, .invokevirtual 41, 3, 98, 2, .int 0, []), (36, .iconst 4, 1, 0, 0, .int 4, []), (37, .if_icmp .eq 19, 3, 56, 0, .null, []), (40, .aload_n 0, 1, 0, 0, .null, []), (41, .dup, 1, 0, 0, .null, []), (42, .getfield 30, 3, 8, 5, .int 0, []), (45, .iconst 1, 1, 0, 0, .int 1, []), (46, .iadd, 1, 0, 0, .null, []), (47, .putfield 30, 3, 8, 5, .int 0, []), (50, .iinc 1 1, 3, 0, 0, .int 1, []), (53, .goto (-51), 3, 2, 0, .null, []), (56, .aload_n 0, 1, 0, 0, .null, []), (57, .dup, 1, 0, 0, .null, []), (58, .getfield 30, 3, 8, 5, .int 0, []), (61, .iconst 1, 1, 0, 0, .int 1, []), (62, .iadd, 1, 0, 0, .null, []), (63, .putfield 30, 3, 8, 5, .int 0, []), (66, .return_, 1, 0, 0, .null, [])]
def cd_Tl_fail : List (Nat × pE) := [(0, .aload_n 0, 1, 0, 0, .null, []), (1, .getfield 33, 3, 8, 6, .int 0, []), (4, .ifCond .ne 13, 3, 17, 0, .null, []), (7, .aload_n 0, 1, 0, 0, .null, []), (8, .iload_n 1, 1, 0, 0, .null, []), (9, .putfield 33, 3, 8, 6, .int 0, []), (12, .aload_n 0, 1, 0, 0, .null, []), (13, .iload_n 2, 1, 0, 0, .null, []), (14, .putfield 36, 3, 8, 7, .int 0, []), (17, .return_, 1, 0, 0, .null, [])]
def cd_Tx_init : List (Nat × pE) := [(0, .aload_n 0, 1, 0, 0, .null, []), (1, .invokespecial 3, 3, 9999, 1, .retAddr 0, []), (4, .aload_n 0, 1, 0, 0, .null, []), (5, .bipush 7, 2, 0, 0, .int 7, []), (7, .newarray .int, 2, 100, 0, .int 0, []), (9, .putfield 9, 3, 9, 6, .null, []), (12, .aload_n 0, 1, 0, 0, .null, []), (13, .iconst 5, 1, 0, 0, .int 5, []), (14, .newarray .int, 2, 100, 0, .int 0, []), (16, .putfield 15, 3, 9, 7, .null, []), (19, .aload_n 0, 1, 0, 0, .null, []), (20, .iconst 5, 1, 0, 0, .int 5, []), (21, .newarray .int, 2, 100, 0, .int 0, []), (23, .putfield 18, 3, 9, 8, .null, []), (26, .aload_n 0, 1, 0, 0, .null, []), (27, .iconst 5, 1, 0, 0, .int 5, []), (28, .newarray .int, 2, 100, 0, .int 0, []), (30, .putfield 21, 3, 9, 9, .null, []), (33, .aload_n 0, 1, 0, 0, .null, []), (34, .bipush 35, 2, 0, 0, .int 35, []), (36, .newarray .int, 2, 100, 0, .int 0, []), (38, .putfield 24, 3, 9, 10, .null, []), (41, .aload_n 0, 1, 0, 0, .null, []), (42, .iconst 5, 1, 0, 0, .int 5, []), (43, .newarray .int, 2, 100, 0, .int 0, []), (45, .putfield 27, 3, 9, 11, .null, []), (48, .aload_n 0, 1, 0, 0, .null, []), (49, .bipush 6, 2, 0, 0, .int 6, []), (51, .newarray .int, 2, 100, 0, .int 0, []), (53, .putfield 30, 3, 9, 12, .null, []), (56, .aload_n 0, 1, 0, 0, .null, []), (57, .bipush 6, 2, 0, 0, .int 6, []), (59, .newarray .int, 2, 100, 0, .int 0, []), (61, .putfield 33, 3, 9, 13, .null, []), (64, .aload_n 0, 1, 0, 0, .null, []), (65, .bipush 6, 2, 0, 0, .int 6, []), (67, .newarray .int, 2, 100, 0, .int 0, []), (69, .putfield 36, 3, 9, 14, .null, []), (72, .aload_n 0, 1, 0, 0, .null, []), (73, .bipush 6, 2, 0, 0, .int 6, []), (75, .newarray .int, 2, 100, 0, .int 0, []), (77, .putfield 39, 3, 9, 15, .null, []), (80, .aload_n 0, 1, 0, 0, .null, []), (81, .bipush 6, 2, 0, 0, .int 6, []), (83, .newarray .int, 2, 100, 0, .int 0, []), (85, .putfield 42, 3, 9, 16, .null, []), (88, .aload_n 0, 1, 0, 0, .null, []), (89, .new 45, 3, 3, 0, .null, []), (92, .dup, 1, 0, 0, .null, []), (93, .invokespecial 47, 3, 44, 1, .retAddr 0, []), (96, .putfield 48, 3, 9, 17, .null, []), (99, .aload_n 0, 1, 0, 0, .null, []), (100, .new 45, 3, 3, 0, .null, []), (103, .dup, 1, 0, 0, .null, []), (104, .invokespecial 47, 3, 44, 1, .retAddr 0, []), (107, .putfield 52, 3, 9, 18, .null, []), (110, .aload_n 0, 1, 0, 0, .null, []), (111, .new 45, 3, 3, 0, .null, []), (114, .dup, 1, 0, 0, .null, []), (115, .invokespecial 47, 3, 44, 1, .retAddr 0, []), (118, .putfield 55, 3, 9, 19, .null, []), (121, .aload_n 0, 1, 0, 0, .null, []), (122, .invokevirtual 58, 3, 91, 1, .retAddr 0, []), (125, .return_, 1, 0, 0, .null, [])]
def cd_Tx_clear : List (Nat × pE) := [(0, .aload_n 0, 1, 0, 0, .null, []), (1, .iconst 0, 1, 0, 0, .int 0, []), (2, .putfield 61, 3, 9, 0, .int 0, []), (5, .aload_n 0, 1, 0, 0, .null, []), (6, .iconst 0, 1, 0, 0, .int 0, []), (7, .putfield 65, 3, 9, 1, .int 0, []), (10, .aload_n 0, 1, 0, 0, .null, []), (11, .iconst 0, 1, 0, 0, .int 0, []), (12, .putfield 68, 3, 9, 2, .int 0, []), (15, .aload_n 0, 1, 0, 0, .null, []), (16, .iconst 0, 1, 0, 0, .int 0, []), (17, .putfield 71, 3, 9, 3, .int 0, []), (20, .aload_n 0, 1, 0, 0, .null, []), (21, .iconst 2, 1, 0, 0, .int 2, []), (22, .putfield 74, 3, 9, 4, .int 0, []), (25, .aload_n 0, 1, 0, 0, .null, []), (26, .iconst 0, 1, 0, 0, .int 0, []), (27, .putfield 77, 3, 9, 5, .int 0, []), (30, .aload_n 0, 1, 0, 0, .null, []), (31, .getfield 24, 3, 9, 10, .null, []), (34, .iconst 1, 1, 0, 0, .int 1, []), (35, .invokestatic 80, 3, 271, 2, .retAddr 0, []), (38, .aload_n 0, 1, 0, 0, .null, []), (39, .getfield 39, 3, 9, 15, .null, []), (42, .iconst (-1), 1, 0, 0, .int (-1), []), (43, .invokestatic 80, 3, 271, 2, .retAddr 0, []), (46, .aload_n 0, 1, 0, 0, .null, []), (47, .getfield 42, 3, 9, 16, .null, []), (50, .iconst 0, 1, 0, 0, .int 0, []), (51, .invokestatic 80, 3, 271, 2, .retAddr 0, []), (54, .aload_n 0, 1, 0, 0, .null, []), (55, .getfield 48, 3, 9, 17, .null, []), (58, .invokevirtual 86, 3, 45, 1, .retAddr 0, []), (61, .aload_n 0, 1, 0, 0, .null, []), (62, .getfield 48, 3, 9, 17, .null, []), (65, .iconst 1, 1, 0, 0, .int 1, []), (66, .invokevirtual 87, 3, 46, 2, .retAddr 0, []), (69, .aload_n 0, 1, 0, 0, .null, []), (70, .getfield 48, 3, 9, 17, .null, []), (73, .bipush (-15), 2, 0, 0, .int (-15), []), (75, .invokevirtual 87, 3, 46, 2, .retAddr 0, []), (78, .aload_n 0, 1, 0, 0, .null, []), (79, .getfield 52, 3, 9, 18, .null, []), (82, .invokevirtual 86, 3, 45, 1, .retAddr 0, []), (85, .aload_n 0, 1, 0, 0, .null, []), (86, .getfield 52, 3, 9, 18, .null, []), (89, .sipush 215, 3, 0, 0, .int 215, []), (92, .invokestatic 93, 3, 101, 1, .int 0, []), (95, .invokevirtual 87, 3, 46, 2, .retAddr 0, []), (98, .aload_n 0, 1, 0, 0, .null, []), (99, .getfield 52, 3, 9, 18, .null, []), (102, .sipush 216, 3, 0, 0, .int 216, []), (105, .invokestatic 93, 3, 101, 1, .int 0, []), (108, .invokevirtual 87, 3, 46, 2, .retAddr 0, []), (111, .aload_n 0, 1, 0, 0, .null, []), (112, .getfield 52, 3, 9, 18, .null, []), (115, .bipush (-12), 2, 0, 0, .int (-12), []), (117, .invokevirtual 87, 3, 46, 2, .retAddr 0, []), (120, .aload_n 0, 1, 0, 0, .null, []), (121, .getfield 52, 3, 9, 18, .null, []), (124, .bipush (-15), 2, 0, 0, .int (-15), []), (126, .invokevirtual 87, 3, 46, 2, .retAddr 0, []), (129, .aload_n 0, 1, 0, 0, .null, []), (130, .getfield 55, 3, 9, 19, .null, []), (133, .invokevirtual 86, 3, 45, 1, .retAddr 0, []), (136, .aload_n 0, 1, 0, 0, .null, []), (137, .getfield 55, 3, 9, 19, .null, []), (140, .bipush 50, 2, 0, 0, .int 50, []), (142, .invokevirtual 87, 3, 46, 2, .retAddr 0, []), (145, .aload_n 0, 1, 0, 0, .null, []), (146, .getfield 55, 3, 9, 19, .null, []), (149, .bipush (-15), 2, 0, 0, .int (-15), []), (151, .invokevirtual 87, 3, 46, 2, .retAddr 0, []), (154, .return_, 1, 0, 0, .null, [])]
def cd_Tx_addUp : List (Nat × pE) := [(0, .iconst 0, 1, 0, 0, .int 0, []), (1, .istore_n 1, 1, 0, 0, .null, []), (2, .iload_n 1, 1, 0, 0, .null, []), (3, .aload_n 0, 1, 0, 0, .null, []), (4, .getfield 65, 3, 9, 1, .int 0, []), (7, .if_icmp .ge 47, 3, 54, 0, .null, []), (10, .aload_n 0, 1, 0, 0, .null, []), (11, .getfield 27, 3, 9, 11, .null, []), (14, .iload_n 1, 1, 0, 0, .null, []), (15, .iconst 0, 1, 0, 0, .int 0, []), (16, .iastore, 1, 0, 0, .null, []), (17, .iconst 0, 1, 0, 0, .int 0, []), (18, .istore_n 2, 1, 0, 0, .null, []), (19, .iload_n 2, 1, 0, 0, .null, []), (20, .aload_n 0, 1, 0, 0, .null, []), (21, .getfield 61, 3, 9, 0, .int 0, []), (24, .if_icmp .ge 24, 3, 48, 0, .null, []), (27, .aload_n 0, 1, 0, 0, .null, []), (28, .getfield 27, 3, 9, 11, .null, []), (31, .iload_n 1, 1, 0, 0, .null, []), (32, .dup2, 1, 0, 0, .null, []), (33, .iaload, 1, 0, 0, .null, []), (34, .aload_n 0, 1, 0, 0, .null, []), (35, .iload_n 1, 1, 0, 0, .null, []), (36, .iload_n 2, 1, 0, 0, .null, []), (37, .invokevirtual 97, 3, 93, 3, .int 0, []), (40, .iadd, 1, 0, 0, .null, []), (41, .iastore, 1, 0, 0, .null, []), (42, .iinc 2 1, 3, 0, 0, .int 1, []), (45, .goto (-26), 3, 19, 0, .null, []), (48, .iinc 1 1, 3, 0, 0, .int 1, []), (51, .goto (-49), 3, 2, 0, .null, []), (54, .return_, 1, 0, 0, .null, [])]
def cd_Tx_weightOf : List (Nat × pE) := [(0, .aload_n 0, 1, 0, 0, .null, []), (1, .getfield 24, 3, 9, 10, .null, []), (4, .iload_n 1, 1, 0, 0, .null, []), (5, .bipush 7, 2, 0, 0, .int 7, []), (7, .imul, 1, 0, 0, .null, []), (8, .iload_n 2, 1, 0, 0, .null, []), (9, .iadd, 1, 0, 0, .null, []), (10, .iaload, 1, 0, 0, .null, []), (11, .ireturn, 1, 0, 0, .null, [])]
def cd_Tx_watchedBy : List (Nat × pE) := [(0, .iconst 0, 1, 0, 0, .int 0, []), (1, .istore_n 2, 1, 0, 0, .null, []), (2, .iconst 0, 1, 0, 0, .int 0, []), (3, .istore_n 3, 1, 0, 0, .null, []), (4, .iload_n 3, 1, 0, 0, .null, []), (5, .aload_n 0, 1, 0, 0, .null, []), (6, .getfield 71, 3, 9, 3, .int 0, []), (9, .if_icmp .ge 27, 3, 36, 0, .null, []), (12, .iload_n 1, 1, 0, 0, .null, []), (13, .iload_n 3, 1, 0, 0, .null, []), (14, .ishr, 1, 0, 0, .null, []), (15, .iconst 1, 1, 0, 0, .int 1, []), (16, .iand, 1, 0, 0, .null, []), (17, .iconst 1, 1, 0, 0, .int 1, []), (18, .if_icmp .ne 12, 3, 30, 0, .null, []), (21, .iload_n 2, 1, 0, 0, .null, []), (22, .aload_n 0, 1, 0, 0, .null, []), (23, .getfield 42, 3, 9, 16, .null, []), (26, .iload_n 3, 1, 0, 0, .null, []), (27, .iaload, 1, 0, 0, .null, []), (28, .ior, 1, 0, 0, .null, []), (29, .istore_n 2, 1, 0, 0, .null, []), (30, .iinc 3 1, 3, 0, 0, .int 1, []), (33, .goto (-29), 3, 4, 0, .null, []), (36, .iload_n 2, 1, 0, 0, .null, []), (37, .ireturn, 1, 0, 0, .null, [])]
def cd_Tx_lawOf : List (Nat × pE) := [(0, .iload_n 1, 1, 0, 0, .null, []), (1, .sipush 206, 3, 0, 0, .int 206, []), (4, .if_icmp .ne 8, 3, 12, 0, .null, []), (7, .aload_n 0, 1, 0, 0, .null, []), (8, .getfield 48, 3, 9, 17, .null, []), (11, .areturn, 1, 0, 0, .null, []), (12, .iload_n 1, 1, 0, 0, .null, []), (13, .sipush 207, 3, 0, 0, .int 207, []), (16, .if_icmp .ne 10, 3, 26, 0, .null, []), (19, .aload_n 0, 1, 0, 0, .null, []), (20, .getfield 52, 3, 9, 18, .null, []), (23, .goto 7, 3, 30, 0, .null, []), (26, .aload_n 0, 1, 0, 0, .null, []), (27, .getfield 55, 3, 9, 19, .null, []), (30, .areturn, 1, 0, 0, .null, [])]
def cd_Tk_init : List (Nat × pE) := [(0, .aload_n 0, 1, 0, 0, .null, []), (1, .invokespecial 1, 3, 9999, 1, .retAddr 0, []), (4, .aload_n 0, 1, 0, 0, .null, []), (5, .bipush 23, 2, 0, 0, .int 23, []), (7, .newarray .long, 2, 103, 0, .long 0, []), (9, .putfield 9, 3, 10, 0, .null, []), (12, .aload_n 0, 1, 0, 0, .null, []), (13, .sipush 401, 3, 0, 0, .int 401, []), (16, .newarray .int, 2, 100, 0, .int 0, []), (18, .putfield 13, 3, 10, 1, .null, []), (21, .aload_n 0, 1, 0, 0, .null, []), (22, .sipush 401, 3, 0, 0, .int 401, []), (25, .newarray .int, 2, 100, 0, .int 0, []), (27, .putfield 17, 3, 10, 2, .null, []), (30, .aload_n 0, 1, 0, 0, .null, []), (31, .sipush 401, 3, 0, 0, .int 401, []), (34, .newarray .long, 2, 103, 0, .long 0, []), (36, .putfield 20, 3, 10, 3, .null, []), (39, .iconst 0, 1, 0, 0, .int 0, []), (40, .istore_n 1, 1, 0, 0, .null, []), (41, .iconst 0, 1, 0, 0, .int 0, []), (42, .istore_n 2, 1, 0, 0, .null, []), (43, .iload_n 2, 1, 0, 0, .null, []), (44, .ldc 23, 2, 0, 0, .ref 100001, []), (46, .invokevirtual 25, 3, 272, 1, .int 0, []), (49, .if_icmp .ge 58, 3, 107, 0, .null, []), (52, .iload_n 1, 1, 0, 0, .null, []), (53, .bipush 23, 2, 0, 0, .int 23, []), (55, .if_icmp .ge 52, 3, 107, 0, .null, []), (58, .ldc 23, 2, 0, 0, .ref 100001, []), (60, .iload_n 2, 1, 0, 0, .null, []), (61, .invokevirtual 31, 3, 274, 2, .int 0, []), (64, .istore_n 3, 1, 0, 0, .null, []), (65, .iload_n 3, 1, 0, 0, .null, []), (66, .bipush 32, 2, 0, 0, .int 32, []), (68, .if_icmp .ne 9, 3, 77, 0, .null, []), (71, .iinc 1 1, 3, 0, 0, .int 1, []), (74, .goto 27, 3, 101, 0, .null, []), (77, .aload_n 0, 1, 0, 0, .null, []), (78, .getfield 9, 3, 10, 0, .null, []), (81, .iload_n 1, 1, 0, 0, .null, []), (82, .aload_n 0, 1, 0, 0, .null, []), (83, .getfield 9, 3, 10, 0, .null, []), (86, .iload_n 1, 1, 0, 0, .null, []), (87, .laload, 1, 0, 0, .null, []), (88, .ldc2_w 35, 3, 0, 0, .long 27, []), (91, .lmul, 1, 0, 0, .null, []), (92, .iload_n 3, 1, 0, 0, .null, []), (93, .bipush 97, 2, 0, 0, .int 97, []), (95, .isub, 1, 0, 0, .null, []), (96, .iconst 1, 1, 0, 0, .int 1, []), (97, .iadd, 1, 0, 0, .null, []), (98, .i2l, 1, 0, 0, .null, []), (99, .ladd, 1, 0, 0, .null, []), (100, .lastore, 1, 0, 0, .null, []), (101, .iinc 2 1, 3, 0, 0, .int 1, []), (104, .goto (-61), 3, 43, 0, .null, []), (107, .return_, 1, 0, 0, .null, [])]
def cd_Tk_scan : List (Nat × pE) := [(0, .aload_n 0, 1, 0, 0, .null, []), (1, .iconst 0, 1, 0, 0, .int 0, []), (2, .putfield 37, 3, 10, 4, .int 0, []), (5, .aload_n 0, 1, 0, 0, .null, []), (6, .iload_n 2, 1, 0, 0, .null, []), (7, .putfield 41, 3, 10, 5, .int 0, []), (10, .iconst 0, 1, 0, 0, .int 0, []), (11, .istore_n 3, 1, 0, 0, .null, []), (12, .iconst 0, 1, 0, 0, .int 0, []), (13, .istore 4, 2, 0, 0, .null, []), (15, .iload 4, 2, 0, 0, .null, []), (17, .iload_n 2, 1, 0, 0, .null, []), (18, .if_icmp .ge 99, 3, 117, 0, .null, []), (21, .iload_n 3, 1, 0, 0, .null, []), (22, .iload_n 2, 1, 0, 0, .null, []), (23, .if_icmp .ge 94, 3, 117, 0, .null, []), (26, .aload_n 0, 1, 0, 0, .null, []), (27, .getfield 37, 3, 10, 4, .int 0, []), (30, .aload_n 0, 1, 0, 0, .null, []), (31, .getfield 13, 3, 10, 1, .null, []), (34, .arraylength, 1, 0, 0, .null, []), (35, .if_icmp .ge 82, 3, 117, 0, .null, []), (38, .aload_n 1, 1, 0, 0, .null, []), (39, .iload_n 3, 1, 0, 0, .null, []), (40, .iaload, 1, 0, 0, .null, []), (41, .invokestatic 44, 3, 102, 1, .int 0, []), (44, .ifCond .eq 9, 3, 53, 0, .null, []), (47, .iinc 3 1, 3, 0, 0, .int 1, []), (50, .goto 61, 3, 111, 0, .null, []), (53, .aload_n 1, 1, 0, 0, .null, []), (54, .iload_n 3, 1, 0, 0, .null, []), (55, .iload_n 2, 1, 0, 0, .null, []), (56, .invokestatic 48, 3, 105, 3, .int 0, []), (59, .istore 5, 2, 0, 0, .null, []), (61, .aload_n 0, 1, 0, 0, .null, []), (62, .getfield 17, 3, 10, 2, .null, []), (65, .aload_n 0, 1, 0, 0, .null, []), (66, .getfield 37, 3, 10, 4, .int 0, []), (69, .iload_n 3, 1, 0, 0, .null, []), (70, .iastore, 1, 0, 0, .null, []), (71, .aload_n 0, 1, 0, 0, .null, []), (72, .getfield 20, 3, 10, 3, .null, []), (75, .aload_n 0, 1, 0, 0, .null, []), (76, .getfield 37, 3, 10, 4, .int 0, []), (79, .lconst 0, 1, 0, 0, .long 0, []), (80, .lastore, 1, 0, 0, .null, []), (81, .aload_n 0, 1, 0, 0, .null, []), (82, .getfield 13, 3, 10, 1, .null, []), (85, .aload_n 0, 1, 0, 0, .null, []), (86, .getfield 37, 3, 10, 4, .int 0, []), (89, .aload_n 0, 1, 0, 0, .null, []), (90, .aload_n 1, 1, 0, 0, .null, []), (91, .iload_n 3, 1, 0, 0, .null, []), (92, .iload 5, 2, 0, 0, .null, []), (94, .invokevirtual 52, 3, 106, 4, .int 0, []), (97, .iastore, 1, 0, 0, .null, []), (98, .aload_n 0, 1, 0, 0, .null, []), (99, .dup, 1, 0, 0, .null, []), (100, .getfield 37, 3, 10, 4, .int 0, []), (103, .iconst 1, 1, 0, 0, .int 1, []), (104, .iadd, 1, 0, 0, .null, []), (105, .putfield 37, 3, 10, 4, .int 0, []), (108, .iload 5, 2, 0, 0, .null, []), (110, .istore_n 3, 1, 0, 0, .null, []), (111, .iinc 4 1, 3, 0, 0, .int 1, []), (114, .goto (-99), 3, 15, 0, .null, []), (117, .return_, 1, 0, 0, .null, [])]
def cd_Tk_kindAt : List (Nat × pE) := [(0, .iload_n 1, 1, 0, 0, .null, []), (1, .ifCond .lt 20, 3, 21, 0, .null, []), (4, .iload_n 1, 1, 0, 0, .null, []), (5, .aload_n 0, 1, 0, 0, .null, []), (6, .getfield 37, 3, 10, 4, .int 0, []), (9, .if_icmp .ge 12, 3, 21, 0, .null, []), (12, .aload_n 0, 1, 0, 0, .null, []), (13, .getfield 13, 3, 10, 1, .null, []), (16, .iload_n 1, 1, 0, 0, .null, []), (17, .iaload, 1, 0, 0, .null, []), (18, .goto 4, 3, 22, 0, .null, []), (21, .iconst 4, 1, 0, 0, .int 4, []), (22, .ireturn, 1, 0, 0, .null, [])]
def cd_Tk_placeAt : List (Nat × pE) := [(0, .iload_n 1, 1, 0, 0, .null, []), (1, .ifCond .lt 20, 3, 21, 0, .null, []), (4, .iload_n 1, 1, 0, 0, .null, []), (5, .aload_n 0, 1, 0, 0, .null, []), (6, .getfield 37, 3, 10, 4, .int 0, []), (9, .if_icmp .ge 12, 3, 21, 0, .null, []), (12, .aload_n 0, 1, 0, 0, .null, []), (13, .getfield 17, 3, 10, 2, .null, []), (16, .iload_n 1, 1, 0, 0, .null, []), (17, .iaload, 1, 0, 0, .null, []), (18, .goto 7, 3, 25, 0, .null, []), (21, .aload_n 0, 1, 0, 0, .null, []), (22, .getfield 41, 3, 10, 5, .int 0, []), (25, .ireturn, 1, 0, 0, .null, [])]
def cd_Tk_valueAt : List (Nat × pE) := [(0, .iload_n 1, 1, 0, 0, .null, []), (1, .ifCond .lt 20, 3, 21, 0, .null, []), (4, .iload_n 1, 1, 0, 0, .null, []), (5, .aload_n 0, 1, 0, 0, .null, []), (6, .getfield 37, 3, 10, 4, .int 0, []), (9, .if_icmp .ge 12, 3, 21, 0, .null, []), (12, .aload_n 0, 1, 0, 0, .null, []), (13, .getfield 20, 3, 10, 3, .null, []), (16, .iload_n 1, 1, 0, 0, .null, []), (17, .laload, 1, 0, 0, .null, []), (18, .goto 4, 3, 22, 0, .null, []), (21, .lconst 0, 1, 0, 0, .long 0, []), (22, .lreturn, 1, 0, 0, .null, [])]
def cd_Tk_variable : List (Nat × pE) := [(0, .sipush 213, 3, 0, 0, .int 213, []), (3, .iload_n 0, 1, 0, 0, .null, []), (4, .isub, 1, 0, 0, .null, []), (5, .ireturn, 1, 0, 0, .null, [])]
def cd_Tk_isBlank : List (Nat × pE) := [(0, .iload_n 0, 1, 0, 0, .null, []), (1, .bipush 9, 2, 0, 0, .int 9, []), (3, .if_icmp .eq 21, 3, 24, 0, .null, []), (6, .iload_n 0, 1, 0, 0, .null, []), (7, .bipush 10, 2, 0, 0, .int 10, []), (9, .if_icmp .eq 15, 3, 24, 0, .null, []), (12, .iload_n 0, 1, 0, 0, .null, []), (13, .bipush 13, 2, 0, 0, .int 13, []), (15, .if_icmp .eq 9, 3, 24, 0, .null, []), (18, .iload_n 0, 1, 0, 0, .null, []), (19, .bipush 32, 2, 0, 0, .int 32, []), (21, .if_icmp .ne 7, 3, 28, 0, .null, []), (24, .iconst 1, 1, 0, 0, .int 1, []), (25, .goto 4, 3, 29, 0, .null, []), (28, .iconst 0, 1, 0, 0, .int 0, []), (29, .ireturn, 1, 1, 0, .null, [])]
def cd_Tk_isLetter : List (Nat × pE) := [(0, .iload_n 0, 1, 0, 0, .null, []), (1, .bipush 97, 2, 0, 0, .int 97, []), (3, .if_icmp .lt 13, 3, 16, 0, .null, []), (6, .iload_n 0, 1, 0, 0, .null, []), (7, .bipush 122, 2, 0, 0, .int 122, []), (9, .if_icmp .gt 7, 3, 16, 0, .null, []), (12, .iconst 1, 1, 0, 0, .int 1, []), (13, .goto 4, 3, 17, 0, .null, []), (16, .iconst 0, 1, 0, 0, .int 0, []), (17, .ireturn, 1, 1, 0, .null, [])]
def cd_Tk_isDigit : List (Nat × pE) := [(0, .iload_n 0, 1, 0, 0, .null, []), (1, .bipush 48, 2, 0, 0, .int 48, []), (3, .if_icmp .lt 13, 3, 16, 0, .null, []), (6, .iload_n 0, 1, 0, 0, .null, []), (7, .bipush 57, 2, 0, 0, .int 57, []), (9, .if_icmp .gt 7, 3, 16, 0, .null, []), (12, .iconst 1, 1, 0, 0, .int 1, []), (13, .goto 4, 3, 17, 0, .null, []), (16, .iconst 0, 1, 0, 0, .int 0, []), (17, .ireturn, 1, 1, 0, .null, [])]
def cd_Tk_endOf : List (Nat × pE) := [(0, .aload_n 0, 1, 0, 0, .null, []), (1, .iload_n 1, 1, 0, 0, .null, []), (2, .iaload, 1, 0, 0, .null, []), (3, .invokestatic 55, 3, 103, 1, .int 0, []), (6, .istore_n 3, 1, 0, 0, .null, []), (7, .aload_n 0, 1, 0, 0, .null, []), (8, .iload_n 1, 1, 0, 0, .null, []), (9, .iaload, 1, 0, 0, .null, []), (10, .invokestatic 58, 3, 104, 1, .int 0, []), (13, .istore 4, 2, 0, 0, .null, []), (15, .iload_n 1, 1, 0, 0, .null, []), (16, .iconst 1, 1, 0, 0, .int 1, []), (17, .iadd, 1, 0, 0, .null, []), (18, .istore 5, 2, 0, 0, .null, []), (20, .iload 5, 2, 0, 0, .null, []), (22, .iload_n 2, 1, 0, 0, .null, []), (23, .if_icmp .ge 38, 3, 61, 0, .null, []), (26, .iload_n 3, 1, 0, 0, .null, []), (27, .ifCond .eq 13, 3, 40, 0, .null, []), (30, .aload_n 0, 1, 0, 0, .null, []), (31, .iload 5, 2, 0, 0, .null, []), (33, .iaload, 1, 0, 0, .null, []), (34, .invokestatic 55, 3, 103, 1, .int 0, []), (37, .ifCond .ne 18, 3, 55, 0, .null, []), (40, .iload 4, 2, 0, 0, .null, []), (42, .ifCond .eq 19, 3, 61, 0, .null, []), (45, .aload_n 0, 1, 0, 0, .null, []), (46, .iload 5, 2, 0, 0, .null, []), (48, .iaload, 1, 0, 0, .null, []), (49, .invokestatic 58, 3, 104, 1, .int 0, []), (52, .ifCond .eq 9, 3, 61, 0, .null, []), (55, .iinc 5 1, 3, 0, 0, .int 1, []), (58, .goto (-38), 3, 20, 0, .null, []), (61, .iload 5, 2, 0, 0, .null, []), (63, .ireturn, 1, 0, 0, .null, [])]
def cd_Tk_kindOf : List (Nat × pE) := [(0, .aload_n 1, 1, 0, 0, .null, []), (1, .iload_n 2, 1, 0, 0, .null, []), (2, .iaload, 1, 0, 0, .null, []), (3, .istore 4, 2, 0, 0, .null, []), (5, .iload 4, 2, 0, 0, .null, []), (7, .invokestatic 58, 3, 104, 1, .int 0, []), (10, .ifCond .eq 22, 3, 32, 0, .null, []), (13, .iload_n 3, 1, 0, 0, .null, []), (14, .iload_n 2, 1, 0, 0, .null, []), (15, .isub, 1, 0, 0, .null, []), (16, .iconst 4, 1, 0, 0, .int 4, []), (17, .if_icmp .le 7, 3, 24, 0, .null, []), (20, .iconst 3, 1, 0, 0, .int 3, []), (21, .goto 10, 3, 31, 0, .null, []), (24, .aload_n 0, 1, 0, 0, .null, []), (25, .aload_n 1, 1, 0, 0, .null, []), (26, .iload_n 2, 1, 0, 0, .null, []), (27, .iload_n 3, 1, 0, 0, .null, []), (28, .invokevirtual 61, 3, 107, 4, .int 0, []), (31, .ireturn, 1, 0, 0, .null, []), (32, .iload 4, 2, 0, 0, .null, []), (34, .invokestatic 55, 3, 103, 1, .int 0, []), (37, .ifCond .eq 23, 3, 60, 0, .null, []), (40, .iload_n 3, 1, 0, 0, .null, []), (41, .iload_n 2, 1, 0, 0, .null, []), (42, .isub, 1, 0, 0, .null, []), (43, .bipush 8, 2, 0, 0, .int 8, []), (45, .if_icmp .le 7, 3, 52, 0, .null, []), (48, .iconst 3, 1, 0, 0, .int 3, []), (49, .goto 10, 3, 59, 0, .null, []), (52, .aload_n 0, 1, 0, 0, .null, []), (53, .aload_n 1, 1, 0, 0, .null, []), (54, .iload_n 2, 1, 0, 0, .null, []), (55, .iload_n 3, 1, 0, 0, .null, []), (56, .invokevirtual 64, 3, 108, 4, .int 0, []), (59, .ireturn, 1, 0, 0, .null, []), (60, .ldc 67, 2, 0, 0, .ref 100002, []), (62, .iload 4, 2, 0, 0, .null, []), (64, .i2c, 1, 0, 0, .null, []), (65, .invokevirtual 69, 3, 279, 2, .int 0, []), (68, .ifCond .lt 8, 3, 76, 0, .null, []), (71, .iload 4, 2, 0, 0, .null, []), (73, .goto 4, 3, 77, 0, .null, []), (76, .iconst 3, 1, 0, 0, .int 3, []), (77, .ireturn, 1, 0, 0, .null, [])]
def cd_Tk_intOf : List (Nat × pE) := [(0, .lconst 0, 1, 0, 0, .long 0, []), (1, .lstore 4, 2, 0, 0, .null, []), (3, .iload_n 2, 1, 0, 0, .null, []), (4, .istore 6, 2, 0, 0, .null, []), (6, .iload 6, 2, 0, 0, .null, []), (8, .iload_n 3, 1, 0, 0, .null, []), (9, .if_icmp .ge 26, 3, 35, 0, .null, []), (12, .lload 4, 2, 0, 0, .null, []), (14, .ldc2_w 73, 3, 0, 0, .long 10, []), (17, .lmul, 1, 0, 0, .null, []), (18, .aload_n 1, 1, 0, 0, .null, []), (19, .iload 6, 2, 0, 0, .null, []), (21, .iaload, 1, 0, 0, .null, []), (22, .bipush 48, 2, 0, 0, .int 48, []), (24, .isub, 1, 0, 0, .null, []), (25, .i2l, 1, 0, 0, .null, []), (26, .ladd, 1, 0, 0, .null, []), (27, .lstore 4, 2, 0, 0, .null, []), (29, .iinc 6 1, 3, 0, 0, .int 1, []), (32, .goto (-26), 3, 6, 0, .null, []), (35, .aload_n 0, 1, 0, 0, .null, []), (36, .getfield 20, 3, 10, 3, .null, []), (39, .aload_n 0, 1, 0, 0, .null, []), (40, .getfield 37, 3, 10, 4, .int 0, []), (43, .lload 4, 2, 0, 0, .null, []), (45, .lastore, 1, 0, 0, .null, []), (46, .iconst 2, 1, 0, 0, .int 2, []), (47, .ireturn, 1, 0, 0, .null, [])]
def cd_Tk_nameOf : List (Nat × pE) := [(0, .lconst 0, 1, 0, 0, .long 0, []), (1, .lstore 4, 2, 0, 0, .null, []), (3, .iload_n 2, 1, 0, 0, .null, []), (4, .istore 6, 2, 0, 0, .null, []), (6, .iload 6, 2, 0, 0, .null, []), (8, .iload_n 3, 1, 0, 0, .null, []), (9, .if_icmp .ge 28, 3, 37, 0, .null, []), (12, .lload 4, 2, 0, 0, .null, []), (14, .ldc2_w 35, 3, 0, 0, .long 27, []), (17, .lmul, 1, 0, 0, .null, []), (18, .aload_n 1, 1, 0, 0, .null, []), (19, .iload 6, 2, 0, 0, .null, []), (21, .iaload, 1, 0, 0, .null, []), (22, .bipush 97, 2, 0, 0, .int 97, []), (24, .isub, 1, 0, 0, .null, []), (25, .iconst 1, 1, 0, 0, .int 1, []), (26, .iadd, 1, 0, 0, .null, []), (27, .i2l, 1, 0, 0, .null, []), (28, .ladd, 1, 0, 0, .null, []), (29, .lstore 4, 2, 0, 0, .null, []), (31, .iinc 6 1, 3, 0, 0, .int 1, []), (34, .goto (-28), 3, 6, 0, .null, []), (37, .aload_n 0, 1, 0, 0, .null, []), (38, .getfield 20, 3, 10, 3, .null, []), (41, .aload_n 0, 1, 0, 0, .null, []), (42, .getfield 37, 3, 10, 4, .int 0, []), (45, .lload 4, 2, 0, 0, .null, []), (47, .lastore, 1, 0, 0, .null, []), (48, .iconst 0, 1, 0, 0, .int 0, []), (49, .istore 6, 2, 0, 0, .null, []), (51, .iload 6, 2, 0, 0, .null, []), (53, .bipush 23, 2, 0, 0, .int 23, []), (55, .if_icmp .ge 29, 3, 84, 0, .null, []), (58, .aload_n 0, 1, 0, 0, .null, []), (59, .getfield 9, 3, 10, 0, .null, []), (62, .iload 6, 2, 0, 0, .null, []), (64, .laload, 1, 0, 0, .null, []), (65, .lload 4, 2, 0, 0, .null, []), (67, .lcmp, 1, 0, 0, .null, []), (68, .ifCond .ne 10, 3, 78, 0, .null, []), (71, .sipush 200, 3, 0, 0, .int 200, []), (74, .iload 6, 2, 0, 0, .null, []), (76, .iadd, 1, 0, 0, .null, []), (77, .ireturn, 1, 0, 0, .null, []), (78, .iinc 6 1, 3, 0, 0, .int 1, []), (81, .goto (-30), 3, 51, 0, .null, []), (84, .iconst 1, 1, 0, 0, .int 1, []), (85, .ireturn, 1, 0, 0, .null, [])]
def cd_D_init : List (Nat × pE) := [(0, .aload_n 0, 1, 0, 0, .null, []), (1, .invokespecial 1, 3, 9999, 1, .retAddr 0, []), (4, .aload_n 0, 1, 0, 0, .null, []), (5, .sipush 2000, 3, 0, 0, .int 2000, []), (8, .newarray .int, 2, 100, 0, .int 0, []), (10, .putfield 9, 3, 11, 0, .null, []), (13, .aload_n 0, 1, 0, 0, .null, []), (14, .iconst 3, 1, 0, 0, .int 3, []), (15, .newarray .boolean, 2, 102, 0, .int 0, []), (17, .putfield 13, 3, 11, 12, .null, []), (20, .aload_n 0, 1, 0, 0, .null, []), (21, .bipush 20, 2, 0, 0, .int 20, []), (23, .newarray .int, 2, 100, 0, .int 0, []), (25, .putfield 17, 3, 11, 13, .null, []), (28, .aload_n 0, 1, 0, 0, .null, []), (29, .new 20, 3, 10, 0, .null, []), (32, .dup, 1, 0, 0, .null, []), (33, .invokespecial 22, 3, 96, 1, .retAddr 0, []), (36, .putfield 23, 3, 11, 3, .null, []), (39, .aload_n 0, 1, 0, 0, .null, []), (40, .new 27, 3, 1, 0, .null, []), (43, .dup, 1, 0, 0, .null, []), (44, .aload_n 0, 1, 0, 0, .null, []), (45, .getfield 23, 3, 11, 3, .null, []), (48, .invokespecial 29, 3, 21, 2, .retAddr 0, []), (51, .putfield 32, 3, 11, 4, .null, []), (54, .aload_n 0, 1, 0, 0, .null, []), (55, .new 36, 3, 8, 0, .null, []), (58, .dup, 1, 0, 0, .null, []), (59, .aload_n 0, 1, 0, 0, .null, []), (60, .getfield 23, 3, 11, 3, .null, []), (63, .invokespecial 38, 3, 73, 2, .retAddr 0, []), (66, .putfield 39, 3, 11, 5, .null, []), (69, .aload_n 0, 1, 0, 0, .null, []), (70, .new 43, 3, 9, 0, .null, []), (73, .dup, 1, 0, 0, .null, []), (74, .invokespecial 45, 3, 90, 1, .retAddr 0, []), (77, .putfield 46, 3, 11, 6, .null, []), (80, .aload_n 0, 1, 0, 0, .null, []), (81, .new 43, 3, 9, 0, .null, []), (84, .dup, 1, 0, 0, .null, []), (85, .invokespecial 45, 3, 90, 1, .retAddr 0, []), (88, .putfield 50, 3, 11, 7, .null, []), (91, .aload_n 0, 1, 0, 0, .null, []), (92, .new 53, 3, 0, 0, .null, []), (95, .dup, 1, 0, 0, .null, []), (96, .invokespecial 55, 3, 0, 1, .retAddr 0, []), (99, .putfield 56, 3, 11, 8, .null, []), (102, .aload_n 0, 1, 0, 0, .null, []), (103, .new 53, 3, 0, 0, .null, []), (106, .dup, 1, 0, 0, .null, []), (107, .invokespecial 55, 3, 0, 1, .retAddr 0, []), (110, .putfield 60, 3, 11, 9, .null, []), (113, .aload_n 0, 1, 0, 0, .null, []), (114, .new 63, 3, 2, 0, .null, []), (117, .dup, 1, 0, 0, .null, []), (118, .invokespecial 65, 3, 40, 1, .retAddr 0, []), (121, .putfield 66, 3, 11, 10, .null, []), (124, .aload_n 0, 1, 0, 0, .null, []), (125, .iconst 3, 1, 0, 0, .int 3, []), (126, .anewarray 70, 3, 0, 0, .null, []), (129, .putfield 72, 3, 11, 11, .null, []), (132, .iconst 0, 1, 0, 0, .int 0, []), (133, .istore_n 1, 1, 0, 0, .null, []), (134, .iload_n 1, 1, 0, 0, .null, []), (135, .iconst 3, 1, 0, 0, .int 3, []), (136, .if_icmp .ge 22, 3, 158, 0, .null, []), (139, .aload_n 0, 1, 0, 0, .null, []), (140, .getfield 72, 3, 11, 11, .null, []), (143, .iload_n 1, 1, 0, 0, .null, []), (144, .new 70, 3, 7, 0, .null, []), (147, .dup, 1, 0, 0, .null, []), (148, .invokespecial 76, 3, 67, 1, .retAddr 0, []), (151, .aastore, 1, 0, 0, .null, []), (152, .iinc 1 1, 3, 0, 0, .int 1, []), (155, .goto (-21), 3, 134, 0, .null, []), (158, .aload_n 0, 1, 0, 0, .null, []), (159, .new 77, 3, 4, 0, .null, []), (162, .dup, 1, 0, 0, .null, []), (163, .invokespecial 79, 3, 52, 1, .retAddr 0, []), (166, .putfield 80, 3, 11, 15, .null, []), (169, .aload_n 0, 1, 0, 0, .null, []), (170, .new 84, 3, 5, 0, .null, []), (173, .dup, 1, 0, 0, .null, []), (174, .invokespecial 86, 3, 60, 1, .retAddr 0, []), (177, .putfield 87, 3, 11, 16, .null, []), (180, .aload_n 0, 1, 0, 0, .null, []), (181, .new 91, 3, 6, 0, .null, []), (184, .dup, 1, 0, 0, .null, []), (185, .invokespecial 93, 3, 64, 1, .retAddr 0, []), (188, .putfield 94, 3, 11, 17, .null, []), (191, .aload_n 0, 1, 0, 0, .null, []), (192, .iconst (-1), 1, 0, 0, .int (-1), []), (193, .putfield 98, 3, 11, 2, .int 0, []), (196, .aload_n 0, 1, 0, 0, .null, []), (197, .invokevirtual 102, 3, 142, 1, .retAddr 0, []), (200, .return_, 1, 0, 0, .null, [])]
def cd_D_feed : List (Nat × pE) := [(0, .aload_n 0, 1, 0, 0, .null, []), (1, .getfield 105, 3, 11, 1, .int 0, []), (4, .sipush 1980, 3, 0, 0, .int 1980, []), (7, .if_icmp .le 5, 3, 12, 0, .null, []), (10, .iconst (-1), 1, 0, 0, .int (-1), []), (11, .ireturn, 1, 0, 0, .null, []), (12, .aload_n 0, 1, 0, 0, .null, []), (13, .iload_n 1, 1, 0, 0, .null, []), (14, .invokevirtual 108, 3, 143, 2, .retAddr 0, []), (17, .aload_n 0, 1, 0, 0, .null, []), (18, .iload_n 2, 1, 0, 0, .null, []), (19, .invokevirtual 108, 3, 143, 2, .retAddr 0, []), (22, .aload_n 0, 1, 0, 0, .null, []), (23, .iload_n 3, 1, 0, 0, .null, []), (24, .invokevirtual 108, 3, 143, 2, .retAddr 0, []), (27, .aload_n 0, 1, 0, 0, .null, []), (28, .iload 4, 2, 0, 0, .null, []), (30, .invokevirtual 108, 3, 143, 2, .retAddr 0, []), (33, .aload_n 0, 1, 0, 0, .null, []), (34, .iload 5, 2, 0, 0, .null, []), (36, .invokevirtual 108, 3, 143, 2, .retAddr 0, []), (39, .aload_n 0, 1, 0, 0, .null, []), (40, .getfield 105, 3, 11, 1, .int 0, []), (43, .ireturn, 1, 0, 0, .null, [])]
def cd_D_back : List (Nat × pE) := [(0, .iload_n 1, 1, 0, 0, .null, []), (1, .ifCond .lt 11, 3, 12, 0, .null, []), (4, .iload_n 1, 1, 0, 0, .null, []), (5, .aload_n 0, 1, 0, 0, .null, []), (6, .getfield 105, 3, 11, 1, .int 0, []), (9, .if_icmp .le 5, 3, 14, 0, .null, []), (12, .iconst (-1), 1, 0, 0, .int (-1), []), (13, .ireturn, 1, 0, 0, .null, []), (14, .aload_n 0, 1, 0, 0, .null, []), (15, .dup, 1, 0, 0, .null, []), (16, .getfield 105, 3, 11, 1, .int 0, []), (19, .iload_n 1, 1, 0, 0, .null, []), (20, .isub, 1, 0, 0, .null, []), (21, .putfield 105, 3, 11, 1, .int 0, []), (24, .aload_n 0, 1, 0, 0, .null, []), (25, .getfield 105, 3, 11, 1, .int 0, []), (28, .ireturn, 1, 0, 0, .null, [])]
def cd_D_read : List (Nat × pE) := [(0, .aload_n 0, 1, 0, 0, .null, []), (1, .getfield 23, 3, 11, 3, .null, []), (4, .aload_n 0, 1, 0, 0, .null, []), (5, .getfield 9, 3, 11, 0, .null, []), (8, .aload_n 0, 1, 0, 0, .null, []), (9, .getfield 105, 3, 11, 1, .int 0, []), (12, .invokevirtual 112, 3, 97, 3, .retAddr 0, []), (15, .aload_n 0, 1, 0, 0, .null, []), (16, .iconst 0, 1, 0, 0, .int 0, []), (17, .putfield 105, 3, 11, 1, .int 0, []), (20, .aload_n 0, 1, 0, 0, .null, []), (21, .iconst (-1), 1, 0, 0, .int (-1), []), (22, .putfield 98, 3, 11, 2, .int 0, []), (25, .aload_n 0, 1, 0, 0, .null, []), (26, .getfield 50, 3, 11, 7, .null, []), (29, .invokevirtual 116, 3, 91, 1, .retAddr 0, []), (32, .aload_n 0, 1, 0, 0, .null, []), (33, .getfield 32, 3, 11, 4, .null, []), (36, .aload_n 0, 1, 0, 0, .null, []), (37, .getfield 50, 3, 11, 7, .null, []), (40, .invokevirtual 119, 3, 22, 2, .int 0, []), (43, .istore_n 1, 1, 0, 0, .null, []), (44, .iload_n 1, 1, 0, 0, .null, []), (45, .ifCond .eq 16, 3, 61, 0, .null, []), (48, .aload_n 0, 1, 0, 0, .null, []), (49, .aload_n 0, 1, 0, 0, .null, []), (50, .getfield 32, 3, 11, 4, .null, []), (53, .invokevirtual 123, 3, 23, 1, .int 0, []), (56, .putfield 98, 3, 11, 2, .int 0, []), (59, .iload_n 1, 1, 0, 0, .null, []), (60, .ireturn, 1, 0, 0, .null, []), (61, .aload_n 0, 1, 0, 0, .null, []), (62, .getfield 39, 3, 11, 5, .null, []), (65, .aload_n 0, 1, 0, 0, .null, []), (66, .getfield 50, 3, 11, 7, .null, []), (69, .invokevirtual 127, 3, 74, 2, .int 0, []), (72, .istore_n 1, 1, 0, 0, .null, []), (73, .iload_n 1, 1, 0, 0, .null, []), (74, .ifCond .eq 16, 3, 90, 0, .null, []), (77, .aload_n 0, 1, 0, 0, .null, []), (78, .aload_n 0, 1, 0, 0, .null, []), (79, .getfield 39, 3, 11, 5, .null, []), (82, .invokevirtual 128, 3, 75, 1, .int 0, []), (85, .putfield 98, 3, 11, 2, .int 0, []), (88, .iload_n 1, 1, 0, 0, .null, []), (89, .ireturn, 1, 0, 0, .null, []), (90, .aload_n 0, 1, 0, 0, .null, []), (91, .getfield 46, 3, 11, 6, .null, []), (94, .astore_n 2, 1, 0, 0, .null, []), (95, .aload_n 0, 1, 0, 0, .null, []), (96, .aload_n 0, 1, 0, 0, .null, []), (97, .getfield 50, 3, 11, 7, .null, []), (100, .putfield 46, 3, 11, 6, .null, []), (103, .aload_n 0, 1, 0, 0, .null, []), (104, .aload_n 2, 1, 0, 0, .null, []), (105, .putfield 50, 3, 11, 7, .null, []), (108, .aload_n 0, 1, 0, 0, .null, []), (109, .invokevirtual 102, 3, 142, 1, .retAddr 0, []), (112, .iconst 0, 1, 0, 0, .int 0, []), (113, .ireturn, 1, 0, 0, .null, [])]
def cd_D_place : List (Nat × pE) := [(0, .aload_n 0, 1, 0, 0, .null, []), (1, .getfield 98, 3, 11, 2, .int 0, []), (4, .ireturn, 1, 0, 0, .null, [])]
def cd_D_guest : List (Nat × pE) := [(0, .aload_n 0, 1, 0, 0, .null, []), (1, .iload_n 1, 1, 0, 0, .null, []), (2, .invokevirtual 129, 3, 146, 2, .int 0, []), (5, .ifCond .ne 6, 3, 11, 0, .null, []), (8, .ldc 133, 2, 0, 0, .int (-100000), []), (10, .ireturn, 1, 0, 0, .null, []), (11, .aload_n 0, 1, 0, 0, .null, []), (12, .getfield 56, 3, 11, 8, .null, []), (15, .getfield 134, 3, 0, 0, .null, []), (18, .astore_n 3, 1, 0, 0, .null, []), (19, .iload_n 2, 1, 0, 0, .null, []), (20, .tableswitch 121 0 7 #[48, 55, 62, 72, 82, 100, 107, 114], 48, 141, 0, .null, [(0, 68), (1, 75), (2, 82), (3, 92), (4, 102), (5, 120), (6, 127), (7, 134)]), (68, .aload_n 3, 1, 0, 0, .null, []), (69, .getfield 138, 3, 7, 3, .null, []), (72, .iload_n 1, 1, 0, 0, .null, []), (73, .iaload, 1, 0, 0, .null, []), (74, .ireturn, 1, 0, 0, .null, []), (75, .aload_n 3, 1, 0, 0, .null, []), (76, .getfield 141, 3, 7, 4, .null, []), (79, .iload_n 1, 1, 0, 0, .null, []), (80, .iaload, 1, 0, 0, .null, []), (81, .ireturn, 1, 0, 0, .null, []), (82, .aload_n 3, 1, 0, 0, .null, []), (83, .getfield 144, 3, 7, 5, .null, []), (86, .iload_n 1, 1, 0, 0, .null, []), (87, .iaload, 1, 0, 0, .null, []), (88, .invokestatic 147, 3, 154, 1, .int 0, []), (91, .ireturn, 1, 0, 0, .null, []), (92, .aload_n 3, 1, 0, 0, .null, []), (93, .getfield 144, 3, 7, 5, .null, []), (96, .iload_n 1, 1, 0, 0, .null, []), (97, .iaload, 1, 0, 0, .null, []), (98, .invokestatic 151, 3, 155, 1, .int 0, []), (101, .ireturn, 1, 0, 0, .null, []), (102, .aload_n 0, 1, 0, 0, .null, []), (103, .getfield 56, 3, 11, 8, .null, []), (106, .invokevirtual 154, 3, 17, 1, .int 0, []), (109, .pop, 1, 0, 0, .null, []), (110, .aload_n 0, 1, 0, 0, .null, []), (111, .getfield 56, 3, 11, 8, .null, []), (114, .getfield 157, 3, 0, 1, .null, []), (117, .iload_n 1, 1, 0, 0, .null, []), (118, .iaload, 1, 0, 0, .null, []), (119, .ireturn, 1, 0, 0, .null, []), (120, .aload_n 3, 1, 0, 0, .null, []), (121, .getfield 160, 3, 7, 7, .null, []), (124, .iload_n 1, 1, 0, 0, .null, []), (125, .iaload, 1, 0, 0, .null, []), (126, .ireturn, 1, 0, 0, .null, []), (127, .aload_n 3, 1, 0, 0, .null, []), (128, .getfield 163, 3, 7, 8, .null, []), (131, .iload_n 1, 1, 0, 0, .null, []), (132, .iaload, 1, 0, 0, .null, []), (133, .ireturn, 1, 0, 0, .null, []), (134, .aload_n 3, 1, 0, 0, .null, []), (135, .getfield 166, 3, 7, 9, .null, []), (138, .iload_n 1, 1, 0, 0, .null, []), (139, .iaload, 1, 0, 0, .null, []), (140, .ireturn, 1, 0, 0, .null, []), (141, .ldc 133, 2, 0, 0, .int (-100000), []), (143, .ireturn, 1, 0, 0, .null, [])]
def cd_D_inn : List (Nat × pE) := [(0, .aload_n 0, 1, 0, 0, .null, []), (1, .iload_n 1, 1, 0, 0, .null, []), (2, .invokevirtual 169, 3, 145, 2, .int 0, []), (5, .ifCond .ne 5, 3, 10, 0, .null, []), (8, .iconst (-1), 1, 0, 0, .int (-1), []), (9, .ireturn, 1, 0, 0, .null, []), (10, .iload_n 2, 1, 0, 0, .null, []), (11, .tableswitch 100 0 4 #[33, 42, 64, 77, 90], 33, 111, 0, .null, [(0, 44), (1, 53), (2, 75), (3, 88), (4, 101)]), (44, .aload_n 0, 1, 0, 0, .null, []), (45, .getfield 56, 3, 11, 8, .null, []), (48, .iload_n 1, 1, 0, 0, .null, []), (49, .invokevirtual 172, 3, 3, 2, .int 0, []), (52, .ireturn, 1, 0, 0, .null, []), (53, .aload_n 0, 1, 0, 0, .null, []), (54, .getfield 46, 3, 11, 6, .null, []), (57, .getfield 175, 3, 9, 8, .null, []), (60, .iload_n 1, 1, 0, 0, .null, []), (61, .iaload, 1, 0, 0, .null, []), (62, .aload_n 0, 1, 0, 0, .null, []), (63, .getfield 56, 3, 11, 8, .null, []), (66, .iload_n 1, 1, 0, 0, .null, []), (67, .invokevirtual 172, 3, 3, 2, .int 0, []), (70, .invokestatic 178, 3, 270, 1, .int 0, []), (73, .isub, 1, 0, 0, .null, []), (74, .ireturn, 1, 0, 0, .null, []), (75, .aload_n 0, 1, 0, 0, .null, []), (76, .getfield 56, 3, 11, 8, .null, []), (79, .getfield 134, 3, 0, 0, .null, []), (82, .getfield 183, 3, 7, 10, .null, []), (85, .iload_n 1, 1, 0, 0, .null, []), (86, .iaload, 1, 0, 0, .null, []), (87, .ireturn, 1, 0, 0, .null, []), (88, .aload_n 0, 1, 0, 0, .null, []), (89, .getfield 56, 3, 11, 8, .null, []), (92, .getfield 134, 3, 0, 0, .null, []), (95, .getfield 186, 3, 7, 11, .null, []), (98, .iload_n 1, 1, 0, 0, .null, []), (99, .iaload, 1, 0, 0, .null, []), (100, .ireturn, 1, 0, 0, .null, []), (101, .aload_n 0, 1, 0, 0, .null, []), (102, .getfield 46, 3, 11, 6, .null, []), (105, .getfield 189, 3, 9, 11, .null, []), (108, .iload_n 1, 1, 0, 0, .null, []), (109, .iaload, 1, 0, 0, .null, []), (110, .ireturn, 1, 0, 0, .null, []), (111, .iconst (-1), 1, 0, 0, .int (-1), []), (112, .ireturn, 1, 0, 0, .null, [])]
def cd_D_gives : List (Nat × pE) := [(0, .aload_n 0, 1, 0, 0, .null, []), (1, .iload_n 1, 1, 0, 0, .null, []), (2, .invokevirtual 169, 3, 145, 2, .int 0, []), (5, .ifCond .eq 11, 3, 16, 0, .null, []), (8, .aload_n 0, 1, 0, 0, .null, []), (9, .iload_n 2, 1, 0, 0, .null, []), (10, .invokevirtual 192, 3, 144, 2, .int 0, []), (13, .ifCond .ne 5, 3, 18, 0, .null, []), (16, .iconst (-1), 1, 0, 0, .int (-1), []), (17, .ireturn, 1, 0, 0, .null, []), (18, .aload_n 0, 1, 0, 0, .null, []), (19, .getfield 46, 3, 11, 6, .null, []), (22, .iload_n 1, 1, 0, 0, .null, []), (23, .iload_n 2, 1, 0, 0, .null, []), (24, .invokevirtual 195, 3, 93, 3, .int 0, []), (27, .ireturn, 1, 0, 0, .null, [])]
def cd_D_lodge : List (Nat × pE) := [(0, .aload_n 0, 1, 0, 0, .null, []), (1, .iload_n 1, 1, 0, 0, .null, []), (2, .invokevirtual 129, 3, 146, 2, .int 0, []), (5, .ifCond .eq 16, 3, 21, 0, .null, []), (8, .iload_n 2, 1, 0, 0, .null, []), (9, .iconst (-1), 1, 0, 0, .int (-1), []), (10, .if_icmp .eq 13, 3, 23, 0, .null, []), (13, .aload_n 0, 1, 0, 0, .null, []), (14, .iload_n 2, 1, 0, 0, .null, []), (15, .invokevirtual 169, 3, 145, 2, .int 0, []), (18, .ifCond .ne 5, 3, 23, 0, .null, []), (21, .iconst 0, 1, 0, 0, .int 0, []), (22, .ireturn, 1, 1, 0, .null, []), (23, .iload_n 2, 1, 0, 0, .null, []), (24, .iconst (-1), 1, 0, 0, .int (-1), []), (25, .if_icmp .ne 8, 3, 33, 0, .null, []), (28, .bipush (-2), 2, 0, 0, .int (-2), []), (30, .goto 4, 3, 34, 0, .null, []), (33, .iload_n 2, 1, 0, 0, .null, []), (34, .istore_n 3, 1, 0, 0, .null, []), (35, .aload_n 0, 1, 0, 0, .null, []), (36, .getfield 56, 3, 11, 8, .null, []), (39, .getfield 134, 3, 0, 0, .null, []), (42, .getfield 141, 3, 7, 4, .null, []), (45, .iload_n 1, 1, 0, 0, .null, []), (46, .iaload, 1, 0, 0, .null, []), (47, .iload_n 3, 1, 0, 0, .null, []), (48, .if_icmp .ne 5, 3, 53, 0, .null, []), (51, .iconst 0, 1, 0, 0, .int 0, []), (52, .ireturn, 1, 1, 0, .null, []), (53, .iload_n 3, 1, 0, 0, .null, []), (54, .ifCond .lt 28, 3, 82, 0, .null, []), (57, .aload_n 0, 1, 0, 0, .null, []), (58, .getfield 56, 3, 11, 8, .null, []), (61, .iload_n 3, 1, 0, 0, .null, []), (62, .invokevirtual 172, 3, 3, 2, .int 0, []), (65, .invokestatic 178, 3, 270, 1, .int 0, []), (68, .aload_n 0, 1, 0, 0, .null, []), (69, .getfield 46, 3, 11, 6, .null, []), (72, .getfield 175, 3, 9, 8, .null, []), (75, .iload_n 3, 1, 0, 0, .null, []), (76, .iaload, 1, 0, 0, .null, []), (77, .if_icmp .lt 5, 3, 82, 0, .null, []), (80, .iconst 0, 1, 0, 0, .int 0, []), (81, .ireturn, 1, 1, 0, .null, []), (82, .aload_n 0, 1, 0, 0, .null, []), (83, .getfield 66, 3, 11, 10, .null, []), (86, .aload_n 0, 1, 0, 0, .null, []), (87, .getfield 56, 3, 11, 8, .null, []), (90, .getfield 134, 3, 0, 0, .null, []), (93, .invokevirtual 199, 3, 42, 2, .retAddr 0, []), (96, .aload_n 0, 1, 0, 0, .null, []), (97, .getfield 56, 3, 11, 8, .null, []), (100, .getfield 134, 3, 0, 0, .null, []), (103, .getfield 141, 3, 7, 4, .null, []), (106, .iload_n 1, 1, 0, 0, .null, []), (107, .iload_n 3, 1, 0, 0, .null, []), (108, .iastore, 1, 0, 0, .null, []), (109, .iconst 1, 1, 0, 0, .int 1, []), (110, .ireturn, 1, 1, 0, .null, [])]
def cd_D_nights : List (Nat × pE) := [(0, .iload_n 1, 1, 0, 0, .null, []), (1, .ifCond .lt 9, 3, 10, 0, .null, []), (4, .iload_n 1, 1, 0, 0, .null, []), (5, .bipush 30, 2, 0, 0, .int 30, []), (7, .if_icmp .le 5, 3, 12, 0, .null, []), (10, .iconst (-1), 1, 0, 0, .int (-1), []), (11, .ireturn, 1, 0, 0, .null, []), (12, .iload_n 1, 1, 0, 0, .null, []), (13, .ifCond .le 17, 3, 30, 0, .null, []), (16, .aload_n 0, 1, 0, 0, .null, []), (17, .getfield 66, 3, 11, 10, .null, []), (20, .aload_n 0, 1, 0, 0, .null, []), (21, .getfield 56, 3, 11, 8, .null, []), (24, .getfield 134, 3, 0, 0, .null, []), (27, .invokevirtual 199, 3, 42, 2, .retAddr 0, []), (30, .iconst 0, 1, 0, 0, .int 0, []), (31, .istore_n 2, 1, 0, 0, .null, []), (32, .iload_n 2, 1, 0, 0, .null, []), (33, .iload_n 1, 1, 0, 0, .null, []), (34, .if_icmp .ge 16, 3, 50, 0, .null, []), (37, .aload_n 0, 1, 0, 0, .null, []), (38, .getfield 56, 3, 11, 8, .null, []), (41, .invokevirtual 203, 3, 6, 1, .retAddr 0, []), (44, .iinc 2 1, 3, 0, 0, .int 1, []), (47, .goto (-15), 3, 32, 0, .null, []), (50, .aload_n 0, 1, 0, 0, .null, []), (51, .getfield 56, 3, 11, 8, .null, []), (54, .getfield 134, 3, 0, 0, .null, []), (57, .getfield 206, 3, 7, 0, .int 0, []), (60, .ireturn, 1, 0, 0, .null, [])]
def cd_D_morning : List (Nat × pE) := [(0, .aload_n 0, 1, 0, 0, .null, []), (1, .getfield 56, 3, 11, 8, .null, []), (4, .invokevirtual 209, 3, 5, 1, .int 0, []), (7, .ifCond .ne 6, 3, 13, 0, .null, []), (10, .bipush (-2), 2, 0, 0, .int (-2), []), (12, .ireturn, 1, 0, 0, .null, []), (13, .aload_n 0, 1, 0, 0, .null, []), (14, .getfield 66, 3, 11, 10, .null, []), (17, .aload_n 0, 1, 0, 0, .null, []), (18, .getfield 56, 3, 11, 8, .null, []), (21, .getfield 134, 3, 0, 0, .null, []), (24, .invokevirtual 199, 3, 42, 2, .retAddr 0, []), (27, .aload_n 0, 1, 0, 0, .null, []), (28, .getfield 56, 3, 11, 8, .null, []), (31, .invokevirtual 212, 3, 18, 1, .int 0, []), (34, .ireturn, 1, 0, 0, .null, [])]
def cd_D_swap : List (Nat × pE) := [(0, .aload_n 0, 1, 0, 0, .null, []), (1, .iload_n 1, 1, 0, 0, .null, []), (2, .invokevirtual 129, 3, 146, 2, .int 0, []), (5, .ifCond .eq 16, 3, 21, 0, .null, []), (8, .aload_n 0, 1, 0, 0, .null, []), (9, .iload_n 2, 1, 0, 0, .null, []), (10, .invokevirtual 129, 3, 146, 2, .int 0, []), (13, .ifCond .eq 8, 3, 21, 0, .null, []), (16, .iload_n 1, 1, 0, 0, .null, []), (17, .iload_n 2, 1, 0, 0, .null, []), (18, .if_icmp .ne 5, 3, 23, 0, .null, []), (21, .iconst 0, 1, 0, 0, .int 0, []), (22, .ireturn, 1, 1, 0, .null, []), (23, .aload_n 0, 1, 0, 0, .null, []), (24, .getfield 56, 3, 11, 8, .null, []), (27, .getfield 134, 3, 0, 0, .null, []), (30, .getfield 144, 3, 7, 5, .null, []), (33, .astore_n 3, 1, 0, 0, .null, []), (34, .aload_n 3, 1, 0, 0, .null, []), (35, .iload_n 1, 1, 0, 0, .null, []), (36, .iaload, 1, 0, 0, .null, []), (37, .bipush (-2), 2, 0, 0, .int (-2), []), (39, .if_icmp .ne 13, 3, 52, 0, .null, []), (42, .aload_n 3, 1, 0, 0, .null, []), (43, .iload_n 2, 1, 0, 0, .null, []), (44, .iaload, 1, 0, 0, .null, []), (45, .bipush (-2), 2, 0, 0, .int (-2), []), (47, .if_icmp .ne 5, 3, 52, 0, .null, []), (50, .iconst 0, 1, 0, 0, .int 0, []), (51, .ireturn, 1, 1, 0, .null, []), (52, .aload_n 0, 1, 0, 0, .null, []), (53, .getfield 66, 3, 11, 10, .null, []), (56, .aload_n 0, 1, 0, 0, .null, []), (57, .getfield 56, 3, 11, 8, .null, []), (60, .getfield 134, 3, 0, 0, .null, []), (63, .invokevirtual 199, 3, 42, 2, .retAddr 0, []), (66, .aload_n 0, 1, 0, 0, .null, []), (67, .getfield 56, 3, 11, 8, .null, []), (70, .getfield 134, 3, 0, 0, .null, []), (73, .iload_n 1, 1, 0, 0, .null, []), (74, .iload_n 2, 1, 0, 0, .null, []), (75, .invokevirtual 215, 3, 70, 3, .retAddr 0, []), (78, .iconst 1, 1, 0, 0, .int 1, []), (79, .ireturn, 1, 1, 0, .null, [])]
def cd_D_deposit : List (Nat × pE) := [(0, .aload_n 0, 1, 0, 0, .null, []), (1, .iload_n 1, 1, 0, 0, .null, []), (2, .invokevirtual 129, 3, 146, 2, .int 0, []), (5, .ifCond .ne 5, 3, 10, 0, .null, []), (8, .iconst (-1), 1, 0, 0, .int (-1), []), (9, .ireturn, 1, 0, 0, .null, []), (10, .aload_n 0, 1, 0, 0, .null, []), (11, .getfield 56, 3, 11, 8, .null, []), (14, .getfield 134, 3, 0, 0, .null, []), (17, .astore_n 3, 1, 0, 0, .null, []), (18, .aload_n 3, 1, 0, 0, .null, []), (19, .getfield 144, 3, 7, 5, .null, []), (22, .iload_n 1, 1, 0, 0, .null, []), (23, .iaload, 1, 0, 0, .null, []), (24, .bipush (-2), 2, 0, 0, .int (-2), []), (26, .if_icmp .eq 7, 3, 33, 0, .null, []), (29, .iconst 1, 1, 0, 0, .int 1, []), (30, .goto 4, 3, 34, 0, .null, []), (33, .iconst 0, 1, 0, 0, .int 0, []), (34, .istore 4, 2, 0, 0, .null, []), (36, .aload_n 3, 1, 0, 0, .null, []), (37, .getfield 160, 3, 7, 7, .null, []), (40, .iload_n 1, 1, 0, 0, .null, []), (41, .iaload, 1, 0, 0, .null, []), (42, .istore 5, 2, 0, 0, .null, []), (44, .iload 4, 2, 0, 0, .null, []), (46, .iload_n 2, 1, 0, 0, .null, []), (47, .if_icmp .eq 17, 3, 64, 0, .null, []), (50, .iload 5, 2, 0, 0, .null, []), (52, .iload_n 2, 1, 0, 0, .null, []), (53, .ifCond .eq 7, 3, 60, 0, .null, []), (56, .iconst 0, 1, 0, 0, .int 0, []), (57, .goto 4, 3, 61, 0, .null, []), (60, .iconst 5, 1, 0, 0, .int 5, []), (61, .if_icmp .ne 6, 3, 67, 0, .null, []), (64, .bipush (-2), 2, 0, 0, .int (-2), []), (66, .ireturn, 1, 0, 0, .null, []), (67, .aload_n 0, 1, 0, 0, .null, []), (68, .getfield 66, 3, 11, 10, .null, []), (71, .aload_n 3, 1, 0, 0, .null, []), (72, .invokevirtual 199, 3, 42, 2, .retAddr 0, []), (75, .iload_n 2, 1, 0, 0, .null, []), (76, .ifCond .eq 11, 3, 87, 0, .null, []), (79, .aload_n 3, 1, 0, 0, .null, []), (80, .iload_n 1, 1, 0, 0, .null, []), (81, .invokevirtual 219, 3, 72, 2, .retAddr 0, []), (84, .goto 8, 3, 92, 0, .null, []), (87, .aload_n 3, 1, 0, 0, .null, []), (88, .iload_n 1, 1, 0, 0, .null, []), (89, .invokevirtual 222, 3, 71, 2, .retAddr 0, []), (92, .aload_n 3, 1, 0, 0, .null, []), (93, .getfield 160, 3, 7, 7, .null, []), (96, .iload_n 1, 1, 0, 0, .null, []), (97, .iaload, 1, 0, 0, .null, []), (98, .ireturn, 1, 0, 0, .null, [])]
def cd_D_undo : List (Nat × pE) := [(0, .aload_n 0, 1, 0, 0, .null, []), (1, .getfield 66, 3, 11, 10, .null, []), (4, .aload_n 0, 1, 0, 0, .null, []), (5, .getfield 56, 3, 11, 8, .null, []), (8, .getfield 134, 3, 0, 0, .null, []), (11, .invokevirtual 225, 3, 43, 2, .int 0, []), (14, .ireturn, 1, 1, 0, .null, [])]
def cd_D_owes : List (Nat × pE) := [(0, .aload_n 0, 1, 0, 0, .null, []), (1, .iload_n 1, 1, 0, 0, .null, []), (2, .invokevirtual 129, 3, 146, 2, .int 0, []), (5, .ifCond .eq 21, 3, 26, 0, .null, []), (8, .aload_n 0, 1, 0, 0, .null, []), (9, .iload_n 2, 1, 0, 0, .null, []), (10, .invokevirtual 192, 3, 144, 2, .int 0, []), (13, .ifCond .eq 13, 3, 26, 0, .null, []), (16, .iload_n 3, 1, 0, 0, .null, []), (17, .ifCond .lt 9, 3, 26, 0, .null, []), (20, .iload_n 3, 1, 0, 0, .null, []), (21, .bipush 99, 2, 0, 0, .int 99, []), (23, .if_icmp .le 5, 3, 28, 0, .null, []), (26, .iconst (-1), 1, 0, 0, .int (-1), []), (27, .ireturn, 1, 0, 0, .null, []), (28, .aload_n 0, 1, 0, 0, .null, []), (29, .getfield 56, 3, 11, 8, .null, []), (32, .getfield 134, 3, 0, 0, .null, []), (35, .getfield 141, 3, 7, 4, .null, []), (38, .iload_n 1, 1, 0, 0, .null, []), (39, .iaload, 1, 0, 0, .null, []), (40, .istore 4, 2, 0, 0, .null, []), (42, .aload_n 0, 1, 0, 0, .null, []), (43, .getfield 56, 3, 11, 8, .null, []), (46, .iload_n 1, 1, 0, 0, .null, []), (47, .iload 4, 2, 0, 0, .null, []), (49, .iload_n 2, 1, 0, 0, .null, []), (50, .invokevirtual 229, 3, 12, 4, .int 0, []), (53, .istore 5, 2, 0, 0, .null, []), (55, .aload_n 0, 1, 0, 0, .null, []), (56, .getfield 56, 3, 11, 8, .null, []), (59, .iload_n 1, 1, 0, 0, .null, []), (60, .iload 4, 2, 0, 0, .null, []), (62, .iload_n 2, 1, 0, 0, .null, []), (63, .iload_n 3, 1, 0, 0, .null, []), (64, .iload 5, 2, 0, 0, .null, []), (66, .invokestatic 233, 3, 153, 3, .int 0, []), (69, .invokevirtual 236, 3, 13, 4, .int 0, []), (72, .ireturn, 1, 0, 0, .null, [])]
def cd_D_mean : List (Nat × pE) := [(0, .aload_n 0, 1, 0, 0, .null, []), (1, .iload_n 1, 1, 0, 0, .null, []), (2, .invokevirtual 129, 3, 146, 2, .int 0, []), (5, .ifCond .eq 11, 3, 16, 0, .null, []), (8, .aload_n 0, 1, 0, 0, .null, []), (9, .iload_n 2, 1, 0, 0, .null, []), (10, .invokevirtual 169, 3, 145, 2, .int 0, []), (13, .ifCond .ne 5, 3, 18, 0, .null, []), (16, .iconst (-1), 1, 0, 0, .int (-1), []), (17, .ireturn, 1, 0, 0, .null, []), (18, .aload_n 0, 1, 0, 0, .null, []), (19, .getfield 46, 3, 11, 6, .null, []), (22, .getfield 189, 3, 9, 11, .null, []), (25, .iload_n 2, 1, 0, 0, .null, []), (26, .iaload, 1, 0, 0, .null, []), (27, .istore 4, 2, 0, 0, .null, []), (29, .aload_n 0, 1, 0, 0, .null, []), (30, .getfield 56, 3, 11, 8, .null, []), (33, .iload_n 1, 1, 0, 0, .null, []), (34, .iload_n 2, 1, 0, 0, .null, []), (35, .invokevirtual 239, 3, 20, 3, .int 0, []), (38, .istore 5, 2, 0, 0, .null, []), (40, .iload 5, 2, 0, 0, .null, []), (42, .ifCond .eq 8, 3, 50, 0, .null, []), (45, .iload 4, 2, 0, 0, .null, []), (47, .ifCond .ne 13, 3, 60, 0, .null, []), (50, .iload_n 3, 1, 0, 0, .null, []), (51, .ifCond .eq 7, 3, 58, 0, .null, []), (54, .iconst 1, 1, 0, 0, .int 1, []), (55, .goto 4, 3, 59, 0, .null, []), (58, .iconst 0, 1, 0, 0, .int 0, []), (59, .ireturn, 1, 0, 0, .null, []), (60, .iload_n 3, 1, 0, 0, .null, []), (61, .ifCond .eq 8, 3, 69, 0, .null, []), (64, .iload 4, 2, 0, 0, .null, []), (66, .goto 5, 3, 71, 0, .null, []), (69, .iload 5, 2, 0, 0, .null, []), (71, .iload 5, 2, 0, 0, .null, []), (73, .i2l, 1, 0, 0, .null, []), (74, .iload 4, 2, 0, 0, .null, []), (76, .i2l, 1, 0, 0, .null, []), (77, .invokestatic 242, 3, 158, 2, .long 0, []), (80, .l2i, 1, 0, 0, .null, []), (81, .idiv, 1, 0, 0, .null, []), (82, .ireturn, 1, 0, 0, .null, [])]
def cd_D_sure : List (Nat × pE) := [(0, .aload_n 0, 1, 0, 0, .null, []), (1, .iload_n 1, 1, 0, 0, .null, []), (2, .invokevirtual 192, 3, 144, 2, .int 0, []), (5, .ifCond .ne 5, 3, 10, 0, .null, []), (8, .iconst (-1), 1, 0, 0, .int (-1), []), (9, .ireturn, 1, 0, 0, .null, []), (10, .bipush (-2), 2, 0, 0, .int (-2), []), (12, .istore_n 2, 1, 0, 0, .null, []), (13, .iconst 0, 1, 0, 0, .int 0, []), (14, .istore_n 3, 1, 0, 0, .null, []), (15, .iload_n 3, 1, 0, 0, .null, []), (16, .aload_n 0, 1, 0, 0, .null, []), (17, .getfield 46, 3, 11, 6, .null, []), (20, .getfield 246, 3, 9, 1, .int 0, []), (23, .if_icmp .ge 65, 3, 88, 0, .null, []), (26, .aload_n 0, 1, 0, 0, .null, []), (27, .getfield 46, 3, 11, 6, .null, []), (30, .iload_n 3, 1, 0, 0, .null, []), (31, .iload_n 1, 1, 0, 0, .null, []), (32, .invokevirtual 195, 3, 93, 3, .int 0, []), (35, .istore 4, 2, 0, 0, .null, []), (37, .iload 4, 2, 0, 0, .null, []), (39, .ifCond .le 43, 3, 82, 0, .null, []), (42, .iload_n 2, 1, 0, 0, .null, []), (43, .ifCond .lt 37, 3, 80, 0, .null, []), (46, .iload 4, 2, 0, 0, .null, []), (48, .aload_n 0, 1, 0, 0, .null, []), (49, .getfield 46, 3, 11, 6, .null, []), (52, .getfield 189, 3, 9, 11, .null, []), (55, .iload_n 2, 1, 0, 0, .null, []), (56, .iaload, 1, 0, 0, .null, []), (57, .imul, 1, 0, 0, .null, []), (58, .aload_n 0, 1, 0, 0, .null, []), (59, .getfield 46, 3, 11, 6, .null, []), (62, .iload_n 2, 1, 0, 0, .null, []), (63, .iload_n 1, 1, 0, 0, .null, []), (64, .invokevirtual 195, 3, 93, 3, .int 0, []), (67, .aload_n 0, 1, 0, 0, .null, []), (68, .getfield 46, 3, 11, 6, .null, []), (71, .getfield 189, 3, 9, 11, .null, []), (74, .iload_n 3, 1, 0, 0, .null, []), (75, .iaload, 1, 0, 0, .null, []), (76, .imul, 1, 0, 0, .null, []), (77, .if_icmp .le 5, 3, 82, 0, .null, []), (80, .iload_n 3, 1, 0, 0, .null, []), (81, .istore_n 2, 1, 0, 0, .null, []), (82, .iinc 3 1, 3, 0, 0, .int 1, []), (85, .goto (-70), 3, 15, 0, .null, []), (88, .iload_n 2, 1, 0, 0, .null, []), (89, .ireturn, 1, 0, 0, .null, [])]
def cd_D_lodging : List (Nat × pE) := [(0, .aload_n 0, 1, 0, 0, .null, []), (1, .iload_n 1, 1, 0, 0, .null, []), (2, .invokevirtual 249, 3, 147, 2, .int 0, []), (5, .ifCond .ne 5, 3, 10, 0, .null, []), (8, .iconst (-1), 1, 0, 0, .int (-1), []), (9, .ireturn, 1, 0, 0, .null, []), (10, .aload_n 0, 1, 0, 0, .null, []), (11, .getfield 80, 3, 11, 15, .null, []), (14, .aload_n 0, 1, 0, 0, .null, []), (15, .getfield 56, 3, 11, 8, .null, []), (18, .iload_n 1, 1, 0, 0, .null, []), (19, .invokevirtual 252, 3, 53, 3, .int 0, []), (22, .ifCond .eq 13, 3, 35, 0, .null, []), (25, .aload_n 0, 1, 0, 0, .null, []), (26, .getfield 80, 3, 11, 15, .null, []), (29, .invokevirtual 256, 3, 54, 1, .int 0, []), (32, .goto 5, 3, 37, 0, .null, []), (35, .bipush (-2), 2, 0, 0, .int (-2), []), (37, .ireturn, 1, 0, 0, .null, [])]
def cd_D_lodgingAt : List (Nat × pE) := [(0, .aload_n 0, 1, 0, 0, .null, []), (1, .iload_n 1, 1, 0, 0, .null, []), (2, .invokevirtual 249, 3, 147, 2, .int 0, []), (5, .ifCond .eq 15, 3, 20, 0, .null, []), (8, .iload_n 2, 1, 0, 0, .null, []), (9, .ifCond .lt 11, 3, 20, 0, .null, []), (12, .iload_n 2, 1, 0, 0, .null, []), (13, .iload_n 1, 1, 0, 0, .null, []), (14, .invokestatic 178, 3, 270, 1, .int 0, []), (17, .if_icmp .lt 5, 3, 22, 0, .null, []), (20, .iconst (-1), 1, 0, 0, .int (-1), []), (21, .ireturn, 1, 0, 0, .null, []), (22, .aload_n 0, 1, 0, 0, .null, []), (23, .getfield 80, 3, 11, 15, .null, []), (26, .aload_n 0, 1, 0, 0, .null, []), (27, .getfield 56, 3, 11, 8, .null, []), (30, .iload_n 1, 1, 0, 0, .null, []), (31, .invokevirtual 252, 3, 53, 3, .int 0, []), (34, .ifCond .eq 14, 3, 48, 0, .null, []), (37, .aload_n 0, 1, 0, 0, .null, []), (38, .getfield 80, 3, 11, 15, .null, []), (41, .iload_n 2, 1, 0, 0, .null, []), (42, .invokevirtual 259, 3, 55, 2, .int 0, []), (45, .goto 5, 3, 50, 0, .null, []), (48, .bipush (-2), 2, 0, 0, .int (-2), []), (50, .ireturn, 1, 0, 0, .null, [])]
def cd_D_swaps : List (Nat × pE) := [(0, .iload_n 1, 1, 0, 0, .null, []), (1, .ifCond .lt 8, 3, 9, 0, .null, []), (4, .iload_n 1, 1, 0, 0, .null, []), (5, .iconst 2, 1, 0, 0, .int 2, []), (6, .if_icmp .le 5, 3, 11, 0, .null, []), (9, .iconst (-1), 1, 0, 0, .int (-1), []), (10, .ireturn, 1, 0, 0, .null, []), (11, .aload_n 0, 1, 0, 0, .null, []), (12, .getfield 60, 3, 11, 9, .null, []), (15, .aload_n 0, 1, 0, 0, .null, []), (16, .getfield 56, 3, 11, 8, .null, []), (19, .invokevirtual 262, 3, 2, 2, .retAddr 0, []), (22, .aload_n 0, 1, 0, 0, .null, []), (23, .getfield 87, 3, 11, 16, .null, []), (26, .aload_n 0, 1, 0, 0, .null, []), (27, .getfield 60, 3, 11, 9, .null, []), (30, .invokevirtual 266, 3, 61, 2, .retAddr 0, []), (33, .iload_n 1, 1, 0, 0, .null, []), (34, .ifCond .ne 11, 3, 45, 0, .null, []), (37, .aload_n 0, 1, 0, 0, .null, []), (38, .getfield 87, 3, 11, 16, .null, []), (41, .getfield 268, 3, 5, 0, .int 0, []), (44, .ireturn, 1, 0, 0, .null, []), (45, .iload_n 1, 1, 0, 0, .null, []), (46, .iconst 1, 1, 0, 0, .int 1, []), (47, .if_icmp .ne 13, 3, 60, 0, .null, []), (50, .aload_n 0, 1, 0, 0, .null, []), (51, .getfield 87, 3, 11, 16, .null, []), (54, .getfield 271, 3, 5, 1, .int 0, []), (57, .goto 10, 3, 67, 0, .null, []), (60, .aload_n 0, 1, 0, 0, .null, []), (61, .getfield 87, 3, 11, 16, .null, []), (64, .getfield 274, 3, 5, 2, .int 0, []), (67, .ireturn, 1, 0, 0, .null, [])]
def cd_D_declares : List (Nat × pE) := [(0, .iload_n 1, 1, 0, 0, .null, []), (1, .iconst (-1), 1, 0, 0, .int (-1), []), (2, .if_icmp .ge 5, 3, 7, 0, .null, []), (5, .iconst (-1), 1, 0, 0, .int (-1), []), (6, .ireturn, 1, 0, 0, .null, []), (7, .aload_n 0, 1, 0, 0, .null, []), (8, .getfield 94, 3, 11, 17, .null, []), (11, .aload_n 0, 1, 0, 0, .null, []), (12, .getfield 56, 3, 11, 8, .null, []), (15, .invokevirtual 277, 3, 65, 2, .retAddr 0, []), (18, .iconst 0, 1, 0, 0, .int 0, []), (19, .istore_n 2, 1, 0, 0, .null, []), (20, .iconst 0, 1, 0, 0, .int 0, []), (21, .istore_n 3, 1, 0, 0, .null, []), (22, .iload_n 3, 1, 0, 0, .null, []), (23, .iconst 1, 1, 0, 0, .int 1, []), (24, .aload_n 0, 1, 0, 0, .null, []), (25, .getfield 46, 3, 11, 6, .null, []), (28, .getfield 280, 3, 9, 2, .int 0, []), (31, .ishl, 1, 0, 0, .null, []), (32, .if_icmp .ge 30, 3, 62, 0, .null, []), (35, .aload_n 0, 1, 0, 0, .null, []), (36, .getfield 94, 3, 11, 17, .null, []), (39, .iload_n 3, 1, 0, 0, .null, []), (40, .invokevirtual 283, 3, 66, 2, .int 0, []), (43, .ifCond .eq 13, 3, 56, 0, .null, []), (46, .iload_n 2, 1, 0, 0, .null, []), (47, .iload_n 1, 1, 0, 0, .null, []), (48, .if_icmp .ne 5, 3, 53, 0, .null, []), (51, .iload_n 3, 1, 0, 0, .null, []), (52, .ireturn, 1, 0, 0, .null, []), (53, .iinc 2 1, 3, 0, 0, .int 1, []), (56, .iinc 3 1, 3, 0, 0, .int 1, []), (59, .goto (-37), 3, 22, 0, .null, []), (62, .iload_n 1, 1, 0, 0, .null, []), (63, .iconst (-1), 1, 0, 0, .int (-1), []), (64, .if_icmp .ne 7, 3, 71, 0, .null, []), (67, .iload_n 2, 1, 0, 0, .null, []), (68, .goto 4, 3, 72, 0, .null, []), (71, .iconst (-1), 1, 0, 0, .int (-1), []), (72, .ireturn, 1, 0, 0, .null, [])]
def cd_D_posts : List (Nat × pE) := [(0, .iload_n 1, 1, 0, 0, .null, []), (1, .ifCond .eq 10, 3, 11, 0, .null, []), (4, .iload_n 1, 1, 0, 0, .null, []), (5, .iconst 1, 1, 0, 0, .int 1, []), (6, .if_icmp .eq 5, 3, 11, 0, .null, []), (9, .iconst (-1), 1, 0, 0, .int (-1), []), (10, .ireturn, 1, 0, 0, .null, []), (11, .aload_n 0, 1, 0, 0, .null, []), (12, .getfield 56, 3, 11, 8, .null, []), (15, .invokevirtual 286, 3, 4, 1, .int 0, []), (18, .istore_n 2, 1, 0, 0, .null, []), (19, .bipush (-2), 2, 0, 0, .int (-2), []), (21, .istore_n 3, 1, 0, 0, .null, []), (22, .iconst 0, 1, 0, 0, .int 0, []), (23, .istore 4, 2, 0, 0, .null, []), (25, .iload 4, 2, 0, 0, .null, []), (27, .iconst 1, 1, 0, 0, .int 1, []), (28, .aload_n 0, 1, 0, 0, .null, []), (29, .getfield 46, 3, 11, 6, .null, []), (32, .getfield 289, 3, 9, 3, .int 0, []), (35, .ishl, 1, 0, 0, .null, []), (36, .if_icmp .ge 44, 3, 80, 0, .null, []), (39, .iload_n 2, 1, 0, 0, .null, []), (40, .aload_n 0, 1, 0, 0, .null, []), (41, .getfield 46, 3, 11, 6, .null, []), (44, .iload 4, 2, 0, 0, .null, []), (46, .invokevirtual 292, 3, 94, 2, .int 0, []), (49, .iconst (-1), 1, 0, 0, .int (-1), []), (50, .ixor, 1, 0, 0, .null, []), (51, .iand, 1, 0, 0, .null, []), (52, .ifCond .ne 22, 3, 74, 0, .null, []), (55, .iload_n 3, 1, 0, 0, .null, []), (56, .ifCond .lt 15, 3, 71, 0, .null, []), (59, .iload 4, 2, 0, 0, .null, []), (61, .invokestatic 178, 3, 270, 1, .int 0, []), (64, .iload_n 3, 1, 0, 0, .null, []), (65, .invokestatic 178, 3, 270, 1, .int 0, []), (68, .if_icmp .ge 6, 3, 74, 0, .null, []), (71, .iload 4, 2, 0, 0, .null, []), (73, .istore_n 3, 1, 0, 0, .null, []), (74, .iinc 4 1, 3, 0, 0, .int 1, []), (77, .goto (-52), 3, 25, 0, .null, []), (80, .iload_n 3, 1, 0, 0, .null, []), (81, .ifCond .lt 8, 3, 89, 0, .null, []), (84, .iload_n 1, 1, 0, 0, .null, []), (85, .iconst 1, 1, 0, 0, .int 1, []), (86, .if_icmp .ne 7, 3, 93, 0, .null, []), (89, .iload_n 3, 1, 0, 0, .null, []), (90, .goto 7, 3, 97, 0, .null, []), (93, .iload_n 3, 1, 0, 0, .null, []), (94, .invokestatic 178, 3, 270, 1, .int 0, []), (97, .ireturn, 1, 0, 0, .null, [])]
def cd_D_year : List (Nat × pE) := [(0, .aload_n 0, 1, 0, 0, .null, []), (1, .iload_n 1, 1, 0, 0, .null, []), (2, .invokevirtual 129, 3, 146, 2, .int 0, []), (5, .ifCond .eq 24, 3, 29, 0, .null, []), (8, .iload_n 2, 1, 0, 0, .null, []), (9, .ifCond .lt 20, 3, 29, 0, .null, []), (12, .iload_n 2, 1, 0, 0, .null, []), (13, .bipush 30, 2, 0, 0, .int 30, []), (15, .if_icmp .gt 14, 3, 29, 0, .null, []), (18, .iload_n 3, 1, 0, 0, .null, []), (19, .iconst 1, 1, 0, 0, .int 1, []), (20, .if_icmp .lt 9, 3, 29, 0, .null, []), (23, .iload_n 3, 1, 0, 0, .null, []), (24, .bipush 20, 2, 0, 0, .int 20, []), (26, .if_icmp .le 6, 3, 32, 0, .null, []), (29, .ldc 133, 2, 0, 0, .int (-100000), []), (31, .ireturn, 1, 0, 0, .null, []), (32, .iconst 0, 1, 0, 0, .int 0, []), (33, .istore 4, 2, 0, 0, .null, []), (35, .iconst 0, 1, 0, 0, .int 0, []), (36, .istore 5, 2, 0, 0, .null, []), (38, .iload 5, 2, 0, 0, .null, []), (40, .iload_n 3, 1, 0, 0, .null, []), (41, .if_icmp .ge 84, 3, 125, 0, .null, []), (44, .aload_n 0, 1, 0, 0, .null, []), (45, .getfield 60, 3, 11, 9, .null, []), (48, .aload_n 0, 1, 0, 0, .null, []), (49, .getfield 56, 3, 11, 8, .null, []), (52, .invokevirtual 262, 3, 2, 2, .retAddr 0, []), (55, .aload_n 0, 1, 0, 0, .null, []), (56, .getfield 60, 3, 11, 9, .null, []), (59, .aload_n 0, 1, 0, 0, .null, []), (60, .getfield 46, 3, 11, 6, .null, []), (63, .getfield 295, 3, 9, 5, .int 0, []), (66, .iload 5, 2, 0, 0, .null, []), (68, .iadd, 1, 0, 0, .null, []), (69, .putfield 298, 3, 0, 4, .int 0, []), (72, .iconst 0, 1, 0, 0, .int 0, []), (73, .istore 6, 2, 0, 0, .null, []), (75, .iload 6, 2, 0, 0, .null, []), (77, .iload_n 2, 1, 0, 0, .null, []), (78, .if_icmp .ge 24, 3, 102, 0, .null, []), (81, .aload_n 0, 1, 0, 0, .null, []), (82, .getfield 60, 3, 11, 9, .null, []), (85, .invokevirtual 203, 3, 6, 1, .retAddr 0, []), (88, .aload_n 0, 1, 0, 0, .null, []), (89, .getfield 60, 3, 11, 9, .null, []), (92, .invokevirtual 212, 3, 18, 1, .int 0, []), (95, .pop, 1, 0, 0, .null, []), (96, .iinc 6 1, 3, 0, 0, .int 1, []), (99, .goto (-24), 3, 75, 0, .null, []), (102, .iload 4, 2, 0, 0, .null, []), (104, .aload_n 0, 1, 0, 0, .null, []), (105, .getfield 60, 3, 11, 9, .null, []), (108, .getfield 134, 3, 0, 0, .null, []), (111, .getfield 138, 3, 7, 3, .null, []), (114, .iload_n 1, 1, 0, 0, .null, []), (115, .iaload, 1, 0, 0, .null, []), (116, .iadd, 1, 0, 0, .null, []), (117, .istore 4, 2, 0, 0, .null, []), (119, .iinc 5 1, 3, 0, 0, .int 1, []), (122, .goto (-84), 3, 38, 0, .null, []), (125, .iload 4, 2, 0, 0, .null, []), (127, .ireturn, 1, 0, 0, .null, [])]
def cd_D_poorBy : List (Nat × pE) := [(0, .aload_n 0, 1, 0, 0, .null, []), (1, .iload_n 1, 1, 0, 0, .null, []), (2, .invokevirtual 129, 3, 146, 2, .int 0, []), (5, .ifCond .ne 5, 3, 10, 0, .null, []), (8, .iconst (-1), 1, 0, 0, .int (-1), []), (9, .ireturn, 1, 0, 0, .null, []), (10, .aload_n 0, 1, 0, 0, .null, []), (11, .getfield 60, 3, 11, 9, .null, []), (14, .aload_n 0, 1, 0, 0, .null, []), (15, .getfield 56, 3, 11, 8, .null, []), (18, .invokevirtual 262, 3, 2, 2, .retAddr 0, []), (21, .iconst 0, 1, 0, 0, .int 0, []), (22, .istore_n 2, 1, 0, 0, .null, []), (23, .iload_n 2, 1, 0, 0, .null, []), (24, .bipush 100, 2, 0, 0, .int 100, []), (26, .if_icmp .gt 41, 3, 67, 0, .null, []), (29, .aload_n 0, 1, 0, 0, .null, []), (30, .getfield 60, 3, 11, 9, .null, []), (33, .getfield 134, 3, 0, 0, .null, []), (36, .getfield 138, 3, 7, 3, .null, []), (39, .iload_n 1, 1, 0, 0, .null, []), (40, .iaload, 1, 0, 0, .null, []), (41, .ifCond .ge 5, 3, 46, 0, .null, []), (44, .iload_n 2, 1, 0, 0, .null, []), (45, .ireturn, 1, 0, 0, .null, []), (46, .aload_n 0, 1, 0, 0, .null, []), (47, .getfield 60, 3, 11, 9, .null, []), (50, .invokevirtual 203, 3, 6, 1, .retAddr 0, []), (53, .aload_n 0, 1, 0, 0, .null, []), (54, .getfield 60, 3, 11, 9, .null, []), (57, .invokevirtual 212, 3, 18, 1, .int 0, []), (60, .pop, 1, 0, 0, .null, []), (61, .iinc 2 1, 3, 0, 0, .int 1, []), (64, .goto (-41), 3, 23, 0, .null, []), (67, .bipush (-2), 2, 0, 0, .int (-2), []), (69, .ireturn, 1, 0, 0, .null, [])]
def cd_D_shows : List (Nat × pE) := [(0, .aload_n 0, 1, 0, 0, .null, []), (1, .iload_n 1, 1, 0, 0, .null, []), (2, .invokevirtual 129, 3, 146, 2, .int 0, []), (5, .ifCond .ne 5, 3, 10, 0, .null, []), (8, .iconst (-1), 1, 0, 0, .int (-1), []), (9, .ireturn, 1, 0, 0, .null, []), (10, .aload_n 0, 1, 0, 0, .null, []), (11, .getfield 56, 3, 11, 8, .null, []), (14, .getfield 134, 3, 0, 0, .null, []), (17, .getfield 144, 3, 7, 5, .null, []), (20, .iload_n 1, 1, 0, 0, .null, []), (21, .iaload, 1, 0, 0, .null, []), (22, .bipush (-2), 2, 0, 0, .int (-2), []), (24, .if_icmp .ne 8, 3, 32, 0, .null, []), (27, .bipush (-2), 2, 0, 0, .int (-2), []), (29, .goto 11, 3, 40, 0, .null, []), (32, .aload_n 0, 1, 0, 0, .null, []), (33, .getfield 56, 3, 11, 8, .null, []), (36, .iload_n 1, 1, 0, 0, .null, []), (37, .invokevirtual 299, 3, 14, 2, .int 0, []), (40, .ireturn, 1, 0, 0, .null, [])]
def cd_D_tell : List (Nat × pE) := [(0, .aload_n 0, 1, 0, 0, .null, []), (1, .iload_n 1, 1, 0, 0, .null, []), (2, .invokevirtual 192, 3, 144, 2, .int 0, []), (5, .ifCond .eq 12, 3, 17, 0, .null, []), (8, .aload_n 0, 1, 0, 0, .null, []), (9, .getfield 302, 3, 11, 14, .int 0, []), (12, .bipush 20, 2, 0, 0, .int 20, []), (14, .if_icmp .lt 5, 3, 19, 0, .null, []), (17, .iconst (-1), 1, 0, 0, .int (-1), []), (18, .ireturn, 1, 0, 0, .null, []), (19, .aload_n 0, 1, 0, 0, .null, []), (20, .getfield 17, 3, 11, 13, .null, []), (23, .aload_n 0, 1, 0, 0, .null, []), (24, .getfield 302, 3, 11, 14, .int 0, []), (27, .iload_n 1, 1, 0, 0, .null, []), (28, .iastore, 1, 0, 0, .null, []), (29, .aload_n 0, 1, 0, 0, .null, []), (30, .dup, 1, 0, 0, .null, []), (31, .getfield 302, 3, 11, 14, .int 0, []), (34, .iconst 1, 1, 0, 0, .int 1, []), (35, .iadd, 1, 0, 0, .null, []), (36, .putfield 302, 3, 11, 14, .int 0, []), (39, .aload_n 0, 1, 0, 0, .null, []), (40, .getfield 302, 3, 11, 14, .int 0, []), (43, .iconst 1, 1, 0, 0, .int 1, []), (44, .isub, 1, 0, 0, .null, []), (45, .ireturn, 1, 0, 0, .null, [])]
def cd_D_forget : List (Nat × pE) := [(0, .aload_n 0, 1, 0, 0, .null, []), (1, .getfield 302, 3, 11, 14, .int 0, []), (4, .istore_n 1, 1, 0, 0, .null, []), (5, .aload_n 0, 1, 0, 0, .null, []), (6, .iconst 0, 1, 0, 0, .int 0, []), (7, .putfield 302, 3, 11, 14, .int 0, []), (10, .iload_n 1, 1, 0, 0, .null, []), (11, .ireturn, 1, 0, 0, .null, [])]
def cd_D_from : List (Nat × pE) := [(0, .aload_n 0, 1, 0, 0, .null, []), (1, .iload_n 1, 1, 0, 0, .null, []), (2, .invokevirtual 305, 3, 148, 2, .int 0, []), (5, .ifCond .eq 11, 3, 16, 0, .null, []), (8, .aload_n 0, 1, 0, 0, .null, []), (9, .iload_n 1, 1, 0, 0, .null, []), (10, .invokevirtual 308, 3, 150, 2, .int 0, []), (13, .goto 4, 3, 17, 0, .null, []), (16, .iconst (-1), 1, 0, 0, .int (-1), []), (17, .ireturn, 1, 0, 0, .null, [])]
def cd_D_likeliest : List (Nat × pE) := [(0, .aload_n 0, 1, 0, 0, .null, []), (1, .iload_n 1, 1, 0, 0, .null, []), (2, .invokevirtual 305, 3, 148, 2, .int 0, []), (5, .ifCond .eq 9, 3, 14, 0, .null, []), (8, .iload_n 1, 1, 0, 0, .null, []), (9, .bipush 6, 2, 0, 0, .int 6, []), (11, .if_icmp .le 5, 3, 16, 0, .null, []), (14, .iconst (-1), 1, 0, 0, .int (-1), []), (15, .ireturn, 1, 0, 0, .null, []), (16, .aload_n 0, 1, 0, 0, .null, []), (17, .iload_n 1, 1, 0, 0, .null, []), (18, .invokevirtual 308, 3, 150, 2, .int 0, []), (21, .istore_n 2, 1, 0, 0, .null, []), (22, .bipush (-2), 2, 0, 0, .int (-2), []), (24, .istore_n 3, 1, 0, 0, .null, []), (25, .iconst 0, 1, 0, 0, .int 0, []), (26, .istore 4, 2, 0, 0, .null, []), (28, .iload 4, 2, 0, 0, .null, []), (30, .aload_n 0, 1, 0, 0, .null, []), (31, .getfield 46, 3, 11, 6, .null, []), (34, .getfield 246, 3, 9, 1, .int 0, []), (37, .if_icmp .ge 58, 3, 95, 0, .null, []), (40, .iload_n 2, 1, 0, 0, .null, []), (41, .iload 4, 2, 0, 0, .null, []), (43, .ishr, 1, 0, 0, .null, []), (44, .iconst 1, 1, 0, 0, .int 1, []), (45, .iand, 1, 0, 0, .null, []), (46, .iconst 1, 1, 0, 0, .int 1, []), (47, .if_icmp .ne 42, 3, 89, 0, .null, []), (50, .iload_n 3, 1, 0, 0, .null, []), (51, .ifCond .lt 35, 3, 86, 0, .null, []), (54, .aload_n 0, 1, 0, 0, .null, []), (55, .iload 4, 2, 0, 0, .null, []), (57, .iload_n 1, 1, 0, 0, .null, []), (58, .invokevirtual 311, 3, 151, 3, .long 0, []), (61, .aload_n 0, 1, 0, 0, .null, []), (62, .iload_n 3, 1, 0, 0, .null, []), (63, .iload_n 1, 1, 0, 0, .null, []), (64, .invokevirtual 315, 3, 152, 3, .long 0, []), (67, .lmul, 1, 0, 0, .null, []), (68, .aload_n 0, 1, 0, 0, .null, []), (69, .iload_n 3, 1, 0, 0, .null, []), (70, .iload_n 1, 1, 0, 0, .null, []), (71, .invokevirtual 311, 3, 151, 3, .long 0, []), (74, .aload_n 0, 1, 0, 0, .null, []), (75, .iload 4, 2, 0, 0, .null, []), (77, .iload_n 1, 1, 0, 0, .null, []), (78, .invokevirtual 315, 3, 152, 3, .long 0, []), (81, .lmul, 1, 0, 0, .null, []), (82, .lcmp, 1, 0, 0, .null, []), (83, .ifCond .le 6, 3, 89, 0, .null, []), (86, .iload 4, 2, 0, 0, .null, []), (88, .istore_n 3, 1, 0, 0, .null, []), (89, .iinc 4 1, 3, 0, 0, .int 1, []), (92, .goto (-64), 3, 28, 0, .null, []), (95, .iload_n 3, 1, 0, 0, .null, []), (96, .ireturn, 1, 0, 0, .null, [])]
def cd_D_whose : List (Nat × pE) := [(0, .aload_n 0, 1, 0, 0, .null, []), (1, .iload_n 1, 1, 0, 0, .null, []), (2, .invokevirtual 305, 3, 148, 2, .int 0, []), (5, .ifCond .ne 5, 3, 10, 0, .null, []), (8, .iconst (-1), 1, 0, 0, .int (-1), []), (9, .ireturn, 1, 0, 0, .null, []), (10, .aload_n 0, 1, 0, 0, .null, []), (11, .iload_n 1, 1, 0, 0, .null, []), (12, .invokevirtual 308, 3, 150, 2, .int 0, []), (15, .istore_n 2, 1, 0, 0, .null, []), (16, .iconst 0, 1, 0, 0, .int 0, []), (17, .istore_n 3, 1, 0, 0, .null, []), (18, .iconst 0, 1, 0, 0, .int 0, []), (19, .istore 4, 2, 0, 0, .null, []), (21, .iload 4, 2, 0, 0, .null, []), (23, .aload_n 0, 1, 0, 0, .null, []), (24, .getfield 46, 3, 11, 6, .null, []), (27, .getfield 246, 3, 9, 1, .int 0, []), (30, .if_icmp .ge 31, 3, 61, 0, .null, []), (33, .iload_n 2, 1, 0, 0, .null, []), (34, .iload 4, 2, 0, 0, .null, []), (36, .ishr, 1, 0, 0, .null, []), (37, .iconst 1, 1, 0, 0, .int 1, []), (38, .iand, 1, 0, 0, .null, []), (39, .iconst 1, 1, 0, 0, .int 1, []), (40, .if_icmp .ne 15, 3, 55, 0, .null, []), (43, .iload_n 3, 1, 0, 0, .null, []), (44, .aload_n 0, 1, 0, 0, .null, []), (45, .getfield 56, 3, 11, 8, .null, []), (48, .iload 4, 2, 0, 0, .null, []), (50, .invokevirtual 172, 3, 3, 2, .int 0, []), (53, .ior, 1, 0, 0, .null, []), (54, .istore_n 3, 1, 0, 0, .null, []), (55, .iinc 4 1, 3, 0, 0, .int 1, []), (58, .goto (-37), 3, 21, 0, .null, []), (61, .iload_n 3, 1, 0, 0, .null, []), (62, .ireturn, 1, 0, 0, .null, [])]
def cd_D_hold : List (Nat × pE) := [(0, .iload_n 1, 1, 0, 0, .null, []), (1, .ifCond .lt 8, 3, 9, 0, .null, []), (4, .iload_n 1, 1, 0, 0, .null, []), (5, .iconst 3, 1, 0, 0, .int 3, []), (6, .if_icmp .lt 5, 3, 11, 0, .null, []), (9, .iconst 0, 1, 0, 0, .int 0, []), (10, .ireturn, 1, 1, 0, .null, []), (11, .aload_n 0, 1, 0, 0, .null, []), (12, .getfield 72, 3, 11, 11, .null, []), (15, .iload_n 1, 1, 0, 0, .null, []), (16, .aaload, 1, 0, 0, .null, []), (17, .aload_n 0, 1, 0, 0, .null, []), (18, .getfield 56, 3, 11, 8, .null, []), (21, .getfield 134, 3, 0, 0, .null, []), (24, .invokevirtual 318, 3, 69, 2, .retAddr 0, []), (27, .aload_n 0, 1, 0, 0, .null, []), (28, .getfield 13, 3, 11, 12, .null, []), (31, .iload_n 1, 1, 0, 0, .null, []), (32, .iconst 1, 1, 0, 0, .int 1, []), (33, .bastore, 1, 102, 0, .null, []), (34, .iconst 1, 1, 0, 0, .int 1, []), (35, .ireturn, 1, 1, 0, .null, [])]
def cd_D_restore : List (Nat × pE) := [(0, .iload_n 1, 1, 0, 0, .null, []), (1, .ifCond .lt 17, 3, 18, 0, .null, []), (4, .iload_n 1, 1, 0, 0, .null, []), (5, .iconst 3, 1, 0, 0, .int 3, []), (6, .if_icmp .ge 12, 3, 18, 0, .null, []), (9, .aload_n 0, 1, 0, 0, .null, []), (10, .getfield 13, 3, 11, 12, .null, []), (13, .iload_n 1, 1, 0, 0, .null, []), (14, .baload, 1, 102, 0, .null, []), (15, .ifCond .ne 5, 3, 20, 0, .null, []), (18, .iconst 0, 1, 0, 0, .int 0, []), (19, .ireturn, 1, 1, 0, .null, []), (20, .aload_n 0, 1, 0, 0, .null, []), (21, .getfield 56, 3, 11, 8, .null, []), (24, .getfield 134, 3, 0, 0, .null, []), (27, .aload_n 0, 1, 0, 0, .null, []), (28, .getfield 72, 3, 11, 11, .null, []), (31, .iload_n 1, 1, 0, 0, .null, []), (32, .aaload, 1, 0, 0, .null, []), (33, .invokevirtual 318, 3, 69, 2, .retAddr 0, []), (36, .aload_n 0, 1, 0, 0, .null, []), (37, .getfield 66, 3, 11, 10, .null, []), (40, .invokevirtual 321, 3, 41, 1, .retAddr 0, []), (43, .iconst 1, 1, 0, 0, .int 1, []), (44, .ireturn, 1, 1, 0, .null, [])]
def cd_D_count : List (Nat × pE) := [(0, .iload_n 1, 1, 0, 0, .null, []), (1, .tableswitch 171 0 12 #[67, 75, 83, 91, 99, 110, 121, 132, 140, 145, 153, 158, 163], 67, 172, 0, .null, [(0, 68), (1, 76), (2, 84), (3, 92), (4, 100), (5, 111), (6, 122), (7, 133), (8, 141), (9, 146), (10, 154), (11, 159), (12, 164)]), (68, .aload_n 0, 1, 0, 0, .null, []), (69, .getfield 46, 3, 11, 6, .null, []), (72, .getfield 322, 3, 9, 0, .int 0, []), (75, .ireturn, 1, 0, 0, .null, []), (76, .aload_n 0, 1, 0, 0, .null, []), (77, .getfield 46, 3, 11, 6, .null, []), (80, .getfield 246, 3, 9, 1, .int 0, []), (83, .ireturn, 1, 0, 0, .null, []), (84, .aload_n 0, 1, 0, 0, .null, []), (85, .getfield 46, 3, 11, 6, .null, []), (88, .getfield 280, 3, 9, 2, .int 0, []), (91, .ireturn, 1, 0, 0, .null, []), (92, .aload_n 0, 1, 0, 0, .null, []), (93, .getfield 46, 3, 11, 6, .null, []), (96, .getfield 289, 3, 9, 3, .int 0, []), (99, .ireturn, 1, 0, 0, .null, []), (100, .aload_n 0, 1, 0, 0, .null, []), (101, .getfield 56, 3, 11, 8, .null, []), (104, .getfield 134, 3, 0, 0, .null, []), (107, .getfield 206, 3, 7, 0, .int 0, []), (110, .ireturn, 1, 0, 0, .null, []), (111, .aload_n 0, 1, 0, 0, .null, []), (112, .getfield 56, 3, 11, 8, .null, []), (115, .getfield 134, 3, 0, 0, .null, []), (118, .getfield 325, 3, 7, 1, .int 0, []), (121, .ireturn, 1, 0, 0, .null, []), (122, .aload_n 0, 1, 0, 0, .null, []), (123, .getfield 56, 3, 11, 8, .null, []), (126, .getfield 134, 3, 0, 0, .null, []), (129, .getfield 328, 3, 7, 2, .int 0, []), (132, .ireturn, 1, 0, 0, .null, []), (133, .aload_n 0, 1, 0, 0, .null, []), (134, .getfield 56, 3, 11, 8, .null, []), (137, .invokevirtual 209, 3, 5, 1, .int 0, []), (140, .ireturn, 1, 0, 0, .null, []), (141, .aload_n 0, 1, 0, 0, .null, []), (142, .getfield 105, 3, 11, 1, .int 0, []), (145, .ireturn, 1, 0, 0, .null, []), (146, .aload_n 0, 1, 0, 0, .null, []), (147, .getfield 66, 3, 11, 10, .null, []), (150, .getfield 331, 3, 2, 2, .int 0, []), (153, .ireturn, 1, 0, 0, .null, []), (154, .aload_n 0, 1, 0, 0, .null, []), (155, .getfield 302, 3, 11, 14, .int 0, []), (158, .ireturn, 1, 0, 0, .null, []), (159, .aload_n 0, 1, 0, 0, .null, []), (160, .invokevirtual 334, 3, 149, 1, .int 0, []), (163, .ireturn, 1, 0, 0, .null, []), (164, .aload_n 0, 1, 0, 0, .null, []), (165, .getfield 46, 3, 11, 6, .null, []), (168, .getfield 337, 3, 9, 4, .int 0, []), (171, .ireturn, 1, 0, 0, .null, []), (172, .iconst (-1), 1, 0, 0, .int (-1), []), (173, .ireturn, 1, 0, 0, .null, [])]
def cd_D_begin : List (Nat × pE) := [(0, .aload_n 0, 1, 0, 0, .null, []), (1, .getfield 56, 3, 11, 8, .null, []), (4, .aload_n 0, 1, 0, 0, .null, []), (5, .getfield 46, 3, 11, 6, .null, []), (8, .invokevirtual 340, 3, 1, 2, .retAddr 0, []), (11, .aload_n 0, 1, 0, 0, .null, []), (12, .getfield 66, 3, 11, 10, .null, []), (15, .invokevirtual 321, 3, 41, 1, .retAddr 0, []), (18, .aload_n 0, 1, 0, 0, .null, []), (19, .getfield 17, 3, 11, 13, .null, []), (22, .iconst 0, 1, 0, 0, .int 0, []), (23, .invokestatic 343, 3, 271, 2, .retAddr 0, []), (26, .aload_n 0, 1, 0, 0, .null, []), (27, .iconst 0, 1, 0, 0, .int 0, []), (28, .putfield 302, 3, 11, 14, .int 0, []), (31, .iconst 0, 1, 0, 0, .int 0, []), (32, .istore_n 1, 1, 0, 0, .null, []), (33, .iload_n 1, 1, 0, 0, .null, []), (34, .iconst 3, 1, 0, 0, .int 3, []), (35, .if_icmp .ge 16, 3, 51, 0, .null, []), (38, .aload_n 0, 1, 0, 0, .null, []), (39, .getfield 13, 3, 11, 12, .null, []), (42, .iload_n 1, 1, 0, 0, .null, []), (43, .iconst 0, 1, 0, 0, .int 0, []), (44, .bastore, 1, 102, 0, .null, []), (45, .iinc 1 1, 3, 0, 0, .int 1, []), (48, .goto (-15), 3, 33, 0, .null, []), (51, .return_, 1, 0, 0, .null, [])]
def cd_D_putWord : List (Nat × pE) := [(0, .bipush 24, 2, 0, 0, .int 24, []), (2, .istore_n 2, 1, 0, 0, .null, []), (3, .iload_n 2, 1, 0, 0, .null, []), (4, .ifCond .lt 45, 3, 49, 0, .null, []), (7, .aload_n 0, 1, 0, 0, .null, []), (8, .getfield 105, 3, 11, 1, .int 0, []), (11, .sipush 2000, 3, 0, 0, .int 2000, []), (14, .if_icmp .ge 35, 3, 49, 0, .null, []), (17, .aload_n 0, 1, 0, 0, .null, []), (18, .getfield 9, 3, 11, 0, .null, []), (21, .aload_n 0, 1, 0, 0, .null, []), (22, .getfield 105, 3, 11, 1, .int 0, []), (25, .iload_n 1, 1, 0, 0, .null, []), (26, .iload_n 2, 1, 0, 0, .null, []), (27, .iushr, 1, 0, 0, .null, []), (28, .sipush 255, 3, 0, 0, .int 255, []), (31, .iand, 1, 0, 0, .null, []), (32, .iastore, 1, 0, 0, .null, []), (33, .aload_n 0, 1, 0, 0, .null, []), (34, .dup, 1, 0, 0, .null, []), (35, .getfield 105, 3, 11, 1, .int 0, []), (38, .iconst 1, 1, 0, 0, .int 1, []), (39, .iadd, 1, 0, 0, .null, []), (40, .putfield 105, 3, 11, 1, .int 0, []), (43, .iinc 2 (-8), 3, 0, 0, .int (-8), []), (46, .goto (-43), 3, 3, 0, .null, []), (49, .return_, 1, 0, 0, .null, [])]
def cd_D_isThing : List (Nat × pE) := [(0, .iload_n 1, 1, 0, 0, .null, []), (1, .ifCond .lt 18, 3, 19, 0, .null, []), (4, .iload_n 1, 1, 0, 0, .null, []), (5, .aload_n 0, 1, 0, 0, .null, []), (6, .getfield 46, 3, 11, 6, .null, []), (9, .getfield 322, 3, 9, 0, .int 0, []), (12, .if_icmp .ge 7, 3, 19, 0, .null, []), (15, .iconst 1, 1, 0, 0, .int 1, []), (16, .goto 4, 3, 20, 0, .null, []), (19, .iconst 0, 1, 0, 0, .int 0, []), (20, .ireturn, 1, 1, 0, .null, [])]
def cd_D_isInn : List (Nat × pE) := [(0, .iload_n 1, 1, 0, 0, .null, []), (1, .ifCond .lt 18, 3, 19, 0, .null, []), (4, .iload_n 1, 1, 0, 0, .null, []), (5, .aload_n 0, 1, 0, 0, .null, []), (6, .getfield 46, 3, 11, 6, .null, []), (9, .getfield 246, 3, 9, 1, .int 0, []), (12, .if_icmp .ge 7, 3, 19, 0, .null, []), (15, .iconst 1, 1, 0, 0, .int 1, []), (16, .goto 4, 3, 20, 0, .null, []), (19, .iconst 0, 1, 0, 0, .int 0, []), (20, .ireturn, 1, 1, 0, .null, [])]
def cd_D_isGuest : List (Nat × pE) := [(0, .iload_n 1, 1, 0, 0, .null, []), (1, .ifCond .lt 18, 3, 19, 0, .null, []), (4, .iload_n 1, 1, 0, 0, .null, []), (5, .aload_n 0, 1, 0, 0, .null, []), (6, .getfield 46, 3, 11, 6, .null, []), (9, .getfield 280, 3, 9, 2, .int 0, []), (12, .if_icmp .ge 7, 3, 19, 0, .null, []), (15, .iconst 1, 1, 0, 0, .int 1, []), (16, .goto 4, 3, 20, 0, .null, []), (19, .iconst 0, 1, 0, 0, .int 0, []), (20, .ireturn, 1, 1, 0, .null, [])]
def cd_D_isLodgingSet : List (Nat × pE) := [(0, .iload_n 1, 1, 0, 0, .null, []), (1, .ifCond .le 28, 3, 29, 0, .null, []), (4, .iload_n 1, 1, 0, 0, .null, []), (5, .iconst 1, 1, 0, 0, .int 1, []), (6, .aload_n 0, 1, 0, 0, .null, []), (7, .getfield 46, 3, 11, 6, .null, []), (10, .getfield 280, 3, 9, 2, .int 0, []), (13, .ishl, 1, 0, 0, .null, []), (14, .if_icmp .ge 15, 3, 29, 0, .null, []), (17, .iload_n 1, 1, 0, 0, .null, []), (18, .invokestatic 178, 3, 270, 1, .int 0, []), (21, .iconst 4, 1, 0, 0, .int 4, []), (22, .if_icmp .gt 7, 3, 29, 0, .null, []), (25, .iconst 1, 1, 0, 0, .int 1, []), (26, .goto 4, 3, 30, 0, .null, []), (29, .iconst 0, 1, 0, 0, .int 0, []), (30, .ireturn, 1, 1, 0, .null, [])]
def cd_D_isKnown : List (Nat × pE) := [(0, .iload_n 1, 1, 0, 0, .null, []), (1, .ifCond .lt 15, 3, 16, 0, .null, []), (4, .iload_n 1, 1, 0, 0, .null, []), (5, .aload_n 0, 1, 0, 0, .null, []), (6, .getfield 302, 3, 11, 14, .int 0, []), (9, .if_icmp .gt 7, 3, 16, 0, .null, []), (12, .iconst 1, 1, 0, 0, .int 1, []), (13, .goto 4, 3, 17, 0, .null, []), (16, .iconst 0, 1, 0, 0, .int 0, []), (17, .ireturn, 1, 1, 0, .null, [])]
def cd_D_heldSlots : List (Nat × pE) := [(0, .iconst 0, 1, 0, 0, .int 0, []), (1, .istore_n 1, 1, 0, 0, .null, []), (2, .iconst 0, 1, 0, 0, .int 0, []), (3, .istore_n 2, 1, 0, 0, .null, []), (4, .iload_n 2, 1, 0, 0, .null, []), (5, .iconst 3, 1, 0, 0, .int 3, []), (6, .if_icmp .ge 26, 3, 32, 0, .null, []), (9, .iload_n 1, 1, 0, 0, .null, []), (10, .aload_n 0, 1, 0, 0, .null, []), (11, .getfield 13, 3, 11, 12, .null, []), (14, .iload_n 2, 1, 0, 0, .null, []), (15, .baload, 1, 102, 0, .null, []), (16, .ifCond .eq 7, 3, 23, 0, .null, []), (19, .iconst 1, 1, 0, 0, .int 1, []), (20, .goto 4, 3, 24, 0, .null, []), (23, .iconst 0, 1, 0, 0, .int 0, []), (24, .iadd, 1, 0, 0, .null, []), (25, .istore_n 1, 1, 0, 0, .null, []), (26, .iinc 2 1, 3, 0, 0, .int 1, []), (29, .goto (-25), 3, 4, 0, .null, []), (32, .iload_n 1, 1, 0, 0, .null, []), (33, .ireturn, 1, 0, 0, .null, [])]
def cd_D_innsOf : List (Nat × pE) := [(0, .iconst 0, 1, 0, 0, .int 0, []), (1, .istore_n 2, 1, 0, 0, .null, []), (2, .iconst 0, 1, 0, 0, .int 0, []), (3, .istore_n 3, 1, 0, 0, .null, []), (4, .iload_n 3, 1, 0, 0, .null, []), (5, .aload_n 0, 1, 0, 0, .null, []), (6, .getfield 46, 3, 11, 6, .null, []), (9, .getfield 246, 3, 9, 1, .int 0, []), (12, .if_icmp .ge 26, 3, 38, 0, .null, []), (15, .aload_n 0, 1, 0, 0, .null, []), (16, .iload_n 3, 1, 0, 0, .null, []), (17, .iload_n 1, 1, 0, 0, .null, []), (18, .invokevirtual 311, 3, 151, 3, .long 0, []), (21, .lconst 0, 1, 0, 0, .long 0, []), (22, .lcmp, 1, 0, 0, .null, []), (23, .ifCond .le 9, 3, 32, 0, .null, []), (26, .iload_n 2, 1, 0, 0, .null, []), (27, .iconst 1, 1, 0, 0, .int 1, []), (28, .iload_n 3, 1, 0, 0, .null, []), (29, .ishl, 1, 0, 0, .null, []), (30, .ior, 1, 0, 0, .null, []), (31, .istore_n 2, 1, 0, 0, .null, []), (32, .iinc 3 1, 3, 0, 0, .int 1, []), (35, .goto (-31), 3, 4, 0, .null, []), (38, .iload_n 2, 1, 0, 0, .null, []), (39, .ireturn, 1, 0, 0, .null, [])]
def cd_D_weightsOf : List (Nat × pE) := [(0, .lconst 1, 1, 0, 0, .long 1, []), (1, .lstore_n 3, 1, 0, 0, .null, []), (2, .iconst 0, 1, 0, 0, .int 0, []), (3, .istore 5, 2, 0, 0, .null, []), (5, .iload 5, 2, 0, 0, .null, []), (7, .iload_n 2, 1, 0, 0, .null, []), (8, .if_icmp .ge 59, 3, 67, 0, .null, []), (11, .iload 5, 2, 0, 0, .null, []), (13, .aload_n 0, 1, 0, 0, .null, []), (14, .getfield 302, 3, 11, 14, .int 0, []), (17, .if_icmp .ge 50, 3, 67, 0, .null, []), (20, .aload_n 0, 1, 0, 0, .null, []), (21, .getfield 46, 3, 11, 6, .null, []), (24, .iload_n 1, 1, 0, 0, .null, []), (25, .aload_n 0, 1, 0, 0, .null, []), (26, .getfield 17, 3, 11, 13, .null, []), (29, .iload 5, 2, 0, 0, .null, []), (31, .iaload, 1, 0, 0, .null, []), (32, .invokevirtual 195, 3, 93, 3, .int 0, []), (35, .i2l, 1, 0, 0, .null, []), (36, .lstore 6, 2, 0, 0, .null, []), (38, .iload 5, 2, 0, 0, .null, []), (40, .bipush 6, 2, 0, 0, .int 6, []), (42, .if_icmp .ge 10, 3, 52, 0, .null, []), (45, .lload_n 3, 1, 0, 0, .null, []), (46, .lload 6, 2, 0, 0, .null, []), (48, .lmul, 1, 0, 0, .null, []), (49, .goto 11, 3, 60, 0, .null, []), (52, .lload_n 3, 1, 0, 0, .null, []), (53, .lload 6, 2, 0, 0, .null, []), (55, .lconst 1, 1, 0, 0, .long 1, []), (56, .invokestatic 348, 3, 9994, 2, .long 0, []), (59, .lmul, 1, 0, 0, .null, []), (60, .lstore_n 3, 1, 0, 0, .null, []), (61, .iinc 5 1, 3, 0, 0, .int 1, []), (64, .goto (-59), 3, 5, 0, .null, []), (67, .lload_n 3, 1, 0, 0, .null, []), (68, .lreturn, 1, 0, 0, .null, [])]
def cd_D_allWeightsOf : List (Nat × pE) := [(0, .lconst 1, 1, 0, 0, .long 1, []), (1, .lstore_n 3, 1, 0, 0, .null, []), (2, .iconst 0, 1, 0, 0, .int 0, []), (3, .istore 5, 2, 0, 0, .null, []), (5, .iload 5, 2, 0, 0, .null, []), (7, .iload_n 2, 1, 0, 0, .null, []), (8, .if_icmp .ge 29, 3, 37, 0, .null, []), (11, .iload 5, 2, 0, 0, .null, []), (13, .bipush 6, 2, 0, 0, .int 6, []), (15, .if_icmp .ge 22, 3, 37, 0, .null, []), (18, .lload_n 3, 1, 0, 0, .null, []), (19, .aload_n 0, 1, 0, 0, .null, []), (20, .getfield 46, 3, 11, 6, .null, []), (23, .getfield 189, 3, 9, 11, .null, []), (26, .iload_n 1, 1, 0, 0, .null, []), (27, .iaload, 1, 0, 0, .null, []), (28, .i2l, 1, 0, 0, .null, []), (29, .lmul, 1, 0, 0, .null, []), (30, .lstore_n 3, 1, 0, 0, .null, []), (31, .iinc 5 1, 3, 0, 0, .int 1, []), (34, .goto (-29), 3, 5, 0, .null, []), (37, .lload_n 3, 1, 0, 0, .null, []), (38, .lreturn, 1, 0, 0, .null, [])]
def cd_D_dreamOf : List (Nat × pE) := [(0, .iload_n 0, 1, 0, 0, .null, []), (1, .sipush 200, 3, 0, 0, .int 200, []), (4, .imul, 1, 0, 0, .null, []), (5, .iload_n 1, 1, 0, 0, .null, []), (6, .iconst 2, 1, 0, 0, .int 2, []), (7, .imul, 1, 0, 0, .null, []), (8, .iadd, 1, 0, 0, .null, []), (9, .iload_n 2, 1, 0, 0, .null, []), (10, .iadd, 1, 0, 0, .null, []), (11, .ireturn, 1, 0, 0, .null, [])]
def cd_D_thingOf : List (Nat × pE) := [(0, .iload_n 0, 1, 0, 0, .null, []), (1, .bipush (-2), 2, 0, 0, .int (-2), []), (3, .if_icmp .ne 8, 3, 11, 0, .null, []), (6, .bipush (-2), 2, 0, 0, .int (-2), []), (8, .goto 8, 3, 16, 0, .null, []), (11, .iload_n 0, 1, 0, 0, .null, []), (12, .sipush 200, 3, 0, 0, .int 200, []), (15, .idiv, 1, 0, 0, .null, []), (16, .ireturn, 1, 0, 0, .null, [])]
def cd_D_unitsOf : List (Nat × pE) := [(0, .iload_n 0, 1, 0, 0, .null, []), (1, .bipush (-2), 2, 0, 0, .int (-2), []), (3, .if_icmp .ne 8, 3, 11, 0, .null, []), (6, .bipush (-2), 2, 0, 0, .int (-2), []), (8, .goto 10, 3, 18, 0, .null, []), (11, .iload_n 0, 1, 0, 0, .null, []), (12, .sipush 200, 3, 0, 0, .int 200, []), (15, .irem, 1, 0, 0, .null, []), (16, .iconst 2, 1, 0, 0, .int 2, []), (17, .idiv, 1, 0, 0, .null, []), (18, .ireturn, 1, 0, 0, .null, [])]
def cd_D_twiceOf : List (Nat × pE) := [(0, .iload_n 0, 1, 0, 0, .null, []), (1, .bipush (-2), 2, 0, 0, .int (-2), []), (3, .if_icmp .ne 7, 3, 10, 0, .null, []), (6, .iconst 0, 1, 0, 0, .int 0, []), (7, .goto 6, 3, 13, 0, .null, []), (10, .iload_n 0, 1, 0, 0, .null, []), (11, .iconst 2, 1, 0, 0, .int 2, []), (12, .irem, 1, 0, 0, .null, []), (13, .ireturn, 1, 0, 0, .null, [])]
def cd_D_clamp : List (Nat × pE) := [(0, .iconst 0, 1, 0, 0, .int 0, []), (1, .iload_n 1, 1, 0, 0, .null, []), (2, .iload_n 0, 1, 0, 0, .null, []), (3, .invokestatic 353, 3, 9995, 2, .int 0, []), (6, .invokestatic 355, 3, 9996, 2, .int 0, []), (9, .ireturn, 1, 0, 0, .null, [])]
def cd_D_commonDivisor : List (Nat × pE) := [(0, .lload_n 0, 1, 0, 0, .null, []), (1, .lstore 4, 2, 0, 0, .null, []), (3, .lload_n 2, 1, 0, 0, .null, []), (4, .lstore 6, 2, 0, 0, .null, []), (6, .iconst 0, 1, 0, 0, .int 0, []), (7, .istore 8, 2, 0, 0, .null, []), (9, .iload 8, 2, 0, 0, .null, []), (11, .sipush 200, 3, 0, 0, .int 200, []), (14, .if_icmp .ge 31, 3, 45, 0, .null, []), (17, .lload 6, 2, 0, 0, .null, []), (19, .lconst 0, 1, 0, 0, .long 0, []), (20, .lcmp, 1, 0, 0, .null, []), (21, .ifCond .eq 24, 3, 45, 0, .null, []), (24, .lload 4, 2, 0, 0, .null, []), (26, .lload 6, 2, 0, 0, .null, []), (28, .lrem, 1, 0, 0, .null, []), (29, .lstore 9, 2, 0, 0, .null, []), (31, .lload 6, 2, 0, 0, .null, []), (33, .lstore 4, 2, 0, 0, .null, []), (35, .lload 9, 2, 0, 0, .null, []), (37, .lstore 6, 2, 0, 0, .null, []), (39, .iinc 8 1, 3, 0, 0, .int 1, []), (42, .goto (-33), 3, 9, 0, .null, []), (45, .lload 4, 2, 0, 0, .null, []), (47, .lconst 0, 1, 0, 0, .long 0, []), (48, .lcmp, 1, 0, 0, .null, []), (49, .ifCond .ne 7, 3, 56, 0, .null, []), (52, .lconst 1, 1, 0, 0, .long 1, []), (53, .goto 5, 3, 58, 0, .null, []), (56, .lload 4, 2, 0, 0, .null, []), (58, .lreturn, 1, 0, 0, .null, [])]
def cd_M_init : List (Nat × pE) := [(0, .aload_n 0, 1, 0, 0, .null, []), (1, .invokespecial 7, 3, 9999, 1, .retAddr 0, []), (4, .aload_n 0, 1, 0, 0, .null, []), (5, .sipush 2000, 3, 0, 0, .int 2000, []), (8, .newarray .byte, 2, 101, 0, .int 0, []), (10, .putfield 13, 3, 12, 1, .null, []), (13, .aload_n 0, 1, 0, 0, .null, []), (14, .sipush 2000, 3, 0, 0, .int 2000, []), (17, .newarray .byte, 2, 101, 0, .int 0, []), (19, .putfield 17, 3, 12, 3, .null, []), (22, .aload_n 0, 1, 0, 0, .null, []), (23, .sipush 403, 3, 0, 0, .int 403, []), (26, .newarray .int, 2, 100, 0, .int 0, []), (28, .putfield 20, 3, 12, 5, .null, []), (31, .aload_n 0, 1, 0, 0, .null, []), (32, .sipush 403, 3, 0, 0, .int 403, []), (35, .newarray .int, 2, 100, 0, .int 0, []), (37, .putfield 24, 3, 12, 6, .null, []), (40, .aload_n 0, 1, 0, 0, .null, []), (41, .sipush 403, 3, 0, 0, .int 403, []), (44, .newarray .int, 2, 100, 0, .int 0, []), (46, .putfield 27, 3, 12, 7, .null, []), (49, .aload_n 0, 1, 0, 0, .null, []), (50, .sipush 403, 3, 0, 0, .int 403, []), (53, .newarray .long, 2, 103, 0, .long 0, []), (55, .putfield 30, 3, 12, 8, .null, []), (58, .aload_n 0, 1, 0, 0, .null, []), (59, .bipush 23, 2, 0, 0, .int 23, []), (61, .newarray .long, 2, 103, 0, .long 0, []), (63, .putfield 34, 3, 12, 9, .null, []), (66, .aload_n 0, 1, 0, 0, .null, []), (67, .iconst (-1), 1, 0, 0, .int (-1), []), (68, .putfield 37, 3, 12, 17, .int 0, []), (71, .aload_n 0, 1, 0, 0, .null, []), (72, .bipush 24, 2, 0, 0, .int 24, []), (74, .newarray .long, 2, 103, 0, .long 0, []), (76, .putfield 40, 3, 12, 21, .null, []), (79, .aload_n 0, 1, 0, 0, .null, []), (80, .bipush 24, 2, 0, 0, .int 24, []), (82, .newarray .int, 2, 100, 0, .int 0, []), (84, .putfield 43, 3, 12, 22, .null, []), (87, .aload_n 0, 1, 0, 0, .null, []), (88, .bipush 24, 2, 0, 0, .int 24, []), (90, .newarray .int, 2, 100, 0, .int 0, []), (92, .putfield 46, 3, 12, 23, .null, []), (95, .aload_n 0, 1, 0, 0, .null, []), (96, .iconst 2, 1, 0, 0, .int 2, []), (97, .newarray .int, 2, 100, 0, .int 0, []), (99, .putfield 49, 3, 12, 24, .null, []), (102, .aload_n 0, 1, 0, 0, .null, []), (103, .bipush 14, 2, 0, 0, .int 14, []), (105, .newarray .int, 2, 100, 0, .int 0, []), (107, .putfield 52, 3, 12, 25, .null, []), (110, .aload_n 0, 1, 0, 0, .null, []), (111, .iconst 2, 1, 0, 0, .int 2, []), (112, .newarray .int, 2, 100, 0, .int 0, []), (114, .putfield 55, 3, 12, 26, .null, []), (117, .aload_n 0, 1, 0, 0, .null, []), (118, .bipush 10, 2, 0, 0, .int 10, []), (120, .newarray .int, 2, 100, 0, .int 0, []), (122, .putfield 58, 3, 12, 27, .null, []), (125, .aload_n 0, 1, 0, 0, .null, []), (126, .bipush 10, 2, 0, 0, .int 10, []), (128, .newarray .int, 2, 100, 0, .int 0, []), (130, .putfield 61, 3, 12, 28, .null, []), (133, .aload_n 0, 1, 0, 0, .null, []), (134, .bipush 10, 2, 0, 0, .int 10, []), (136, .newarray .int, 2, 100, 0, .int 0, []), (138, .putfield 64, 3, 12, 29, .null, []), (141, .aload_n 0, 1, 0, 0, .null, []), (142, .bipush 70, 2, 0, 0, .int 70, []), (144, .newarray .int, 2, 100, 0, .int 0, []), (146, .putfield 67, 3, 12, 30, .null, []), (149, .aload_n 0, 1, 0, 0, .null, []), (150, .iconst 2, 1, 0, 0, .int 2, []), (151, .newarray .int, 2, 100, 0, .int 0, []), (153, .putfield 70, 3, 12, 31, .null, []), (156, .aload_n 0, 1, 0, 0, .null, []), (157, .bipush 12, 2, 0, 0, .int 12, []), (159, .newarray .int, 2, 100, 0, .int 0, []), (161, .putfield 73, 3, 12, 32, .null, []), (164, .aload_n 0, 1, 0, 0, .null, []), (165, .bipush 12, 2, 0, 0, .int 12, []), (167, .newarray .int, 2, 100, 0, .int 0, []), (169, .putfield 76, 3, 12, 33, .null, []), (172, .aload_n 0, 1, 0, 0, .null, []), (173, .bipush 12, 2, 0, 0, .int 12, []), (175, .newarray .int, 2, 100, 0, .int 0, []), (177, .putfield 79, 3, 12, 34, .null, []), (180, .aload_n 0, 1, 0, 0, .null, []), (181, .bipush 12, 2, 0, 0, .int 12, []), (183, .newarray .int, 2, 100, 0, .int 0, []), (185, .putfield 82, 3, 12, 35, .null, []), (188, .aload_n 0, 1, 0, 0, .null, []), (189, .iconst 2, 1, 0, 0, .int 2, []), (190, .newarray .int, 2, 100, 0, .int 0, []), (192, .putfield 85, 3, 12, 36, .null, []), (195, .aload_n 0, 1, 0, 0, .null, []), (196, .iconst 2, 1, 0, 0, .int 2, []), (197, .newarray .int, 2, 100, 0, .int 0, []), (199, .putfield 88, 3, 12, 37, .null, []), (202, .aload_n 0, 1, 0, 0, .null, []), (203, .bipush 12, 2, 0, 0, .int 12, []), (205, .newarray .int, 2, 100, 0, .int 0, []), (207, .putfield 91, 3, 12, 38, .null, []), (210, .aload_n 0, 1, 0, 0, .null, []), (211, .iconst 2, 1, 0, 0, .int 2, []), (212, .newarray .int, 2, 100, 0, .int 0, []), (214, .putfield 94, 3, 12, 39, .null, []), (217, .aload_n 0, 1, 0, 0, .null, []), (218, .iconst 2, 1, 0, 0, .int 2, []), (219, .newarray .int, 2, 100, 0, .int 0, []), (221, .putfield 97, 3, 12, 40, .null, []), (224, .aload_n 0, 1, 0, 0, .null, []), (225, .bipush 6, 2, 0, 0, .int 6, []), (227, .newarray .int, 2, 100, 0, .int 0, []), (229, .putfield 100, 3, 12, 41, .null, []), (232, .aload_n 0, 1, 0, 0, .null, []), (233, .bipush 6, 2, 0, 0, .int 6, []), (235, .newarray .int, 2, 100, 0, .int 0, []), (237, .putfield 103, 3, 12, 42, .null, []), (240, .aload_n 0, 1, 0, 0, .null, []), (241, .sipush 260, 3, 0, 0, .int 260, []), (244, .newarray .boolean, 2, 102, 0, .int 0, []), (246, .putfield 106, 3, 12, 44, .null, []), (249, .aload_n 0, 1, 0, 0, .null, []), (250, .sipush 260, 3, 0, 0, .int 260, []), (253, .newarray .int, 2, 100, 0, .int 0, []), (255, .putfield 110, 3, 12, 45, .null, []), (258, .aload_n 0, 1, 0, 0, .null, []), (259, .sipush 260, 3, 0, 0, .int 260, []), (262, .newarray .int, 2, 100, 0, .int 0, []), (264, .putfield 113, 3, 12, 46, .null, []), (267, .aload_n 0, 1, 0, 0, .null, []), (268, .sipush 260, 3, 0, 0, .int 260, []), (271, .newarray .int, 2, 100, 0, .int 0, []), (273, .putfield 116, 3, 12, 47, .null, []), (276, .aload_n 0, 1, 0, 0, .null, []), (277, .sipush 260, 3, 0, 0, .int 260, []), (280, .newarray .int, 2, 100, 0, .int 0, []), (282, .putfield 119, 3, 12, 48, .null, []), (285, .aload_n 0, 1, 0, 0, .null, []), (286, .sipush 840, 3, 0, 0, .int 840, []), (289, .newarray .int, 2, 100, 0, .int 0, []), (291, .putfield 122, 3, 12, 50, .null, []), (294, .aload_n 0, 1, 0, 0, .null, []), (295, .sipush 840, 3, 0, 0, .int 840, []), (298, .newarray .int, 2, 100, 0, .int 0, []), (300, .putfield 125, 3, 12, 51, .null, []), (303, .aload_n 0, 1, 0, 0, .null, []), (304, .bipush 64, 2, 0, 0, .int 64, []), (306, .newarray .int, 2, 100, 0, .int 0, []), (308, .putfield 128, 3, 12, 52, .null, []), (311, .aload_n 0, 1, 0, 0, .null, []), (312, .bipush 9, 2, 0, 0, .int 9, []), (314, .newarray .int, 2, 100, 0, .int 0, []), (316, .putfield 131, 3, 12, 54, .null, []), (319, .aload_n 0, 1, 0, 0, .null, []), (320, .sipush 400, 3, 0, 0, .int 400, []), (323, .newarray .int, 2, 100, 0, .int 0, []), (325, .putfield 134, 3, 12, 55, .null, []), (328, .aload_n 0, 1, 0, 0, .null, []), (329, .sipush 152, 3, 0, 0, .int 152, []), (332, .newarray .int, 2, 100, 0, .int 0, []), (334, .putfield 137, 3, 12, 57, .null, []), (337, .aload_n 0, 1, 0, 0, .null, []), (338, .sipush 152, 3, 0, 0, .int 152, []), (341, .newarray .int, 2, 100, 0, .int 0, []), (343, .putfield 140, 3, 12, 58, .null, []), (346, .aload_n 0, 1, 0, 0, .null, []), (347, .bipush 6, 2, 0, 0, .int 6, []), (349, .newarray .int, 2, 100, 0, .int 0, []), (351, .putfield 143, 3, 12, 60, .null, []), (354, .aload_n 0, 1, 0, 0, .null, []), (355, .sipush 6080, 3, 0, 0, .int 6080, []), (358, .newarray .int, 2, 100, 0, .int 0, []), (360, .putfield 146, 3, 12, 62, .null, []), (363, .aload_n 0, 1, 0, 0, .null, []), (364, .bipush 30, 2, 0, 0, .int 30, []), (366, .newarray .long, 2, 103, 0, .long 0, []), (368, .putfield 149, 3, 12, 64, .null, []), (371, .aload_n 0, 1, 0, 0, .null, []), (372, .bipush 15, 2, 0, 0, .int 15, []), (374, .newarray .int, 2, 100, 0, .int 0, []), (376, .putfield 152, 3, 12, 67, .null, []), (379, .aload_n 0, 1, 0, 0, .null, []), (380, .bipush 15, 2, 0, 0, .int 15, []), (382, .newarray .int, 2, 100, 0, .int 0, []), (384, .putfield 155, 3, 12, 68, .null, []), (387, .aload_n 0, 1, 0, 0, .null, []), (388, .bipush 20, 2, 0, 0, .int 20, []), (390, .newarray .int, 2, 100, 0, .int 0, []), (392, .putfield 158, 3, 12, 72, .null, []), (395, .aload_n 0, 1, 0, 0, .null, []), (396, .iconst 3, 1, 0, 0, .int 3, []), (397, .newarray .boolean, 2, 102, 0, .int 0, []), (399, .putfield 161, 3, 12, 73, .null, []), (402, .aload_n 0, 1, 0, 0, .null, []), (403, .sipush 456, 3, 0, 0, .int 456, []), (406, .newarray .int, 2, 100, 0, .int 0, []), (408, .putfield 164, 3, 12, 74, .null, []), (411, .aload_n 0, 1, 0, 0, .null, []), (412, .iconst 0, 1, 0, 0, .int 0, []), (413, .invokevirtual 167, 3, 176, 2, .retAddr 0, []), (416, .aload_n 0, 1, 0, 0, .null, []), (417, .getfield 34, 3, 12, 9, .null, []), (420, .iconst 0, 1, 0, 0, .int 0, []), (421, .bipush 116, 2, 0, 0, .int 116, []), (423, .bipush 104, 2, 0, 0, .int 104, []), (425, .bipush 105, 2, 0, 0, .int 105, []), (427, .bipush 110, 2, 0, 0, .int 110, []), (429, .bipush 103, 2, 0, 0, .int 103, []), (431, .iconst 0, 1, 0, 0, .int 0, []), (432, .iconst 0, 1, 0, 0, .int 0, []), (433, .invokestatic 171, 3, 167, 7, .long 0, []), (436, .lastore, 1, 0, 0, .null, []), (437, .aload_n 0, 1, 0, 0, .null, []), (438, .getfield 34, 3, 12, 9, .null, []), (441, .iconst 1, 1, 0, 0, .int 1, []), (442, .bipush 105, 2, 0, 0, .int 105, []), (444, .bipush 110, 2, 0, 0, .int 110, []), (446, .bipush 110, 2, 0, 0, .int 110, []), (448, .iconst 0, 1, 0, 0, .int 0, []), (449, .iconst 0, 1, 0, 0, .int 0, []), (450, .iconst 0, 1, 0, 0, .int 0, []), (451, .iconst 0, 1, 0, 0, .int 0, []), (452, .invokestatic 171, 3, 167, 7, .long 0, []), (455, .lastore, 1, 0, 0, .null, []), (456, .aload_n 0, 1, 0, 0, .null, []), (457, .getfield 34, 3, 12, 9, .null, []), (460, .iconst 2, 1, 0, 0, .int 2, []), (461, .bipush 103, 2, 0, 0, .int 103, []), (463, .bipush 105, 2, 0, 0, .int 105, []), (465, .bipush 118, 2, 0, 0, .int 118, []), (467, .bipush 101, 2, 0, 0, .int 101, []), (469, .bipush 115, 2, 0, 0, .int 115, []), (471, .iconst 0, 1, 0, 0, .int 0, []), (472, .iconst 0, 1, 0, 0, .int 0, []), (473, .invokestatic 171, 3, 167, 7, .long 0, []), (476, .lastore, 1, 0, 0, .null, []), (477, .aload_n 0, 1, 0, 0, .null, []), (478, .getfield 34, 3, 12, 9, .null, []), (481, .iconst 3, 1, 0, 0, .int 3, []), (482, .bipush 103, 2, 0, 0, .int 103, []), (484, .bipush 117, 2, 0, 0, .int 117, []), (486, .bipush 101, 2, 0, 0, .int 101, []), (488, .bipush 115, 2, 0, 0, .int 115, []), (490, .bipush 116, 2, 0, 0, .int 116, []), (492, .iconst 0, 1, 0, 0, .int 0, []), (493, .iconst 0, 1, 0, 0, .int 0, []), (494, .invokestatic 171, 3, 167, 7, .long 0, []), (497, .lastore, 1, 0, 0, .null, []), (498, .aload_n 0, 1, 0, 0, .null, []), (499, .getfield 34, 3, 12, 9, .null, []), (502, .iconst 4, 1, 0, 0, .int 4, []), (503, .bipush 116, 2, 0, 0, .int 116, []), (505, .bipush 119, 2, 0, 0, .int 119, []), (507, .bipush 105, 2, 0, 0, .int 105, []), (509, .bipush 110, 2, 0, 0, .int 110, []), (511, .bipush 115, 2, 0, 0, .int 115, []), (513, .iconst 0, 1, 0, 0, .int 0, []), (514, .iconst 0, 1, 0, 0, .int 0, []), (515, .invokestatic 171, 3, 167, 7, .long 0, []), (518, .lastore, 1, 0, 0, .null, []), (519, .aload_n 0, 1, 0, 0, .null, []), (520, .getfield 34, 3, 12, 9, .null, []), (523, .iconst 5, 1, 0, 0, .int 5, []), (524, .bipush 112, 2, 0, 0, .int 112, []), (526, .bipush 111, 2, 0, 0, .int 111, []), (528, .bipush 115, 2, 0, 0, .int 115, []), (530, .bipush 116, 2, 0, 0, .int 116, []), (532, .iconst 0, 1, 0, 0, .int 0, []), (533, .iconst 0, 1, 0, 0, .int 0, []), (534, .iconst 0, 1, 0, 0, .int 0, []), (535, .invokestatic 171, 3, 167, 7, .long 0, []), (538, .lastore, 1, 0, 0, .null, []), (539, .aload_n 0, 1, 0, 0, .null, []), (540, .getfield 34, 3, 12, 9, .null, []), (543, .bipush 6, 2, 0, 0, .int 6, []), (545, .bipush 109, 2, 0, 0, .int 109, []), (547, .bipush 117, 2, 0, 0, .int 117, []), (549, .bipush 99, 2, 0, 0, .int 99, []), (551, .bipush 104, 2, 0, 0, .int 104, []), (553, .iconst 0, 1, 0, 0, .int 0, []), (554, .iconst 0, 1, 0, 0, .int 0, []), (555, .iconst 0, 1, 0, 0, .int 0, []), (556, .invokestatic 171, 3, 167, 7, .long 0, []), (559, .lastore, 1, 0, 0, .null, []), (560, .aload_n 0, 1, 0, 0, .null, []), (561, .getfield 34, 3, 12, 9, .null, []), (564, .bipush 7, 2, 0, 0, .int 7, []), (566, .bipush 111, 2, 0, 0, .int 111, []), (568, .bipush 119, 2, 0, 0, .int 119, []), (570, .bipush 101, 2, 0, 0, .int 101, []), (572, .bipush 115, 2, 0, 0, .int 115, []), (574, .iconst 0, 1, 0, 0, .int 0, []), (575, .iconst 0, 1, 0, 0, .int 0, []), (576, .iconst 0, 1, 0, 0, .int 0, []), (577, .invokestatic 171, 3, 167, 7, .long 0, []), (580, .lastore, 1, 0, 0, .null, []), (581, .aload_n 0, 1, 0, 0, .null, []), (582, .getfield 34, 3, 12, 9, .null, []), (585, .bipush 8, 2, 0, 0, .int 8, []), (587, .bipush 115, 2, 0, 0, .int 115, []), (589, .bipush 104, 2, 0, 0, .int 104, []), (591, .bipush 111, 2, 0, 0, .int 111, []), (593, .bipush 119, 2, 0, 0, .int 119, []), (595, .bipush 115, 2, 0, 0, .int 115, []), (597, .iconst 0, 1, 0, 0, .int 0, []), (598, .iconst 0, 1, 0, 0, .int 0, []), (599, .invokestatic 171, 3, 167, 7, .long 0, []), (602, .lastore, 1, 0, 0, .null, []), (603, .aload_n 0, 1, 0, 0, .null, []), (604, .getfield 34, 3, 12, 9, .null, []), (607, .bipush 9, 2, 0, 0, .int 9, []), (609, .bipush 102, 2, 0, 0, .int 102, []), (611, .bipush 105, 2, 0, 0, .int 105, []), (613, .bipush 110, 2, 0, 0, .int 110, []), (615, .bipush 101, 2, 0, 0, .int 101, []), (617, .iconst 0, 1, 0, 0, .int 0, []), (618, .iconst 0, 1, 0, 0, .int 0, []), (619, .iconst 0, 1, 0, 0, .int 0, []), (620, .invokestatic 171, 3, 167, 7, .long 0, []), (623, .lastore, 1, 0, 0, .null, []), (624, .aload_n 0, 1, 0, 0, .null, []), (625, .getfield 34, 3, 12, 9, .null, []), (628, .bipush 10, 2, 0, 0, .int 10, []), (630, .bipush 115, 2, 0, 0, .int 115, []), (632, .bipush 101, 2, 0, 0, .int 101, []), (634, .bipush 101, 2, 0, 0, .int 101, []), (636, .bipush 100, 2, 0, 0, .int 100, []), (638, .iconst 0, 1, 0, 0, .int 0, []), (639, .iconst 0, 1, 0, 0, .int 0, []), (640, .iconst 0, 1, 0, 0, .int 0, []), (641, .invokestatic 171, 3, 167, 7, .long 0, []), (644, .lastore, 1, 0, 0, .null, []), (645, .aload_n 0, 1, 0, 0, .null, []), (646, .getfield 34, 3, 12, 9, .null, []), (649, .bipush 11, 2, 0, 0, .int 11, []), (651, .bipush 105, 2, 0, 0, .int 105, []), (653, .bipush 102, 2, 0, 0, .int 102, []), (655, .iconst 0, 1, 0, 0, .int 0, []), (656, .iconst 0, 1, 0, 0, .int 0, []), (657, .iconst 0, 1, 0, 0, .int 0, []), (658, .iconst 0, 1, 0, 0, .int 0, []), (659, .iconst 0, 1, 0, 0, .int 0, []), (660, .invokestatic 171, 3, 167, 7, .long 0, []), (663, .lastore, 1, 0, 0, .null, []), (664, .aload_n 0, 1, 0, 0, .null, []), (665, .getfield 34, 3, 12, 9, .null, []), (668, .bipush 12, 2, 0, 0, .int 12, []), (670, .bipush 116, 2, 0, 0, .int 116, []), (672, .bipush 104, 2, 0, 0, .int 104, []), (674, .bipush 101, 2, 0, 0, .int 101, []), (676, .bipush 110, 2, 0, 0, .int 110, []), (678, .iconst 0, 1, 0, 0, .int 0, []), (679, .iconst 0, 1, 0, 0, .int 0, []), (680, .iconst 0, 1, 0, 0, .int 0, []), (681, .invokestatic 171, 3, 167, 7, .long 0, []), (684, .lastore, 1, 0, 0, .null, []), (685, .aload_n 0, 1, 0, 0, .null, []), (686, .getfield 34, 3, 12, 9, .null, []), (689, .bipush 13, 2, 0, 0, .int 13, []), (691, .bipush 101, 2, 0, 0, .int 101, []), (693, .bipush 108, 2, 0, 0, .int 108, []), (695, .bipush 115, 2, 0, 0, .int 115, []), (697, .bipush 101, 2, 0, 0, .int 101, []), (699, .iconst 0, 1, 0, 0, .int 0, []), (700, .iconst 0, 1, 0, 0, .int 0, []), (701, .iconst 0, 1, 0, 0, .int 0, []), (702, .invokestatic 171, 3, 167, 7, .long 0, []), (705, .lastore, 1, 0, 0, .null, []), (706, .aload_n 0, 1, 0, 0, .null, []), (707, .getfield 34, 3, 12, 9, .null, []), (710, .bipush 14, 2, 0, 0, .int 14, []), (712, .bipush 110, 2, 0, 0, .int 110, []), (714, .bipush 105, 2, 0, 0, .int 105, []), (716, .bipush 103, 2, 0, 0, .int 103, []), (718, .bipush 104, 2, 0, 0, .int 104, []), (720, .bipush 116, 2, 0, 0, .int 116, []), (722, .iconst 0, 1, 0, 0, .int 0, []), (723, .iconst 0, 1, 0, 0, .int 0, []), (724, .invokestatic 171, 3, 167, 7, .long 0, []), (727, .lastore, 1, 0, 0, .null, []), (728, .aload_n 0, 1, 0, 0, .null, []), (729, .getfield 34, 3, 12, 9, .null, []), (732, .bipush 15, 2, 0, 0, .int 15, []), (734, .bipush 116, 2, 0, 0, .int 116, []), (736, .bipush 97, 2, 0, 0, .int 97, []), (738, .bipush 114, 2, 0, 0, .int 114, []), (740, .bipush 105, 2, 0, 0, .int 105, []), (742, .bipush 102, 2, 0, 0, .int 102, []), (744, .bipush 102, 2, 0, 0, .int 102, []), (746, .iconst 0, 1, 0, 0, .int 0, []), (747, .invokestatic 171, 3, 167, 7, .long 0, []), (750, .lastore, 1, 0, 0, .null, []), (751, .aload_n 0, 1, 0, 0, .null, []), (752, .getfield 34, 3, 12, 9, .null, []), (755, .bipush 16, 2, 0, 0, .int 16, []), (757, .bipush 117, 2, 0, 0, .int 117, []), (759, .bipush 110, 2, 0, 0, .int 110, []), (761, .bipush 105, 2, 0, 0, .int 105, []), (763, .bipush 116, 2, 0, 0, .int 116, []), (765, .bipush 115, 2, 0, 0, .int 115, []), (767, .iconst 0, 1, 0, 0, .int 0, []), (768, .iconst 0, 1, 0, 0, .int 0, []), (769, .invokestatic 171, 3, 167, 7, .long 0, []), (772, .lastore, 1, 0, 0, .null, []), (773, .aload_n 0, 1, 0, 0, .null, []), (774, .getfield 34, 3, 12, 9, .null, []), (777, .bipush 17, 2, 0, 0, .int 17, []), (779, .bipush 99, 2, 0, 0, .int 99, []), (781, .bipush 104, 2, 0, 0, .int 104, []), (783, .bipush 101, 2, 0, 0, .int 101, []), (785, .bipush 101, 2, 0, 0, .int 101, []), (787, .bipush 115, 2, 0, 0, .int 115, []), (789, .bipush 101, 2, 0, 0, .int 101, []), (791, .iconst 0, 1, 0, 0, .int 0, []), (792, .invokestatic 171, 3, 167, 7, .long 0, []), (795, .lastore, 1, 0, 0, .null, []), (796, .aload_n 0, 1, 0, 0, .null, []), (797, .getfield 34, 3, 12, 9, .null, []), (800, .bipush 18, 2, 0, 0, .int 18, []), (802, .bipush 100, 2, 0, 0, .int 100, []), (804, .bipush 101, 2, 0, 0, .int 101, []), (806, .bipush 103, 2, 0, 0, .int 103, []), (808, .bipush 114, 2, 0, 0, .int 114, []), (810, .bipush 101, 2, 0, 0, .int 101, []), (812, .bipush 101, 2, 0, 0, .int 101, []), (814, .iconst 0, 1, 0, 0, .int 0, []), (815, .invokestatic 171, 3, 167, 7, .long 0, []), (818, .lastore, 1, 0, 0, .null, []), (819, .aload_n 0, 1, 0, 0, .null, []), (820, .getfield 34, 3, 12, 9, .null, []), (823, .bipush 19, 2, 0, 0, .int 19, []), (825, .bipush 104, 2, 0, 0, .int 104, []), (827, .bipush 111, 2, 0, 0, .int 111, []), (829, .bipush 110, 2, 0, 0, .int 110, []), (831, .bipush 101, 2, 0, 0, .int 101, []), (833, .bipush 115, 2, 0, 0, .int 115, []), (835, .bipush 116, 2, 0, 0, .int 116, []), (837, .iconst 0, 1, 0, 0, .int 0, []), (838, .invokestatic 171, 3, 167, 7, .long 0, []), (841, .lastore, 1, 0, 0, .null, []), (842, .aload_n 0, 1, 0, 0, .null, []), (843, .getfield 34, 3, 12, 9, .null, []), (846, .bipush 20, 2, 0, 0, .int 20, []), (848, .bipush 119, 2, 0, 0, .int 119, []), (850, .bipush 104, 2, 0, 0, .int 104, []), (852, .bipush 105, 2, 0, 0, .int 105, []), (854, .bipush 99, 2, 0, 0, .int 99, []), (856, .bipush 104, 2, 0, 0, .int 104, []), (858, .iconst 0, 1, 0, 0, .int 0, []), (859, .iconst 0, 1, 0, 0, .int 0, []), (860, .invokestatic 171, 3, 167, 7, .long 0, []), (863, .lastore, 1, 0, 0, .null, []), (864, .aload_n 0, 1, 0, 0, .null, []), (865, .getfield 34, 3, 12, 9, .null, []), (868, .bipush 21, 2, 0, 0, .int 21, []), (870, .bipush 116, 2, 0, 0, .int 116, []), (872, .bipush 119, 2, 0, 0, .int 119, []), (874, .bipush 105, 2, 0, 0, .int 105, []), (876, .bipush 99, 2, 0, 0, .int 99, []), (878, .bipush 101, 2, 0, 0, .int 101, []), (880, .iconst 0, 1, 0, 0, .int 0, []), (881, .iconst 0, 1, 0, 0, .int 0, []), (882, .invokestatic 171, 3, 167, 7, .long 0, []), (885, .lastore, 1, 0, 0, .null, []), (886, .aload_n 0, 1, 0, 0, .null, []), (887, .getfield 34, 3, 12, 9, .null, []), (890, .bipush 22, 2, 0, 0, .int 22, []), (892, .bipush 97, 2, 0, 0, .int 97, []), (894, .bipush 108, 2, 0, 0, .int 108, []), (896, .bipush 105, 2, 0, 0, .int 105, []), (898, .bipush 107, 2, 0, 0, .int 107, []), (900, .bipush 101, 2, 0, 0, .int 101, []), (902, .iconst 0, 1, 0, 0, .int 0, []), (903, .iconst 0, 1, 0, 0, .int 0, []), (904, .invokestatic 171, 3, 167, 7, .long 0, []), (907, .lastore, 1, 0, 0, .null, []), (908, .aload_n 0, 1, 0, 0, .null, []), (909, .invokevirtual 175, 3, 202, 1, .retAddr 0, []), (912, .aload_n 0, 1, 0, 0, .null, []), (913, .invokevirtual 178, 3, 203, 1, .retAddr 0, []), (916, .return_, 1, 0, 0, .null, [])]
def cd_M_feed : List (Nat × pE) := [(0, .aload_n 0, 1, 0, 0, .null, []), (1, .getfield 181, 3, 12, 2, .int 0, []), (4, .bipush 20, 2, 0, 0, .int 20, []), (6, .iadd, 1, 0, 0, .null, []), (7, .sipush 2000, 3, 0, 0, .int 2000, []), (10, .if_icmp .le 5, 3, 15, 0, .null, []), (13, .iconst (-1), 1, 0, 0, .int (-1), []), (14, .ireturn, 1, 0, 0, .null, []), (15, .aload_n 0, 1, 0, 0, .null, []), (16, .iload_n 1, 1, 0, 0, .null, []), (17, .invokevirtual 184, 3, 161, 2, .retAddr 0, []), (20, .aload_n 0, 1, 0, 0, .null, []), (21, .iload_n 2, 1, 0, 0, .null, []), (22, .invokevirtual 184, 3, 161, 2, .retAddr 0, []), (25, .aload_n 0, 1, 0, 0, .null, []), (26, .iload_n 3, 1, 0, 0, .null, []), (27, .invokevirtual 184, 3, 161, 2, .retAddr 0, []), (30, .aload_n 0, 1, 0, 0, .null, []), (31, .iload 4, 2, 0, 0, .null, []), (33, .invokevirtual 184, 3, 161, 2, .retAddr 0, []), (36, .aload_n 0, 1, 0, 0, .null, []), (37, .iload 5, 2, 0, 0, .null, []), (39, .invokevirtual 184, 3, 161, 2, .retAddr 0, []), (42, .aload_n 0, 1, 0, 0, .null, []), (43, .getfield 181, 3, 12, 2, .int 0, []), (46, .ireturn, 1, 0, 0, .null, [])]
def cd_M_put : List (Nat × pE) := [(0, .bipush 24, 2, 0, 0, .int 24, []), (2, .istore_n 2, 1, 0, 0, .null, []), (3, .iload_n 2, 1, 0, 0, .null, []), (4, .ifCond .lt 32, 3, 36, 0, .null, []), (7, .aload_n 0, 1, 0, 0, .null, []), (8, .getfield 13, 3, 12, 1, .null, []), (11, .aload_n 0, 1, 0, 0, .null, []), (12, .getfield 181, 3, 12, 2, .int 0, []), (15, .iload_n 1, 1, 0, 0, .null, []), (16, .iload_n 2, 1, 0, 0, .null, []), (17, .ishr, 1, 0, 0, .null, []), (18, .i2b, 1, 0, 0, .null, []), (19, .bastore, 1, 101, 0, .null, []), (20, .aload_n 0, 1, 0, 0, .null, []), (21, .dup, 1, 0, 0, .null, []), (22, .getfield 181, 3, 12, 2, .int 0, []), (25, .iconst 1, 1, 0, 0, .int 1, []), (26, .iadd, 1, 0, 0, .null, []), (27, .putfield 181, 3, 12, 2, .int 0, []), (30, .iinc 2 (-8), 3, 0, 0, .int (-8), []), (33, .goto (-30), 3, 3, 0, .null, []), (36, .return_, 1, 0, 0, .null, [])]
def cd_M_back : List (Nat × pE) := [(0, .iload_n 1, 1, 0, 0, .null, []), (1, .ifCond .lt 11, 3, 12, 0, .null, []), (4, .iload_n 1, 1, 0, 0, .null, []), (5, .aload_n 0, 1, 0, 0, .null, []), (6, .getfield 181, 3, 12, 2, .int 0, []), (9, .if_icmp .le 5, 3, 14, 0, .null, []), (12, .iconst (-1), 1, 0, 0, .int (-1), []), (13, .ireturn, 1, 0, 0, .null, []), (14, .aload_n 0, 1, 0, 0, .null, []), (15, .dup, 1, 0, 0, .null, []), (16, .getfield 181, 3, 12, 2, .int 0, []), (19, .iload_n 1, 1, 0, 0, .null, []), (20, .isub, 1, 0, 0, .null, []), (21, .putfield 181, 3, 12, 2, .int 0, []), (24, .aload_n 0, 1, 0, 0, .null, []), (25, .getfield 181, 3, 12, 2, .int 0, []), (28, .ireturn, 1, 0, 0, .null, [])]
def cd_M_byteAt : List (Nat × pE) := [(0, .iload_n 1, 1, 0, 0, .null, []), (1, .aload_n 0, 1, 0, 0, .null, []), (2, .getfield 187, 3, 12, 4, .int 0, []), (5, .if_icmp .ge 16, 3, 21, 0, .null, []), (8, .aload_n 0, 1, 0, 0, .null, []), (9, .getfield 17, 3, 12, 3, .null, []), (12, .iload_n 1, 1, 0, 0, .null, []), (13, .baload, 1, 101, 0, .null, []), (14, .sipush 255, 3, 0, 0, .int 255, []), (17, .iand, 1, 0, 0, .null, []), (18, .goto 4, 3, 22, 0, .null, []), (21, .iconst 0, 1, 0, 0, .int 0, []), (22, .ireturn, 1, 0, 0, .null, [])]
def cd_M_isDigit : List (Nat × pE) := [(0, .iload_n 0, 1, 0, 0, .null, []), (1, .bipush 48, 2, 0, 0, .int 48, []), (3, .if_icmp .lt 13, 3, 16, 0, .null, []), (6, .iload_n 0, 1, 0, 0, .null, []), (7, .bipush 57, 2, 0, 0, .int 57, []), (9, .if_icmp .gt 7, 3, 16, 0, .null, []), (12, .iconst 1, 1, 0, 0, .int 1, []), (13, .goto 4, 3, 17, 0, .null, []), (16, .iconst 0, 1, 0, 0, .int 0, []), (17, .ireturn, 1, 1, 0, .null, [])]
def cd_M_isLetter : List (Nat × pE) := [(0, .iload_n 0, 1, 0, 0, .null, []), (1, .bipush 97, 2, 0, 0, .int 97, []), (3, .if_icmp .lt 13, 3, 16, 0, .null, []), (6, .iload_n 0, 1, 0, 0, .null, []), (7, .bipush 122, 2, 0, 0, .int 122, []), (9, .if_icmp .gt 7, 3, 16, 0, .null, []), (12, .iconst 1, 1, 0, 0, .int 1, []), (13, .goto 4, 3, 17, 0, .null, []), (16, .iconst 0, 1, 0, 0, .int 0, []), (17, .ireturn, 1, 1, 0, .null, [])]
def cd_M_appends : List (Nat × pE) := [(0, .iload_n 2, 1, 0, 0, .null, []), (1, .ifCond .ne 7, 3, 8, 0, .null, []), (4, .lload_n 0, 1, 0, 0, .null, []), (5, .goto 16, 3, 21, 0, .null, []), (8, .ldc2_w 190, 3, 0, 0, .long 27, []), (11, .lload_n 0, 1, 0, 0, .null, []), (12, .lmul, 1, 0, 0, .null, []), (13, .iload_n 2, 1, 0, 0, .null, []), (14, .bipush 97, 2, 0, 0, .int 97, []), (16, .isub, 1, 0, 0, .null, []), (17, .iconst 1, 1, 0, 0, .int 1, []), (18, .iadd, 1, 0, 0, .null, []), (19, .i2l, 1, 0, 0, .null, []), (20, .ladd, 1, 0, 0, .null, []), (21, .lreturn, 1, 0, 0, .null, [])]
def cd_M_word : List (Nat × pE) := [(0, .lconst 0, 1, 0, 0, .long 0, []), (1, .iload_n 0, 1, 0, 0, .null, []), (2, .invokestatic 192, 3, 166, 2, .long 0, []), (5, .iload_n 1, 1, 0, 0, .null, []), (6, .invokestatic 192, 3, 166, 2, .long 0, []), (9, .iload_n 2, 1, 0, 0, .null, []), (10, .invokestatic 192, 3, 166, 2, .long 0, []), (13, .iload_n 3, 1, 0, 0, .null, []), (14, .invokestatic 192, 3, 166, 2, .long 0, []), (17, .iload 4, 2, 0, 0, .null, []), (19, .invokestatic 192, 3, 166, 2, .long 0, []), (22, .iload 5, 2, 0, 0, .null, []), (24, .invokestatic 192, 3, 166, 2, .long 0, []), (27, .iload 6, 2, 0, 0, .null, []), (29, .invokestatic 192, 3, 166, 2, .long 0, []), (32, .lreturn, 1, 0, 0, .null, [])]
def cd_M_token : List (Nat × pE) := [(0, .aload_n 0, 1, 0, 0, .null, []), (1, .getfield 20, 3, 12, 5, .null, []), (4, .aload_n 0, 1, 0, 0, .null, []), (5, .getfield 196, 3, 12, 10, .int 0, []), (8, .iload_n 1, 1, 0, 0, .null, []), (9, .iastore, 1, 0, 0, .null, []), (10, .aload_n 0, 1, 0, 0, .null, []), (11, .getfield 24, 3, 12, 6, .null, []), (14, .aload_n 0, 1, 0, 0, .null, []), (15, .getfield 196, 3, 12, 10, .int 0, []), (18, .iload_n 2, 1, 0, 0, .null, []), (19, .iastore, 1, 0, 0, .null, []), (20, .aload_n 0, 1, 0, 0, .null, []), (21, .getfield 27, 3, 12, 7, .null, []), (24, .aload_n 0, 1, 0, 0, .null, []), (25, .getfield 196, 3, 12, 10, .int 0, []), (28, .iload_n 3, 1, 0, 0, .null, []), (29, .iastore, 1, 0, 0, .null, []), (30, .aload_n 0, 1, 0, 0, .null, []), (31, .getfield 30, 3, 12, 8, .null, []), (34, .aload_n 0, 1, 0, 0, .null, []), (35, .getfield 196, 3, 12, 10, .int 0, []), (38, .lload 4, 2, 0, 0, .null, []), (40, .lastore, 1, 0, 0, .null, []), (41, .aload_n 0, 1, 0, 0, .null, []), (42, .dup, 1, 0, 0, .null, []), (43, .getfield 196, 3, 12, 10, .int 0, []), (46, .iconst 1, 1, 0, 0, .int 1, []), (47, .iadd, 1, 0, 0, .null, []), (48, .putfield 196, 3, 12, 10, .int 0, []), (51, .return_, 1, 0, 0, .null, [])]
def cd_M_cut : List (Nat × pE) := [(0, .aload_n 0, 1, 0, 0, .null, []), (1, .iconst 0, 1, 0, 0, .int 0, []), (2, .putfield 196, 3, 12, 10, .int 0, []), (5, .iconst 0, 1, 0, 0, .int 0, []), (6, .istore_n 1, 1, 0, 0, .null, []), (7, .aload_n 0, 1, 0, 0, .null, []), (8, .getfield 196, 3, 12, 10, .int 0, []), (11, .sipush 400, 3, 0, 0, .int 400, []), (14, .if_icmp .gt 280, 3, 294, 0, .null, []), (17, .aload_n 0, 1, 0, 0, .null, []), (18, .iload_n 1, 1, 0, 0, .null, []), (19, .invokevirtual 199, 3, 163, 2, .int 0, []), (22, .istore_n 2, 1, 0, 0, .null, []), (23, .iload_n 1, 1, 0, 0, .null, []), (24, .aload_n 0, 1, 0, 0, .null, []), (25, .getfield 187, 3, 12, 4, .int 0, []), (28, .if_icmp .lt 15, 3, 43, 0, .null, []), (31, .aload_n 0, 1, 0, 0, .null, []), (32, .iconst 0, 1, 0, 0, .int 0, []), (33, .aload_n 0, 1, 0, 0, .null, []), (34, .getfield 187, 3, 12, 4, .int 0, []), (37, .iconst 0, 1, 0, 0, .int 0, []), (38, .lconst 0, 1, 0, 0, .long 0, []), (39, .invokevirtual 203, 3, 168, 5, .retAddr 0, []), (42, .return_, 1, 0, 0, .null, []), (43, .iload_n 2, 1, 0, 0, .null, []), (44, .bipush 9, 2, 0, 0, .int 9, []), (46, .if_icmp .eq 21, 3, 67, 0, .null, []), (49, .iload_n 2, 1, 0, 0, .null, []), (50, .bipush 10, 2, 0, 0, .int 10, []), (52, .if_icmp .eq 15, 3, 67, 0, .null, []), (55, .iload_n 2, 1, 0, 0, .null, []), (56, .bipush 13, 2, 0, 0, .int 13, []), (58, .if_icmp .eq 9, 3, 67, 0, .null, []), (61, .iload_n 2, 1, 0, 0, .null, []), (62, .bipush 32, 2, 0, 0, .int 32, []), (64, .if_icmp .ne 9, 3, 73, 0, .null, []), (67, .iinc 1 1, 3, 0, 0, .int 1, []), (70, .goto 221, 3, 291, 0, .null, []), (73, .iload_n 2, 1, 0, 0, .null, []), (74, .invokestatic 207, 3, 165, 1, .int 0, []), (77, .ifCond .eq 119, 3, 196, 0, .null, []), (80, .iconst 0, 1, 0, 0, .int 0, []), (81, .istore_n 3, 1, 0, 0, .null, []), (82, .lconst 0, 1, 0, 0, .long 0, []), (83, .lstore 4, 2, 0, 0, .null, []), (85, .aload_n 0, 1, 0, 0, .null, []), (86, .iload_n 1, 1, 0, 0, .null, []), (87, .iload_n 3, 1, 0, 0, .null, []), (88, .iadd, 1, 0, 0, .null, []), (89, .invokevirtual 199, 3, 163, 2, .int 0, []), (92, .invokestatic 207, 3, 165, 1, .int 0, []), (95, .ifCond .eq 29, 3, 124, 0, .null, []), (98, .iload_n 3, 1, 0, 0, .null, []), (99, .bipush 8, 2, 0, 0, .int 8, []), (101, .if_icmp .ge 17, 3, 118, 0, .null, []), (104, .lload 4, 2, 0, 0, .null, []), (106, .aload_n 0, 1, 0, 0, .null, []), (107, .iload_n 1, 1, 0, 0, .null, []), (108, .iload_n 3, 1, 0, 0, .null, []), (109, .iadd, 1, 0, 0, .null, []), (110, .invokevirtual 199, 3, 163, 2, .int 0, []), (113, .invokestatic 192, 3, 166, 2, .long 0, []), (116, .lstore 4, 2, 0, 0, .null, []), (118, .iinc 3 1, 3, 0, 0, .int 1, []), (121, .goto (-36), 3, 85, 0, .null, []), (124, .iload_n 3, 1, 0, 0, .null, []), (125, .bipush 8, 2, 0, 0, .int 8, []), (127, .if_icmp .le 7, 3, 134, 0, .null, []), (130, .iconst 3, 1, 0, 0, .int 3, []), (131, .goto 4, 3, 135, 0, .null, []), (134, .iconst 1, 1, 0, 0, .int 1, []), (135, .istore 6, 2, 0, 0, .null, []), (137, .iload_n 3, 1, 0, 0, .null, []), (138, .bipush 7, 2, 0, 0, .int 7, []), (140, .if_icmp .gt 39, 3, 179, 0, .null, []), (143, .iconst 0, 1, 0, 0, .int 0, []), (144, .istore 7, 2, 0, 0, .null, []), (146, .iload 7, 2, 0, 0, .null, []), (148, .bipush 23, 2, 0, 0, .int 23, []), (150, .if_icmp .ge 29, 3, 179, 0, .null, []), (153, .aload_n 0, 1, 0, 0, .null, []), (154, .getfield 34, 3, 12, 9, .null, []), (157, .iload 7, 2, 0, 0, .null, []), (159, .laload, 1, 0, 0, .null, []), (160, .lload 4, 2, 0, 0, .null, []), (162, .lcmp, 1, 0, 0, .null, []), (163, .ifCond .ne 10, 3, 173, 0, .null, []), (166, .bipush 20, 2, 0, 0, .int 20, []), (168, .iload 7, 2, 0, 0, .null, []), (170, .iadd, 1, 0, 0, .null, []), (171, .istore 6, 2, 0, 0, .null, []), (173, .iinc 7 1, 3, 0, 0, .int 1, []), (176, .goto (-30), 3, 146, 0, .null, []), (179, .aload_n 0, 1, 0, 0, .null, []), (180, .iload 6, 2, 0, 0, .null, []), (182, .iload_n 1, 1, 0, 0, .null, []), (183, .iconst 0, 1, 0, 0, .int 0, []), (184, .lload 4, 2, 0, 0, .null, []), (186, .invokevirtual 203, 3, 168, 5, .retAddr 0, []), (189, .iload_n 1, 1, 0, 0, .null, []), (190, .iload_n 3, 1, 0, 0, .null, []), (191, .iadd, 1, 0, 0, .null, []), (192, .istore_n 1, 1, 0, 0, .null, []), (193, .goto 98, 3, 291, 0, .null, []), (196, .iload_n 2, 1, 0, 0, .null, []), (197, .invokestatic 211, 3, 164, 1, .int 0, []), (200, .ifCond .eq 75, 3, 275, 0, .null, []), (203, .iconst 0, 1, 0, 0, .int 0, []), (204, .istore_n 3, 1, 0, 0, .null, []), (205, .iconst 0, 1, 0, 0, .int 0, []), (206, .istore 4, 2, 0, 0, .null, []), (208, .aload_n 0, 1, 0, 0, .null, []), (209, .iload_n 1, 1, 0, 0, .null, []), (210, .iload_n 3, 1, 0, 0, .null, []), (211, .iadd, 1, 0, 0, .null, []), (212, .invokevirtual 199, 3, 163, 2, .int 0, []), (215, .invokestatic 211, 3, 164, 1, .int 0, []), (218, .ifCond .eq 32, 3, 250, 0, .null, []), (221, .iload_n 3, 1, 0, 0, .null, []), (222, .iconst 4, 1, 0, 0, .int 4, []), (223, .if_icmp .ge 21, 3, 244, 0, .null, []), (226, .bipush 10, 2, 0, 0, .int 10, []), (228, .iload 4, 2, 0, 0, .null, []), (230, .imul, 1, 0, 0, .null, []), (231, .aload_n 0, 1, 0, 0, .null, []), (232, .iload_n 1, 1, 0, 0, .null, []), (233, .iload_n 3, 1, 0, 0, .null, []), (234, .iadd, 1, 0, 0, .null, []), (235, .invokevirtual 199, 3, 163, 2, .int 0, []), (238, .iadd, 1, 0, 0, .null, []), (239, .bipush 48, 2, 0, 0, .int 48, []), (241, .isub, 1, 0, 0, .null, []), (242, .istore 4, 2, 0, 0, .null, []), (244, .iinc 3 1, 3, 0, 0, .int 1, []), (247, .goto (-39), 3, 208, 0, .null, []), (250, .aload_n 0, 1, 0, 0, .null, []), (251, .iload_n 3, 1, 0, 0, .null, []), (252, .iconst 4, 1, 0, 0, .int 4, []), (253, .if_icmp .le 7, 3, 260, 0, .null, []), (256, .iconst 3, 1, 0, 0, .int 3, []), (257, .goto 4, 3, 261, 0, .null, []), (260, .iconst 2, 1, 0, 0, .int 2, []), (261, .iload_n 1, 1, 0, 0, .null, []), (262, .iload 4, 2, 0, 0, .null, []), (264, .lconst 0, 1, 0, 0, .long 0, []), (265, .invokevirtual 203, 3, 168, 5, .retAddr 0, []), (268, .iload_n 1, 1, 0, 0, .null, []), (269, .iload_n 3, 1, 0, 0, .null, []), (270, .iadd, 1, 0, 0, .null, []), (271, .istore_n 1, 1, 0, 0, .null, []), (272, .goto 19, 3, 291, 0, .null, []), (275, .iload_n 1, 1, 0, 0, .null, []), (276, .aload_n 0, 1, 0, 0, .null, []), (277, .iload_n 1, 1, 0, 0, .null, []), (278, .iload_n 2, 1, 0, 0, .null, []), (279, .aload_n 0, 1, 0, 0, .null, []), (280, .iload_n 1, 1, 0, 0, .null, []), (281, .iconst 1, 1, 0, 0, .int 1, []), (282, .iadd, 1, 0, 0, .null, []), (283, .invokevirtual 199, 3, 163, 2, .int 0, []), (286, .invokevirtual 214, 3, 170, 4, .int 0, []), (289, .iadd, 1, 0, 0, .null, []), (290, .istore_n 1, 1, 0, 0, .null, []), (291, .goto (-284), 3, 7, 0, .null, []), (294, .return_, 1, 0, 0, .null, [])]
def cd_M_sign : List (Nat × pE) := [(0, .iload_n 2, 1, 0, 0, .null, []), (1, .bipush 59, 2, 0, 0, .int 59, []), (3, .if_icmp .ne 7, 3, 10, 0, .null, []), (6, .iconst 4, 1, 0, 0, .int 4, []), (7, .goto 36, 3, 43, 0, .null, []), (10, .iload_n 2, 1, 0, 0, .null, []), (11, .bipush 61, 2, 0, 0, .int 61, []), (13, .if_icmp .ne 7, 3, 20, 0, .null, []), (16, .iconst 5, 1, 0, 0, .int 5, []), (17, .goto 26, 3, 43, 0, .null, []), (20, .iload_n 2, 1, 0, 0, .null, []), (21, .bipush 40, 2, 0, 0, .int 40, []), (23, .if_icmp .ne 8, 3, 31, 0, .null, []), (26, .bipush 6, 2, 0, 0, .int 6, []), (28, .goto 15, 3, 43, 0, .null, []), (31, .iload_n 2, 1, 0, 0, .null, []), (32, .bipush 41, 2, 0, 0, .int 41, []), (34, .if_icmp .ne 8, 3, 42, 0, .null, []), (37, .bipush 7, 2, 0, 0, .int 7, []), (39, .goto 4, 3, 43, 0, .null, []), (42, .iconst 3, 1, 0, 0, .int 3, []), (43, .istore 4, 2, 0, 0, .null, []), (45, .iload_n 2, 1, 0, 0, .null, []), (46, .bipush 43, 2, 0, 0, .int 43, []), (48, .if_icmp .ne 7, 3, 55, 0, .null, []), (51, .bipush 8, 2, 0, 0, .int 8, []), (53, .istore 4, 2, 0, 0, .null, []), (55, .iload_n 2, 1, 0, 0, .null, []), (56, .bipush 45, 2, 0, 0, .int 45, []), (58, .if_icmp .ne 7, 3, 65, 0, .null, []), (61, .bipush 9, 2, 0, 0, .int 9, []), (63, .istore 4, 2, 0, 0, .null, []), (65, .iload_n 2, 1, 0, 0, .null, []), (66, .bipush 42, 2, 0, 0, .int 42, []), (68, .if_icmp .ne 7, 3, 75, 0, .null, []), (71, .bipush 10, 2, 0, 0, .int 10, []), (73, .istore 4, 2, 0, 0, .null, []), (75, .iload_n 2, 1, 0, 0, .null, []), (76, .bipush 47, 2, 0, 0, .int 47, []), (78, .if_icmp .ne 7, 3, 85, 0, .null, []), (81, .bipush 15, 2, 0, 0, .int 15, []), (83, .istore 4, 2, 0, 0, .null, []), (85, .iload_n 2, 1, 0, 0, .null, []), (86, .bipush 60, 2, 0, 0, .int 60, []), (88, .if_icmp .ne 7, 3, 95, 0, .null, []), (91, .bipush 13, 2, 0, 0, .int 13, []), (93, .istore 4, 2, 0, 0, .null, []), (95, .aload_n 0, 1, 0, 0, .null, []), (96, .iload 4, 2, 0, 0, .null, []), (98, .iload_n 1, 1, 0, 0, .null, []), (99, .iconst 0, 1, 0, 0, .int 0, []), (100, .lconst 0, 1, 0, 0, .long 0, []), (101, .invokevirtual 203, 3, 168, 5, .retAddr 0, []), (104, .iconst 1, 1, 0, 0, .int 1, []), (105, .ireturn, 1, 0, 0, .null, [])]
def cd_M_is : List (Nat × pE) := [(0, .aload_n 0, 1, 0, 0, .null, []), (1, .getfield 218, 3, 12, 13, .int 0, []), (4, .ifCond .ne 20, 3, 24, 0, .null, []), (7, .aload_n 0, 1, 0, 0, .null, []), (8, .getfield 20, 3, 12, 5, .null, []), (11, .aload_n 0, 1, 0, 0, .null, []), (12, .getfield 221, 3, 12, 11, .int 0, []), (15, .iaload, 1, 0, 0, .null, []), (16, .iload_n 1, 1, 0, 0, .null, []), (17, .if_icmp .ne 7, 3, 24, 0, .null, []), (20, .iconst 1, 1, 0, 0, .int 1, []), (21, .goto 4, 3, 25, 0, .null, []), (24, .iconst 0, 1, 0, 0, .int 0, []), (25, .ireturn, 1, 1, 0, .null, [])]
def cd_M_fail : List (Nat × pE) := [(0, .aload_n 0, 1, 0, 0, .null, []), (1, .getfield 218, 3, 12, 13, .int 0, []), (4, .ifCond .le 4, 3, 8, 0, .null, []), (7, .return_, 1, 0, 0, .null, []), (8, .aload_n 0, 1, 0, 0, .null, []), (9, .iload_n 1, 1, 0, 0, .null, []), (10, .putfield 218, 3, 12, 13, .int 0, []), (13, .aload_n 0, 1, 0, 0, .null, []), (14, .aload_n 0, 1, 0, 0, .null, []), (15, .getfield 24, 3, 12, 6, .null, []), (18, .aload_n 0, 1, 0, 0, .null, []), (19, .getfield 221, 3, 12, 11, .int 0, []), (22, .iaload, 1, 0, 0, .null, []), (23, .putfield 224, 3, 12, 14, .int 0, []), (26, .return_, 1, 0, 0, .null, [])]
def cd_M_wrong : List (Nat × pE) := [(0, .aload_n 0, 1, 0, 0, .null, []), (1, .getfield 24, 3, 12, 6, .null, []), (4, .iload_n 2, 1, 0, 0, .null, []), (5, .iaload, 1, 0, 0, .null, []), (6, .istore_n 3, 1, 0, 0, .null, []), (7, .aload_n 0, 1, 0, 0, .null, []), (8, .getfield 218, 3, 12, 13, .int 0, []), (11, .ifCond .gt 34, 3, 45, 0, .null, []), (14, .aload_n 0, 1, 0, 0, .null, []), (15, .getfield 227, 3, 12, 15, .int 0, []), (18, .ifCond .eq 28, 3, 46, 0, .null, []), (21, .iload_n 3, 1, 0, 0, .null, []), (22, .aload_n 0, 1, 0, 0, .null, []), (23, .getfield 230, 3, 12, 16, .int 0, []), (26, .if_icmp .gt 19, 3, 45, 0, .null, []), (29, .iload_n 3, 1, 0, 0, .null, []), (30, .aload_n 0, 1, 0, 0, .null, []), (31, .getfield 230, 3, 12, 16, .int 0, []), (34, .if_icmp .ne 12, 3, 46, 0, .null, []), (37, .iload_n 1, 1, 0, 0, .null, []), (38, .aload_n 0, 1, 0, 0, .null, []), (39, .getfield 227, 3, 12, 15, .int 0, []), (42, .if_icmp .lt 4, 3, 46, 0, .null, []), (45, .return_, 1, 0, 0, .null, []), (46, .aload_n 0, 1, 0, 0, .null, []), (47, .iload_n 1, 1, 0, 0, .null, []), (48, .putfield 227, 3, 12, 15, .int 0, []), (51, .aload_n 0, 1, 0, 0, .null, []), (52, .iload_n 3, 1, 0, 0, .null, []), (53, .putfield 230, 3, 12, 16, .int 0, []), (56, .return_, 1, 0, 0, .null, [])]
def cd_M_goesOn : List (Nat × pE) := [(0, .aload_n 0, 1, 0, 0, .null, []), (1, .getfield 221, 3, 12, 11, .int 0, []), (4, .sipush 400, 3, 0, 0, .int 400, []), (7, .if_icmp .ne 11, 3, 18, 0, .null, []), (10, .aload_n 0, 1, 0, 0, .null, []), (11, .iconst 2, 1, 0, 0, .int 2, []), (12, .invokevirtual 233, 3, 172, 2, .retAddr 0, []), (15, .goto 13, 3, 28, 0, .null, []), (18, .aload_n 0, 1, 0, 0, .null, []), (19, .dup, 1, 0, 0, .null, []), (20, .getfield 221, 3, 12, 11, .int 0, []), (23, .iconst 1, 1, 0, 0, .int 1, []), (24, .iadd, 1, 0, 0, .null, []), (25, .putfield 221, 3, 12, 11, .int 0, []), (28, .return_, 1, 0, 0, .null, [])]
def cd_M_must : List (Nat × pE) := [(0, .aload_n 0, 1, 0, 0, .null, []), (1, .iload_n 1, 1, 0, 0, .null, []), (2, .invokevirtual 236, 3, 171, 2, .int 0, []), (5, .ifCond .eq 10, 3, 15, 0, .null, []), (8, .aload_n 0, 1, 0, 0, .null, []), (9, .invokevirtual 239, 3, 174, 1, .retAddr 0, []), (12, .goto 8, 3, 20, 0, .null, []), (15, .aload_n 0, 1, 0, 0, .null, []), (16, .iconst 1, 1, 0, 0, .int 1, []), (17, .invokevirtual 233, 3, 172, 2, .retAddr 0, []), (20, .return_, 1, 0, 0, .null, [])]
def cd_M_plain : List (Nat × pE) := [(0, .aload_n 0, 1, 0, 0, .null, []), (1, .getfield 49, 3, 12, 24, .null, []), (4, .iload_n 1, 1, 0, 0, .null, []), (5, .iconst 0, 1, 0, 0, .int 0, []), (6, .iastore, 1, 0, 0, .null, []), (7, .aload_n 0, 1, 0, 0, .null, []), (8, .getfield 55, 3, 12, 26, .null, []), (11, .iload_n 1, 1, 0, 0, .null, []), (12, .iconst 0, 1, 0, 0, .int 0, []), (13, .iastore, 1, 0, 0, .null, []), (14, .aload_n 0, 1, 0, 0, .null, []), (15, .getfield 70, 3, 12, 31, .null, []), (18, .iload_n 1, 1, 0, 0, .null, []), (19, .iconst 0, 1, 0, 0, .int 0, []), (20, .iastore, 1, 0, 0, .null, []), (21, .aload_n 0, 1, 0, 0, .null, []), (22, .getfield 85, 3, 12, 36, .null, []), (25, .iload_n 1, 1, 0, 0, .null, []), (26, .iconst 0, 1, 0, 0, .int 0, []), (27, .iastore, 1, 0, 0, .null, []), (28, .aload_n 0, 1, 0, 0, .null, []), (29, .getfield 88, 3, 12, 37, .null, []), (32, .iload_n 1, 1, 0, 0, .null, []), (33, .iconst 0, 1, 0, 0, .int 0, []), (34, .iastore, 1, 0, 0, .null, []), (35, .aload_n 0, 1, 0, 0, .null, []), (36, .getfield 94, 3, 12, 39, .null, []), (39, .iload_n 1, 1, 0, 0, .null, []), (40, .iconst 2, 1, 0, 0, .int 2, []), (41, .iastore, 1, 0, 0, .null, []), (42, .aload_n 0, 1, 0, 0, .null, []), (43, .getfield 97, 3, 12, 40, .null, []), (46, .iload_n 1, 1, 0, 0, .null, []), (47, .iconst 0, 1, 0, 0, .int 0, []), (48, .iastore, 1, 0, 0, .null, []), (49, .iconst 0, 1, 0, 0, .int 0, []), (50, .istore_n 2, 1, 0, 0, .null, []), (51, .iload_n 2, 1, 0, 0, .null, []), (52, .bipush 35, 2, 0, 0, .int 35, []), (54, .if_icmp .ge 21, 3, 75, 0, .null, []), (57, .aload_n 0, 1, 0, 0, .null, []), (58, .getfield 67, 3, 12, 30, .null, []), (61, .bipush 35, 2, 0, 0, .int 35, []), (63, .iload_n 1, 1, 0, 0, .null, []), (64, .imul, 1, 0, 0, .null, []), (65, .iload_n 2, 1, 0, 0, .null, []), (66, .iadd, 1, 0, 0, .null, []), (67, .iconst 1, 1, 0, 0, .int 1, []), (68, .iastore, 1, 0, 0, .null, []), (69, .iinc 2 1, 3, 0, 0, .int 1, []), (72, .goto (-21), 3, 51, 0, .null, []), (75, .iconst 0, 1, 0, 0, .int 0, []), (76, .istore_n 2, 1, 0, 0, .null, []), (77, .iload_n 2, 1, 0, 0, .null, []), (78, .bipush 6, 2, 0, 0, .int 6, []), (80, .if_icmp .ge 21, 3, 101, 0, .null, []), (83, .aload_n 0, 1, 0, 0, .null, []), (84, .getfield 82, 3, 12, 35, .null, []), (87, .bipush 6, 2, 0, 0, .int 6, []), (89, .iload_n 1, 1, 0, 0, .null, []), (90, .imul, 1, 0, 0, .null, []), (91, .iload_n 2, 1, 0, 0, .null, []), (92, .iadd, 1, 0, 0, .null, []), (93, .iconst (-1), 1, 0, 0, .int (-1), []), (94, .iastore, 1, 0, 0, .null, []), (95, .iinc 2 1, 3, 0, 0, .int 1, []), (98, .goto (-21), 3, 77, 0, .null, []), (101, .iconst 0, 1, 0, 0, .int 0, []), (102, .istore_n 2, 1, 0, 0, .null, []), (103, .iload_n 2, 1, 0, 0, .null, []), (104, .iconst 3, 1, 0, 0, .int 3, []), (105, .if_icmp .ge 31, 3, 136, 0, .null, []), (108, .aload_n 0, 1, 0, 0, .null, []), (109, .getfield 100, 3, 12, 41, .null, []), (112, .iconst 3, 1, 0, 0, .int 3, []), (113, .iload_n 1, 1, 0, 0, .null, []), (114, .imul, 1, 0, 0, .null, []), (115, .iload_n 2, 1, 0, 0, .null, []), (116, .iadd, 1, 0, 0, .null, []), (117, .iconst 0, 1, 0, 0, .int 0, []), (118, .iastore, 1, 0, 0, .null, []), (119, .aload_n 0, 1, 0, 0, .null, []), (120, .getfield 103, 3, 12, 42, .null, []), (123, .iconst 3, 1, 0, 0, .int 3, []), (124, .iload_n 1, 1, 0, 0, .null, []), (125, .imul, 1, 0, 0, .null, []), (126, .iload_n 2, 1, 0, 0, .null, []), (127, .iadd, 1, 0, 0, .null, []), (128, .iconst 0, 1, 0, 0, .int 0, []), (129, .iastore, 1, 0, 0, .null, []), (130, .iinc 2 1, 3, 0, 0, .int 1, []), (133, .goto (-30), 3, 103, 0, .null, []), (136, .return_, 1, 0, 0, .null, [])]
def cd_M_read : List (Nat × pE) := [(0, .aload_n 0, 1, 0, 0, .null, []), (1, .aload_n 0, 1, 0, 0, .null, []), (2, .getfield 181, 3, 12, 2, .int 0, []), (5, .putfield 187, 3, 12, 4, .int 0, []), (8, .iconst 0, 1, 0, 0, .int 0, []), (9, .istore_n 1, 1, 0, 0, .null, []), (10, .iload_n 1, 1, 0, 0, .null, []), (11, .aload_n 0, 1, 0, 0, .null, []), (12, .getfield 187, 3, 12, 4, .int 0, []), (15, .if_icmp .ge 21, 3, 36, 0, .null, []), (18, .aload_n 0, 1, 0, 0, .null, []), (19, .getfield 17, 3, 12, 3, .null, []), (22, .iload_n 1, 1, 0, 0, .null, []), (23, .aload_n 0, 1, 0, 0, .null, []), (24, .getfield 13, 3, 12, 1, .null, []), (27, .iload_n 1, 1, 0, 0, .null, []), (28, .baload, 1, 101, 0, .null, []), (29, .bastore, 1, 101, 0, .null, []), (30, .iinc 1 1, 3, 0, 0, .int 1, []), (33, .goto (-23), 3, 10, 0, .null, []), (36, .aload_n 0, 1, 0, 0, .null, []), (37, .iconst 0, 1, 0, 0, .int 0, []), (38, .putfield 181, 3, 12, 2, .int 0, []), (41, .aload_n 0, 1, 0, 0, .null, []), (42, .invokevirtual 242, 3, 169, 1, .retAddr 0, []), (45, .aload_n 0, 1, 0, 0, .null, []), (46, .iconst 0, 1, 0, 0, .int 0, []), (47, .putfield 221, 3, 12, 11, .int 0, []), (50, .aload_n 0, 1, 0, 0, .null, []), (51, .iconst 0, 1, 0, 0, .int 0, []), (52, .putfield 245, 3, 12, 12, .int 0, []), (55, .aload_n 0, 1, 0, 0, .null, []), (56, .iconst 0, 1, 0, 0, .int 0, []), (57, .putfield 218, 3, 12, 13, .int 0, []), (60, .aload_n 0, 1, 0, 0, .null, []), (61, .iconst 0, 1, 0, 0, .int 0, []), (62, .putfield 227, 3, 12, 15, .int 0, []), (65, .aload_n 0, 1, 0, 0, .null, []), (66, .iconst 1, 1, 0, 0, .int 1, []), (67, .aload_n 0, 1, 0, 0, .null, []), (68, .getfield 248, 3, 12, 18, .int 0, []), (71, .isub, 1, 0, 0, .null, []), (72, .putfield 251, 3, 12, 19, .int 0, []), (75, .aload_n 0, 1, 0, 0, .null, []), (76, .iconst 0, 1, 0, 0, .int 0, []), (77, .putfield 254, 3, 12, 20, .int 0, []), (80, .aload_n 0, 1, 0, 0, .null, []), (81, .aload_n 0, 1, 0, 0, .null, []), (82, .getfield 251, 3, 12, 19, .int 0, []), (85, .invokevirtual 167, 3, 176, 2, .retAddr 0, []), (88, .aload_n 0, 1, 0, 0, .null, []), (89, .sipush 130, 3, 0, 0, .int 130, []), (92, .aload_n 0, 1, 0, 0, .null, []), (93, .getfield 251, 3, 12, 19, .int 0, []), (96, .imul, 1, 0, 0, .null, []), (97, .putfield 257, 3, 12, 43, .int 0, []), (100, .aload_n 0, 1, 0, 0, .null, []), (101, .sipush 420, 3, 0, 0, .int 420, []), (104, .aload_n 0, 1, 0, 0, .null, []), (105, .getfield 251, 3, 12, 19, .int 0, []), (108, .imul, 1, 0, 0, .null, []), (109, .putfield 260, 3, 12, 49, .int 0, []), (112, .aload_n 0, 1, 0, 0, .null, []), (113, .getfield 218, 3, 12, 13, .int 0, []), (116, .ifCond .ne 18, 3, 134, 0, .null, []), (119, .aload_n 0, 1, 0, 0, .null, []), (120, .iconst 0, 1, 0, 0, .int 0, []), (121, .invokevirtual 236, 3, 171, 2, .int 0, []), (124, .ifCond .ne 10, 3, 134, 0, .null, []), (127, .aload_n 0, 1, 0, 0, .null, []), (128, .invokevirtual 263, 3, 180, 1, .retAddr 0, []), (131, .goto (-19), 3, 112, 0, .null, []), (134, .aload_n 0, 1, 0, 0, .null, []), (135, .aload_n 0, 1, 0, 0, .null, []), (136, .getfield 218, 3, 12, 13, .int 0, []), (139, .ifCond .le 10, 3, 149, 0, .null, []), (142, .aload_n 0, 1, 0, 0, .null, []), (143, .getfield 224, 3, 12, 14, .int 0, []), (146, .goto 18, 3, 164, 0, .null, []), (149, .aload_n 0, 1, 0, 0, .null, []), (150, .getfield 227, 3, 12, 15, .int 0, []), (153, .ifCond .le 10, 3, 163, 0, .null, []), (156, .aload_n 0, 1, 0, 0, .null, []), (157, .getfield 230, 3, 12, 16, .int 0, []), (160, .goto 4, 3, 164, 0, .null, []), (163, .iconst (-1), 1, 0, 0, .int (-1), []), (164, .putfield 37, 3, 12, 17, .int 0, []), (167, .aload_n 0, 1, 0, 0, .null, []), (168, .getfield 218, 3, 12, 13, .int 0, []), (171, .ifCond .le 8, 3, 179, 0, .null, []), (174, .aload_n 0, 1, 0, 0, .null, []), (175, .getfield 218, 3, 12, 13, .int 0, []), (178, .ireturn, 1, 0, 0, .null, []), (179, .aload_n 0, 1, 0, 0, .null, []), (180, .getfield 227, 3, 12, 15, .int 0, []), (183, .ifCond .le 8, 3, 191, 0, .null, []), (186, .aload_n 0, 1, 0, 0, .null, []), (187, .getfield 227, 3, 12, 15, .int 0, []), (190, .ireturn, 1, 0, 0, .null, []), (191, .aload_n 0, 1, 0, 0, .null, []), (192, .aload_n 0, 1, 0, 0, .null, []), (193, .getfield 251, 3, 12, 19, .int 0, []), (196, .putfield 248, 3, 12, 18, .int 0, []), (199, .aload_n 0, 1, 0, 0, .null, []), (200, .invokevirtual 175, 3, 202, 1, .retAddr 0, []), (203, .aload_n 0, 1, 0, 0, .null, []), (204, .invokevirtual 178, 3, 203, 1, .retAddr 0, []), (207, .aload_n 0, 1, 0, 0, .null, []), (208, .iconst 0, 1, 0, 0, .int 0, []), (209, .putfield 266, 3, 12, 61, .int 0, []), (212, .aload_n 0, 1, 0, 0, .null, []), (213, .iconst 0, 1, 0, 0, .int 0, []), (214, .putfield 269, 3, 12, 71, .int 0, []), (217, .iconst 0, 1, 0, 0, .int 0, []), (218, .istore_n 1, 1, 0, 0, .null, []), (219, .iload_n 1, 1, 0, 0, .null, []), (220, .iconst 3, 1, 0, 0, .int 3, []), (221, .if_icmp .ge 16, 3, 237, 0, .null, []), (224, .aload_n 0, 1, 0, 0, .null, []), (225, .getfield 161, 3, 12, 73, .null, []), (228, .iload_n 1, 1, 0, 0, .null, []), (229, .iconst 0, 1, 0, 0, .int 0, []), (230, .bastore, 1, 102, 0, .null, []), (231, .iinc 1 1, 3, 0, 0, .int 1, []), (234, .goto (-15), 3, 219, 0, .null, []), (237, .iconst 0, 1, 0, 0, .int 0, []), (238, .ireturn, 1, 0, 0, .null, [])]
def cd_M_place : List (Nat × pE) := [(0, .aload_n 0, 1, 0, 0, .null, []), (1, .getfield 37, 3, 12, 17, .int 0, []), (4, .ireturn, 1, 0, 0, .null, [])]
def cd_M_roomFor : List (Nat × pE) := [(0, .iload_n 1, 1, 0, 0, .null, []), (1, .iload_n 2, 1, 0, 0, .null, []), (2, .if_icmp .ne 8, 3, 10, 0, .null, []), (5, .aload_n 0, 1, 0, 0, .null, []), (6, .iconst 2, 1, 0, 0, .int 2, []), (7, .invokevirtual 233, 3, 172, 2, .retAddr 0, []), (10, .aload_n 0, 1, 0, 0, .null, []), (11, .getfield 218, 3, 12, 13, .int 0, []), (14, .ifCond .ne 7, 3, 21, 0, .null, []), (17, .aload_n 0, 1, 0, 0, .null, []), (18, .invokevirtual 239, 3, 174, 1, .retAddr 0, []), (21, .return_, 1, 0, 0, .null, [])]
def cd_M_tellOne : List (Nat × pE) := [(0, .aload_n 0, 1, 0, 0, .null, []), (1, .getfield 20, 3, 12, 5, .null, []), (4, .aload_n 0, 1, 0, 0, .null, []), (5, .getfield 221, 3, 12, 11, .int 0, []), (8, .iaload, 1, 0, 0, .null, []), (9, .tableswitch 325 20 30 #[59, 88, 116, 182, 211, 239, 325, 325, 325, 268, 296], 59, 334, 0, .null, [(20, 68), (21, 97), (22, 125), (23, 191), (24, 220), (25, 248), (26, 334), (27, 334), (28, 334), (29, 277), (30, 305)]), (68, .aload_n 0, 1, 0, 0, .null, []), (69, .aload_n 0, 1, 0, 0, .null, []), (70, .getfield 49, 3, 12, 24, .null, []), (73, .aload_n 0, 1, 0, 0, .null, []), (74, .getfield 251, 3, 12, 19, .int 0, []), (77, .iaload, 1, 0, 0, .null, []), (78, .bipush 7, 2, 0, 0, .int 7, []), (80, .invokevirtual 272, 3, 179, 3, .retAddr 0, []), (83, .aload_n 0, 1, 0, 0, .null, []), (84, .getfield 218, 3, 12, 13, .int 0, []), (87, .ifCond .ne 300, 3, 387, 0, .null, []), (90, .aload_n 0, 1, 0, 0, .null, []), (91, .invokevirtual 276, 3, 185, 1, .retAddr 0, []), (94, .goto 293, 3, 387, 0, .null, []), (97, .aload_n 0, 1, 0, 0, .null, []), (98, .aload_n 0, 1, 0, 0, .null, []), (99, .getfield 55, 3, 12, 26, .null, []), (102, .aload_n 0, 1, 0, 0, .null, []), (103, .getfield 251, 3, 12, 19, .int 0, []), (106, .iaload, 1, 0, 0, .null, []), (107, .iconst 5, 1, 0, 0, .int 5, []), (108, .invokevirtual 272, 3, 179, 3, .retAddr 0, []), (111, .aload_n 0, 1, 0, 0, .null, []), (112, .getfield 218, 3, 12, 13, .int 0, []), (115, .ifCond .ne 272, 3, 387, 0, .null, []), (118, .aload_n 0, 1, 0, 0, .null, []), (119, .invokevirtual 279, 3, 186, 1, .retAddr 0, []), (122, .goto 265, 3, 387, 0, .null, []), (125, .aload_n 0, 1, 0, 0, .null, []), (126, .invokevirtual 239, 3, 174, 1, .retAddr 0, []), (129, .aload_n 0, 1, 0, 0, .null, []), (130, .iconst 1, 1, 0, 0, .int 1, []), (131, .invokevirtual 282, 3, 183, 2, .int 0, []), (134, .istore_n 1, 1, 0, 0, .null, []), (135, .aload_n 0, 1, 0, 0, .null, []), (136, .iconst 0, 1, 0, 0, .int 0, []), (137, .invokevirtual 282, 3, 183, 2, .int 0, []), (140, .istore_n 2, 1, 0, 0, .null, []), (141, .aload_n 0, 1, 0, 0, .null, []), (142, .iconst 0, 1, 0, 0, .int 0, []), (143, .bipush 9, 2, 0, 0, .int 9, []), (145, .invokevirtual 285, 3, 184, 3, .int 0, []), (148, .istore_n 3, 1, 0, 0, .null, []), (149, .aload_n 0, 1, 0, 0, .null, []), (150, .iconst 4, 1, 0, 0, .int 4, []), (151, .invokevirtual 289, 3, 175, 2, .retAddr 0, []), (154, .aload_n 0, 1, 0, 0, .null, []), (155, .getfield 218, 3, 12, 13, .int 0, []), (158, .ifCond .ne 229, 3, 387, 0, .null, []), (161, .iload_n 1, 1, 0, 0, .null, []), (162, .ifCond .lt 225, 3, 387, 0, .null, []), (165, .iload_n 2, 1, 0, 0, .null, []), (166, .ifCond .lt 221, 3, 387, 0, .null, []), (169, .aload_n 0, 1, 0, 0, .null, []), (170, .getfield 67, 3, 12, 30, .null, []), (173, .bipush 7, 2, 0, 0, .int 7, []), (175, .iconst 5, 1, 0, 0, .int 5, []), (176, .aload_n 0, 1, 0, 0, .null, []), (177, .getfield 251, 3, 12, 19, .int 0, []), (180, .imul, 1, 0, 0, .null, []), (181, .iload_n 1, 1, 0, 0, .null, []), (182, .iadd, 1, 0, 0, .null, []), (183, .imul, 1, 0, 0, .null, []), (184, .iload_n 2, 1, 0, 0, .null, []), (185, .iadd, 1, 0, 0, .null, []), (186, .iload_n 3, 1, 0, 0, .null, []), (187, .iastore, 1, 0, 0, .null, []), (188, .goto 199, 3, 387, 0, .null, []), (191, .aload_n 0, 1, 0, 0, .null, []), (192, .aload_n 0, 1, 0, 0, .null, []), (193, .getfield 70, 3, 12, 31, .null, []), (196, .aload_n 0, 1, 0, 0, .null, []), (197, .getfield 251, 3, 12, 19, .int 0, []), (200, .iaload, 1, 0, 0, .null, []), (201, .bipush 6, 2, 0, 0, .int 6, []), (203, .invokevirtual 272, 3, 179, 3, .retAddr 0, []), (206, .aload_n 0, 1, 0, 0, .null, []), (207, .getfield 218, 3, 12, 13, .int 0, []), (210, .ifCond .ne 177, 3, 387, 0, .null, []), (213, .aload_n 0, 1, 0, 0, .null, []), (214, .invokevirtual 292, 3, 187, 1, .retAddr 0, []), (217, .goto 170, 3, 387, 0, .null, []), (220, .aload_n 0, 1, 0, 0, .null, []), (221, .aload_n 0, 1, 0, 0, .null, []), (222, .getfield 85, 3, 12, 36, .null, []), (225, .aload_n 0, 1, 0, 0, .null, []), (226, .getfield 251, 3, 12, 19, .int 0, []), (229, .iaload, 1, 0, 0, .null, []), (230, .iconst 3, 1, 0, 0, .int 3, []), (231, .invokevirtual 272, 3, 179, 3, .retAddr 0, []), (234, .aload_n 0, 1, 0, 0, .null, []), (235, .getfield 218, 3, 12, 13, .int 0, []), (238, .ifCond .ne 149, 3, 387, 0, .null, []), (241, .aload_n 0, 1, 0, 0, .null, []), (242, .invokevirtual 295, 3, 188, 1, .retAddr 0, []), (245, .goto 142, 3, 387, 0, .null, []), (248, .aload_n 0, 1, 0, 0, .null, []), (249, .aload_n 0, 1, 0, 0, .null, []), (250, .getfield 88, 3, 12, 37, .null, []), (253, .aload_n 0, 1, 0, 0, .null, []), (254, .getfield 251, 3, 12, 19, .int 0, []), (257, .iaload, 1, 0, 0, .null, []), (258, .bipush 6, 2, 0, 0, .int 6, []), (260, .invokevirtual 272, 3, 179, 3, .retAddr 0, []), (263, .aload_n 0, 1, 0, 0, .null, []), (264, .getfield 218, 3, 12, 13, .int 0, []), (267, .ifCond .ne 120, 3, 387, 0, .null, []), (270, .aload_n 0, 1, 0, 0, .null, []), (271, .invokevirtual 298, 3, 189, 1, .retAddr 0, []), (274, .goto 113, 3, 387, 0, .null, []), (277, .aload_n 0, 1, 0, 0, .null, []), (278, .invokevirtual 239, 3, 174, 1, .retAddr 0, []), (281, .aload_n 0, 1, 0, 0, .null, []), (282, .getfield 94, 3, 12, 39, .null, []), (285, .aload_n 0, 1, 0, 0, .null, []), (286, .getfield 251, 3, 12, 19, .int 0, []), (289, .aload_n 0, 1, 0, 0, .null, []), (290, .iconst 1, 1, 0, 0, .int 1, []), (291, .bipush 9, 2, 0, 0, .int 9, []), (293, .invokevirtual 285, 3, 184, 3, .int 0, []), (296, .iastore, 1, 0, 0, .null, []), (297, .aload_n 0, 1, 0, 0, .null, []), (298, .iconst 4, 1, 0, 0, .int 4, []), (299, .invokevirtual 289, 3, 175, 2, .retAddr 0, []), (302, .goto 85, 3, 387, 0, .null, []), (305, .aload_n 0, 1, 0, 0, .null, []), (306, .invokevirtual 239, 3, 174, 1, .retAddr 0, []), (309, .aload_n 0, 1, 0, 0, .null, []), (310, .getfield 97, 3, 12, 40, .null, []), (313, .aload_n 0, 1, 0, 0, .null, []), (314, .getfield 251, 3, 12, 19, .int 0, []), (317, .aload_n 0, 1, 0, 0, .null, []), (318, .iconst 0, 1, 0, 0, .int 0, []), (319, .sipush 9999, 3, 0, 0, .int 9999, []), (322, .invokevirtual 285, 3, 184, 3, .int 0, []), (325, .iastore, 1, 0, 0, .null, []), (326, .aload_n 0, 1, 0, 0, .null, []), (327, .iconst 4, 1, 0, 0, .int 4, []), (328, .invokevirtual 289, 3, 175, 2, .retAddr 0, []), (331, .goto 56, 3, 387, 0, .null, []), (334, .aload_n 0, 1, 0, 0, .null, []), (335, .getfield 20, 3, 12, 5, .null, []), (338, .aload_n 0, 1, 0, 0, .null, []), (339, .getfield 221, 3, 12, 11, .int 0, []), (342, .iaload, 1, 0, 0, .null, []), (343, .bipush 26, 2, 0, 0, .int 26, []), (345, .isub, 1, 0, 0, .null, []), (346, .istore_n 1, 1, 0, 0, .null, []), (347, .iload_n 1, 1, 0, 0, .null, []), (348, .ifCond .lt 17, 3, 365, 0, .null, []), (351, .aload_n 0, 1, 0, 0, .null, []), (352, .getfield 20, 3, 12, 5, .null, []), (355, .aload_n 0, 1, 0, 0, .null, []), (356, .getfield 221, 3, 12, 11, .int 0, []), (359, .iaload, 1, 0, 0, .null, []), (360, .bipush 28, 2, 0, 0, .int 28, []), (362, .if_icmp .le 8, 3, 370, 0, .null, []), (365, .aload_n 0, 1, 0, 0, .null, []), (366, .iconst 1, 1, 0, 0, .int 1, []), (367, .invokevirtual 233, 3, 172, 2, .retAddr 0, []), (370, .aload_n 0, 1, 0, 0, .null, []), (371, .getfield 218, 3, 12, 13, .int 0, []), (374, .ifCond .le 4, 3, 378, 0, .null, []), (377, .return_, 1, 0, 0, .null, []), (378, .aload_n 0, 1, 0, 0, .null, []), (379, .invokevirtual 239, 3, 174, 1, .retAddr 0, []), (382, .aload_n 0, 1, 0, 0, .null, []), (383, .iload_n 1, 1, 0, 0, .null, []), (384, .invokevirtual 301, 3, 190, 2, .retAddr 0, []), (387, .return_, 1, 0, 0, .null, [])]
def cd_M_named : List (Nat × pE) := [(0, .aload_n 0, 1, 0, 0, .null, []), (1, .getfield 221, 3, 12, 11, .int 0, []), (4, .istore_n 1, 1, 0, 0, .null, []), (5, .aload_n 0, 1, 0, 0, .null, []), (6, .iconst 1, 1, 0, 0, .int 1, []), (7, .invokevirtual 289, 3, 175, 2, .retAddr 0, []), (10, .iconst 0, 1, 0, 0, .int 0, []), (11, .istore_n 2, 1, 0, 0, .null, []), (12, .iload_n 2, 1, 0, 0, .null, []), (13, .aload_n 0, 1, 0, 0, .null, []), (14, .getfield 254, 3, 12, 20, .int 0, []), (17, .if_icmp .ge 38, 3, 55, 0, .null, []), (20, .aload_n 0, 1, 0, 0, .null, []), (21, .getfield 218, 3, 12, 13, .int 0, []), (24, .ifCond .ne 31, 3, 55, 0, .null, []), (27, .aload_n 0, 1, 0, 0, .null, []), (28, .getfield 40, 3, 12, 21, .null, []), (31, .iload_n 2, 1, 0, 0, .null, []), (32, .laload, 1, 0, 0, .null, []), (33, .aload_n 0, 1, 0, 0, .null, []), (34, .getfield 30, 3, 12, 8, .null, []), (37, .iload_n 1, 1, 0, 0, .null, []), (38, .laload, 1, 0, 0, .null, []), (39, .lcmp, 1, 0, 0, .null, []), (40, .ifCond .ne 9, 3, 49, 0, .null, []), (43, .aload_n 0, 1, 0, 0, .null, []), (44, .iconst 3, 1, 0, 0, .int 3, []), (45, .iload_n 1, 1, 0, 0, .null, []), (46, .invokevirtual 304, 3, 173, 3, .retAddr 0, []), (49, .iinc 2 1, 3, 0, 0, .int 1, []), (52, .goto (-40), 3, 12, 0, .null, []), (55, .iload_n 1, 1, 0, 0, .null, []), (56, .ireturn, 1, 0, 0, .null, [])]
def cd_M_notes : List (Nat × pE) := [(0, .aload_n 0, 1, 0, 0, .null, []), (1, .getfield 40, 3, 12, 21, .null, []), (4, .aload_n 0, 1, 0, 0, .null, []), (5, .getfield 254, 3, 12, 20, .int 0, []), (8, .aload_n 0, 1, 0, 0, .null, []), (9, .getfield 30, 3, 12, 8, .null, []), (12, .iload_n 1, 1, 0, 0, .null, []), (13, .laload, 1, 0, 0, .null, []), (14, .lastore, 1, 0, 0, .null, []), (15, .aload_n 0, 1, 0, 0, .null, []), (16, .getfield 43, 3, 12, 22, .null, []), (19, .aload_n 0, 1, 0, 0, .null, []), (20, .getfield 254, 3, 12, 20, .int 0, []), (23, .iload_n 2, 1, 0, 0, .null, []), (24, .iastore, 1, 0, 0, .null, []), (25, .aload_n 0, 1, 0, 0, .null, []), (26, .getfield 46, 3, 12, 23, .null, []), (29, .aload_n 0, 1, 0, 0, .null, []), (30, .getfield 254, 3, 12, 20, .int 0, []), (33, .iload_n 3, 1, 0, 0, .null, []), (34, .iastore, 1, 0, 0, .null, []), (35, .aload_n 0, 1, 0, 0, .null, []), (36, .dup, 1, 0, 0, .null, []), (37, .getfield 254, 3, 12, 20, .int 0, []), (40, .iconst 1, 1, 0, 0, .int 1, []), (41, .iadd, 1, 0, 0, .null, []), (42, .putfield 254, 3, 12, 20, .int 0, []), (45, .return_, 1, 0, 0, .null, [])]
def cd_M_known : List (Nat × pE) := [(0, .aload_n 0, 1, 0, 0, .null, []), (1, .getfield 221, 3, 12, 11, .int 0, []), (4, .istore_n 2, 1, 0, 0, .null, []), (5, .aload_n 0, 1, 0, 0, .null, []), (6, .iconst 1, 1, 0, 0, .int 1, []), (7, .invokevirtual 289, 3, 175, 2, .retAddr 0, []), (10, .aload_n 0, 1, 0, 0, .null, []), (11, .getfield 218, 3, 12, 13, .int 0, []), (14, .ifCond .le 5, 3, 19, 0, .null, []), (17, .iconst (-1), 1, 0, 0, .int (-1), []), (18, .ireturn, 1, 0, 0, .null, []), (19, .iconst 0, 1, 0, 0, .int 0, []), (20, .istore_n 3, 1, 0, 0, .null, []), (21, .iload_n 3, 1, 0, 0, .null, []), (22, .aload_n 0, 1, 0, 0, .null, []), (23, .getfield 254, 3, 12, 20, .int 0, []), (26, .if_icmp .ge 42, 3, 68, 0, .null, []), (29, .aload_n 0, 1, 0, 0, .null, []), (30, .getfield 40, 3, 12, 21, .null, []), (33, .iload_n 3, 1, 0, 0, .null, []), (34, .laload, 1, 0, 0, .null, []), (35, .aload_n 0, 1, 0, 0, .null, []), (36, .getfield 30, 3, 12, 8, .null, []), (39, .iload_n 2, 1, 0, 0, .null, []), (40, .laload, 1, 0, 0, .null, []), (41, .lcmp, 1, 0, 0, .null, []), (42, .ifCond .ne 20, 3, 62, 0, .null, []), (45, .aload_n 0, 1, 0, 0, .null, []), (46, .getfield 43, 3, 12, 22, .null, []), (49, .iload_n 3, 1, 0, 0, .null, []), (50, .iaload, 1, 0, 0, .null, []), (51, .iload_n 1, 1, 0, 0, .null, []), (52, .if_icmp .ne 10, 3, 62, 0, .null, []), (55, .aload_n 0, 1, 0, 0, .null, []), (56, .getfield 46, 3, 12, 23, .null, []), (59, .iload_n 3, 1, 0, 0, .null, []), (60, .iaload, 1, 0, 0, .null, []), (61, .ireturn, 1, 0, 0, .null, []), (62, .iinc 3 1, 3, 0, 0, .int 1, []), (65, .goto (-44), 3, 21, 0, .null, []), (68, .aload_n 0, 1, 0, 0, .null, []), (69, .iconst 4, 1, 0, 0, .int 4, []), (70, .iload_n 2, 1, 0, 0, .null, []), (71, .invokevirtual 304, 3, 173, 3, .retAddr 0, []), (74, .iconst (-1), 1, 0, 0, .int (-1), []), (75, .ireturn, 1, 0, 0, .null, [])]
def cd_M_bounded : List (Nat × pE) := [(0, .aload_n 0, 1, 0, 0, .null, []), (1, .getfield 218, 3, 12, 13, .int 0, []), (4, .ifCond .gt 11, 3, 15, 0, .null, []), (7, .aload_n 0, 1, 0, 0, .null, []), (8, .iconst 2, 1, 0, 0, .int 2, []), (9, .invokevirtual 236, 3, 171, 2, .int 0, []), (12, .ifCond .ne 10, 3, 22, 0, .null, []), (15, .aload_n 0, 1, 0, 0, .null, []), (16, .iconst 1, 1, 0, 0, .int 1, []), (17, .invokevirtual 233, 3, 172, 2, .retAddr 0, []), (20, .iload_n 1, 1, 0, 0, .null, []), (21, .ireturn, 1, 0, 0, .null, []), (22, .aload_n 0, 1, 0, 0, .null, []), (23, .getfield 27, 3, 12, 7, .null, []), (26, .aload_n 0, 1, 0, 0, .null, []), (27, .getfield 221, 3, 12, 11, .int 0, []), (30, .iaload, 1, 0, 0, .null, []), (31, .istore_n 3, 1, 0, 0, .null, []), (32, .iload_n 3, 1, 0, 0, .null, []), (33, .iload_n 1, 1, 0, 0, .null, []), (34, .if_icmp .lt 8, 3, 42, 0, .null, []), (37, .iload_n 3, 1, 0, 0, .null, []), (38, .iload_n 2, 1, 0, 0, .null, []), (39, .if_icmp .le 12, 3, 51, 0, .null, []), (42, .aload_n 0, 1, 0, 0, .null, []), (43, .iconst 5, 1, 0, 0, .int 5, []), (44, .aload_n 0, 1, 0, 0, .null, []), (45, .getfield 221, 3, 12, 11, .int 0, []), (48, .invokevirtual 304, 3, 173, 3, .retAddr 0, []), (51, .aload_n 0, 1, 0, 0, .null, []), (52, .invokevirtual 239, 3, 174, 1, .retAddr 0, []), (55, .iload_n 3, 1, 0, 0, .null, []), (56, .ireturn, 1, 0, 0, .null, [])]
def cd_M_tellThing : List (Nat × pE) := [(0, .aload_n 0, 1, 0, 0, .null, []), (1, .invokevirtual 307, 3, 181, 1, .int 0, []), (4, .istore_n 1, 1, 0, 0, .null, []), (5, .aload_n 0, 1, 0, 0, .null, []), (6, .getfield 52, 3, 12, 25, .null, []), (9, .bipush 7, 2, 0, 0, .int 7, []), (11, .aload_n 0, 1, 0, 0, .null, []), (12, .getfield 251, 3, 12, 19, .int 0, []), (15, .imul, 1, 0, 0, .null, []), (16, .aload_n 0, 1, 0, 0, .null, []), (17, .getfield 49, 3, 12, 24, .null, []), (20, .aload_n 0, 1, 0, 0, .null, []), (21, .getfield 251, 3, 12, 19, .int 0, []), (24, .iaload, 1, 0, 0, .null, []), (25, .iadd, 1, 0, 0, .null, []), (26, .aload_n 0, 1, 0, 0, .null, []), (27, .iconst 0, 1, 0, 0, .int 0, []), (28, .bipush 99, 2, 0, 0, .int 99, []), (30, .invokevirtual 285, 3, 184, 3, .int 0, []), (33, .iastore, 1, 0, 0, .null, []), (34, .aload_n 0, 1, 0, 0, .null, []), (35, .iconst 4, 1, 0, 0, .int 4, []), (36, .invokevirtual 289, 3, 175, 2, .retAddr 0, []), (39, .aload_n 0, 1, 0, 0, .null, []), (40, .getfield 218, 3, 12, 13, .int 0, []), (43, .ifCond .le 4, 3, 47, 0, .null, []), (46, .return_, 1, 0, 0, .null, []), (47, .aload_n 0, 1, 0, 0, .null, []), (48, .iload_n 1, 1, 0, 0, .null, []), (49, .iconst 0, 1, 0, 0, .int 0, []), (50, .aload_n 0, 1, 0, 0, .null, []), (51, .getfield 49, 3, 12, 24, .null, []), (54, .aload_n 0, 1, 0, 0, .null, []), (55, .getfield 251, 3, 12, 19, .int 0, []), (58, .iaload, 1, 0, 0, .null, []), (59, .invokevirtual 311, 3, 182, 4, .retAddr 0, []), (62, .aload_n 0, 1, 0, 0, .null, []), (63, .getfield 49, 3, 12, 24, .null, []), (66, .aload_n 0, 1, 0, 0, .null, []), (67, .getfield 251, 3, 12, 19, .int 0, []), (70, .dup2, 1, 0, 0, .null, []), (71, .iaload, 1, 0, 0, .null, []), (72, .iconst 1, 1, 0, 0, .int 1, []), (73, .iadd, 1, 0, 0, .null, []), (74, .iastore, 1, 0, 0, .null, []), (75, .return_, 1, 0, 0, .null, [])]
def cd_M_tellInn : List (Nat × pE) := [(0, .iconst 5, 1, 0, 0, .int 5, []), (1, .aload_n 0, 1, 0, 0, .null, []), (2, .getfield 251, 3, 12, 19, .int 0, []), (5, .imul, 1, 0, 0, .null, []), (6, .aload_n 0, 1, 0, 0, .null, []), (7, .getfield 55, 3, 12, 26, .null, []), (10, .aload_n 0, 1, 0, 0, .null, []), (11, .getfield 251, 3, 12, 19, .int 0, []), (14, .iaload, 1, 0, 0, .null, []), (15, .iadd, 1, 0, 0, .null, []), (16, .istore_n 1, 1, 0, 0, .null, []), (17, .aload_n 0, 1, 0, 0, .null, []), (18, .invokevirtual 307, 3, 181, 1, .int 0, []), (21, .istore_n 2, 1, 0, 0, .null, []), (22, .aload_n 0, 1, 0, 0, .null, []), (23, .getfield 58, 3, 12, 27, .null, []), (26, .iload_n 1, 1, 0, 0, .null, []), (27, .aload_n 0, 1, 0, 0, .null, []), (28, .iconst 0, 1, 0, 0, .int 0, []), (29, .bipush 99, 2, 0, 0, .int 99, []), (31, .invokevirtual 285, 3, 184, 3, .int 0, []), (34, .iastore, 1, 0, 0, .null, []), (35, .aload_n 0, 1, 0, 0, .null, []), (36, .getfield 61, 3, 12, 28, .null, []), (39, .iload_n 1, 1, 0, 0, .null, []), (40, .aload_n 0, 1, 0, 0, .null, []), (41, .iconst 1, 1, 0, 0, .int 1, []), (42, .bipush 7, 2, 0, 0, .int 7, []), (44, .invokevirtual 285, 3, 184, 3, .int 0, []), (47, .iastore, 1, 0, 0, .null, []), (48, .aload_n 0, 1, 0, 0, .null, []), (49, .getfield 64, 3, 12, 29, .null, []), (52, .iload_n 1, 1, 0, 0, .null, []), (53, .aload_n 0, 1, 0, 0, .null, []), (54, .iconst 0, 1, 0, 0, .int 0, []), (55, .bipush 9, 2, 0, 0, .int 9, []), (57, .invokevirtual 285, 3, 184, 3, .int 0, []), (60, .iastore, 1, 0, 0, .null, []), (61, .aload_n 0, 1, 0, 0, .null, []), (62, .iconst 4, 1, 0, 0, .int 4, []), (63, .invokevirtual 289, 3, 175, 2, .retAddr 0, []), (66, .aload_n 0, 1, 0, 0, .null, []), (67, .getfield 218, 3, 12, 13, .int 0, []), (70, .ifCond .le 4, 3, 74, 0, .null, []), (73, .return_, 1, 0, 0, .null, []), (74, .aload_n 0, 1, 0, 0, .null, []), (75, .iload_n 2, 1, 0, 0, .null, []), (76, .iconst 1, 1, 0, 0, .int 1, []), (77, .aload_n 0, 1, 0, 0, .null, []), (78, .getfield 55, 3, 12, 26, .null, []), (81, .aload_n 0, 1, 0, 0, .null, []), (82, .getfield 251, 3, 12, 19, .int 0, []), (85, .iaload, 1, 0, 0, .null, []), (86, .invokevirtual 311, 3, 182, 4, .retAddr 0, []), (89, .aload_n 0, 1, 0, 0, .null, []), (90, .getfield 55, 3, 12, 26, .null, []), (93, .aload_n 0, 1, 0, 0, .null, []), (94, .getfield 251, 3, 12, 19, .int 0, []), (97, .dup2, 1, 0, 0, .null, []), (98, .iaload, 1, 0, 0, .null, []), (99, .iconst 1, 1, 0, 0, .int 1, []), (100, .iadd, 1, 0, 0, .null, []), (101, .iastore, 1, 0, 0, .null, []), (102, .return_, 1, 0, 0, .null, [])]
def cd_M_tellGuest : List (Nat × pE) := [(0, .bipush 6, 2, 0, 0, .int 6, []), (2, .aload_n 0, 1, 0, 0, .null, []), (3, .getfield 251, 3, 12, 19, .int 0, []), (6, .imul, 1, 0, 0, .null, []), (7, .aload_n 0, 1, 0, 0, .null, []), (8, .getfield 70, 3, 12, 31, .null, []), (11, .aload_n 0, 1, 0, 0, .null, []), (12, .getfield 251, 3, 12, 19, .int 0, []), (15, .iaload, 1, 0, 0, .null, []), (16, .iadd, 1, 0, 0, .null, []), (17, .istore_n 1, 1, 0, 0, .null, []), (18, .aload_n 0, 1, 0, 0, .null, []), (19, .invokevirtual 307, 3, 181, 1, .int 0, []), (22, .istore_n 2, 1, 0, 0, .null, []), (23, .aload_n 0, 1, 0, 0, .null, []), (24, .getfield 73, 3, 12, 32, .null, []), (27, .iload_n 1, 1, 0, 0, .null, []), (28, .aload_n 0, 1, 0, 0, .null, []), (29, .iconst 0, 1, 0, 0, .int 0, []), (30, .sipush 999, 3, 0, 0, .int 999, []), (33, .invokevirtual 285, 3, 184, 3, .int 0, []), (36, .iastore, 1, 0, 0, .null, []), (37, .aload_n 0, 1, 0, 0, .null, []), (38, .getfield 76, 3, 12, 33, .null, []), (41, .iload_n 1, 1, 0, 0, .null, []), (42, .aload_n 0, 1, 0, 0, .null, []), (43, .iconst 0, 1, 0, 0, .int 0, []), (44, .bipush 100, 2, 0, 0, .int 100, []), (46, .invokevirtual 285, 3, 184, 3, .int 0, []), (49, .iastore, 1, 0, 0, .null, []), (50, .aload_n 0, 1, 0, 0, .null, []), (51, .getfield 79, 3, 12, 34, .null, []), (54, .iload_n 1, 1, 0, 0, .null, []), (55, .aload_n 0, 1, 0, 0, .null, []), (56, .iconst 0, 1, 0, 0, .int 0, []), (57, .bipush 9, 2, 0, 0, .int 9, []), (59, .invokevirtual 285, 3, 184, 3, .int 0, []), (62, .iastore, 1, 0, 0, .null, []), (63, .aload_n 0, 1, 0, 0, .null, []), (64, .iconst 4, 1, 0, 0, .int 4, []), (65, .invokevirtual 289, 3, 175, 2, .retAddr 0, []), (68, .aload_n 0, 1, 0, 0, .null, []), (69, .getfield 218, 3, 12, 13, .int 0, []), (72, .ifCond .le 4, 3, 76, 0, .null, []), (75, .return_, 1, 0, 0, .null, []), (76, .aload_n 0, 1, 0, 0, .null, []), (77, .iload_n 2, 1, 0, 0, .null, []), (78, .iconst 2, 1, 0, 0, .int 2, []), (79, .aload_n 0, 1, 0, 0, .null, []), (80, .getfield 70, 3, 12, 31, .null, []), (83, .aload_n 0, 1, 0, 0, .null, []), (84, .getfield 251, 3, 12, 19, .int 0, []), (87, .iaload, 1, 0, 0, .null, []), (88, .invokevirtual 311, 3, 182, 4, .retAddr 0, []), (91, .aload_n 0, 1, 0, 0, .null, []), (92, .getfield 70, 3, 12, 31, .null, []), (95, .aload_n 0, 1, 0, 0, .null, []), (96, .getfield 251, 3, 12, 19, .int 0, []), (99, .dup2, 1, 0, 0, .null, []), (100, .iaload, 1, 0, 0, .null, []), (101, .iconst 1, 1, 0, 0, .int 1, []), (102, .iadd, 1, 0, 0, .null, []), (103, .iastore, 1, 0, 0, .null, []), (104, .return_, 1, 0, 0, .null, [])]
def cd_M_tellTwins : List (Nat × pE) := [(0, .aload_n 0, 1, 0, 0, .null, []), (1, .getfield 221, 3, 12, 11, .int 0, []), (4, .istore_n 1, 1, 0, 0, .null, []), (5, .aload_n 0, 1, 0, 0, .null, []), (6, .iconst 2, 1, 0, 0, .int 2, []), (7, .invokevirtual 282, 3, 183, 2, .int 0, []), (10, .istore_n 2, 1, 0, 0, .null, []), (11, .aload_n 0, 1, 0, 0, .null, []), (12, .getfield 218, 3, 12, 13, .int 0, []), (15, .ifCond .ne 30, 3, 45, 0, .null, []), (18, .iload_n 2, 1, 0, 0, .null, []), (19, .ifCond .lt 26, 3, 45, 0, .null, []), (22, .aload_n 0, 1, 0, 0, .null, []), (23, .getfield 82, 3, 12, 35, .null, []), (26, .bipush 6, 2, 0, 0, .int 6, []), (28, .aload_n 0, 1, 0, 0, .null, []), (29, .getfield 251, 3, 12, 19, .int 0, []), (32, .imul, 1, 0, 0, .null, []), (33, .iload_n 2, 1, 0, 0, .null, []), (34, .iadd, 1, 0, 0, .null, []), (35, .iaload, 1, 0, 0, .null, []), (36, .ifCond .lt 9, 3, 45, 0, .null, []), (39, .aload_n 0, 1, 0, 0, .null, []), (40, .iconst 3, 1, 0, 0, .int 3, []), (41, .iload_n 1, 1, 0, 0, .null, []), (42, .invokevirtual 304, 3, 173, 3, .retAddr 0, []), (45, .aload_n 0, 1, 0, 0, .null, []), (46, .getfield 221, 3, 12, 11, .int 0, []), (49, .istore_n 3, 1, 0, 0, .null, []), (50, .aload_n 0, 1, 0, 0, .null, []), (51, .iconst 2, 1, 0, 0, .int 2, []), (52, .invokevirtual 282, 3, 183, 2, .int 0, []), (55, .istore 4, 2, 0, 0, .null, []), (57, .aload_n 0, 1, 0, 0, .null, []), (58, .getfield 218, 3, 12, 13, .int 0, []), (61, .ifCond .ne 38, 3, 99, 0, .null, []), (64, .iload 4, 2, 0, 0, .null, []), (66, .ifCond .lt 33, 3, 99, 0, .null, []), (69, .iload 4, 2, 0, 0, .null, []), (71, .iload_n 2, 1, 0, 0, .null, []), (72, .if_icmp .eq 21, 3, 93, 0, .null, []), (75, .aload_n 0, 1, 0, 0, .null, []), (76, .getfield 82, 3, 12, 35, .null, []), (79, .bipush 6, 2, 0, 0, .int 6, []), (81, .aload_n 0, 1, 0, 0, .null, []), (82, .getfield 251, 3, 12, 19, .int 0, []), (85, .imul, 1, 0, 0, .null, []), (86, .iload 4, 2, 0, 0, .null, []), (88, .iadd, 1, 0, 0, .null, []), (89, .iaload, 1, 0, 0, .null, []), (90, .ifCond .lt 9, 3, 99, 0, .null, []), (93, .aload_n 0, 1, 0, 0, .null, []), (94, .iconst 3, 1, 0, 0, .int 3, []), (95, .iload_n 3, 1, 0, 0, .null, []), (96, .invokevirtual 304, 3, 173, 3, .retAddr 0, []), (99, .aload_n 0, 1, 0, 0, .null, []), (100, .iconst 4, 1, 0, 0, .int 4, []), (101, .invokevirtual 289, 3, 175, 2, .retAddr 0, []), (104, .aload_n 0, 1, 0, 0, .null, []), (105, .getfield 218, 3, 12, 13, .int 0, []), (108, .ifCond .le 4, 3, 112, 0, .null, []), (111, .return_, 1, 0, 0, .null, []), (112, .aload_n 0, 1, 0, 0, .null, []), (113, .getfield 85, 3, 12, 36, .null, []), (116, .aload_n 0, 1, 0, 0, .null, []), (117, .getfield 251, 3, 12, 19, .int 0, []), (120, .dup2, 1, 0, 0, .null, []), (121, .iaload, 1, 0, 0, .null, []), (122, .iconst 1, 1, 0, 0, .int 1, []), (123, .iadd, 1, 0, 0, .null, []), (124, .iastore, 1, 0, 0, .null, []), (125, .iload_n 2, 1, 0, 0, .null, []), (126, .ifCond .lt 8, 3, 134, 0, .null, []), (129, .iload 4, 2, 0, 0, .null, []), (131, .ifCond .ge 4, 3, 135, 0, .null, []), (134, .return_, 1, 0, 0, .null, []), (135, .aload_n 0, 1, 0, 0, .null, []), (136, .getfield 82, 3, 12, 35, .null, []), (139, .bipush 6, 2, 0, 0, .int 6, []), (141, .aload_n 0, 1, 0, 0, .null, []), (142, .getfield 251, 3, 12, 19, .int 0, []), (145, .imul, 1, 0, 0, .null, []), (146, .iload_n 2, 1, 0, 0, .null, []), (147, .iadd, 1, 0, 0, .null, []), (148, .iload 4, 2, 0, 0, .null, []), (150, .iastore, 1, 0, 0, .null, []), (151, .aload_n 0, 1, 0, 0, .null, []), (152, .getfield 82, 3, 12, 35, .null, []), (155, .bipush 6, 2, 0, 0, .int 6, []), (157, .aload_n 0, 1, 0, 0, .null, []), (158, .getfield 251, 3, 12, 19, .int 0, []), (161, .imul, 1, 0, 0, .null, []), (162, .iload 4, 2, 0, 0, .null, []), (164, .iadd, 1, 0, 0, .null, []), (165, .iload_n 2, 1, 0, 0, .null, []), (166, .iastore, 1, 0, 0, .null, []), (167, .return_, 1, 0, 0, .null, [])]
def cd_M_tellPost : List (Nat × pE) := [(0, .aload_n 0, 1, 0, 0, .null, []), (1, .invokevirtual 307, 3, 181, 1, .int 0, []), (4, .istore_n 1, 1, 0, 0, .null, []), (5, .iconst 0, 1, 0, 0, .int 0, []), (6, .istore_n 2, 1, 0, 0, .null, []), (7, .aload_n 0, 1, 0, 0, .null, []), (8, .getfield 218, 3, 12, 13, .int 0, []), (11, .ifCond .ne 64, 3, 75, 0, .null, []), (14, .aload_n 0, 1, 0, 0, .null, []), (15, .iconst 1, 1, 0, 0, .int 1, []), (16, .invokevirtual 236, 3, 171, 2, .int 0, []), (19, .ifCond .eq 56, 3, 75, 0, .null, []), (22, .aload_n 0, 1, 0, 0, .null, []), (23, .getfield 221, 3, 12, 11, .int 0, []), (26, .istore_n 3, 1, 0, 0, .null, []), (27, .aload_n 0, 1, 0, 0, .null, []), (28, .iconst 1, 1, 0, 0, .int 1, []), (29, .invokevirtual 282, 3, 183, 2, .int 0, []), (32, .istore 4, 2, 0, 0, .null, []), (34, .aload_n 0, 1, 0, 0, .null, []), (35, .getfield 218, 3, 12, 13, .int 0, []), (38, .ifCond .gt (-31), 3, 7, 0, .null, []), (41, .iload 4, 2, 0, 0, .null, []), (43, .ifCond .ge 6, 3, 49, 0, .null, []), (46, .goto (-39), 3, 7, 0, .null, []), (49, .iload_n 2, 1, 0, 0, .null, []), (50, .iload 4, 2, 0, 0, .null, []), (52, .ishr, 1, 0, 0, .null, []), (53, .iconst 1, 1, 0, 0, .int 1, []), (54, .iand, 1, 0, 0, .null, []), (55, .iconst 1, 1, 0, 0, .int 1, []), (56, .if_icmp .ne 9, 3, 65, 0, .null, []), (59, .aload_n 0, 1, 0, 0, .null, []), (60, .iconst 3, 1, 0, 0, .int 3, []), (61, .iload_n 3, 1, 0, 0, .null, []), (62, .invokevirtual 304, 3, 173, 3, .retAddr 0, []), (65, .iload_n 2, 1, 0, 0, .null, []), (66, .iconst 1, 1, 0, 0, .int 1, []), (67, .iload 4, 2, 0, 0, .null, []), (69, .ishl, 1, 0, 0, .null, []), (70, .ior, 1, 0, 0, .null, []), (71, .istore_n 2, 1, 0, 0, .null, []), (72, .goto (-65), 3, 7, 0, .null, []), (75, .aload_n 0, 1, 0, 0, .null, []), (76, .iconst 4, 1, 0, 0, .int 4, []), (77, .invokevirtual 289, 3, 175, 2, .retAddr 0, []), (80, .aload_n 0, 1, 0, 0, .null, []), (81, .getfield 218, 3, 12, 13, .int 0, []), (84, .ifCond .le 4, 3, 88, 0, .null, []), (87, .return_, 1, 0, 0, .null, []), (88, .aload_n 0, 1, 0, 0, .null, []), (89, .getfield 91, 3, 12, 38, .null, []), (92, .bipush 6, 2, 0, 0, .int 6, []), (94, .aload_n 0, 1, 0, 0, .null, []), (95, .getfield 251, 3, 12, 19, .int 0, []), (98, .imul, 1, 0, 0, .null, []), (99, .aload_n 0, 1, 0, 0, .null, []), (100, .getfield 88, 3, 12, 37, .null, []), (103, .aload_n 0, 1, 0, 0, .null, []), (104, .getfield 251, 3, 12, 19, .int 0, []), (107, .iaload, 1, 0, 0, .null, []), (108, .iadd, 1, 0, 0, .null, []), (109, .iload_n 2, 1, 0, 0, .null, []), (110, .iastore, 1, 0, 0, .null, []), (111, .aload_n 0, 1, 0, 0, .null, []), (112, .iload_n 1, 1, 0, 0, .null, []), (113, .iconst 3, 1, 0, 0, .int 3, []), (114, .aload_n 0, 1, 0, 0, .null, []), (115, .getfield 88, 3, 12, 37, .null, []), (118, .aload_n 0, 1, 0, 0, .null, []), (119, .getfield 251, 3, 12, 19, .int 0, []), (122, .iaload, 1, 0, 0, .null, []), (123, .invokevirtual 311, 3, 182, 4, .retAddr 0, []), (126, .aload_n 0, 1, 0, 0, .null, []), (127, .getfield 88, 3, 12, 37, .null, []), (130, .aload_n 0, 1, 0, 0, .null, []), (131, .getfield 251, 3, 12, 19, .int 0, []), (134, .dup2, 1, 0, 0, .null, []), (135, .iaload, 1, 0, 0, .null, []), (136, .iconst 1, 1, 0, 0, .int 1, []), (137, .iadd, 1, 0, 0, .null, []), (138, .iastore, 1, 0, 0, .null, []), (139, .return_, 1, 0, 0, .null, [])]
def cd_M_tellLaw : List (Nat × pE) := [(0, .aload_n 0, 1, 0, 0, .null, []), (1, .iconst 5, 1, 0, 0, .int 5, []), (2, .invokevirtual 289, 3, 175, 2, .retAddr 0, []), (5, .aload_n 0, 1, 0, 0, .null, []), (6, .getfield 257, 3, 12, 43, .int 0, []), (9, .istore_n 2, 1, 0, 0, .null, []), (10, .iconst 0, 1, 0, 0, .int 0, []), (11, .istore_n 3, 1, 0, 0, .null, []), (12, .aload_n 0, 1, 0, 0, .null, []), (13, .getfield 218, 3, 12, 13, .int 0, []), (16, .ifCond .ne 113, 3, 129, 0, .null, []), (19, .aload_n 0, 1, 0, 0, .null, []), (20, .bipush 31, 2, 0, 0, .int 31, []), (22, .invokevirtual 236, 3, 171, 2, .int 0, []), (25, .ifCond .eq 104, 3, 129, 0, .null, []), (28, .iload_n 3, 1, 0, 0, .null, []), (29, .iconst 4, 1, 0, 0, .int 4, []), (30, .if_icmp .ne 8, 3, 38, 0, .null, []), (33, .aload_n 0, 1, 0, 0, .null, []), (34, .iconst 2, 1, 0, 0, .int 2, []), (35, .invokevirtual 233, 3, 172, 2, .retAddr 0, []), (38, .aload_n 0, 1, 0, 0, .null, []), (39, .getfield 218, 3, 12, 13, .int 0, []), (42, .ifCond .le 4, 3, 46, 0, .null, []), (45, .return_, 1, 0, 0, .null, []), (46, .iinc 3 1, 3, 0, 0, .int 1, []), (49, .aload_n 0, 1, 0, 0, .null, []), (50, .invokevirtual 239, 3, 174, 1, .retAddr 0, []), (53, .aload_n 0, 1, 0, 0, .null, []), (54, .getfield 106, 3, 12, 44, .null, []), (57, .aload_n 0, 1, 0, 0, .null, []), (58, .getfield 257, 3, 12, 43, .int 0, []), (61, .iconst 1, 1, 0, 0, .int 1, []), (62, .bastore, 1, 102, 0, .null, []), (63, .aload_n 0, 1, 0, 0, .null, []), (64, .getfield 110, 3, 12, 45, .null, []), (67, .aload_n 0, 1, 0, 0, .null, []), (68, .getfield 257, 3, 12, 43, .int 0, []), (71, .aload_n 0, 1, 0, 0, .null, []), (72, .getfield 260, 3, 12, 49, .int 0, []), (75, .iastore, 1, 0, 0, .null, []), (76, .aload_n 0, 1, 0, 0, .null, []), (77, .invokevirtual 315, 3, 194, 1, .retAddr 0, []), (80, .aload_n 0, 1, 0, 0, .null, []), (81, .bipush 13, 2, 0, 0, .int 13, []), (83, .invokevirtual 289, 3, 175, 2, .retAddr 0, []), (86, .aload_n 0, 1, 0, 0, .null, []), (87, .getfield 113, 3, 12, 46, .null, []), (90, .aload_n 0, 1, 0, 0, .null, []), (91, .getfield 257, 3, 12, 43, .int 0, []), (94, .aload_n 0, 1, 0, 0, .null, []), (95, .getfield 260, 3, 12, 49, .int 0, []), (98, .iastore, 1, 0, 0, .null, []), (99, .aload_n 0, 1, 0, 0, .null, []), (100, .getfield 218, 3, 12, 13, .int 0, []), (103, .ifCond .ne 7, 3, 110, 0, .null, []), (106, .aload_n 0, 1, 0, 0, .null, []), (107, .invokevirtual 315, 3, 194, 1, .retAddr 0, []), (110, .aload_n 0, 1, 0, 0, .null, []), (111, .bipush 32, 2, 0, 0, .int 32, []), (113, .invokevirtual 289, 3, 175, 2, .retAddr 0, []), (116, .aload_n 0, 1, 0, 0, .null, []), (117, .invokevirtual 318, 3, 191, 1, .retAddr 0, []), (120, .aload_n 0, 1, 0, 0, .null, []), (121, .bipush 33, 2, 0, 0, .int 33, []), (123, .invokevirtual 289, 3, 175, 2, .retAddr 0, []), (126, .goto (-114), 3, 12, 0, .null, []), (129, .aload_n 0, 1, 0, 0, .null, []), (130, .getfield 106, 3, 12, 44, .null, []), (133, .aload_n 0, 1, 0, 0, .null, []), (134, .getfield 257, 3, 12, 43, .int 0, []), (137, .iconst 0, 1, 0, 0, .int 0, []), (138, .bastore, 1, 102, 0, .null, []), (139, .aload_n 0, 1, 0, 0, .null, []), (140, .invokevirtual 318, 3, 191, 1, .retAddr 0, []), (143, .aload_n 0, 1, 0, 0, .null, []), (144, .iconst 4, 1, 0, 0, .int 4, []), (145, .invokevirtual 289, 3, 175, 2, .retAddr 0, []), (148, .aload_n 0, 1, 0, 0, .null, []), (149, .getfield 218, 3, 12, 13, .int 0, []), (152, .ifCond .le 4, 3, 156, 0, .null, []), (155, .return_, 1, 0, 0, .null, []), (156, .aload_n 0, 1, 0, 0, .null, []), (157, .getfield 100, 3, 12, 41, .null, []), (160, .iconst 3, 1, 0, 0, .int 3, []), (161, .aload_n 0, 1, 0, 0, .null, []), (162, .getfield 251, 3, 12, 19, .int 0, []), (165, .imul, 1, 0, 0, .null, []), (166, .iload_n 1, 1, 0, 0, .null, []), (167, .iadd, 1, 0, 0, .null, []), (168, .iload_n 2, 1, 0, 0, .null, []), (169, .iastore, 1, 0, 0, .null, []), (170, .aload_n 0, 1, 0, 0, .null, []), (171, .getfield 103, 3, 12, 42, .null, []), (174, .iconst 3, 1, 0, 0, .int 3, []), (175, .aload_n 0, 1, 0, 0, .null, []), (176, .getfield 251, 3, 12, 19, .int 0, []), (179, .imul, 1, 0, 0, .null, []), (180, .iload_n 1, 1, 0, 0, .null, []), (181, .iadd, 1, 0, 0, .null, []), (182, .aload_n 0, 1, 0, 0, .null, []), (183, .getfield 257, 3, 12, 43, .int 0, []), (186, .iastore, 1, 0, 0, .null, []), (187, .return_, 1, 0, 0, .null, [])]
def cd_M_term : List (Nat × pE) := [(0, .aload_n 0, 1, 0, 0, .null, []), (1, .getfield 116, 3, 12, 47, .null, []), (4, .aload_n 0, 1, 0, 0, .null, []), (5, .getfield 257, 3, 12, 43, .int 0, []), (8, .aload_n 0, 1, 0, 0, .null, []), (9, .getfield 260, 3, 12, 49, .int 0, []), (12, .iastore, 1, 0, 0, .null, []), (13, .aload_n 0, 1, 0, 0, .null, []), (14, .getfield 218, 3, 12, 13, .int 0, []), (17, .ifCond .ne 7, 3, 24, 0, .null, []), (20, .aload_n 0, 1, 0, 0, .null, []), (21, .invokevirtual 315, 3, 194, 1, .retAddr 0, []), (24, .aload_n 0, 1, 0, 0, .null, []), (25, .getfield 119, 3, 12, 48, .null, []), (28, .aload_n 0, 1, 0, 0, .null, []), (29, .getfield 257, 3, 12, 43, .int 0, []), (32, .aload_n 0, 1, 0, 0, .null, []), (33, .getfield 260, 3, 12, 49, .int 0, []), (36, .iastore, 1, 0, 0, .null, []), (37, .aload_n 0, 1, 0, 0, .null, []), (38, .dup, 1, 0, 0, .null, []), (39, .getfield 257, 3, 12, 43, .int 0, []), (42, .iconst 1, 1, 0, 0, .int 1, []), (43, .iadd, 1, 0, 0, .null, []), (44, .putfield 257, 3, 12, 43, .int 0, []), (47, .return_, 1, 0, 0, .null, [])]
def cd_M_emit : List (Nat × pE) := [(0, .aload_n 0, 1, 0, 0, .null, []), (1, .getfield 122, 3, 12, 50, .null, []), (4, .aload_n 0, 1, 0, 0, .null, []), (5, .getfield 260, 3, 12, 49, .int 0, []), (8, .iload_n 1, 1, 0, 0, .null, []), (9, .iastore, 1, 0, 0, .null, []), (10, .aload_n 0, 1, 0, 0, .null, []), (11, .getfield 125, 3, 12, 51, .null, []), (14, .aload_n 0, 1, 0, 0, .null, []), (15, .getfield 260, 3, 12, 49, .int 0, []), (18, .iload_n 2, 1, 0, 0, .null, []), (19, .iastore, 1, 0, 0, .null, []), (20, .aload_n 0, 1, 0, 0, .null, []), (21, .dup, 1, 0, 0, .null, []), (22, .getfield 260, 3, 12, 49, .int 0, []), (25, .iconst 1, 1, 0, 0, .int 1, []), (26, .iadd, 1, 0, 0, .null, []), (27, .putfield 260, 3, 12, 49, .int 0, []), (30, .return_, 1, 0, 0, .null, [])]
def cd_M_comesOut : List (Nat × pE) := [(0, .aload_n 0, 1, 0, 0, .null, []), (1, .getfield 321, 3, 12, 53, .int 0, []), (4, .ifCond .le 87, 3, 91, 0, .null, []), (7, .aload_n 0, 1, 0, 0, .null, []), (8, .getfield 128, 3, 12, 52, .null, []), (11, .aload_n 0, 1, 0, 0, .null, []), (12, .getfield 321, 3, 12, 53, .int 0, []), (15, .iconst 1, 1, 0, 0, .int 1, []), (16, .isub, 1, 0, 0, .null, []), (17, .iaload, 1, 0, 0, .null, []), (18, .istore_n 2, 1, 0, 0, .null, []), (19, .iload_n 2, 1, 0, 0, .null, []), (20, .bipush 6, 2, 0, 0, .int 6, []), (22, .if_icmp .eq 19, 3, 41, 0, .null, []), (25, .iload_n 1, 1, 0, 0, .null, []), (26, .ifCond .eq 16, 3, 42, 0, .null, []), (29, .iload_n 2, 1, 0, 0, .null, []), (30, .bipush 8, 2, 0, 0, .int 8, []), (32, .if_icmp .eq 9, 3, 41, 0, .null, []), (35, .iload_n 2, 1, 0, 0, .null, []), (36, .bipush 9, 2, 0, 0, .int 9, []), (38, .if_icmp .ne 4, 3, 42, 0, .null, []), (41, .return_, 1, 0, 0, .null, []), (42, .aload_n 0, 1, 0, 0, .null, []), (43, .dup, 1, 0, 0, .null, []), (44, .getfield 321, 3, 12, 53, .int 0, []), (47, .iconst 1, 1, 0, 0, .int 1, []), (48, .isub, 1, 0, 0, .null, []), (49, .putfield 321, 3, 12, 53, .int 0, []), (52, .aload_n 0, 1, 0, 0, .null, []), (53, .iload_n 2, 1, 0, 0, .null, []), (54, .bipush 8, 2, 0, 0, .int 8, []), (56, .if_icmp .ne 7, 3, 63, 0, .null, []), (59, .iconst 2, 1, 0, 0, .int 2, []), (60, .goto 24, 3, 84, 0, .null, []), (63, .iload_n 2, 1, 0, 0, .null, []), (64, .bipush 9, 2, 0, 0, .int 9, []), (66, .if_icmp .ne 7, 3, 73, 0, .null, []), (69, .iconst 3, 1, 0, 0, .int 3, []), (70, .goto 14, 3, 84, 0, .null, []), (73, .iload_n 2, 1, 0, 0, .null, []), (74, .bipush 10, 2, 0, 0, .int 10, []), (76, .if_icmp .ne 7, 3, 83, 0, .null, []), (79, .iconst 4, 1, 0, 0, .int 4, []), (80, .goto 4, 3, 84, 0, .null, []), (83, .iconst 5, 1, 0, 0, .int 5, []), (84, .iconst 0, 1, 0, 0, .int 0, []), (85, .invokevirtual 324, 3, 192, 3, .retAddr 0, []), (88, .goto (-88), 3, 0, 0, .null, []), (91, .return_, 1, 0, 0, .null, [])]
def cd_M_expression : List (Nat × pE) := [(0, .aload_n 0, 1, 0, 0, .null, []), (1, .iconst 0, 1, 0, 0, .int 0, []), (2, .putfield 321, 3, 12, 53, .int 0, []), (5, .aload_n 0, 1, 0, 0, .null, []), (6, .getfield 245, 3, 12, 12, .int 0, []), (9, .istore_n 1, 1, 0, 0, .null, []), (10, .iconst 1, 1, 0, 0, .int 1, []), (11, .istore_n 2, 1, 0, 0, .null, []), (12, .iload_n 2, 1, 0, 0, .null, []), (13, .ifCond .eq 259, 3, 272, 0, .null, []), (16, .aload_n 0, 1, 0, 0, .null, []), (17, .getfield 218, 3, 12, 13, .int 0, []), (20, .ifCond .ne 252, 3, 272, 0, .null, []), (23, .aload_n 0, 1, 0, 0, .null, []), (24, .bipush 6, 2, 0, 0, .int 6, []), (26, .invokevirtual 236, 3, 171, 2, .int 0, []), (29, .ifCond .eq 55, 3, 84, 0, .null, []), (32, .aload_n 0, 1, 0, 0, .null, []), (33, .getfield 245, 3, 12, 12, .int 0, []), (36, .bipush 6, 2, 0, 0, .int 6, []), (38, .if_icmp .ne 8, 3, 46, 0, .null, []), (41, .aload_n 0, 1, 0, 0, .null, []), (42, .iconst 2, 1, 0, 0, .int 2, []), (43, .invokevirtual 233, 3, 172, 2, .retAddr 0, []), (46, .aload_n 0, 1, 0, 0, .null, []), (47, .dup, 1, 0, 0, .null, []), (48, .getfield 245, 3, 12, 12, .int 0, []), (51, .iconst 1, 1, 0, 0, .int 1, []), (52, .iadd, 1, 0, 0, .null, []), (53, .putfield 245, 3, 12, 12, .int 0, []), (56, .aload_n 0, 1, 0, 0, .null, []), (57, .invokevirtual 239, 3, 174, 1, .retAddr 0, []), (60, .aload_n 0, 1, 0, 0, .null, []), (61, .getfield 128, 3, 12, 52, .null, []), (64, .aload_n 0, 1, 0, 0, .null, []), (65, .getfield 321, 3, 12, 53, .int 0, []), (68, .bipush 6, 2, 0, 0, .int 6, []), (70, .iastore, 1, 0, 0, .null, []), (71, .aload_n 0, 1, 0, 0, .null, []), (72, .dup, 1, 0, 0, .null, []), (73, .getfield 321, 3, 12, 53, .int 0, []), (76, .iconst 1, 1, 0, 0, .int 1, []), (77, .iadd, 1, 0, 0, .null, []), (78, .putfield 321, 3, 12, 53, .int 0, []), (81, .goto (-58), 3, 23, 0, .null, []), (84, .aload_n 0, 1, 0, 0, .null, []), (85, .invokevirtual 327, 3, 195, 1, .retAddr 0, []), (88, .aload_n 0, 1, 0, 0, .null, []), (89, .getfield 218, 3, 12, 13, .int 0, []), (92, .ifCond .le 4, 3, 96, 0, .null, []), (95, .return_, 1, 0, 0, .null, []), (96, .aload_n 0, 1, 0, 0, .null, []), (97, .bipush 7, 2, 0, 0, .int 7, []), (99, .invokevirtual 236, 3, 171, 2, .int 0, []), (102, .ifCond .eq 43, 3, 145, 0, .null, []), (105, .aload_n 0, 1, 0, 0, .null, []), (106, .getfield 245, 3, 12, 12, .int 0, []), (109, .iload_n 1, 1, 0, 0, .null, []), (110, .if_icmp .le 35, 3, 145, 0, .null, []), (113, .aload_n 0, 1, 0, 0, .null, []), (114, .iconst 0, 1, 0, 0, .int 0, []), (115, .invokevirtual 330, 3, 193, 2, .retAddr 0, []), (118, .aload_n 0, 1, 0, 0, .null, []), (119, .dup, 1, 0, 0, .null, []), (120, .getfield 321, 3, 12, 53, .int 0, []), (123, .iconst 1, 1, 0, 0, .int 1, []), (124, .isub, 1, 0, 0, .null, []), (125, .putfield 321, 3, 12, 53, .int 0, []), (128, .aload_n 0, 1, 0, 0, .null, []), (129, .dup, 1, 0, 0, .null, []), (130, .getfield 245, 3, 12, 12, .int 0, []), (133, .iconst 1, 1, 0, 0, .int 1, []), (134, .isub, 1, 0, 0, .null, []), (135, .putfield 245, 3, 12, 12, .int 0, []), (138, .aload_n 0, 1, 0, 0, .null, []), (139, .invokevirtual 239, 3, 174, 1, .retAddr 0, []), (142, .goto (-46), 3, 96, 0, .null, []), (145, .aload_n 0, 1, 0, 0, .null, []), (146, .bipush 8, 2, 0, 0, .int 8, []), (148, .invokevirtual 236, 3, 171, 2, .int 0, []), (151, .ifCond .ne 30, 3, 181, 0, .null, []), (154, .aload_n 0, 1, 0, 0, .null, []), (155, .bipush 9, 2, 0, 0, .int 9, []), (157, .invokevirtual 236, 3, 171, 2, .int 0, []), (160, .ifCond .ne 21, 3, 181, 0, .null, []), (163, .aload_n 0, 1, 0, 0, .null, []), (164, .bipush 10, 2, 0, 0, .int 10, []), (166, .invokevirtual 236, 3, 171, 2, .int 0, []), (169, .ifCond .ne 12, 3, 181, 0, .null, []), (172, .aload_n 0, 1, 0, 0, .null, []), (173, .bipush 15, 2, 0, 0, .int 15, []), (175, .invokevirtual 236, 3, 171, 2, .int 0, []), (178, .ifCond .eq 7, 3, 185, 0, .null, []), (181, .iconst 1, 1, 0, 0, .int 1, []), (182, .goto 4, 3, 186, 0, .null, []), (185, .iconst 0, 1, 0, 0, .int 0, []), (186, .istore_n 2, 1, 0, 0, .null, []), (187, .iload_n 2, 1, 0, 0, .null, []), (188, .ifCond .ne 22, 3, 210, 0, .null, []), (191, .aload_n 0, 1, 0, 0, .null, []), (192, .getfield 245, 3, 12, 12, .int 0, []), (195, .iload_n 1, 1, 0, 0, .null, []), (196, .if_icmp .le 8, 3, 204, 0, .null, []), (199, .aload_n 0, 1, 0, 0, .null, []), (200, .iconst 1, 1, 0, 0, .int 1, []), (201, .invokevirtual 233, 3, 172, 2, .retAddr 0, []), (204, .aload_n 0, 1, 0, 0, .null, []), (205, .iconst 0, 1, 0, 0, .int 0, []), (206, .invokevirtual 330, 3, 193, 2, .retAddr 0, []), (209, .return_, 1, 0, 0, .null, []), (210, .aload_n 0, 1, 0, 0, .null, []), (211, .aload_n 0, 1, 0, 0, .null, []), (212, .bipush 10, 2, 0, 0, .int 10, []), (214, .invokevirtual 236, 3, 171, 2, .int 0, []), (217, .ifCond .ne 12, 3, 229, 0, .null, []), (220, .aload_n 0, 1, 0, 0, .null, []), (221, .bipush 15, 2, 0, 0, .int 15, []), (223, .invokevirtual 236, 3, 171, 2, .int 0, []), (226, .ifCond .eq 7, 3, 233, 0, .null, []), (229, .iconst 1, 1, 0, 0, .int 1, []), (230, .goto 4, 3, 234, 0, .null, []), (233, .iconst 0, 1, 0, 0, .int 0, []), (234, .invokevirtual 330, 3, 193, 2, .retAddr 0, []), (237, .aload_n 0, 1, 0, 0, .null, []), (238, .getfield 128, 3, 12, 52, .null, []), (241, .aload_n 0, 1, 0, 0, .null, []), (242, .getfield 321, 3, 12, 53, .int 0, []), (245, .aload_n 0, 1, 0, 0, .null, []), (246, .getfield 20, 3, 12, 5, .null, []), (249, .aload_n 0, 1, 0, 0, .null, []), (250, .getfield 221, 3, 12, 11, .int 0, []), (253, .iaload, 1, 0, 0, .null, []), (254, .iastore, 1, 0, 0, .null, []), (255, .aload_n 0, 1, 0, 0, .null, []), (256, .dup, 1, 0, 0, .null, []), (257, .getfield 321, 3, 12, 53, .int 0, []), (260, .iconst 1, 1, 0, 0, .int 1, []), (261, .iadd, 1, 0, 0, .null, []), (262, .putfield 321, 3, 12, 53, .int 0, []), (265, .aload_n 0, 1, 0, 0, .null, []), (266, .invokevirtual 239, 3, 174, 1, .retAddr 0, []), (269, .goto (-257), 3, 12, 0, .null, []), (272, .return_, 1, 0, 0, .null, [])]
def cd_M_unit : List (Nat × pE) := [(0, .aload_n 0, 1, 0, 0, .null, []), (1, .iconst 2, 1, 0, 0, .int 2, []), (2, .invokevirtual 236, 3, 171, 2, .int 0, []), (5, .ifCond .eq 24, 3, 29, 0, .null, []), (8, .aload_n 0, 1, 0, 0, .null, []), (9, .iconst 0, 1, 0, 0, .int 0, []), (10, .aload_n 0, 1, 0, 0, .null, []), (11, .getfield 27, 3, 12, 7, .null, []), (14, .aload_n 0, 1, 0, 0, .null, []), (15, .getfield 221, 3, 12, 11, .int 0, []), (18, .iaload, 1, 0, 0, .null, []), (19, .invokevirtual 324, 3, 192, 3, .retAddr 0, []), (22, .aload_n 0, 1, 0, 0, .null, []), (23, .invokevirtual 239, 3, 174, 1, .retAddr 0, []), (26, .goto 67, 3, 93, 0, .null, []), (29, .aload_n 0, 1, 0, 0, .null, []), (30, .getfield 218, 3, 12, 13, .int 0, []), (33, .ifCond .ne 55, 3, 88, 0, .null, []), (36, .aload_n 0, 1, 0, 0, .null, []), (37, .getfield 20, 3, 12, 5, .null, []), (40, .aload_n 0, 1, 0, 0, .null, []), (41, .getfield 221, 3, 12, 11, .int 0, []), (44, .iaload, 1, 0, 0, .null, []), (45, .bipush 34, 2, 0, 0, .int 34, []), (47, .if_icmp .lt 41, 3, 88, 0, .null, []), (50, .aload_n 0, 1, 0, 0, .null, []), (51, .getfield 20, 3, 12, 5, .null, []), (54, .aload_n 0, 1, 0, 0, .null, []), (55, .getfield 221, 3, 12, 11, .int 0, []), (58, .iaload, 1, 0, 0, .null, []), (59, .bipush 42, 2, 0, 0, .int 42, []), (61, .if_icmp .gt 27, 3, 88, 0, .null, []), (64, .aload_n 0, 1, 0, 0, .null, []), (65, .iconst 1, 1, 0, 0, .int 1, []), (66, .aload_n 0, 1, 0, 0, .null, []), (67, .getfield 20, 3, 12, 5, .null, []), (70, .aload_n 0, 1, 0, 0, .null, []), (71, .getfield 221, 3, 12, 11, .int 0, []), (74, .iaload, 1, 0, 0, .null, []), (75, .bipush 34, 2, 0, 0, .int 34, []), (77, .isub, 1, 0, 0, .null, []), (78, .invokevirtual 324, 3, 192, 3, .retAddr 0, []), (81, .aload_n 0, 1, 0, 0, .null, []), (82, .invokevirtual 239, 3, 174, 1, .retAddr 0, []), (85, .goto 8, 3, 93, 0, .null, []), (88, .aload_n 0, 1, 0, 0, .null, []), (89, .iconst 1, 1, 0, 0, .int 1, []), (90, .invokevirtual 233, 3, 172, 2, .retAddr 0, []), (93, .return_, 1, 0, 0, .null, [])]
def cd_M_termOf : List (Nat × pE) := [(0, .iconst 0, 1, 0, 0, .int 0, []), (1, .istore_n 3, 1, 0, 0, .null, []), (2, .iload_n 1, 1, 0, 0, .null, []), (3, .istore 4, 2, 0, 0, .null, []), (5, .iload 4, 2, 0, 0, .null, []), (7, .iload_n 2, 1, 0, 0, .null, []), (8, .if_icmp .ge 157, 3, 165, 0, .null, []), (11, .aload_n 0, 1, 0, 0, .null, []), (12, .getfield 122, 3, 12, 50, .null, []), (15, .iload 4, 2, 0, 0, .null, []), (17, .iaload, 1, 0, 0, .null, []), (18, .istore 5, 2, 0, 0, .null, []), (20, .iload 5, 2, 0, 0, .null, []), (22, .iconst 2, 1, 0, 0, .int 2, []), (23, .if_icmp .ge 42, 3, 65, 0, .null, []), (26, .aload_n 0, 1, 0, 0, .null, []), (27, .getfield 134, 3, 12, 55, .null, []), (30, .iload_n 3, 1, 0, 0, .null, []), (31, .iload 5, 2, 0, 0, .null, []), (33, .ifCond .ne 13, 3, 46, 0, .null, []), (36, .aload_n 0, 1, 0, 0, .null, []), (37, .getfield 125, 3, 12, 51, .null, []), (40, .iload 4, 2, 0, 0, .null, []), (42, .iaload, 1, 0, 0, .null, []), (43, .goto 15, 3, 58, 0, .null, []), (46, .aload_n 0, 1, 0, 0, .null, []), (47, .getfield 131, 3, 12, 54, .null, []), (50, .aload_n 0, 1, 0, 0, .null, []), (51, .getfield 125, 3, 12, 51, .null, []), (54, .iload 4, 2, 0, 0, .null, []), (56, .iaload, 1, 0, 0, .null, []), (57, .iaload, 1, 0, 0, .null, []), (58, .iastore, 1, 0, 0, .null, []), (59, .iinc 3 1, 3, 0, 0, .int 1, []), (62, .goto 97, 3, 159, 0, .null, []), (65, .iinc 3 (-1), 3, 0, 0, .int (-1), []), (68, .aload_n 0, 1, 0, 0, .null, []), (69, .getfield 134, 3, 12, 55, .null, []), (72, .iload_n 3, 1, 0, 0, .null, []), (73, .iconst 1, 1, 0, 0, .int 1, []), (74, .isub, 1, 0, 0, .null, []), (75, .iaload, 1, 0, 0, .null, []), (76, .istore 6, 2, 0, 0, .null, []), (78, .aload_n 0, 1, 0, 0, .null, []), (79, .getfield 134, 3, 12, 55, .null, []), (82, .iload_n 3, 1, 0, 0, .null, []), (83, .iaload, 1, 0, 0, .null, []), (84, .istore 7, 2, 0, 0, .null, []), (86, .iload 5, 2, 0, 0, .null, []), (88, .iconst 5, 1, 0, 0, .int 5, []), (89, .if_icmp .ne 15, 3, 104, 0, .null, []), (92, .iload 7, 2, 0, 0, .null, []), (94, .ifCond .ne 10, 3, 104, 0, .null, []), (97, .aload_n 0, 1, 0, 0, .null, []), (98, .iconst 1, 1, 0, 0, .int 1, []), (99, .putfield 334, 3, 12, 56, .float 0, []), (102, .iconst 0, 1, 0, 0, .int 0, []), (103, .ireturn, 1, 0, 0, .null, []), (104, .aload_n 0, 1, 0, 0, .null, []), (105, .getfield 134, 3, 12, 55, .null, []), (108, .iload_n 3, 1, 0, 0, .null, []), (109, .iconst 1, 1, 0, 0, .int 1, []), (110, .isub, 1, 0, 0, .null, []), (111, .iload 5, 2, 0, 0, .null, []), (113, .iconst 2, 1, 0, 0, .int 2, []), (114, .if_icmp .ne 11, 3, 125, 0, .null, []), (117, .iload 6, 2, 0, 0, .null, []), (119, .iload 7, 2, 0, 0, .null, []), (121, .iadd, 1, 0, 0, .null, []), (122, .goto 36, 3, 158, 0, .null, []), (125, .iload 5, 2, 0, 0, .null, []), (127, .iconst 3, 1, 0, 0, .int 3, []), (128, .if_icmp .ne 11, 3, 139, 0, .null, []), (131, .iload 6, 2, 0, 0, .null, []), (133, .iload 7, 2, 0, 0, .null, []), (135, .isub, 1, 0, 0, .null, []), (136, .goto 22, 3, 158, 0, .null, []), (139, .iload 5, 2, 0, 0, .null, []), (141, .iconst 4, 1, 0, 0, .int 4, []), (142, .if_icmp .ne 11, 3, 153, 0, .null, []), (145, .iload 6, 2, 0, 0, .null, []), (147, .iload 7, 2, 0, 0, .null, []), (149, .imul, 1, 0, 0, .null, []), (150, .goto 8, 3, 158, 0, .null, []), (153, .iload 6, 2, 0, 0, .null, []), (155, .iload 7, 2, 0, 0, .null, []), (157, .idiv, 1, 0, 0, .null, []), (158, .iastore, 1, 0, 0, .null, []), (159, .iinc 4 1, 3, 0, 0, .int 1, []), (162, .goto (-157), 3, 5, 0, .null, []), (165, .aload_n 0, 1, 0, 0, .null, []), (166, .getfield 134, 3, 12, 55, .null, []), (169, .iconst 0, 1, 0, 0, .int 0, []), (170, .iaload, 1, 0, 0, .null, []), (171, .ireturn, 1, 0, 0, .null, [])]
def cd_M_in : List (Nat × pE) := [(0, .iload_n 0, 1, 0, 0, .null, []), (1, .iload_n 1, 1, 0, 0, .null, []), (2, .if_icmp .lt 12, 3, 14, 0, .null, []), (5, .iload_n 0, 1, 0, 0, .null, []), (6, .iload_n 2, 1, 0, 0, .null, []), (7, .if_icmp .gt 7, 3, 14, 0, .null, []), (10, .iconst 1, 1, 0, 0, .int 1, []), (11, .goto 4, 3, 15, 0, .null, []), (14, .iconst 0, 1, 0, 0, .int 0, []), (15, .ireturn, 1, 1, 0, .null, [])]
def cd_M_bits : List (Nat × pE) := [(0, .iconst 0, 1, 0, 0, .int 0, []), (1, .istore_n 1, 1, 0, 0, .null, []), (2, .iconst 0, 1, 0, 0, .int 0, []), (3, .istore_n 2, 1, 0, 0, .null, []), (4, .iload_n 2, 1, 0, 0, .null, []), (5, .bipush 15, 2, 0, 0, .int 15, []), (7, .if_icmp .ge 17, 3, 24, 0, .null, []), (10, .iload_n 1, 1, 0, 0, .null, []), (11, .iload_n 0, 1, 0, 0, .null, []), (12, .iload_n 2, 1, 0, 0, .null, []), (13, .ishr, 1, 0, 0, .null, []), (14, .iconst 1, 1, 0, 0, .int 1, []), (15, .iand, 1, 0, 0, .null, []), (16, .iadd, 1, 0, 0, .null, []), (17, .istore_n 1, 1, 0, 0, .null, []), (18, .iinc 2 1, 3, 0, 0, .int 1, []), (21, .goto (-17), 3, 4, 0, .null, []), (24, .iload_n 1, 1, 0, 0, .null, []), (25, .ireturn, 1, 0, 0, .null, [])]
def cd_M_isGuest : List (Nat × pE) := [(0, .iload_n 1, 1, 0, 0, .null, []), (1, .iconst 0, 1, 0, 0, .int 0, []), (2, .aload_n 0, 1, 0, 0, .null, []), (3, .getfield 70, 3, 12, 31, .null, []), (6, .aload_n 0, 1, 0, 0, .null, []), (7, .getfield 248, 3, 12, 18, .int 0, []), (10, .iaload, 1, 0, 0, .null, []), (11, .iconst 1, 1, 0, 0, .int 1, []), (12, .isub, 1, 0, 0, .null, []), (13, .invokestatic 338, 3, 197, 3, .int 0, []), (16, .ireturn, 1, 1, 0, .null, [])]
def cd_M_isInn : List (Nat × pE) := [(0, .iload_n 1, 1, 0, 0, .null, []), (1, .iconst 0, 1, 0, 0, .int 0, []), (2, .aload_n 0, 1, 0, 0, .null, []), (3, .getfield 55, 3, 12, 26, .null, []), (6, .aload_n 0, 1, 0, 0, .null, []), (7, .getfield 248, 3, 12, 18, .int 0, []), (10, .iaload, 1, 0, 0, .null, []), (11, .iconst 1, 1, 0, 0, .int 1, []), (12, .isub, 1, 0, 0, .null, []), (13, .invokestatic 338, 3, 197, 3, .int 0, []), (16, .ireturn, 1, 1, 0, .null, [])]
def cd_M_isThing : List (Nat × pE) := [(0, .iload_n 1, 1, 0, 0, .null, []), (1, .iconst 0, 1, 0, 0, .int 0, []), (2, .aload_n 0, 1, 0, 0, .null, []), (3, .getfield 49, 3, 12, 24, .null, []), (6, .aload_n 0, 1, 0, 0, .null, []), (7, .getfield 248, 3, 12, 18, .int 0, []), (10, .iaload, 1, 0, 0, .null, []), (11, .iconst 1, 1, 0, 0, .int 1, []), (12, .isub, 1, 0, 0, .null, []), (13, .invokestatic 338, 3, 197, 3, .int 0, []), (16, .ireturn, 1, 1, 0, .null, [])]
def cd_M_begins : List (Nat × pE) := [(0, .iconst 0, 1, 0, 0, .int 0, []), (1, .istore_n 1, 1, 0, 0, .null, []), (2, .iload_n 1, 1, 0, 0, .null, []), (3, .sipush 152, 3, 0, 0, .int 152, []), (6, .if_icmp .ge 16, 3, 22, 0, .null, []), (9, .aload_n 0, 1, 0, 0, .null, []), (10, .getfield 140, 3, 12, 58, .null, []), (13, .iload_n 1, 1, 0, 0, .null, []), (14, .iconst 0, 1, 0, 0, .int 0, []), (15, .iastore, 1, 0, 0, .null, []), (16, .iinc 1 1, 3, 0, 0, .int 1, []), (19, .goto (-17), 3, 2, 0, .null, []), (22, .iconst 0, 1, 0, 0, .int 0, []), (23, .istore_n 1, 1, 0, 0, .null, []), (24, .iload_n 1, 1, 0, 0, .null, []), (25, .bipush 6, 2, 0, 0, .int 6, []), (27, .if_icmp .ge 68, 3, 95, 0, .null, []), (30, .aload_n 0, 1, 0, 0, .null, []), (31, .getfield 140, 3, 12, 58, .null, []), (34, .iload_n 1, 1, 0, 0, .null, []), (35, .iload_n 1, 1, 0, 0, .null, []), (36, .aload_n 0, 1, 0, 0, .null, []), (37, .getfield 70, 3, 12, 31, .null, []), (40, .aload_n 0, 1, 0, 0, .null, []), (41, .getfield 248, 3, 12, 18, .int 0, []), (44, .iaload, 1, 0, 0, .null, []), (45, .if_icmp .ge 20, 3, 65, 0, .null, []), (48, .aload_n 0, 1, 0, 0, .null, []), (49, .getfield 73, 3, 12, 32, .null, []), (52, .bipush 6, 2, 0, 0, .int 6, []), (54, .aload_n 0, 1, 0, 0, .null, []), (55, .getfield 248, 3, 12, 18, .int 0, []), (58, .imul, 1, 0, 0, .null, []), (59, .iload_n 1, 1, 0, 0, .null, []), (60, .iadd, 1, 0, 0, .null, []), (61, .iaload, 1, 0, 0, .null, []), (62, .goto 4, 3, 66, 0, .null, []), (65, .iconst 0, 1, 0, 0, .int 0, []), (66, .iastore, 1, 0, 0, .null, []), (67, .aload_n 0, 1, 0, 0, .null, []), (68, .getfield 140, 3, 12, 58, .null, []), (71, .bipush 6, 2, 0, 0, .int 6, []), (73, .iload_n 1, 1, 0, 0, .null, []), (74, .iadd, 1, 0, 0, .null, []), (75, .bipush (-2), 2, 0, 0, .int (-2), []), (77, .iastore, 1, 0, 0, .null, []), (78, .aload_n 0, 1, 0, 0, .null, []), (79, .getfield 140, 3, 12, 58, .null, []), (82, .bipush 12, 2, 0, 0, .int 12, []), (84, .iload_n 1, 1, 0, 0, .null, []), (85, .iadd, 1, 0, 0, .null, []), (86, .bipush (-2), 2, 0, 0, .int (-2), []), (88, .iastore, 1, 0, 0, .null, []), (89, .iinc 1 1, 3, 0, 0, .int 1, []), (92, .goto (-68), 3, 24, 0, .null, []), (95, .iconst 0, 1, 0, 0, .int 0, []), (96, .istore_n 1, 1, 0, 0, .null, []), (97, .iload_n 1, 1, 0, 0, .null, []), (98, .iconst 5, 1, 0, 0, .int 5, []), (99, .if_icmp .ge 31, 3, 130, 0, .null, []), (102, .aload_n 0, 1, 0, 0, .null, []), (103, .getfield 140, 3, 12, 58, .null, []), (106, .bipush 48, 2, 0, 0, .int 48, []), (108, .iload_n 1, 1, 0, 0, .null, []), (109, .iadd, 1, 0, 0, .null, []), (110, .bipush (-2), 2, 0, 0, .int (-2), []), (112, .iastore, 1, 0, 0, .null, []), (113, .aload_n 0, 1, 0, 0, .null, []), (114, .getfield 140, 3, 12, 58, .null, []), (117, .bipush 53, 2, 0, 0, .int 53, []), (119, .iload_n 1, 1, 0, 0, .null, []), (120, .iadd, 1, 0, 0, .null, []), (121, .bipush (-2), 2, 0, 0, .int (-2), []), (123, .iastore, 1, 0, 0, .null, []), (124, .iinc 1 1, 3, 0, 0, .int 1, []), (127, .goto (-30), 3, 97, 0, .null, []), (130, .aload_n 0, 1, 0, 0, .null, []), (131, .aload_n 0, 1, 0, 0, .null, []), (132, .getfield 97, 3, 12, 40, .null, []), (135, .aload_n 0, 1, 0, 0, .null, []), (136, .getfield 248, 3, 12, 18, .int 0, []), (139, .iaload, 1, 0, 0, .null, []), (140, .putfield 342, 3, 12, 59, .int 0, []), (143, .return_, 1, 0, 0, .null, [])]
def cd_M_keepsRow : List (Nat × pE) := [(0, .iconst 0, 1, 0, 0, .int 0, []), (1, .istore_n 1, 1, 0, 0, .null, []), (2, .iload_n 1, 1, 0, 0, .null, []), (3, .sipush 152, 3, 0, 0, .int 152, []), (6, .if_icmp .ge 21, 3, 27, 0, .null, []), (9, .aload_n 0, 1, 0, 0, .null, []), (10, .getfield 137, 3, 12, 57, .null, []), (13, .iload_n 1, 1, 0, 0, .null, []), (14, .aload_n 0, 1, 0, 0, .null, []), (15, .getfield 140, 3, 12, 58, .null, []), (18, .iload_n 1, 1, 0, 0, .null, []), (19, .iaload, 1, 0, 0, .null, []), (20, .iastore, 1, 0, 0, .null, []), (21, .iinc 1 1, 3, 0, 0, .int 1, []), (24, .goto (-22), 3, 2, 0, .null, []), (27, .return_, 1, 0, 0, .null, [])]
def cd_M_copies : List (Nat × pE) := [(0, .iconst 0, 1, 0, 0, .int 0, []), (1, .istore_n 1, 1, 0, 0, .null, []), (2, .iload_n 1, 1, 0, 0, .null, []), (3, .sipush 152, 3, 0, 0, .int 152, []), (6, .if_icmp .ge 21, 3, 27, 0, .null, []), (9, .aload_n 0, 1, 0, 0, .null, []), (10, .getfield 140, 3, 12, 58, .null, []), (13, .iload_n 1, 1, 0, 0, .null, []), (14, .aload_n 0, 1, 0, 0, .null, []), (15, .getfield 137, 3, 12, 57, .null, []), (18, .iload_n 1, 1, 0, 0, .null, []), (19, .iaload, 1, 0, 0, .null, []), (20, .iastore, 1, 0, 0, .null, []), (21, .iinc 1 1, 3, 0, 0, .int 1, []), (24, .goto (-22), 3, 2, 0, .null, []), (27, .aload_n 0, 1, 0, 0, .null, []), (28, .aload_n 0, 1, 0, 0, .null, []), (29, .getfield 97, 3, 12, 40, .null, []), (32, .aload_n 0, 1, 0, 0, .null, []), (33, .getfield 248, 3, 12, 18, .int 0, []), (36, .iaload, 1, 0, 0, .null, []), (37, .putfield 342, 3, 12, 59, .int 0, []), (40, .return_, 1, 0, 0, .null, [])]
def cd_M_mixed : List (Nat × pE) := [(0, .iload_n 0, 1, 0, 0, .null, []), (1, .iload_n 1, 1, 0, 0, .null, []), (2, .ixor, 1, 0, 0, .null, []), (3, .ldc_w 345, 3, 0, 0, .int 1103515245, []), (6, .imul, 1, 0, 0, .null, []), (7, .sipush 12345, 3, 0, 0, .int 12345, []), (10, .iadd, 1, 0, 0, .null, []), (11, .istore_n 2, 1, 0, 0, .null, []), (12, .iload_n 2, 1, 0, 0, .null, []), (13, .iload_n 2, 1, 0, 0, .null, []), (14, .bipush 15, 2, 0, 0, .int 15, []), (16, .iushr, 1, 0, 0, .null, []), (17, .ixor, 1, 0, 0, .null, []), (18, .ireturn, 1, 0, 0, .null, [])]
def cd_M_lotOf : List (Nat × pE) := [(0, .aload_n 0, 1, 0, 0, .null, []), (1, .getfield 342, 3, 12, 59, .int 0, []), (4, .bipush 63, 2, 0, 0, .int 63, []), (6, .invokestatic 346, 3, 205, 2, .int 0, []), (9, .bipush 64, 2, 0, 0, .int 64, []), (11, .aload_n 0, 1, 0, 0, .null, []), (12, .getfield 140, 3, 12, 58, .null, []), (15, .bipush 58, 2, 0, 0, .int 58, []), (17, .iaload, 1, 0, 0, .null, []), (18, .imul, 1, 0, 0, .null, []), (19, .iload_n 1, 1, 0, 0, .null, []), (20, .iadd, 1, 0, 0, .null, []), (21, .invokestatic 346, 3, 205, 2, .int 0, []), (24, .iconst 1, 1, 0, 0, .int 1, []), (25, .iushr, 1, 0, 0, .null, []), (26, .iload_n 2, 1, 0, 0, .null, []), (27, .irem, 1, 0, 0, .null, []), (28, .ireturn, 1, 0, 0, .null, [])]
def cd_M_weightIn : List (Nat × pE) := [(0, .aload_n 0, 1, 0, 0, .null, []), (1, .getfield 67, 3, 12, 30, .null, []), (4, .bipush 7, 2, 0, 0, .int 7, []), (6, .iconst 5, 1, 0, 0, .int 5, []), (7, .aload_n 0, 1, 0, 0, .null, []), (8, .getfield 248, 3, 12, 18, .int 0, []), (11, .imul, 1, 0, 0, .null, []), (12, .iload_n 1, 1, 0, 0, .null, []), (13, .iadd, 1, 0, 0, .null, []), (14, .imul, 1, 0, 0, .null, []), (15, .iload_n 2, 1, 0, 0, .null, []), (16, .iadd, 1, 0, 0, .null, []), (17, .iaload, 1, 0, 0, .null, []), (18, .ireturn, 1, 0, 0, .null, [])]
def cd_M_weightsOf : List (Nat × pE) := [(0, .iconst 0, 1, 0, 0, .int 0, []), (1, .istore_n 2, 1, 0, 0, .null, []), (2, .iconst 0, 1, 0, 0, .int 0, []), (3, .istore_n 3, 1, 0, 0, .null, []), (4, .iload_n 3, 1, 0, 0, .null, []), (5, .aload_n 0, 1, 0, 0, .null, []), (6, .getfield 49, 3, 12, 24, .null, []), (9, .aload_n 0, 1, 0, 0, .null, []), (10, .getfield 248, 3, 12, 18, .int 0, []), (13, .iaload, 1, 0, 0, .null, []), (14, .if_icmp .ge 18, 3, 32, 0, .null, []), (17, .iload_n 2, 1, 0, 0, .null, []), (18, .aload_n 0, 1, 0, 0, .null, []), (19, .iload_n 1, 1, 0, 0, .null, []), (20, .iload_n 3, 1, 0, 0, .null, []), (21, .invokevirtual 349, 3, 207, 3, .int 0, []), (24, .iadd, 1, 0, 0, .null, []), (25, .istore_n 2, 1, 0, 0, .null, []), (26, .iinc 3 1, 3, 0, 0, .int 1, []), (29, .goto (-25), 3, 4, 0, .null, []), (32, .iload_n 2, 1, 0, 0, .null, []), (33, .ireturn, 1, 0, 0, .null, [])]
def cd_M_alikeTo : List (Nat × pE) := [(0, .iconst 0, 1, 0, 0, .int 0, []), (1, .istore_n 3, 1, 0, 0, .null, []), (2, .iconst 0, 1, 0, 0, .int 0, []), (3, .istore 4, 2, 0, 0, .null, []), (5, .iload 4, 2, 0, 0, .null, []), (7, .aload_n 0, 1, 0, 0, .null, []), (8, .getfield 70, 3, 12, 31, .null, []), (11, .aload_n 0, 1, 0, 0, .null, []), (12, .getfield 248, 3, 12, 18, .int 0, []), (15, .iaload, 1, 0, 0, .null, []), (16, .if_icmp .ge 32, 3, 48, 0, .null, []), (19, .iload 4, 2, 0, 0, .null, []), (21, .iload_n 1, 1, 0, 0, .null, []), (22, .if_icmp .eq 20, 3, 42, 0, .null, []), (25, .aload_n 0, 1, 0, 0, .null, []), (26, .getfield 140, 3, 12, 58, .null, []), (29, .bipush 12, 2, 0, 0, .int 12, []), (31, .iload 4, 2, 0, 0, .null, []), (33, .iadd, 1, 0, 0, .null, []), (34, .iaload, 1, 0, 0, .null, []), (35, .iload_n 2, 1, 0, 0, .null, []), (36, .if_icmp .ne 6, 3, 42, 0, .null, []), (39, .iinc 3 1, 3, 0, 0, .int 1, []), (42, .iinc 4 1, 3, 0, 0, .int 1, []), (45, .goto (-40), 3, 5, 0, .null, []), (48, .iload_n 3, 1, 0, 0, .null, []), (49, .ireturn, 1, 0, 0, .null, [])]
def cd_M_isTwice : List (Nat × pE) := [(0, .iload_n 2, 1, 0, 0, .null, []), (1, .ifCond .lt 33, 3, 34, 0, .null, []), (4, .aload_n 0, 1, 0, 0, .null, []), (5, .getfield 140, 3, 12, 58, .null, []), (8, .bipush 48, 2, 0, 0, .int 48, []), (10, .iload_n 2, 1, 0, 0, .null, []), (11, .iadd, 1, 0, 0, .null, []), (12, .iaload, 1, 0, 0, .null, []), (13, .iload_n 3, 1, 0, 0, .null, []), (14, .if_icmp .ne 20, 3, 34, 0, .null, []), (17, .aload_n 0, 1, 0, 0, .null, []), (18, .getfield 140, 3, 12, 58, .null, []), (21, .bipush 53, 2, 0, 0, .int 53, []), (23, .iload_n 2, 1, 0, 0, .null, []), (24, .iadd, 1, 0, 0, .null, []), (25, .iaload, 1, 0, 0, .null, []), (26, .iload_n 1, 1, 0, 0, .null, []), (27, .if_icmp .eq 7, 3, 34, 0, .null, []), (30, .iconst 1, 1, 0, 0, .int 1, []), (31, .goto 4, 3, 35, 0, .null, []), (34, .iconst 0, 1, 0, 0, .int 0, []), (35, .ireturn, 1, 1, 0, .null, [])]
def cd_M_looks : List (Nat × pE) := [(0, .aload_n 0, 1, 0, 0, .null, []), (1, .getfield 131, 3, 12, 54, .null, []), (4, .iconst 0, 1, 0, 0, .int 0, []), (5, .aload_n 0, 1, 0, 0, .null, []), (6, .getfield 140, 3, 12, 58, .null, []), (9, .bipush 58, 2, 0, 0, .int 58, []), (11, .iaload, 1, 0, 0, .null, []), (12, .iastore, 1, 0, 0, .null, []), (13, .aload_n 0, 1, 0, 0, .null, []), (14, .getfield 131, 3, 12, 54, .null, []), (17, .iconst 1, 1, 0, 0, .int 1, []), (18, .aload_n 0, 1, 0, 0, .null, []), (19, .getfield 52, 3, 12, 25, .null, []), (22, .bipush 7, 2, 0, 0, .int 7, []), (24, .aload_n 0, 1, 0, 0, .null, []), (25, .getfield 248, 3, 12, 18, .int 0, []), (28, .imul, 1, 0, 0, .null, []), (29, .iload_n 3, 1, 0, 0, .null, []), (30, .iadd, 1, 0, 0, .null, []), (31, .iaload, 1, 0, 0, .null, []), (32, .iastore, 1, 0, 0, .null, []), (33, .aload_n 0, 1, 0, 0, .null, []), (34, .getfield 131, 3, 12, 54, .null, []), (37, .iconst 2, 1, 0, 0, .int 2, []), (38, .iload 4, 2, 0, 0, .null, []), (40, .iastore, 1, 0, 0, .null, []), (41, .aload_n 0, 1, 0, 0, .null, []), (42, .getfield 131, 3, 12, 54, .null, []), (45, .iconst 3, 1, 0, 0, .int 3, []), (46, .iload_n 2, 1, 0, 0, .null, []), (47, .ifCond .ge 7, 3, 54, 0, .null, []), (50, .iconst 0, 1, 0, 0, .int 0, []), (51, .goto 16, 3, 67, 0, .null, []), (54, .aload_n 0, 1, 0, 0, .null, []), (55, .getfield 64, 3, 12, 29, .null, []), (58, .iconst 5, 1, 0, 0, .int 5, []), (59, .aload_n 0, 1, 0, 0, .null, []), (60, .getfield 248, 3, 12, 18, .int 0, []), (63, .imul, 1, 0, 0, .null, []), (64, .iload_n 2, 1, 0, 0, .null, []), (65, .iadd, 1, 0, 0, .null, []), (66, .iaload, 1, 0, 0, .null, []), (67, .iastore, 1, 0, 0, .null, []), (68, .aload_n 0, 1, 0, 0, .null, []), (69, .getfield 131, 3, 12, 54, .null, []), (72, .iconst 4, 1, 0, 0, .int 4, []), (73, .aload_n 0, 1, 0, 0, .null, []), (74, .getfield 79, 3, 12, 34, .null, []), (77, .bipush 6, 2, 0, 0, .int 6, []), (79, .aload_n 0, 1, 0, 0, .null, []), (80, .getfield 248, 3, 12, 18, .int 0, []), (83, .imul, 1, 0, 0, .null, []), (84, .iload_n 1, 1, 0, 0, .null, []), (85, .iadd, 1, 0, 0, .null, []), (86, .iaload, 1, 0, 0, .null, []), (87, .iastore, 1, 0, 0, .null, []), (88, .aload_n 0, 1, 0, 0, .null, []), (89, .getfield 131, 3, 12, 54, .null, []), (92, .iconst 5, 1, 0, 0, .int 5, []), (93, .aload_n 0, 1, 0, 0, .null, []), (94, .getfield 76, 3, 12, 33, .null, []), (97, .bipush 6, 2, 0, 0, .int 6, []), (99, .aload_n 0, 1, 0, 0, .null, []), (100, .getfield 248, 3, 12, 18, .int 0, []), (103, .imul, 1, 0, 0, .null, []), (104, .iload_n 1, 1, 0, 0, .null, []), (105, .iadd, 1, 0, 0, .null, []), (106, .iaload, 1, 0, 0, .null, []), (107, .iastore, 1, 0, 0, .null, []), (108, .aload_n 0, 1, 0, 0, .null, []), (109, .getfield 131, 3, 12, 54, .null, []), (112, .bipush 6, 2, 0, 0, .int 6, []), (114, .iload_n 3, 1, 0, 0, .null, []), (115, .iastore, 1, 0, 0, .null, []), (116, .aload_n 0, 1, 0, 0, .null, []), (117, .getfield 131, 3, 12, 54, .null, []), (120, .bipush 7, 2, 0, 0, .int 7, []), (122, .iload 5, 2, 0, 0, .null, []), (124, .iastore, 1, 0, 0, .null, []), (125, .aload_n 0, 1, 0, 0, .null, []), (126, .getfield 131, 3, 12, 54, .null, []), (129, .bipush 8, 2, 0, 0, .int 8, []), (131, .aload_n 0, 1, 0, 0, .null, []), (132, .iload_n 1, 1, 0, 0, .null, []), (133, .iload_n 3, 1, 0, 0, .null, []), (134, .invokevirtual 352, 3, 209, 3, .int 0, []), (137, .iastore, 1, 0, 0, .null, []), (138, .return_, 1, 0, 0, .null, [])]
def cd_M_asks : List (Nat × pE) := [(0, .iconst 3, 1, 0, 0, .int 3, []), (1, .aload_n 0, 1, 0, 0, .null, []), (2, .getfield 248, 3, 12, 18, .int 0, []), (5, .imul, 1, 0, 0, .null, []), (6, .iload_n 1, 1, 0, 0, .null, []), (7, .iadd, 1, 0, 0, .null, []), (8, .istore 4, 2, 0, 0, .null, []), (10, .aload_n 0, 1, 0, 0, .null, []), (11, .getfield 100, 3, 12, 41, .null, []), (14, .iload 4, 2, 0, 0, .null, []), (16, .iaload, 1, 0, 0, .null, []), (17, .aload_n 0, 1, 0, 0, .null, []), (18, .getfield 103, 3, 12, 42, .null, []), (21, .iload 4, 2, 0, 0, .null, []), (23, .iaload, 1, 0, 0, .null, []), (24, .if_icmp .ne 14, 3, 38, 0, .null, []), (27, .iload_n 2, 1, 0, 0, .null, []), (28, .iload_n 3, 1, 0, 0, .null, []), (29, .if_icmp .le 7, 3, 36, 0, .null, []), (32, .iload_n 3, 1, 0, 0, .null, []), (33, .goto 4, 3, 37, 0, .null, []), (36, .iload_n 2, 1, 0, 0, .null, []), (37, .ireturn, 1, 0, 0, .null, []), (38, .aload_n 0, 1, 0, 0, .null, []), (39, .iconst 0, 1, 0, 0, .int 0, []), (40, .putfield 334, 3, 12, 56, .float 0, []), (43, .aload_n 0, 1, 0, 0, .null, []), (44, .getfield 100, 3, 12, 41, .null, []), (47, .iload 4, 2, 0, 0, .null, []), (49, .iaload, 1, 0, 0, .null, []), (50, .istore 5, 2, 0, 0, .null, []), (52, .iload 5, 2, 0, 0, .null, []), (54, .aload_n 0, 1, 0, 0, .null, []), (55, .getfield 103, 3, 12, 42, .null, []), (58, .iload 4, 2, 0, 0, .null, []), (60, .iaload, 1, 0, 0, .null, []), (61, .if_icmp .ge 127, 3, 188, 0, .null, []), (64, .aload_n 0, 1, 0, 0, .null, []), (65, .getfield 106, 3, 12, 44, .null, []), (68, .iload 5, 2, 0, 0, .null, []), (70, .baload, 1, 102, 0, .null, []), (71, .ifCond .eq 62, 3, 133, 0, .null, []), (74, .aload_n 0, 1, 0, 0, .null, []), (75, .aload_n 0, 1, 0, 0, .null, []), (76, .getfield 110, 3, 12, 45, .null, []), (79, .iload 5, 2, 0, 0, .null, []), (81, .iaload, 1, 0, 0, .null, []), (82, .aload_n 0, 1, 0, 0, .null, []), (83, .getfield 113, 3, 12, 46, .null, []), (86, .iload 5, 2, 0, 0, .null, []), (88, .iaload, 1, 0, 0, .null, []), (89, .invokevirtual 355, 3, 196, 3, .int 0, []), (92, .istore 6, 2, 0, 0, .null, []), (94, .aload_n 0, 1, 0, 0, .null, []), (95, .aload_n 0, 1, 0, 0, .null, []), (96, .getfield 113, 3, 12, 46, .null, []), (99, .iload 5, 2, 0, 0, .null, []), (101, .iaload, 1, 0, 0, .null, []), (102, .aload_n 0, 1, 0, 0, .null, []), (103, .getfield 116, 3, 12, 47, .null, []), (106, .iload 5, 2, 0, 0, .null, []), (108, .iaload, 1, 0, 0, .null, []), (109, .invokevirtual 355, 3, 196, 3, .int 0, []), (112, .istore 7, 2, 0, 0, .null, []), (114, .aload_n 0, 1, 0, 0, .null, []), (115, .getfield 334, 3, 12, 56, .float 0, []), (118, .ifCond .eq 5, 3, 123, 0, .null, []), (121, .iconst 0, 1, 0, 0, .int 0, []), (122, .ireturn, 1, 0, 0, .null, []), (123, .iload 6, 2, 0, 0, .null, []), (125, .iload 7, 2, 0, 0, .null, []), (127, .if_icmp .lt 6, 3, 133, 0, .null, []), (130, .goto 52, 3, 182, 0, .null, []), (133, .aload_n 0, 1, 0, 0, .null, []), (134, .aload_n 0, 1, 0, 0, .null, []), (135, .getfield 116, 3, 12, 47, .null, []), (138, .iload 5, 2, 0, 0, .null, []), (140, .iaload, 1, 0, 0, .null, []), (141, .aload_n 0, 1, 0, 0, .null, []), (142, .getfield 119, 3, 12, 48, .null, []), (145, .iload 5, 2, 0, 0, .null, []), (147, .iaload, 1, 0, 0, .null, []), (148, .invokevirtual 355, 3, 196, 3, .int 0, []), (151, .istore 6, 2, 0, 0, .null, []), (153, .aload_n 0, 1, 0, 0, .null, []), (154, .getfield 334, 3, 12, 56, .float 0, []), (157, .ifCond .ne 8, 3, 165, 0, .null, []), (160, .iload 6, 2, 0, 0, .null, []), (162, .ifCond .ge 7, 3, 169, 0, .null, []), (165, .iconst 0, 1, 0, 0, .int 0, []), (166, .goto 15, 3, 181, 0, .null, []), (169, .iload 6, 2, 0, 0, .null, []), (171, .iload_n 3, 1, 0, 0, .null, []), (172, .if_icmp .le 7, 3, 179, 0, .null, []), (175, .iload_n 3, 1, 0, 0, .null, []), (176, .goto 5, 3, 181, 0, .null, []), (179, .iload 6, 2, 0, 0, .null, []), (181, .ireturn, 1, 0, 0, .null, []), (182, .iinc 5 1, 3, 0, 0, .int 1, []), (185, .goto (-133), 3, 52, 0, .null, []), (188, .iconst 0, 1, 0, 0, .int 0, []), (189, .ireturn, 1, 0, 0, .null, [])]
def cd_M_muchOf : List (Nat × pE) := [(0, .aload_n 0, 1, 0, 0, .null, []), (1, .iload_n 1, 1, 0, 0, .null, []), (2, .iload_n 2, 1, 0, 0, .null, []), (3, .iload_n 3, 1, 0, 0, .null, []), (4, .iconst 0, 1, 0, 0, .int 0, []), (5, .iload 4, 2, 0, 0, .null, []), (7, .invokevirtual 358, 3, 211, 6, .retAddr 0, []), (10, .aload_n 0, 1, 0, 0, .null, []), (11, .iconst 0, 1, 0, 0, .int 0, []), (12, .iconst 1, 1, 0, 0, .int 1, []), (13, .bipush 99, 2, 0, 0, .int 99, []), (15, .invokevirtual 362, 3, 212, 4, .int 0, []), (18, .ireturn, 1, 0, 0, .null, [])]
def cd_M_dutyOf : List (Nat × pE) := [(0, .aload_n 0, 1, 0, 0, .null, []), (1, .iload_n 1, 1, 0, 0, .null, []), (2, .iload_n 2, 1, 0, 0, .null, []), (3, .iload_n 3, 1, 0, 0, .null, []), (4, .iload 4, 2, 0, 0, .null, []), (6, .iload 5, 2, 0, 0, .null, []), (8, .invokevirtual 358, 3, 211, 6, .retAddr 0, []), (11, .aload_n 0, 1, 0, 0, .null, []), (12, .iconst 1, 1, 0, 0, .int 1, []), (13, .aload_n 0, 1, 0, 0, .null, []), (14, .getfield 52, 3, 12, 25, .null, []), (17, .bipush 7, 2, 0, 0, .int 7, []), (19, .aload_n 0, 1, 0, 0, .null, []), (20, .getfield 248, 3, 12, 18, .int 0, []), (23, .imul, 1, 0, 0, .null, []), (24, .iload_n 3, 1, 0, 0, .null, []), (25, .iadd, 1, 0, 0, .null, []), (26, .iaload, 1, 0, 0, .null, []), (27, .iload 4, 2, 0, 0, .null, []), (29, .imul, 1, 0, 0, .null, []), (30, .sipush 999, 3, 0, 0, .int 999, []), (33, .invokevirtual 362, 3, 212, 4, .int 0, []), (36, .ireturn, 1, 0, 0, .null, [])]
def cd_M_ownDuty : List (Nat × pE) := [(0, .aload_n 0, 1, 0, 0, .null, []), (1, .getfield 140, 3, 12, 58, .null, []), (4, .bipush 12, 2, 0, 0, .int 12, []), (6, .iload_n 1, 1, 0, 0, .null, []), (7, .iadd, 1, 0, 0, .null, []), (8, .iaload, 1, 0, 0, .null, []), (9, .ifCond .ge 7, 3, 16, 0, .null, []), (12, .iconst 0, 1, 0, 0, .int 0, []), (13, .goto 44, 3, 57, 0, .null, []), (16, .aload_n 0, 1, 0, 0, .null, []), (17, .iload_n 1, 1, 0, 0, .null, []), (18, .aload_n 0, 1, 0, 0, .null, []), (19, .getfield 140, 3, 12, 58, .null, []), (22, .bipush 6, 2, 0, 0, .int 6, []), (24, .iload_n 1, 1, 0, 0, .null, []), (25, .iadd, 1, 0, 0, .null, []), (26, .iaload, 1, 0, 0, .null, []), (27, .aload_n 0, 1, 0, 0, .null, []), (28, .getfield 140, 3, 12, 58, .null, []), (31, .bipush 12, 2, 0, 0, .int 12, []), (33, .iload_n 1, 1, 0, 0, .null, []), (34, .iadd, 1, 0, 0, .null, []), (35, .iaload, 1, 0, 0, .null, []), (36, .aload_n 0, 1, 0, 0, .null, []), (37, .getfield 140, 3, 12, 58, .null, []), (40, .bipush 18, 2, 0, 0, .int 18, []), (42, .iload_n 1, 1, 0, 0, .null, []), (43, .iadd, 1, 0, 0, .null, []), (44, .iaload, 1, 0, 0, .null, []), (45, .aload_n 0, 1, 0, 0, .null, []), (46, .getfield 140, 3, 12, 58, .null, []), (49, .bipush 24, 2, 0, 0, .int 24, []), (51, .iload_n 1, 1, 0, 0, .null, []), (52, .iadd, 1, 0, 0, .null, []), (53, .iaload, 1, 0, 0, .null, []), (54, .invokevirtual 365, 3, 214, 6, .int 0, []), (57, .ireturn, 1, 0, 0, .null, [])]
def cd_M_owesNow : List (Nat × pE) := [(0, .aload_n 0, 1, 0, 0, .null, []), (1, .iload_n 1, 1, 0, 0, .null, []), (2, .invokevirtual 369, 3, 215, 2, .int 0, []), (5, .istore_n 2, 1, 0, 0, .null, []), (6, .aload_n 0, 1, 0, 0, .null, []), (7, .getfield 82, 3, 12, 35, .null, []), (10, .bipush 6, 2, 0, 0, .int 6, []), (12, .aload_n 0, 1, 0, 0, .null, []), (13, .getfield 248, 3, 12, 18, .int 0, []), (16, .imul, 1, 0, 0, .null, []), (17, .iload_n 1, 1, 0, 0, .null, []), (18, .iadd, 1, 0, 0, .null, []), (19, .iaload, 1, 0, 0, .null, []), (20, .istore_n 3, 1, 0, 0, .null, []), (21, .iload_n 3, 1, 0, 0, .null, []), (22, .ifCond .lt 27, 3, 49, 0, .null, []), (25, .aload_n 0, 1, 0, 0, .null, []), (26, .getfield 140, 3, 12, 58, .null, []), (29, .bipush 12, 2, 0, 0, .int 12, []), (31, .iload_n 1, 1, 0, 0, .null, []), (32, .iadd, 1, 0, 0, .null, []), (33, .iaload, 1, 0, 0, .null, []), (34, .ifCond .lt 15, 3, 49, 0, .null, []), (37, .aload_n 0, 1, 0, 0, .null, []), (38, .getfield 140, 3, 12, 58, .null, []), (41, .bipush 12, 2, 0, 0, .int 12, []), (43, .iload_n 3, 1, 0, 0, .null, []), (44, .iadd, 1, 0, 0, .null, []), (45, .iaload, 1, 0, 0, .null, []), (46, .ifCond .ge 5, 3, 51, 0, .null, []), (49, .iload_n 2, 1, 0, 0, .null, []), (50, .ireturn, 1, 0, 0, .null, []), (51, .aload_n 0, 1, 0, 0, .null, []), (52, .iload_n 3, 1, 0, 0, .null, []), (53, .invokevirtual 369, 3, 215, 2, .int 0, []), (56, .istore 4, 2, 0, 0, .null, []), (58, .iload 4, 2, 0, 0, .null, []), (60, .iload_n 2, 1, 0, 0, .null, []), (61, .if_icmp .gt 14, 3, 75, 0, .null, []), (64, .iload 4, 2, 0, 0, .null, []), (66, .iload_n 2, 1, 0, 0, .null, []), (67, .if_icmp .ne 12, 3, 79, 0, .null, []), (70, .iload_n 3, 1, 0, 0, .null, []), (71, .iload_n 1, 1, 0, 0, .null, []), (72, .if_icmp .ge 7, 3, 79, 0, .null, []), (75, .iconst 0, 1, 0, 0, .int 0, []), (76, .goto 4, 3, 80, 0, .null, []), (79, .iload_n 2, 1, 0, 0, .null, []), (80, .ireturn, 1, 0, 0, .null, [])]
def cd_M_showsNow : List (Nat × pE) := [(0, .aload_n 0, 1, 0, 0, .null, []), (1, .iload_n 1, 1, 0, 0, .null, []), (2, .aload_n 0, 1, 0, 0, .null, []), (3, .getfield 140, 3, 12, 58, .null, []), (6, .bipush 6, 2, 0, 0, .int 6, []), (8, .iload_n 1, 1, 0, 0, .null, []), (9, .iadd, 1, 0, 0, .null, []), (10, .iaload, 1, 0, 0, .null, []), (11, .aload_n 0, 1, 0, 0, .null, []), (12, .getfield 140, 3, 12, 58, .null, []), (15, .bipush 12, 2, 0, 0, .int 12, []), (17, .iload_n 1, 1, 0, 0, .null, []), (18, .iadd, 1, 0, 0, .null, []), (19, .iaload, 1, 0, 0, .null, []), (20, .aload_n 0, 1, 0, 0, .null, []), (21, .getfield 140, 3, 12, 58, .null, []), (24, .bipush 18, 2, 0, 0, .int 18, []), (26, .iload_n 1, 1, 0, 0, .null, []), (27, .iadd, 1, 0, 0, .null, []), (28, .iaload, 1, 0, 0, .null, []), (29, .aload_n 0, 1, 0, 0, .null, []), (30, .getfield 140, 3, 12, 58, .null, []), (33, .bipush 24, 2, 0, 0, .int 24, []), (35, .iload_n 1, 1, 0, 0, .null, []), (36, .iadd, 1, 0, 0, .null, []), (37, .iaload, 1, 0, 0, .null, []), (38, .invokevirtual 358, 3, 211, 6, .retAddr 0, []), (41, .aload_n 0, 1, 0, 0, .null, []), (42, .iconst 2, 1, 0, 0, .int 2, []), (43, .bipush 50, 2, 0, 0, .int 50, []), (45, .bipush 100, 2, 0, 0, .int 100, []), (47, .invokevirtual 362, 3, 212, 4, .int 0, []), (50, .ireturn, 1, 0, 0, .null, [])]
def cd_M_losesDream : List (Nat × pE) := [(0, .aload_n 0, 1, 0, 0, .null, []), (1, .getfield 140, 3, 12, 58, .null, []), (4, .bipush 12, 2, 0, 0, .int 12, []), (6, .iload_n 1, 1, 0, 0, .null, []), (7, .iadd, 1, 0, 0, .null, []), (8, .bipush (-2), 2, 0, 0, .int (-2), []), (10, .iastore, 1, 0, 0, .null, []), (11, .aload_n 0, 1, 0, 0, .null, []), (12, .getfield 140, 3, 12, 58, .null, []), (15, .bipush 18, 2, 0, 0, .int 18, []), (17, .iload_n 1, 1, 0, 0, .null, []), (18, .iadd, 1, 0, 0, .null, []), (19, .iconst 0, 1, 0, 0, .int 0, []), (20, .iastore, 1, 0, 0, .null, []), (21, .aload_n 0, 1, 0, 0, .null, []), (22, .getfield 140, 3, 12, 58, .null, []), (25, .bipush 24, 2, 0, 0, .int 24, []), (27, .iload_n 1, 1, 0, 0, .null, []), (28, .iadd, 1, 0, 0, .null, []), (29, .iconst 0, 1, 0, 0, .int 0, []), (30, .iastore, 1, 0, 0, .null, []), (31, .return_, 1, 0, 0, .null, [])]
def cd_M_sleeps : List (Nat × pE) := [(0, .aload_n 0, 1, 0, 0, .null, []), (1, .getfield 140, 3, 12, 58, .null, []), (4, .bipush 6, 2, 0, 0, .int 6, []), (6, .iload_n 1, 1, 0, 0, .null, []), (7, .iadd, 1, 0, 0, .null, []), (8, .iaload, 1, 0, 0, .null, []), (9, .istore_n 2, 1, 0, 0, .null, []), (10, .aload_n 0, 1, 0, 0, .null, []), (11, .getfield 140, 3, 12, 58, .null, []), (14, .iload_n 1, 1, 0, 0, .null, []), (15, .dup2, 1, 0, 0, .null, []), (16, .iaload, 1, 0, 0, .null, []), (17, .aload_n 0, 1, 0, 0, .null, []), (18, .getfield 58, 3, 12, 27, .null, []), (21, .iconst 5, 1, 0, 0, .int 5, []), (22, .aload_n 0, 1, 0, 0, .null, []), (23, .getfield 248, 3, 12, 18, .int 0, []), (26, .imul, 1, 0, 0, .null, []), (27, .iload_n 2, 1, 0, 0, .null, []), (28, .iadd, 1, 0, 0, .null, []), (29, .iaload, 1, 0, 0, .null, []), (30, .isub, 1, 0, 0, .null, []), (31, .iastore, 1, 0, 0, .null, []), (32, .aload_n 0, 1, 0, 0, .null, []), (33, .getfield 140, 3, 12, 58, .null, []), (36, .bipush 60, 2, 0, 0, .int 60, []), (38, .dup2, 1, 0, 0, .null, []), (39, .iaload, 1, 0, 0, .null, []), (40, .aload_n 0, 1, 0, 0, .null, []), (41, .getfield 58, 3, 12, 27, .null, []), (44, .iconst 5, 1, 0, 0, .int 5, []), (45, .aload_n 0, 1, 0, 0, .null, []), (46, .getfield 248, 3, 12, 18, .int 0, []), (49, .imul, 1, 0, 0, .null, []), (50, .iload_n 2, 1, 0, 0, .null, []), (51, .iadd, 1, 0, 0, .null, []), (52, .iaload, 1, 0, 0, .null, []), (53, .iadd, 1, 0, 0, .null, []), (54, .iastore, 1, 0, 0, .null, []), (55, .aload_n 0, 1, 0, 0, .null, []), (56, .iload_n 1, 1, 0, 0, .null, []), (57, .invokevirtual 372, 3, 218, 2, .retAddr 0, []), (60, .aload_n 0, 1, 0, 0, .null, []), (61, .iload_n 2, 1, 0, 0, .null, []), (62, .invokevirtual 375, 3, 208, 2, .int 0, []), (65, .istore_n 3, 1, 0, 0, .null, []), (66, .iload_n 3, 1, 0, 0, .null, []), (67, .ifCond .ne 4, 3, 71, 0, .null, []), (70, .return_, 1, 0, 0, .null, []), (71, .aload_n 0, 1, 0, 0, .null, []), (72, .iload_n 1, 1, 0, 0, .null, []), (73, .iload_n 3, 1, 0, 0, .null, []), (74, .invokevirtual 378, 3, 206, 3, .int 0, []), (77, .istore 4, 2, 0, 0, .null, []), (79, .iconst 0, 1, 0, 0, .int 0, []), (80, .istore 5, 2, 0, 0, .null, []), (82, .aload_n 0, 1, 0, 0, .null, []), (83, .iload_n 2, 1, 0, 0, .null, []), (84, .iconst 0, 1, 0, 0, .int 0, []), (85, .invokevirtual 349, 3, 207, 3, .int 0, []), (88, .istore 6, 2, 0, 0, .null, []), (90, .iload 6, 2, 0, 0, .null, []), (92, .iload 4, 2, 0, 0, .null, []), (94, .if_icmp .gt 21, 3, 115, 0, .null, []), (97, .iinc 5 1, 3, 0, 0, .int 1, []), (100, .iload 6, 2, 0, 0, .null, []), (102, .aload_n 0, 1, 0, 0, .null, []), (103, .iload_n 2, 1, 0, 0, .null, []), (104, .iload 5, 2, 0, 0, .null, []), (106, .invokevirtual 349, 3, 207, 3, .int 0, []), (109, .iadd, 1, 0, 0, .null, []), (110, .istore 6, 2, 0, 0, .null, []), (112, .goto (-22), 3, 90, 0, .null, []), (115, .aload_n 0, 1, 0, 0, .null, []), (116, .iload_n 1, 1, 0, 0, .null, []), (117, .iload_n 2, 1, 0, 0, .null, []), (118, .iload 5, 2, 0, 0, .null, []), (120, .invokevirtual 381, 3, 210, 4, .int 0, []), (123, .ifCond .eq 7, 3, 130, 0, .null, []), (126, .iconst 1, 1, 0, 0, .int 1, []), (127, .goto 4, 3, 131, 0, .null, []), (130, .iconst 0, 1, 0, 0, .int 0, []), (131, .istore 7, 2, 0, 0, .null, []), (133, .aload_n 0, 1, 0, 0, .null, []), (134, .getfield 140, 3, 12, 58, .null, []), (137, .bipush 18, 2, 0, 0, .int 18, []), (139, .iload_n 1, 1, 0, 0, .null, []), (140, .iadd, 1, 0, 0, .null, []), (141, .aload_n 0, 1, 0, 0, .null, []), (142, .iload_n 1, 1, 0, 0, .null, []), (143, .iload_n 2, 1, 0, 0, .null, []), (144, .iload 5, 2, 0, 0, .null, []), (146, .iload 7, 2, 0, 0, .null, []), (148, .invokevirtual 384, 3, 213, 5, .int 0, []), (151, .iastore, 1, 0, 0, .null, []), (152, .aload_n 0, 1, 0, 0, .null, []), (153, .getfield 140, 3, 12, 58, .null, []), (156, .bipush 12, 2, 0, 0, .int 12, []), (158, .iload_n 1, 1, 0, 0, .null, []), (159, .iadd, 1, 0, 0, .null, []), (160, .iload 5, 2, 0, 0, .null, []), (162, .iastore, 1, 0, 0, .null, []), (163, .aload_n 0, 1, 0, 0, .null, []), (164, .getfield 140, 3, 12, 58, .null, []), (167, .bipush 24, 2, 0, 0, .int 24, []), (169, .iload_n 1, 1, 0, 0, .null, []), (170, .iadd, 1, 0, 0, .null, []), (171, .iload 7, 2, 0, 0, .null, []), (173, .iastore, 1, 0, 0, .null, []), (174, .aload_n 0, 1, 0, 0, .null, []), (175, .getfield 140, 3, 12, 58, .null, []), (178, .bipush 48, 2, 0, 0, .int 48, []), (180, .iload_n 2, 1, 0, 0, .null, []), (181, .iadd, 1, 0, 0, .null, []), (182, .iload 5, 2, 0, 0, .null, []), (184, .iastore, 1, 0, 0, .null, []), (185, .aload_n 0, 1, 0, 0, .null, []), (186, .getfield 140, 3, 12, 58, .null, []), (189, .bipush 53, 2, 0, 0, .int 53, []), (191, .iload_n 2, 1, 0, 0, .null, []), (192, .iadd, 1, 0, 0, .null, []), (193, .iload_n 1, 1, 0, 0, .null, []), (194, .iastore, 1, 0, 0, .null, []), (195, .return_, 1, 0, 0, .null, [])]
def cd_M_nightGoes : List (Nat × pE) := [(0, .iconst 0, 1, 0, 0, .int 0, []), (1, .istore_n 1, 1, 0, 0, .null, []), (2, .iload_n 1, 1, 0, 0, .null, []), (3, .aload_n 0, 1, 0, 0, .null, []), (4, .getfield 70, 3, 12, 31, .null, []), (7, .aload_n 0, 1, 0, 0, .null, []), (8, .getfield 248, 3, 12, 18, .int 0, []), (11, .iaload, 1, 0, 0, .null, []), (12, .if_icmp .ge 26, 3, 38, 0, .null, []), (15, .aload_n 0, 1, 0, 0, .null, []), (16, .getfield 140, 3, 12, 58, .null, []), (19, .bipush 6, 2, 0, 0, .int 6, []), (21, .iload_n 1, 1, 0, 0, .null, []), (22, .iadd, 1, 0, 0, .null, []), (23, .iaload, 1, 0, 0, .null, []), (24, .ifCond .lt 8, 3, 32, 0, .null, []), (27, .aload_n 0, 1, 0, 0, .null, []), (28, .iload_n 1, 1, 0, 0, .null, []), (29, .invokevirtual 388, 3, 219, 2, .retAddr 0, []), (32, .iinc 1 1, 3, 0, 0, .int 1, []), (35, .goto (-33), 3, 2, 0, .null, []), (38, .aload_n 0, 1, 0, 0, .null, []), (39, .getfield 140, 3, 12, 58, .null, []), (42, .bipush 58, 2, 0, 0, .int 58, []), (44, .dup2, 1, 0, 0, .null, []), (45, .iaload, 1, 0, 0, .null, []), (46, .iconst 1, 1, 0, 0, .int 1, []), (47, .iadd, 1, 0, 0, .null, []), (48, .iastore, 1, 0, 0, .null, []), (49, .return_, 1, 0, 0, .null, [])]
def cd_M_paysIn : List (Nat × pE) := [(0, .aload_n 0, 1, 0, 0, .null, []), (1, .iload_n 1, 1, 0, 0, .null, []), (2, .invokevirtual 391, 3, 216, 2, .int 0, []), (5, .istore_n 2, 1, 0, 0, .null, []), (6, .aload_n 0, 1, 0, 0, .null, []), (7, .bipush 16, 2, 0, 0, .int 16, []), (9, .iload_n 1, 1, 0, 0, .null, []), (10, .iadd, 1, 0, 0, .null, []), (11, .bipush 100, 2, 0, 0, .int 100, []), (13, .invokevirtual 378, 3, 206, 3, .int 0, []), (16, .aload_n 0, 1, 0, 0, .null, []), (17, .getfield 76, 3, 12, 33, .null, []), (20, .bipush 6, 2, 0, 0, .int 6, []), (22, .aload_n 0, 1, 0, 0, .null, []), (23, .getfield 248, 3, 12, 18, .int 0, []), (26, .imul, 1, 0, 0, .null, []), (27, .iload_n 1, 1, 0, 0, .null, []), (28, .iadd, 1, 0, 0, .null, []), (29, .iaload, 1, 0, 0, .null, []), (30, .if_icmp .ge 18, 3, 48, 0, .null, []), (33, .aload_n 0, 1, 0, 0, .null, []), (34, .getfield 140, 3, 12, 58, .null, []), (37, .bipush 36, 2, 0, 0, .int 36, []), (39, .iload_n 1, 1, 0, 0, .null, []), (40, .iadd, 1, 0, 0, .null, []), (41, .dup2, 1, 0, 0, .null, []), (42, .iaload, 1, 0, 0, .null, []), (43, .iconst 1, 1, 0, 0, .int 1, []), (44, .iadd, 1, 0, 0, .null, []), (45, .iastore, 1, 0, 0, .null, []), (46, .iload_n 2, 1, 0, 0, .null, []), (47, .ireturn, 1, 0, 0, .null, []), (48, .aload_n 0, 1, 0, 0, .null, []), (49, .bipush 32, 2, 0, 0, .int 32, []), (51, .iload_n 1, 1, 0, 0, .null, []), (52, .iadd, 1, 0, 0, .null, []), (53, .bipush 100, 2, 0, 0, .int 100, []), (55, .invokevirtual 378, 3, 206, 3, .int 0, []), (58, .aload_n 0, 1, 0, 0, .null, []), (59, .iload_n 1, 1, 0, 0, .null, []), (60, .invokevirtual 394, 3, 217, 2, .int 0, []), (63, .if_icmp .lt 5, 3, 68, 0, .null, []), (66, .iconst 0, 1, 0, 0, .int 0, []), (67, .ireturn, 1, 0, 0, .null, []), (68, .aload_n 0, 1, 0, 0, .null, []), (69, .getfield 140, 3, 12, 58, .null, []), (72, .bipush 42, 2, 0, 0, .int 42, []), (74, .iload_n 1, 1, 0, 0, .null, []), (75, .iadd, 1, 0, 0, .null, []), (76, .dup2, 1, 0, 0, .null, []), (77, .iaload, 1, 0, 0, .null, []), (78, .iconst 1, 1, 0, 0, .int 1, []), (79, .iadd, 1, 0, 0, .null, []), (80, .iastore, 1, 0, 0, .null, []), (81, .aload_n 0, 1, 0, 0, .null, []), (82, .getfield 94, 3, 12, 39, .null, []), (85, .aload_n 0, 1, 0, 0, .null, []), (86, .getfield 248, 3, 12, 18, .int 0, []), (89, .iaload, 1, 0, 0, .null, []), (90, .iload_n 2, 1, 0, 0, .null, []), (91, .imul, 1, 0, 0, .null, []), (92, .ireturn, 1, 0, 0, .null, [])]
def cd_M_morningGoes : List (Nat × pE) := [(0, .iconst 0, 1, 0, 0, .int 0, []), (1, .istore_n 1, 1, 0, 0, .null, []), (2, .iconst 0, 1, 0, 0, .int 0, []), (3, .istore_n 2, 1, 0, 0, .null, []), (4, .iload_n 2, 1, 0, 0, .null, []), (5, .aload_n 0, 1, 0, 0, .null, []), (6, .getfield 70, 3, 12, 31, .null, []), (9, .aload_n 0, 1, 0, 0, .null, []), (10, .getfield 248, 3, 12, 18, .int 0, []), (13, .iaload, 1, 0, 0, .null, []), (14, .if_icmp .ge 45, 3, 59, 0, .null, []), (17, .aload_n 0, 1, 0, 0, .null, []), (18, .getfield 143, 3, 12, 60, .null, []), (21, .iload_n 2, 1, 0, 0, .null, []), (22, .aload_n 0, 1, 0, 0, .null, []), (23, .getfield 140, 3, 12, 58, .null, []), (26, .bipush 12, 2, 0, 0, .int 12, []), (28, .iload_n 2, 1, 0, 0, .null, []), (29, .iadd, 1, 0, 0, .null, []), (30, .iaload, 1, 0, 0, .null, []), (31, .ifCond .ge 7, 3, 38, 0, .null, []), (34, .iconst 0, 1, 0, 0, .int 0, []), (35, .goto 8, 3, 43, 0, .null, []), (38, .aload_n 0, 1, 0, 0, .null, []), (39, .iload_n 2, 1, 0, 0, .null, []), (40, .invokevirtual 397, 3, 221, 2, .int 0, []), (43, .iastore, 1, 0, 0, .null, []), (44, .iload_n 1, 1, 0, 0, .null, []), (45, .aload_n 0, 1, 0, 0, .null, []), (46, .getfield 143, 3, 12, 60, .null, []), (49, .iload_n 2, 1, 0, 0, .null, []), (50, .iaload, 1, 0, 0, .null, []), (51, .iadd, 1, 0, 0, .null, []), (52, .istore_n 1, 1, 0, 0, .null, []), (53, .iinc 2 1, 3, 0, 0, .int 1, []), (56, .goto (-52), 3, 4, 0, .null, []), (59, .iconst 0, 1, 0, 0, .int 0, []), (60, .istore_n 2, 1, 0, 0, .null, []), (61, .iload_n 2, 1, 0, 0, .null, []), (62, .aload_n 0, 1, 0, 0, .null, []), (63, .getfield 70, 3, 12, 31, .null, []), (66, .aload_n 0, 1, 0, 0, .null, []), (67, .getfield 248, 3, 12, 18, .int 0, []), (70, .iaload, 1, 0, 0, .null, []), (71, .if_icmp .ge 29, 3, 100, 0, .null, []), (74, .aload_n 0, 1, 0, 0, .null, []), (75, .getfield 140, 3, 12, 58, .null, []), (78, .iload_n 2, 1, 0, 0, .null, []), (79, .dup2, 1, 0, 0, .null, []), (80, .iaload, 1, 0, 0, .null, []), (81, .aload_n 0, 1, 0, 0, .null, []), (82, .getfield 143, 3, 12, 60, .null, []), (85, .iload_n 2, 1, 0, 0, .null, []), (86, .iaload, 1, 0, 0, .null, []), (87, .isub, 1, 0, 0, .null, []), (88, .iastore, 1, 0, 0, .null, []), (89, .aload_n 0, 1, 0, 0, .null, []), (90, .iload_n 2, 1, 0, 0, .null, []), (91, .invokevirtual 372, 3, 218, 2, .retAddr 0, []), (94, .iinc 2 1, 3, 0, 0, .int 1, []), (97, .goto (-36), 3, 61, 0, .null, []), (100, .aload_n 0, 1, 0, 0, .null, []), (101, .getfield 140, 3, 12, 58, .null, []), (104, .bipush 59, 2, 0, 0, .int 59, []), (106, .dup2, 1, 0, 0, .null, []), (107, .iaload, 1, 0, 0, .null, []), (108, .iload_n 1, 1, 0, 0, .null, []), (109, .iadd, 1, 0, 0, .null, []), (110, .iastore, 1, 0, 0, .null, []), (111, .iload_n 1, 1, 0, 0, .null, []), (112, .ireturn, 1, 0, 0, .null, [])]
def cd_M_withDreams : List (Nat × pE) := [(0, .iconst 0, 1, 0, 0, .int 0, []), (1, .istore_n 1, 1, 0, 0, .null, []), (2, .iconst 0, 1, 0, 0, .int 0, []), (3, .istore_n 2, 1, 0, 0, .null, []), (4, .iload_n 2, 1, 0, 0, .null, []), (5, .aload_n 0, 1, 0, 0, .null, []), (6, .getfield 70, 3, 12, 31, .null, []), (9, .aload_n 0, 1, 0, 0, .null, []), (10, .getfield 248, 3, 12, 18, .int 0, []), (13, .iaload, 1, 0, 0, .null, []), (14, .if_icmp .ge 27, 3, 41, 0, .null, []), (17, .aload_n 0, 1, 0, 0, .null, []), (18, .getfield 140, 3, 12, 58, .null, []), (21, .bipush 12, 2, 0, 0, .int 12, []), (23, .iload_n 2, 1, 0, 0, .null, []), (24, .iadd, 1, 0, 0, .null, []), (25, .iaload, 1, 0, 0, .null, []), (26, .ifCond .lt 9, 3, 35, 0, .null, []), (29, .iload_n 1, 1, 0, 0, .null, []), (30, .iconst 1, 1, 0, 0, .int 1, []), (31, .iload_n 2, 1, 0, 0, .null, []), (32, .ishl, 1, 0, 0, .null, []), (33, .ior, 1, 0, 0, .null, []), (34, .istore_n 1, 1, 0, 0, .null, []), (35, .iinc 2 1, 3, 0, 0, .int 1, []), (38, .goto (-34), 3, 4, 0, .null, []), (41, .iload_n 1, 1, 0, 0, .null, []), (42, .ireturn, 1, 0, 0, .null, [])]
def cd_M_lodgedAt : List (Nat × pE) := [(0, .iconst 0, 1, 0, 0, .int 0, []), (1, .istore_n 2, 1, 0, 0, .null, []), (2, .iconst 0, 1, 0, 0, .int 0, []), (3, .istore_n 3, 1, 0, 0, .null, []), (4, .iload_n 3, 1, 0, 0, .null, []), (5, .aload_n 0, 1, 0, 0, .null, []), (6, .getfield 70, 3, 12, 31, .null, []), (9, .aload_n 0, 1, 0, 0, .null, []), (10, .getfield 248, 3, 12, 18, .int 0, []), (13, .iaload, 1, 0, 0, .null, []), (14, .if_icmp .ge 28, 3, 42, 0, .null, []), (17, .aload_n 0, 1, 0, 0, .null, []), (18, .getfield 140, 3, 12, 58, .null, []), (21, .bipush 6, 2, 0, 0, .int 6, []), (23, .iload_n 3, 1, 0, 0, .null, []), (24, .iadd, 1, 0, 0, .null, []), (25, .iaload, 1, 0, 0, .null, []), (26, .iload_n 1, 1, 0, 0, .null, []), (27, .if_icmp .ne 9, 3, 36, 0, .null, []), (30, .iload_n 2, 1, 0, 0, .null, []), (31, .iconst 1, 1, 0, 0, .int 1, []), (32, .iload_n 3, 1, 0, 0, .null, []), (33, .ishl, 1, 0, 0, .null, []), (34, .ior, 1, 0, 0, .null, []), (35, .istore_n 2, 1, 0, 0, .null, []), (36, .iinc 3 1, 3, 0, 0, .int 1, []), (39, .goto (-35), 3, 4, 0, .null, []), (42, .iload_n 2, 1, 0, 0, .null, []), (43, .ireturn, 1, 0, 0, .null, [])]
def cd_M_guest : List (Nat × pE) := [(0, .aload_n 0, 1, 0, 0, .null, []), (1, .iload_n 1, 1, 0, 0, .null, []), (2, .invokevirtual 400, 3, 199, 2, .int 0, []), (5, .ifCond .ne 7, 3, 12, 0, .null, []), (8, .ldc_w 403, 3, 0, 0, .int (-100000), []), (11, .ireturn, 1, 0, 0, .null, []), (12, .aload_n 0, 1, 0, 0, .null, []), (13, .invokevirtual 404, 3, 204, 1, .retAddr 0, []), (16, .iload_n 2, 1, 0, 0, .null, []), (17, .tableswitch 104 0 7 #[47, 47, 47, 59, 86, 92, 92, 92], 47, 121, 0, .null, [(0, 64), (1, 64), (2, 64), (3, 76), (4, 103), (5, 109), (6, 109), (7, 109)]), (64, .aload_n 0, 1, 0, 0, .null, []), (65, .getfield 140, 3, 12, 58, .null, []), (68, .bipush 6, 2, 0, 0, .int 6, []), (70, .iload_n 2, 1, 0, 0, .null, []), (71, .imul, 1, 0, 0, .null, []), (72, .iload_n 1, 1, 0, 0, .null, []), (73, .iadd, 1, 0, 0, .null, []), (74, .iaload, 1, 0, 0, .null, []), (75, .ireturn, 1, 0, 0, .null, []), (76, .aload_n 0, 1, 0, 0, .null, []), (77, .getfield 140, 3, 12, 58, .null, []), (80, .bipush 12, 2, 0, 0, .int 12, []), (82, .iload_n 1, 1, 0, 0, .null, []), (83, .iadd, 1, 0, 0, .null, []), (84, .iaload, 1, 0, 0, .null, []), (85, .ifCond .ge 8, 3, 93, 0, .null, []), (88, .bipush (-2), 2, 0, 0, .int (-2), []), (90, .goto 12, 3, 102, 0, .null, []), (93, .aload_n 0, 1, 0, 0, .null, []), (94, .getfield 140, 3, 12, 58, .null, []), (97, .bipush 18, 2, 0, 0, .int 18, []), (99, .iload_n 1, 1, 0, 0, .null, []), (100, .iadd, 1, 0, 0, .null, []), (101, .iaload, 1, 0, 0, .null, []), (102, .ireturn, 1, 0, 0, .null, []), (103, .aload_n 0, 1, 0, 0, .null, []), (104, .iload_n 1, 1, 0, 0, .null, []), (105, .invokevirtual 391, 3, 216, 2, .int 0, []), (108, .ireturn, 1, 0, 0, .null, []), (109, .aload_n 0, 1, 0, 0, .null, []), (110, .getfield 140, 3, 12, 58, .null, []), (113, .bipush 6, 2, 0, 0, .int 6, []), (115, .iload_n 2, 1, 0, 0, .null, []), (116, .imul, 1, 0, 0, .null, []), (117, .iload_n 1, 1, 0, 0, .null, []), (118, .iadd, 1, 0, 0, .null, []), (119, .iaload, 1, 0, 0, .null, []), (120, .ireturn, 1, 0, 0, .null, []), (121, .ldc_w 403, 3, 0, 0, .int (-100000), []), (124, .ireturn, 1, 0, 0, .null, [])]
def cd_M_inn : List (Nat × pE) := [(0, .aload_n 0, 1, 0, 0, .null, []), (1, .iload_n 1, 1, 0, 0, .null, []), (2, .invokevirtual 407, 3, 200, 2, .int 0, []), (5, .ifCond .ne 5, 3, 10, 0, .null, []), (8, .iconst (-1), 1, 0, 0, .int (-1), []), (9, .ireturn, 1, 0, 0, .null, []), (10, .aload_n 0, 1, 0, 0, .null, []), (11, .invokevirtual 404, 3, 204, 1, .retAddr 0, []), (14, .iload_n 2, 1, 0, 0, .null, []), (15, .tableswitch 88 0 4 #[33, 39, 62, 72, 82], 33, 103, 0, .null, [(0, 48), (1, 54), (2, 77), (3, 87), (4, 97)]), (48, .aload_n 0, 1, 0, 0, .null, []), (49, .iload_n 1, 1, 0, 0, .null, []), (50, .invokevirtual 410, 3, 224, 2, .int 0, []), (53, .ireturn, 1, 0, 0, .null, []), (54, .aload_n 0, 1, 0, 0, .null, []), (55, .getfield 61, 3, 12, 28, .null, []), (58, .iconst 5, 1, 0, 0, .int 5, []), (59, .aload_n 0, 1, 0, 0, .null, []), (60, .getfield 248, 3, 12, 18, .int 0, []), (63, .imul, 1, 0, 0, .null, []), (64, .iload_n 1, 1, 0, 0, .null, []), (65, .iadd, 1, 0, 0, .null, []), (66, .iaload, 1, 0, 0, .null, []), (67, .aload_n 0, 1, 0, 0, .null, []), (68, .iload_n 1, 1, 0, 0, .null, []), (69, .invokevirtual 410, 3, 224, 2, .int 0, []), (72, .invokestatic 413, 3, 198, 1, .int 0, []), (75, .isub, 1, 0, 0, .null, []), (76, .ireturn, 1, 0, 0, .null, []), (77, .aload_n 0, 1, 0, 0, .null, []), (78, .getfield 140, 3, 12, 58, .null, []), (81, .bipush 48, 2, 0, 0, .int 48, []), (83, .iload_n 1, 1, 0, 0, .null, []), (84, .iadd, 1, 0, 0, .null, []), (85, .iaload, 1, 0, 0, .null, []), (86, .ireturn, 1, 0, 0, .null, []), (87, .aload_n 0, 1, 0, 0, .null, []), (88, .getfield 140, 3, 12, 58, .null, []), (91, .bipush 53, 2, 0, 0, .int 53, []), (93, .iload_n 1, 1, 0, 0, .null, []), (94, .iadd, 1, 0, 0, .null, []), (95, .iaload, 1, 0, 0, .null, []), (96, .ireturn, 1, 0, 0, .null, []), (97, .aload_n 0, 1, 0, 0, .null, []), (98, .iload_n 1, 1, 0, 0, .null, []), (99, .invokevirtual 375, 3, 208, 2, .int 0, []), (102, .ireturn, 1, 0, 0, .null, []), (103, .iconst (-1), 1, 0, 0, .int (-1), []), (104, .ireturn, 1, 0, 0, .null, [])]
def cd_M_gives : List (Nat × pE) := [(0, .aload_n 0, 1, 0, 0, .null, []), (1, .iload_n 1, 1, 0, 0, .null, []), (2, .invokevirtual 407, 3, 200, 2, .int 0, []), (5, .ifCond .eq 20, 3, 25, 0, .null, []), (8, .aload_n 0, 1, 0, 0, .null, []), (9, .iload_n 2, 1, 0, 0, .null, []), (10, .invokevirtual 416, 3, 201, 2, .int 0, []), (13, .ifCond .eq 12, 3, 25, 0, .null, []), (16, .aload_n 0, 1, 0, 0, .null, []), (17, .iload_n 1, 1, 0, 0, .null, []), (18, .iload_n 2, 1, 0, 0, .null, []), (19, .invokevirtual 349, 3, 207, 3, .int 0, []), (22, .goto 4, 3, 26, 0, .null, []), (25, .iconst (-1), 1, 0, 0, .int (-1), []), (26, .ireturn, 1, 0, 0, .null, [])]
def cd_M_keeps : List (Nat × pE) := [(0, .aload_n 0, 1, 0, 0, .null, []), (1, .getfield 266, 3, 12, 61, .int 0, []), (4, .bipush 40, 2, 0, 0, .int 40, []), (6, .if_icmp .ne 44, 3, 50, 0, .null, []), (9, .iconst 0, 1, 0, 0, .int 0, []), (10, .istore_n 1, 1, 0, 0, .null, []), (11, .iload_n 1, 1, 0, 0, .null, []), (12, .sipush 5928, 3, 0, 0, .int 5928, []), (15, .if_icmp .ge 25, 3, 40, 0, .null, []), (18, .aload_n 0, 1, 0, 0, .null, []), (19, .getfield 146, 3, 12, 62, .null, []), (22, .iload_n 1, 1, 0, 0, .null, []), (23, .aload_n 0, 1, 0, 0, .null, []), (24, .getfield 146, 3, 12, 62, .null, []), (27, .iload_n 1, 1, 0, 0, .null, []), (28, .sipush 152, 3, 0, 0, .int 152, []), (31, .iadd, 1, 0, 0, .null, []), (32, .iaload, 1, 0, 0, .null, []), (33, .iastore, 1, 0, 0, .null, []), (34, .iinc 1 1, 3, 0, 0, .int 1, []), (37, .goto (-26), 3, 11, 0, .null, []), (40, .aload_n 0, 1, 0, 0, .null, []), (41, .dup, 1, 0, 0, .null, []), (42, .getfield 266, 3, 12, 61, .int 0, []), (45, .iconst 1, 1, 0, 0, .int 1, []), (46, .isub, 1, 0, 0, .null, []), (47, .putfield 266, 3, 12, 61, .int 0, []), (50, .iconst 0, 1, 0, 0, .int 0, []), (51, .istore_n 1, 1, 0, 0, .null, []), (52, .iload_n 1, 1, 0, 0, .null, []), (53, .sipush 152, 3, 0, 0, .int 152, []), (56, .if_icmp .ge 30, 3, 86, 0, .null, []), (59, .aload_n 0, 1, 0, 0, .null, []), (60, .getfield 146, 3, 12, 62, .null, []), (63, .sipush 152, 3, 0, 0, .int 152, []), (66, .aload_n 0, 1, 0, 0, .null, []), (67, .getfield 266, 3, 12, 61, .int 0, []), (70, .imul, 1, 0, 0, .null, []), (71, .iload_n 1, 1, 0, 0, .null, []), (72, .iadd, 1, 0, 0, .null, []), (73, .aload_n 0, 1, 0, 0, .null, []), (74, .getfield 137, 3, 12, 57, .null, []), (77, .iload_n 1, 1, 0, 0, .null, []), (78, .iaload, 1, 0, 0, .null, []), (79, .iastore, 1, 0, 0, .null, []), (80, .iinc 1 1, 3, 0, 0, .int 1, []), (83, .goto (-31), 3, 52, 0, .null, []), (86, .aload_n 0, 1, 0, 0, .null, []), (87, .dup, 1, 0, 0, .null, []), (88, .getfield 266, 3, 12, 61, .int 0, []), (91, .iconst 1, 1, 0, 0, .int 1, []), (92, .iadd, 1, 0, 0, .null, []), (93, .putfield 266, 3, 12, 61, .int 0, []), (96, .aload_n 0, 1, 0, 0, .null, []), (97, .invokevirtual 178, 3, 203, 1, .retAddr 0, []), (100, .return_, 1, 0, 0, .null, [])]
def cd_M_lodge : List (Nat × pE) := [(0, .aload_n 0, 1, 0, 0, .null, []), (1, .iload_n 1, 1, 0, 0, .null, []), (2, .invokevirtual 400, 3, 199, 2, .int 0, []), (5, .ifCond .eq 16, 3, 21, 0, .null, []), (8, .iload_n 2, 1, 0, 0, .null, []), (9, .iconst (-1), 1, 0, 0, .int (-1), []), (10, .if_icmp .eq 13, 3, 23, 0, .null, []), (13, .aload_n 0, 1, 0, 0, .null, []), (14, .iload_n 2, 1, 0, 0, .null, []), (15, .invokevirtual 407, 3, 200, 2, .int 0, []), (18, .ifCond .ne 5, 3, 23, 0, .null, []), (21, .iconst 0, 1, 0, 0, .int 0, []), (22, .ireturn, 1, 1, 0, .null, []), (23, .aload_n 0, 1, 0, 0, .null, []), (24, .invokevirtual 404, 3, 204, 1, .retAddr 0, []), (27, .iload_n 2, 1, 0, 0, .null, []), (28, .iconst (-1), 1, 0, 0, .int (-1), []), (29, .if_icmp .ne 8, 3, 37, 0, .null, []), (32, .bipush (-2), 2, 0, 0, .int (-2), []), (34, .goto 4, 3, 38, 0, .null, []), (37, .iload_n 2, 1, 0, 0, .null, []), (38, .istore_n 3, 1, 0, 0, .null, []), (39, .aload_n 0, 1, 0, 0, .null, []), (40, .getfield 140, 3, 12, 58, .null, []), (43, .bipush 6, 2, 0, 0, .int 6, []), (45, .iload_n 1, 1, 0, 0, .null, []), (46, .iadd, 1, 0, 0, .null, []), (47, .iaload, 1, 0, 0, .null, []), (48, .iload_n 3, 1, 0, 0, .null, []), (49, .if_icmp .eq 31, 3, 80, 0, .null, []), (52, .iload_n 2, 1, 0, 0, .null, []), (53, .ifCond .lt 29, 3, 82, 0, .null, []), (56, .aload_n 0, 1, 0, 0, .null, []), (57, .iload_n 2, 1, 0, 0, .null, []), (58, .invokevirtual 410, 3, 224, 2, .int 0, []), (61, .invokestatic 413, 3, 198, 1, .int 0, []), (64, .aload_n 0, 1, 0, 0, .null, []), (65, .getfield 61, 3, 12, 28, .null, []), (68, .iconst 5, 1, 0, 0, .int 5, []), (69, .aload_n 0, 1, 0, 0, .null, []), (70, .getfield 248, 3, 12, 18, .int 0, []), (73, .imul, 1, 0, 0, .null, []), (74, .iload_n 2, 1, 0, 0, .null, []), (75, .iadd, 1, 0, 0, .null, []), (76, .iaload, 1, 0, 0, .null, []), (77, .if_icmp .lt 5, 3, 82, 0, .null, []), (80, .iconst 0, 1, 0, 0, .int 0, []), (81, .ireturn, 1, 1, 0, .null, []), (82, .aload_n 0, 1, 0, 0, .null, []), (83, .getfield 140, 3, 12, 58, .null, []), (86, .bipush 6, 2, 0, 0, .int 6, []), (88, .iload_n 1, 1, 0, 0, .null, []), (89, .iadd, 1, 0, 0, .null, []), (90, .iload_n 3, 1, 0, 0, .null, []), (91, .iastore, 1, 0, 0, .null, []), (92, .aload_n 0, 1, 0, 0, .null, []), (93, .invokevirtual 419, 3, 228, 1, .retAddr 0, []), (96, .iconst 1, 1, 0, 0, .int 1, []), (97, .ireturn, 1, 1, 0, .null, [])]
def cd_M_nights : List (Nat × pE) := [(0, .iload_n 1, 1, 0, 0, .null, []), (1, .iconst 0, 1, 0, 0, .int 0, []), (2, .bipush 30, 2, 0, 0, .int 30, []), (4, .invokestatic 338, 3, 197, 3, .int 0, []), (7, .ifCond .ne 5, 3, 12, 0, .null, []), (10, .iconst (-1), 1, 0, 0, .int (-1), []), (11, .ireturn, 1, 0, 0, .null, []), (12, .iload_n 1, 1, 0, 0, .null, []), (13, .ifCond .ne 11, 3, 24, 0, .null, []), (16, .aload_n 0, 1, 0, 0, .null, []), (17, .getfield 137, 3, 12, 57, .null, []), (20, .bipush 58, 2, 0, 0, .int 58, []), (22, .iaload, 1, 0, 0, .null, []), (23, .ireturn, 1, 0, 0, .null, []), (24, .aload_n 0, 1, 0, 0, .null, []), (25, .invokevirtual 404, 3, 204, 1, .retAddr 0, []), (28, .iconst 0, 1, 0, 0, .int 0, []), (29, .istore_n 2, 1, 0, 0, .null, []), (30, .iload_n 2, 1, 0, 0, .null, []), (31, .iload_n 1, 1, 0, 0, .null, []), (32, .if_icmp .ge 13, 3, 45, 0, .null, []), (35, .aload_n 0, 1, 0, 0, .null, []), (36, .invokevirtual 422, 3, 220, 1, .retAddr 0, []), (39, .iinc 2 1, 3, 0, 0, .int 1, []), (42, .goto (-12), 3, 30, 0, .null, []), (45, .aload_n 0, 1, 0, 0, .null, []), (46, .invokevirtual 419, 3, 228, 1, .retAddr 0, []), (49, .aload_n 0, 1, 0, 0, .null, []), (50, .getfield 137, 3, 12, 57, .null, []), (53, .bipush 58, 2, 0, 0, .int 58, []), (55, .iaload, 1, 0, 0, .null, []), (56, .ireturn, 1, 0, 0, .null, [])]
def cd_M_morning : List (Nat × pE) := [(0, .aload_n 0, 1, 0, 0, .null, []), (1, .invokevirtual 404, 3, 204, 1, .retAddr 0, []), (4, .aload_n 0, 1, 0, 0, .null, []), (5, .invokevirtual 425, 3, 223, 1, .int 0, []), (8, .ifCond .ne 6, 3, 14, 0, .null, []), (11, .bipush (-2), 2, 0, 0, .int (-2), []), (13, .ireturn, 1, 0, 0, .null, []), (14, .aload_n 0, 1, 0, 0, .null, []), (15, .invokevirtual 428, 3, 222, 1, .int 0, []), (18, .istore_n 1, 1, 0, 0, .null, []), (19, .aload_n 0, 1, 0, 0, .null, []), (20, .invokevirtual 419, 3, 228, 1, .retAddr 0, []), (23, .iload_n 1, 1, 0, 0, .null, []), (24, .ireturn, 1, 0, 0, .null, [])]
def cd_M_swapsTwo : List (Nat × pE) := [(0, .bipush 12, 2, 0, 0, .int 12, []), (2, .istore_n 3, 1, 0, 0, .null, []), (3, .iload_n 3, 1, 0, 0, .null, []), (4, .bipush 30, 2, 0, 0, .int 30, []), (6, .if_icmp .ge 45, 3, 51, 0, .null, []), (9, .aload_n 0, 1, 0, 0, .null, []), (10, .getfield 140, 3, 12, 58, .null, []), (13, .iload_n 3, 1, 0, 0, .null, []), (14, .iload_n 1, 1, 0, 0, .null, []), (15, .iadd, 1, 0, 0, .null, []), (16, .iaload, 1, 0, 0, .null, []), (17, .istore 4, 2, 0, 0, .null, []), (19, .aload_n 0, 1, 0, 0, .null, []), (20, .getfield 140, 3, 12, 58, .null, []), (23, .iload_n 3, 1, 0, 0, .null, []), (24, .iload_n 1, 1, 0, 0, .null, []), (25, .iadd, 1, 0, 0, .null, []), (26, .aload_n 0, 1, 0, 0, .null, []), (27, .getfield 140, 3, 12, 58, .null, []), (30, .iload_n 3, 1, 0, 0, .null, []), (31, .iload_n 2, 1, 0, 0, .null, []), (32, .iadd, 1, 0, 0, .null, []), (33, .iaload, 1, 0, 0, .null, []), (34, .iastore, 1, 0, 0, .null, []), (35, .aload_n 0, 1, 0, 0, .null, []), (36, .getfield 140, 3, 12, 58, .null, []), (39, .iload_n 3, 1, 0, 0, .null, []), (40, .iload_n 2, 1, 0, 0, .null, []), (41, .iadd, 1, 0, 0, .null, []), (42, .iload 4, 2, 0, 0, .null, []), (44, .iastore, 1, 0, 0, .null, []), (45, .iinc 3 6, 3, 0, 0, .int 6, []), (48, .goto (-45), 3, 3, 0, .null, []), (51, .return_, 1, 0, 0, .null, [])]
def cd_M_swap : List (Nat × pE) := [(0, .aload_n 0, 1, 0, 0, .null, []), (1, .iload_n 1, 1, 0, 0, .null, []), (2, .invokevirtual 400, 3, 199, 2, .int 0, []), (5, .ifCond .eq 16, 3, 21, 0, .null, []), (8, .aload_n 0, 1, 0, 0, .null, []), (9, .iload_n 2, 1, 0, 0, .null, []), (10, .invokevirtual 400, 3, 199, 2, .int 0, []), (13, .ifCond .eq 8, 3, 21, 0, .null, []), (16, .iload_n 1, 1, 0, 0, .null, []), (17, .iload_n 2, 1, 0, 0, .null, []), (18, .if_icmp .ne 5, 3, 23, 0, .null, []), (21, .iconst 0, 1, 0, 0, .int 0, []), (22, .ireturn, 1, 1, 0, .null, []), (23, .aload_n 0, 1, 0, 0, .null, []), (24, .invokevirtual 404, 3, 204, 1, .retAddr 0, []), (27, .aload_n 0, 1, 0, 0, .null, []), (28, .getfield 140, 3, 12, 58, .null, []), (31, .bipush 12, 2, 0, 0, .int 12, []), (33, .iload_n 1, 1, 0, 0, .null, []), (34, .iadd, 1, 0, 0, .null, []), (35, .iaload, 1, 0, 0, .null, []), (36, .ifCond .ge 17, 3, 53, 0, .null, []), (39, .aload_n 0, 1, 0, 0, .null, []), (40, .getfield 140, 3, 12, 58, .null, []), (43, .bipush 12, 2, 0, 0, .int 12, []), (45, .iload_n 2, 1, 0, 0, .null, []), (46, .iadd, 1, 0, 0, .null, []), (47, .iaload, 1, 0, 0, .null, []), (48, .ifCond .ge 5, 3, 53, 0, .null, []), (51, .iconst 0, 1, 0, 0, .int 0, []), (52, .ireturn, 1, 1, 0, .null, []), (53, .aload_n 0, 1, 0, 0, .null, []), (54, .iload_n 1, 1, 0, 0, .null, []), (55, .iload_n 2, 1, 0, 0, .null, []), (56, .invokevirtual 431, 3, 232, 3, .retAddr 0, []), (59, .aload_n 0, 1, 0, 0, .null, []), (60, .invokevirtual 419, 3, 228, 1, .retAddr 0, []), (63, .iconst 1, 1, 0, 0, .int 1, []), (64, .ireturn, 1, 1, 0, .null, [])]
def cd_M_deposit : List (Nat × pE) := [(0, .aload_n 0, 1, 0, 0, .null, []), (1, .iload_n 1, 1, 0, 0, .null, []), (2, .invokevirtual 400, 3, 199, 2, .int 0, []), (5, .ifCond .ne 5, 3, 10, 0, .null, []), (8, .iconst (-1), 1, 0, 0, .int (-1), []), (9, .ireturn, 1, 0, 0, .null, []), (10, .aload_n 0, 1, 0, 0, .null, []), (11, .invokevirtual 404, 3, 204, 1, .retAddr 0, []), (14, .aload_n 0, 1, 0, 0, .null, []), (15, .getfield 140, 3, 12, 58, .null, []), (18, .bipush 30, 2, 0, 0, .int 30, []), (20, .iload_n 1, 1, 0, 0, .null, []), (21, .iadd, 1, 0, 0, .null, []), (22, .iaload, 1, 0, 0, .null, []), (23, .istore_n 3, 1, 0, 0, .null, []), (24, .iload_n 2, 1, 0, 0, .null, []), (25, .ifCond .eq 22, 3, 47, 0, .null, []), (28, .aload_n 0, 1, 0, 0, .null, []), (29, .getfield 140, 3, 12, 58, .null, []), (32, .bipush 12, 2, 0, 0, .int 12, []), (34, .iload_n 1, 1, 0, 0, .null, []), (35, .iadd, 1, 0, 0, .null, []), (36, .iaload, 1, 0, 0, .null, []), (37, .ifCond .ge 27, 3, 64, 0, .null, []), (40, .iload_n 3, 1, 0, 0, .null, []), (41, .ifCond .ne 26, 3, 67, 0, .null, []), (44, .goto 20, 3, 64, 0, .null, []), (47, .aload_n 0, 1, 0, 0, .null, []), (48, .getfield 140, 3, 12, 58, .null, []), (51, .bipush 12, 2, 0, 0, .int 12, []), (53, .iload_n 1, 1, 0, 0, .null, []), (54, .iadd, 1, 0, 0, .null, []), (55, .iaload, 1, 0, 0, .null, []), (56, .ifCond .lt 8, 3, 64, 0, .null, []), (59, .iload_n 3, 1, 0, 0, .null, []), (60, .iconst 5, 1, 0, 0, .int 5, []), (61, .if_icmp .ne 6, 3, 67, 0, .null, []), (64, .bipush (-2), 2, 0, 0, .int (-2), []), (66, .ireturn, 1, 0, 0, .null, []), (67, .bipush 61, 2, 0, 0, .int 61, []), (69, .bipush 15, 2, 0, 0, .int 15, []), (71, .iload_n 1, 1, 0, 0, .null, []), (72, .imul, 1, 0, 0, .null, []), (73, .iadd, 1, 0, 0, .null, []), (74, .iconst 3, 1, 0, 0, .int 3, []), (75, .iload_n 2, 1, 0, 0, .null, []), (76, .ifCond .eq 9, 3, 85, 0, .null, []), (79, .iload_n 3, 1, 0, 0, .null, []), (80, .iconst 1, 1, 0, 0, .int 1, []), (81, .isub, 1, 0, 0, .null, []), (82, .goto 4, 3, 86, 0, .null, []), (85, .iload_n 3, 1, 0, 0, .null, []), (86, .imul, 1, 0, 0, .null, []), (87, .iadd, 1, 0, 0, .null, []), (88, .istore 4, 2, 0, 0, .null, []), (90, .iconst 0, 1, 0, 0, .int 0, []), (91, .istore 5, 2, 0, 0, .null, []), (93, .iload 5, 2, 0, 0, .null, []), (95, .iconst 3, 1, 0, 0, .int 3, []), (96, .if_icmp .ge 66, 3, 162, 0, .null, []), (99, .iload_n 2, 1, 0, 0, .null, []), (100, .ifCond .eq 31, 3, 131, 0, .null, []), (103, .aload_n 0, 1, 0, 0, .null, []), (104, .getfield 140, 3, 12, 58, .null, []), (107, .bipush 12, 2, 0, 0, .int 12, []), (109, .bipush 6, 2, 0, 0, .int 6, []), (111, .iload 5, 2, 0, 0, .null, []), (113, .imul, 1, 0, 0, .null, []), (114, .iadd, 1, 0, 0, .null, []), (115, .iload_n 1, 1, 0, 0, .null, []), (116, .iadd, 1, 0, 0, .null, []), (117, .aload_n 0, 1, 0, 0, .null, []), (118, .getfield 140, 3, 12, 58, .null, []), (121, .iload 4, 2, 0, 0, .null, []), (123, .iload 5, 2, 0, 0, .null, []), (125, .iadd, 1, 0, 0, .null, []), (126, .iaload, 1, 0, 0, .null, []), (127, .iastore, 1, 0, 0, .null, []), (128, .goto 28, 3, 156, 0, .null, []), (131, .aload_n 0, 1, 0, 0, .null, []), (132, .getfield 140, 3, 12, 58, .null, []), (135, .iload 4, 2, 0, 0, .null, []), (137, .iload 5, 2, 0, 0, .null, []), (139, .iadd, 1, 0, 0, .null, []), (140, .aload_n 0, 1, 0, 0, .null, []), (141, .getfield 140, 3, 12, 58, .null, []), (144, .bipush 12, 2, 0, 0, .int 12, []), (146, .bipush 6, 2, 0, 0, .int 6, []), (148, .iload 5, 2, 0, 0, .null, []), (150, .imul, 1, 0, 0, .null, []), (151, .iadd, 1, 0, 0, .null, []), (152, .iload_n 1, 1, 0, 0, .null, []), (153, .iadd, 1, 0, 0, .null, []), (154, .iaload, 1, 0, 0, .null, []), (155, .iastore, 1, 0, 0, .null, []), (156, .iinc 5 1, 3, 0, 0, .int 1, []), (159, .goto (-66), 3, 93, 0, .null, []), (162, .iload_n 2, 1, 0, 0, .null, []), (163, .ifCond .ne 8, 3, 171, 0, .null, []), (166, .aload_n 0, 1, 0, 0, .null, []), (167, .iload_n 1, 1, 0, 0, .null, []), (168, .invokevirtual 372, 3, 218, 2, .retAddr 0, []), (171, .aload_n 0, 1, 0, 0, .null, []), (172, .getfield 140, 3, 12, 58, .null, []), (175, .bipush 30, 2, 0, 0, .int 30, []), (177, .iload_n 1, 1, 0, 0, .null, []), (178, .iadd, 1, 0, 0, .null, []), (179, .iload_n 2, 1, 0, 0, .null, []), (180, .ifCond .eq 9, 3, 189, 0, .null, []), (183, .iload_n 3, 1, 0, 0, .null, []), (184, .iconst 1, 1, 0, 0, .int 1, []), (185, .isub, 1, 0, 0, .null, []), (186, .goto 6, 3, 192, 0, .null, []), (189, .iload_n 3, 1, 0, 0, .null, []), (190, .iconst 1, 1, 0, 0, .int 1, []), (191, .iadd, 1, 0, 0, .null, []), (192, .iastore, 1, 0, 0, .null, []), (193, .aload_n 0, 1, 0, 0, .null, []), (194, .invokevirtual 419, 3, 228, 1, .retAddr 0, []), (197, .aload_n 0, 1, 0, 0, .null, []), (198, .getfield 137, 3, 12, 57, .null, []), (201, .bipush 30, 2, 0, 0, .int 30, []), (203, .iload_n 1, 1, 0, 0, .null, []), (204, .iadd, 1, 0, 0, .null, []), (205, .iaload, 1, 0, 0, .null, []), (206, .ireturn, 1, 0, 0, .null, [])]
def cd_M_undo : List (Nat × pE) := [(0, .aload_n 0, 1, 0, 0, .null, []), (1, .getfield 266, 3, 12, 61, .int 0, []), (4, .ifCond .ne 5, 3, 9, 0, .null, []), (7, .iconst 0, 1, 0, 0, .int 0, []), (8, .ireturn, 1, 1, 0, .null, []), (9, .aload_n 0, 1, 0, 0, .null, []), (10, .dup, 1, 0, 0, .null, []), (11, .getfield 266, 3, 12, 61, .int 0, []), (14, .iconst 1, 1, 0, 0, .int 1, []), (15, .isub, 1, 0, 0, .null, []), (16, .putfield 266, 3, 12, 61, .int 0, []), (19, .iconst 0, 1, 0, 0, .int 0, []), (20, .istore_n 1, 1, 0, 0, .null, []), (21, .iload_n 1, 1, 0, 0, .null, []), (22, .sipush 152, 3, 0, 0, .int 152, []), (25, .if_icmp .ge 30, 3, 55, 0, .null, []), (28, .aload_n 0, 1, 0, 0, .null, []), (29, .getfield 137, 3, 12, 57, .null, []), (32, .iload_n 1, 1, 0, 0, .null, []), (33, .aload_n 0, 1, 0, 0, .null, []), (34, .getfield 146, 3, 12, 62, .null, []), (37, .sipush 152, 3, 0, 0, .int 152, []), (40, .aload_n 0, 1, 0, 0, .null, []), (41, .getfield 266, 3, 12, 61, .int 0, []), (44, .imul, 1, 0, 0, .null, []), (45, .iload_n 1, 1, 0, 0, .null, []), (46, .iadd, 1, 0, 0, .null, []), (47, .iaload, 1, 0, 0, .null, []), (48, .iastore, 1, 0, 0, .null, []), (49, .iinc 1 1, 3, 0, 0, .int 1, []), (52, .goto (-31), 3, 21, 0, .null, []), (55, .iconst 1, 1, 0, 0, .int 1, []), (56, .ireturn, 1, 1, 0, .null, [])]
def cd_M_owes : List (Nat × pE) := [(0, .aload_n 0, 1, 0, 0, .null, []), (1, .iload_n 1, 1, 0, 0, .null, []), (2, .invokevirtual 400, 3, 199, 2, .int 0, []), (5, .ifCond .eq 21, 3, 26, 0, .null, []), (8, .aload_n 0, 1, 0, 0, .null, []), (9, .iload_n 2, 1, 0, 0, .null, []), (10, .invokevirtual 416, 3, 201, 2, .int 0, []), (13, .ifCond .eq 13, 3, 26, 0, .null, []), (16, .iload_n 3, 1, 0, 0, .null, []), (17, .iconst 0, 1, 0, 0, .int 0, []), (18, .bipush 99, 2, 0, 0, .int 99, []), (20, .invokestatic 338, 3, 197, 3, .int 0, []), (23, .ifCond .ne 5, 3, 28, 0, .null, []), (26, .iconst (-1), 1, 0, 0, .int (-1), []), (27, .ireturn, 1, 0, 0, .null, []), (28, .aload_n 0, 1, 0, 0, .null, []), (29, .invokevirtual 404, 3, 204, 1, .retAddr 0, []), (32, .aload_n 0, 1, 0, 0, .null, []), (33, .getfield 140, 3, 12, 58, .null, []), (36, .bipush 6, 2, 0, 0, .int 6, []), (38, .iload_n 1, 1, 0, 0, .null, []), (39, .iadd, 1, 0, 0, .null, []), (40, .iaload, 1, 0, 0, .null, []), (41, .istore 4, 2, 0, 0, .null, []), (43, .aload_n 0, 1, 0, 0, .null, []), (44, .iload_n 1, 1, 0, 0, .null, []), (45, .iload 4, 2, 0, 0, .null, []), (47, .iload_n 2, 1, 0, 0, .null, []), (48, .iload_n 3, 1, 0, 0, .null, []), (49, .aload_n 0, 1, 0, 0, .null, []), (50, .iload_n 1, 1, 0, 0, .null, []), (51, .iload 4, 2, 0, 0, .null, []), (53, .iload_n 2, 1, 0, 0, .null, []), (54, .invokevirtual 381, 3, 210, 4, .int 0, []), (57, .ifCond .eq 7, 3, 64, 0, .null, []), (60, .iconst 1, 1, 0, 0, .int 1, []), (61, .goto 4, 3, 65, 0, .null, []), (64, .iconst 0, 1, 0, 0, .int 0, []), (65, .invokevirtual 365, 3, 214, 6, .int 0, []), (68, .ireturn, 1, 0, 0, .null, [])]
def cd_M_common : List (Nat × pE) := [(0, .iload_n 0, 1, 0, 0, .null, []), (1, .istore_n 2, 1, 0, 0, .null, []), (2, .iload_n 1, 1, 0, 0, .null, []), (3, .istore_n 3, 1, 0, 0, .null, []), (4, .iload_n 3, 1, 0, 0, .null, []), (5, .ifCond .eq 16, 3, 21, 0, .null, []), (8, .iload_n 2, 1, 0, 0, .null, []), (9, .iload_n 3, 1, 0, 0, .null, []), (10, .irem, 1, 0, 0, .null, []), (11, .istore 4, 2, 0, 0, .null, []), (13, .iload_n 3, 1, 0, 0, .null, []), (14, .istore_n 2, 1, 0, 0, .null, []), (15, .iload 4, 2, 0, 0, .null, []), (17, .istore_n 3, 1, 0, 0, .null, []), (18, .goto (-14), 3, 4, 0, .null, []), (21, .iload_n 2, 1, 0, 0, .null, []), (22, .ireturn, 1, 0, 0, .null, [])]
def cd_M_meanAbove : List (Nat × pE) := [(0, .iconst 0, 1, 0, 0, .int 0, []), (1, .istore_n 3, 1, 0, 0, .null, []), (2, .iconst 0, 1, 0, 0, .int 0, []), (3, .istore 4, 2, 0, 0, .null, []), (5, .iload 4, 2, 0, 0, .null, []), (7, .aload_n 0, 1, 0, 0, .null, []), (8, .getfield 49, 3, 12, 24, .null, []), (11, .aload_n 0, 1, 0, 0, .null, []), (12, .getfield 248, 3, 12, 18, .int 0, []), (15, .iaload, 1, 0, 0, .null, []), (16, .if_icmp .ge 58, 3, 74, 0, .null, []), (19, .aload_n 0, 1, 0, 0, .null, []), (20, .iload_n 1, 1, 0, 0, .null, []), (21, .iload_n 2, 1, 0, 0, .null, []), (22, .iload 4, 2, 0, 0, .null, []), (24, .invokevirtual 381, 3, 210, 4, .int 0, []), (27, .ifCond .eq 7, 3, 34, 0, .null, []), (30, .iconst 1, 1, 0, 0, .int 1, []), (31, .goto 4, 3, 35, 0, .null, []), (34, .iconst 0, 1, 0, 0, .int 0, []), (35, .istore 5, 2, 0, 0, .null, []), (37, .iload_n 3, 1, 0, 0, .null, []), (38, .aload_n 0, 1, 0, 0, .null, []), (39, .iload_n 2, 1, 0, 0, .null, []), (40, .iload 4, 2, 0, 0, .null, []), (42, .invokevirtual 349, 3, 207, 3, .int 0, []), (45, .aload_n 0, 1, 0, 0, .null, []), (46, .iload_n 1, 1, 0, 0, .null, []), (47, .iload_n 2, 1, 0, 0, .null, []), (48, .iload 4, 2, 0, 0, .null, []), (50, .aload_n 0, 1, 0, 0, .null, []), (51, .iload_n 1, 1, 0, 0, .null, []), (52, .iload_n 2, 1, 0, 0, .null, []), (53, .iload 4, 2, 0, 0, .null, []), (55, .iload 5, 2, 0, 0, .null, []), (57, .invokevirtual 384, 3, 213, 5, .int 0, []), (60, .iload 5, 2, 0, 0, .null, []), (62, .invokevirtual 365, 3, 214, 6, .int 0, []), (65, .imul, 1, 0, 0, .null, []), (66, .iadd, 1, 0, 0, .null, []), (67, .istore_n 3, 1, 0, 0, .null, []), (68, .iinc 4 1, 3, 0, 0, .int 1, []), (71, .goto (-66), 3, 5, 0, .null, []), (74, .iload_n 3, 1, 0, 0, .null, []), (75, .ireturn, 1, 0, 0, .null, [])]
def cd_M_mean : List (Nat × pE) := [(0, .aload_n 0, 1, 0, 0, .null, []), (1, .iload_n 1, 1, 0, 0, .null, []), (2, .invokevirtual 400, 3, 199, 2, .int 0, []), (5, .ifCond .eq 11, 3, 16, 0, .null, []), (8, .aload_n 0, 1, 0, 0, .null, []), (9, .iload_n 2, 1, 0, 0, .null, []), (10, .invokevirtual 407, 3, 200, 2, .int 0, []), (13, .ifCond .ne 5, 3, 18, 0, .null, []), (16, .iconst (-1), 1, 0, 0, .int (-1), []), (17, .ireturn, 1, 0, 0, .null, []), (18, .aload_n 0, 1, 0, 0, .null, []), (19, .invokevirtual 404, 3, 204, 1, .retAddr 0, []), (22, .aload_n 0, 1, 0, 0, .null, []), (23, .iload_n 2, 1, 0, 0, .null, []), (24, .invokevirtual 375, 3, 208, 2, .int 0, []), (27, .istore 4, 2, 0, 0, .null, []), (29, .aload_n 0, 1, 0, 0, .null, []), (30, .iload_n 1, 1, 0, 0, .null, []), (31, .iload_n 2, 1, 0, 0, .null, []), (32, .invokevirtual 434, 3, 238, 3, .int 0, []), (35, .istore 5, 2, 0, 0, .null, []), (37, .iload 4, 2, 0, 0, .null, []), (39, .ifCond .ne 13, 3, 52, 0, .null, []), (42, .iload_n 3, 1, 0, 0, .null, []), (43, .ifCond .eq 7, 3, 50, 0, .null, []), (46, .iconst 1, 1, 0, 0, .int 1, []), (47, .goto 4, 3, 51, 0, .null, []), (50, .iconst 0, 1, 0, 0, .int 0, []), (51, .ireturn, 1, 0, 0, .null, []), (52, .iload 5, 2, 0, 0, .null, []), (54, .iload 4, 2, 0, 0, .null, []), (56, .invokestatic 437, 3, 237, 2, .int 0, []), (59, .istore 6, 2, 0, 0, .null, []), (61, .iload_n 3, 1, 0, 0, .null, []), (62, .ifCond .eq 8, 3, 70, 0, .null, []), (65, .iload 4, 2, 0, 0, .null, []), (67, .goto 5, 3, 72, 0, .null, []), (70, .iload 5, 2, 0, 0, .null, []), (72, .iload 6, 2, 0, 0, .null, []), (74, .idiv, 1, 0, 0, .null, []), (75, .ireturn, 1, 0, 0, .null, [])]
def cd_M_sure : List (Nat × pE) := [(0, .aload_n 0, 1, 0, 0, .null, []), (1, .iload_n 1, 1, 0, 0, .null, []), (2, .invokevirtual 416, 3, 201, 2, .int 0, []), (5, .ifCond .ne 5, 3, 10, 0, .null, []), (8, .iconst (-1), 1, 0, 0, .int (-1), []), (9, .ireturn, 1, 0, 0, .null, []), (10, .bipush (-2), 2, 0, 0, .int (-2), []), (12, .istore_n 2, 1, 0, 0, .null, []), (13, .iconst 0, 1, 0, 0, .int 0, []), (14, .istore_n 3, 1, 0, 0, .null, []), (15, .iload_n 3, 1, 0, 0, .null, []), (16, .aload_n 0, 1, 0, 0, .null, []), (17, .getfield 55, 3, 12, 26, .null, []), (20, .aload_n 0, 1, 0, 0, .null, []), (21, .getfield 248, 3, 12, 18, .int 0, []), (24, .iaload, 1, 0, 0, .null, []), (25, .if_icmp .ge 54, 3, 79, 0, .null, []), (28, .aload_n 0, 1, 0, 0, .null, []), (29, .iload_n 3, 1, 0, 0, .null, []), (30, .iload_n 1, 1, 0, 0, .null, []), (31, .invokevirtual 349, 3, 207, 3, .int 0, []), (34, .ifCond .ne 6, 3, 40, 0, .null, []), (37, .goto 36, 3, 73, 0, .null, []), (40, .iload_n 2, 1, 0, 0, .null, []), (41, .ifCond .lt 30, 3, 71, 0, .null, []), (44, .aload_n 0, 1, 0, 0, .null, []), (45, .iload_n 3, 1, 0, 0, .null, []), (46, .iload_n 1, 1, 0, 0, .null, []), (47, .invokevirtual 349, 3, 207, 3, .int 0, []), (50, .aload_n 0, 1, 0, 0, .null, []), (51, .iload_n 2, 1, 0, 0, .null, []), (52, .invokevirtual 375, 3, 208, 2, .int 0, []), (55, .imul, 1, 0, 0, .null, []), (56, .aload_n 0, 1, 0, 0, .null, []), (57, .iload_n 2, 1, 0, 0, .null, []), (58, .iload_n 1, 1, 0, 0, .null, []), (59, .invokevirtual 349, 3, 207, 3, .int 0, []), (62, .aload_n 0, 1, 0, 0, .null, []), (63, .iload_n 3, 1, 0, 0, .null, []), (64, .invokevirtual 375, 3, 208, 2, .int 0, []), (67, .imul, 1, 0, 0, .null, []), (68, .if_icmp .le 5, 3, 73, 0, .null, []), (71, .iload_n 3, 1, 0, 0, .null, []), (72, .istore_n 2, 1, 0, 0, .null, []), (73, .iinc 3 1, 3, 0, 0, .int 1, []), (76, .goto (-61), 3, 15, 0, .null, []), (79, .iload_n 2, 1, 0, 0, .null, []), (80, .ireturn, 1, 0, 0, .null, [])]
def cd_M_fillsCosts : List (Nat × pE) := [(0, .aload_n 0, 1, 0, 0, .null, []), (1, .lconst 1, 1, 0, 0, .long 1, []), (2, .putfield 440, 3, 12, 63, .long 0, []), (5, .iconst 0, 1, 0, 0, .int 0, []), (6, .istore_n 1, 1, 0, 0, .null, []), (7, .iload_n 1, 1, 0, 0, .null, []), (8, .aload_n 0, 1, 0, 0, .null, []), (9, .getfield 55, 3, 12, 26, .null, []), (12, .aload_n 0, 1, 0, 0, .null, []), (13, .getfield 248, 3, 12, 18, .int 0, []), (16, .iaload, 1, 0, 0, .null, []), (17, .if_icmp .ge 32, 3, 49, 0, .null, []), (20, .aload_n 0, 1, 0, 0, .null, []), (21, .iload_n 1, 1, 0, 0, .null, []), (22, .invokevirtual 375, 3, 208, 2, .int 0, []), (25, .ifCond .le 18, 3, 43, 0, .null, []), (28, .aload_n 0, 1, 0, 0, .null, []), (29, .dup, 1, 0, 0, .null, []), (30, .getfield 440, 3, 12, 63, .long 0, []), (33, .aload_n 0, 1, 0, 0, .null, []), (34, .iload_n 1, 1, 0, 0, .null, []), (35, .invokevirtual 375, 3, 208, 2, .int 0, []), (38, .i2l, 1, 0, 0, .null, []), (39, .lmul, 1, 0, 0, .null, []), (40, .putfield 440, 3, 12, 63, .long 0, []), (43, .iinc 1 1, 3, 0, 0, .int 1, []), (46, .goto (-39), 3, 7, 0, .null, []), (49, .iconst 0, 1, 0, 0, .int 0, []), (50, .istore_n 1, 1, 0, 0, .null, []), (51, .iload_n 1, 1, 0, 0, .null, []), (52, .aload_n 0, 1, 0, 0, .null, []), (53, .getfield 70, 3, 12, 31, .null, []), (56, .aload_n 0, 1, 0, 0, .null, []), (57, .getfield 248, 3, 12, 18, .int 0, []), (60, .iaload, 1, 0, 0, .null, []), (61, .if_icmp .ge 89, 3, 150, 0, .null, []), (64, .iconst 0, 1, 0, 0, .int 0, []), (65, .istore_n 2, 1, 0, 0, .null, []), (66, .iload_n 2, 1, 0, 0, .null, []), (67, .aload_n 0, 1, 0, 0, .null, []), (68, .getfield 55, 3, 12, 26, .null, []), (71, .aload_n 0, 1, 0, 0, .null, []), (72, .getfield 248, 3, 12, 18, .int 0, []), (75, .iaload, 1, 0, 0, .null, []), (76, .if_icmp .ge 68, 3, 144, 0, .null, []), (79, .aload_n 0, 1, 0, 0, .null, []), (80, .iload_n 2, 1, 0, 0, .null, []), (81, .invokevirtual 375, 3, 208, 2, .int 0, []), (84, .istore_n 3, 1, 0, 0, .null, []), (85, .aload_n 0, 1, 0, 0, .null, []), (86, .getfield 149, 3, 12, 64, .null, []), (89, .iconst 5, 1, 0, 0, .int 5, []), (90, .iload_n 1, 1, 0, 0, .null, []), (91, .imul, 1, 0, 0, .null, []), (92, .iload_n 2, 1, 0, 0, .null, []), (93, .iadd, 1, 0, 0, .null, []), (94, .aload_n 0, 1, 0, 0, .null, []), (95, .getfield 58, 3, 12, 27, .null, []), (98, .iconst 5, 1, 0, 0, .int 5, []), (99, .aload_n 0, 1, 0, 0, .null, []), (100, .getfield 248, 3, 12, 18, .int 0, []), (103, .imul, 1, 0, 0, .null, []), (104, .iload_n 2, 1, 0, 0, .null, []), (105, .iadd, 1, 0, 0, .null, []), (106, .iaload, 1, 0, 0, .null, []), (107, .i2l, 1, 0, 0, .null, []), (108, .aload_n 0, 1, 0, 0, .null, []), (109, .getfield 440, 3, 12, 63, .long 0, []), (112, .lmul, 1, 0, 0, .null, []), (113, .iload_n 3, 1, 0, 0, .null, []), (114, .ifCond .ne 7, 3, 121, 0, .null, []), (117, .lconst 0, 1, 0, 0, .long 0, []), (118, .goto 18, 3, 136, 0, .null, []), (121, .aload_n 0, 1, 0, 0, .null, []), (122, .iload_n 1, 1, 0, 0, .null, []), (123, .iload_n 2, 1, 0, 0, .null, []), (124, .invokevirtual 434, 3, 238, 3, .int 0, []), (127, .i2l, 1, 0, 0, .null, []), (128, .aload_n 0, 1, 0, 0, .null, []), (129, .getfield 440, 3, 12, 63, .long 0, []), (132, .iload_n 3, 1, 0, 0, .null, []), (133, .i2l, 1, 0, 0, .null, []), (134, .ldiv, 1, 0, 0, .null, []), (135, .lmul, 1, 0, 0, .null, []), (136, .ladd, 1, 0, 0, .null, []), (137, .lastore, 1, 0, 0, .null, []), (138, .iinc 2 1, 3, 0, 0, .int 1, []), (141, .goto (-75), 3, 66, 0, .null, []), (144, .iinc 1 1, 3, 0, 0, .int 1, []), (147, .goto (-96), 3, 51, 0, .null, []), (150, .return_, 1, 0, 0, .null, [])]
def cd_M_fives : List (Nat × pE) := [(0, .iconst 1, 1, 0, 0, .int 1, []), (1, .istore_n 1, 1, 0, 0, .null, []), (2, .iconst 0, 1, 0, 0, .int 0, []), (3, .istore_n 2, 1, 0, 0, .null, []), (4, .iload_n 2, 1, 0, 0, .null, []), (5, .iload_n 0, 1, 0, 0, .null, []), (6, .if_icmp .ge 13, 3, 19, 0, .null, []), (9, .iload_n 1, 1, 0, 0, .null, []), (10, .iconst 5, 1, 0, 0, .int 5, []), (11, .imul, 1, 0, 0, .null, []), (12, .istore_n 1, 1, 0, 0, .null, []), (13, .iinc 2 1, 3, 0, 0, .int 1, []), (16, .goto (-12), 3, 4, 0, .null, []), (19, .iload_n 1, 1, 0, 0, .null, []), (20, .ireturn, 1, 0, 0, .null, [])]
def cd_M_innIn : List (Nat × pE) := [(0, .iload_n 1, 1, 0, 0, .null, []), (1, .iconst 1, 1, 0, 0, .int 1, []), (2, .iload_n 3, 1, 0, 0, .null, []), (3, .ishl, 1, 0, 0, .null, []), (4, .iconst 1, 1, 0, 0, .int 1, []), (5, .isub, 1, 0, 0, .null, []), (6, .iand, 1, 0, 0, .null, []), (7, .invokestatic 413, 3, 198, 1, .int 0, []), (10, .istore 4, 2, 0, 0, .null, []), (12, .iload_n 2, 1, 0, 0, .null, []), (13, .iload_n 1, 1, 0, 0, .null, []), (14, .invokestatic 413, 3, 198, 1, .int 0, []), (17, .iconst 1, 1, 0, 0, .int 1, []), (18, .isub, 1, 0, 0, .null, []), (19, .iload 4, 2, 0, 0, .null, []), (21, .isub, 1, 0, 0, .null, []), (22, .invokestatic 444, 3, 242, 1, .int 0, []), (25, .idiv, 1, 0, 0, .null, []), (26, .iconst 5, 1, 0, 0, .int 5, []), (27, .irem, 1, 0, 0, .null, []), (28, .ireturn, 1, 0, 0, .null, [])]
def cd_M_hasBeds : List (Nat × pE) := [(0, .iconst 0, 1, 0, 0, .int 0, []), (1, .istore_n 3, 1, 0, 0, .null, []), (2, .iload_n 3, 1, 0, 0, .null, []), (3, .aload_n 0, 1, 0, 0, .null, []), (4, .getfield 70, 3, 12, 31, .null, []), (7, .aload_n 0, 1, 0, 0, .null, []), (8, .getfield 248, 3, 12, 18, .int 0, []), (11, .iaload, 1, 0, 0, .null, []), (12, .if_icmp .ge 34, 3, 46, 0, .null, []), (15, .iload_n 1, 1, 0, 0, .null, []), (16, .iload_n 3, 1, 0, 0, .null, []), (17, .ishr, 1, 0, 0, .null, []), (18, .iconst 1, 1, 0, 0, .int 1, []), (19, .iand, 1, 0, 0, .null, []), (20, .iconst 1, 1, 0, 0, .int 1, []), (21, .if_icmp .ne 19, 3, 40, 0, .null, []), (24, .aload_n 0, 1, 0, 0, .null, []), (25, .aload_n 0, 1, 0, 0, .null, []), (26, .iload_n 1, 1, 0, 0, .null, []), (27, .iload_n 2, 1, 0, 0, .null, []), (28, .iload_n 3, 1, 0, 0, .null, []), (29, .invokevirtual 447, 3, 243, 4, .int 0, []), (32, .invokevirtual 407, 3, 200, 2, .int 0, []), (35, .ifCond .ne 5, 3, 40, 0, .null, []), (38, .iconst 0, 1, 0, 0, .int 0, []), (39, .ireturn, 1, 1, 0, .null, []), (40, .iinc 3 1, 3, 0, 0, .int 1, []), (43, .goto (-41), 3, 2, 0, .null, []), (46, .iconst 0, 1, 0, 0, .int 0, []), (47, .istore_n 3, 1, 0, 0, .null, []), (48, .iload_n 3, 1, 0, 0, .null, []), (49, .aload_n 0, 1, 0, 0, .null, []), (50, .getfield 55, 3, 12, 26, .null, []), (53, .aload_n 0, 1, 0, 0, .null, []), (54, .getfield 248, 3, 12, 18, .int 0, []), (57, .iaload, 1, 0, 0, .null, []), (58, .if_icmp .ge 91, 3, 149, 0, .null, []), (61, .aload_n 0, 1, 0, 0, .null, []), (62, .iload_n 3, 1, 0, 0, .null, []), (63, .invokevirtual 410, 3, 224, 2, .int 0, []), (66, .iload_n 1, 1, 0, 0, .null, []), (67, .iconst (-1), 1, 0, 0, .int (-1), []), (68, .ixor, 1, 0, 0, .null, []), (69, .iand, 1, 0, 0, .null, []), (70, .invokestatic 413, 3, 198, 1, .int 0, []), (73, .istore 4, 2, 0, 0, .null, []), (75, .iconst 0, 1, 0, 0, .int 0, []), (76, .istore 5, 2, 0, 0, .null, []), (78, .iload 5, 2, 0, 0, .null, []), (80, .aload_n 0, 1, 0, 0, .null, []), (81, .getfield 70, 3, 12, 31, .null, []), (84, .aload_n 0, 1, 0, 0, .null, []), (85, .getfield 248, 3, 12, 18, .int 0, []), (88, .iaload, 1, 0, 0, .null, []), (89, .if_icmp .ge 34, 3, 123, 0, .null, []), (92, .iload_n 1, 1, 0, 0, .null, []), (93, .iload 5, 2, 0, 0, .null, []), (95, .ishr, 1, 0, 0, .null, []), (96, .iconst 1, 1, 0, 0, .int 1, []), (97, .iand, 1, 0, 0, .null, []), (98, .iconst 1, 1, 0, 0, .int 1, []), (99, .if_icmp .ne 18, 3, 117, 0, .null, []), (102, .aload_n 0, 1, 0, 0, .null, []), (103, .iload_n 1, 1, 0, 0, .null, []), (104, .iload_n 2, 1, 0, 0, .null, []), (105, .iload 5, 2, 0, 0, .null, []), (107, .invokevirtual 447, 3, 243, 4, .int 0, []), (110, .iload_n 3, 1, 0, 0, .null, []), (111, .if_icmp .ne 6, 3, 117, 0, .null, []), (114, .iinc 4 1, 3, 0, 0, .int 1, []), (117, .iinc 5 1, 3, 0, 0, .int 1, []), (120, .goto (-42), 3, 78, 0, .null, []), (123, .iload 4, 2, 0, 0, .null, []), (125, .aload_n 0, 1, 0, 0, .null, []), (126, .getfield 61, 3, 12, 28, .null, []), (129, .iconst 5, 1, 0, 0, .int 5, []), (130, .aload_n 0, 1, 0, 0, .null, []), (131, .getfield 248, 3, 12, 18, .int 0, []), (134, .imul, 1, 0, 0, .null, []), (135, .iload_n 3, 1, 0, 0, .null, []), (136, .iadd, 1, 0, 0, .null, []), (137, .iaload, 1, 0, 0, .null, []), (138, .if_icmp .le 5, 3, 143, 0, .null, []), (141, .iconst 0, 1, 0, 0, .int 0, []), (142, .ireturn, 1, 1, 0, .null, []), (143, .iinc 3 1, 3, 0, 0, .int 1, []), (146, .goto (-98), 3, 48, 0, .null, []), (149, .iconst 1, 1, 0, 0, .int 1, []), (150, .ireturn, 1, 1, 0, .null, [])]
def cd_M_fillsLodging : List (Nat × pE) := [(0, .aload_n 0, 1, 0, 0, .null, []), (1, .invokevirtual 404, 3, 204, 1, .retAddr 0, []), (4, .aload_n 0, 1, 0, 0, .null, []), (5, .invokevirtual 450, 3, 241, 1, .retAddr 0, []), (8, .aload_n 0, 1, 0, 0, .null, []), (9, .ldc2_w 453, 3, 0, 0, .long (-1), []), (12, .putfield 455, 3, 12, 65, .long 0, []), (15, .aload_n 0, 1, 0, 0, .null, []), (16, .bipush (-2), 2, 0, 0, .int (-2), []), (18, .putfield 458, 3, 12, 66, .int 0, []), (21, .iconst 0, 1, 0, 0, .int 0, []), (22, .istore_n 2, 1, 0, 0, .null, []), (23, .iload_n 2, 1, 0, 0, .null, []), (24, .iload_n 1, 1, 0, 0, .null, []), (25, .invokestatic 413, 3, 198, 1, .int 0, []), (28, .invokestatic 444, 3, 242, 1, .int 0, []), (31, .if_icmp .ge 106, 3, 137, 0, .null, []), (34, .aload_n 0, 1, 0, 0, .null, []), (35, .iload_n 1, 1, 0, 0, .null, []), (36, .iload_n 2, 1, 0, 0, .null, []), (37, .invokevirtual 461, 3, 244, 3, .int 0, []), (40, .ifCond .ne 6, 3, 46, 0, .null, []), (43, .goto 88, 3, 131, 0, .null, []), (46, .lconst 0, 1, 0, 0, .long 0, []), (47, .lstore_n 3, 1, 0, 0, .null, []), (48, .iconst 0, 1, 0, 0, .int 0, []), (49, .istore 5, 2, 0, 0, .null, []), (51, .iload 5, 2, 0, 0, .null, []), (53, .aload_n 0, 1, 0, 0, .null, []), (54, .getfield 70, 3, 12, 31, .null, []), (57, .aload_n 0, 1, 0, 0, .null, []), (58, .getfield 248, 3, 12, 18, .int 0, []), (61, .iaload, 1, 0, 0, .null, []), (62, .if_icmp .ge 40, 3, 102, 0, .null, []), (65, .iload_n 1, 1, 0, 0, .null, []), (66, .iload 5, 2, 0, 0, .null, []), (68, .ishr, 1, 0, 0, .null, []), (69, .iconst 1, 1, 0, 0, .int 1, []), (70, .iand, 1, 0, 0, .null, []), (71, .iconst 1, 1, 0, 0, .int 1, []), (72, .if_icmp .ne 24, 3, 96, 0, .null, []), (75, .lload_n 3, 1, 0, 0, .null, []), (76, .aload_n 0, 1, 0, 0, .null, []), (77, .getfield 149, 3, 12, 64, .null, []), (80, .iconst 5, 1, 0, 0, .int 5, []), (81, .iload 5, 2, 0, 0, .null, []), (83, .imul, 1, 0, 0, .null, []), (84, .aload_n 0, 1, 0, 0, .null, []), (85, .iload_n 1, 1, 0, 0, .null, []), (86, .iload_n 2, 1, 0, 0, .null, []), (87, .iload 5, 2, 0, 0, .null, []), (89, .invokevirtual 447, 3, 243, 4, .int 0, []), (92, .iadd, 1, 0, 0, .null, []), (93, .laload, 1, 0, 0, .null, []), (94, .ladd, 1, 0, 0, .null, []), (95, .lstore_n 3, 1, 0, 0, .null, []), (96, .iinc 5 1, 3, 0, 0, .int 1, []), (99, .goto (-48), 3, 51, 0, .null, []), (102, .aload_n 0, 1, 0, 0, .null, []), (103, .getfield 458, 3, 12, 66, .int 0, []), (106, .ifCond .lt 15, 3, 121, 0, .null, []), (109, .lload_n 3, 1, 0, 0, .null, []), (110, .aload_n 0, 1, 0, 0, .null, []), (111, .getfield 455, 3, 12, 65, .long 0, []), (114, .lcmp, 1, 0, 0, .null, []), (115, .ifCond .lt 6, 3, 121, 0, .null, []), (118, .goto 13, 3, 131, 0, .null, []), (121, .aload_n 0, 1, 0, 0, .null, []), (122, .lload_n 3, 1, 0, 0, .null, []), (123, .putfield 455, 3, 12, 65, .long 0, []), (126, .aload_n 0, 1, 0, 0, .null, []), (127, .iload_n 2, 1, 0, 0, .null, []), (128, .putfield 458, 3, 12, 66, .int 0, []), (131, .iinc 2 1, 3, 0, 0, .int 1, []), (134, .goto (-111), 3, 23, 0, .null, []), (137, .return_, 1, 0, 0, .null, [])]
def cd_M_isSet : List (Nat × pE) := [(0, .iload_n 1, 1, 0, 0, .null, []), (1, .iconst 1, 1, 0, 0, .int 1, []), (2, .iconst 1, 1, 0, 0, .int 1, []), (3, .aload_n 0, 1, 0, 0, .null, []), (4, .getfield 70, 3, 12, 31, .null, []), (7, .aload_n 0, 1, 0, 0, .null, []), (8, .getfield 248, 3, 12, 18, .int 0, []), (11, .iaload, 1, 0, 0, .null, []), (12, .ishl, 1, 0, 0, .null, []), (13, .iconst 1, 1, 0, 0, .int 1, []), (14, .isub, 1, 0, 0, .null, []), (15, .invokestatic 338, 3, 197, 3, .int 0, []), (18, .ifCond .eq 15, 3, 33, 0, .null, []), (21, .iload_n 1, 1, 0, 0, .null, []), (22, .invokestatic 413, 3, 198, 1, .int 0, []), (25, .iconst 5, 1, 0, 0, .int 5, []), (26, .if_icmp .ge 7, 3, 33, 0, .null, []), (29, .iconst 1, 1, 0, 0, .int 1, []), (30, .goto 4, 3, 34, 0, .null, []), (33, .iconst 0, 1, 0, 0, .int 0, []), (34, .ireturn, 1, 1, 0, .null, [])]
def cd_M_lodging : List (Nat × pE) := [(0, .aload_n 0, 1, 0, 0, .null, []), (1, .iload_n 1, 1, 0, 0, .null, []), (2, .invokevirtual 465, 3, 246, 2, .int 0, []), (5, .ifCond .ne 5, 3, 10, 0, .null, []), (8, .iconst (-1), 1, 0, 0, .int (-1), []), (9, .ireturn, 1, 0, 0, .null, []), (10, .aload_n 0, 1, 0, 0, .null, []), (11, .iload_n 1, 1, 0, 0, .null, []), (12, .invokevirtual 468, 3, 245, 2, .retAddr 0, []), (15, .aload_n 0, 1, 0, 0, .null, []), (16, .getfield 458, 3, 12, 66, .int 0, []), (19, .ifCond .ge 8, 3, 27, 0, .null, []), (22, .bipush (-2), 2, 0, 0, .int (-2), []), (24, .goto 13, 3, 37, 0, .null, []), (27, .aload_n 0, 1, 0, 0, .null, []), (28, .getfield 455, 3, 12, 65, .long 0, []), (31, .aload_n 0, 1, 0, 0, .null, []), (32, .getfield 440, 3, 12, 63, .long 0, []), (35, .ldiv, 1, 0, 0, .null, []), (36, .l2i, 1, 0, 0, .null, []), (37, .ireturn, 1, 0, 0, .null, [])]
def cd_M_lodgingAt : List (Nat × pE) := [(0, .aload_n 0, 1, 0, 0, .null, []), (1, .iload_n 1, 1, 0, 0, .null, []), (2, .invokevirtual 465, 3, 246, 2, .int 0, []), (5, .ifCond .eq 17, 3, 22, 0, .null, []), (8, .iload_n 2, 1, 0, 0, .null, []), (9, .iconst 0, 1, 0, 0, .int 0, []), (10, .iload_n 1, 1, 0, 0, .null, []), (11, .invokestatic 413, 3, 198, 1, .int 0, []), (14, .iconst 1, 1, 0, 0, .int 1, []), (15, .isub, 1, 0, 0, .null, []), (16, .invokestatic 338, 3, 197, 3, .int 0, []), (19, .ifCond .ne 5, 3, 24, 0, .null, []), (22, .iconst (-1), 1, 0, 0, .int (-1), []), (23, .ireturn, 1, 0, 0, .null, []), (24, .aload_n 0, 1, 0, 0, .null, []), (25, .iload_n 1, 1, 0, 0, .null, []), (26, .invokevirtual 468, 3, 245, 2, .retAddr 0, []), (29, .aload_n 0, 1, 0, 0, .null, []), (30, .getfield 458, 3, 12, 66, .int 0, []), (33, .ifCond .ge 8, 3, 41, 0, .null, []), (36, .bipush (-2), 2, 0, 0, .int (-2), []), (38, .goto 21, 3, 59, 0, .null, []), (41, .aload_n 0, 1, 0, 0, .null, []), (42, .getfield 458, 3, 12, 66, .int 0, []), (45, .iload_n 1, 1, 0, 0, .null, []), (46, .invokestatic 413, 3, 198, 1, .int 0, []), (49, .iconst 1, 1, 0, 0, .int 1, []), (50, .isub, 1, 0, 0, .null, []), (51, .iload_n 2, 1, 0, 0, .null, []), (52, .isub, 1, 0, 0, .null, []), (53, .invokestatic 444, 3, 242, 1, .int 0, []), (56, .idiv, 1, 0, 0, .null, []), (57, .iconst 5, 1, 0, 0, .int 5, []), (58, .irem, 1, 0, 0, .null, []), (59, .ireturn, 1, 0, 0, .null, [])]
def cd_M_fillsPairs : List (Nat × pE) := [(0, .iconst 0, 1, 0, 0, .int 0, []), (1, .istore_n 1, 1, 0, 0, .null, []), (2, .iconst 0, 1, 0, 0, .int 0, []), (3, .istore_n 2, 1, 0, 0, .null, []), (4, .iload_n 2, 1, 0, 0, .null, []), (5, .bipush 6, 2, 0, 0, .int 6, []), (7, .if_icmp .ge 42, 3, 49, 0, .null, []), (10, .iload_n 2, 1, 0, 0, .null, []), (11, .iconst 1, 1, 0, 0, .int 1, []), (12, .iadd, 1, 0, 0, .null, []), (13, .istore_n 3, 1, 0, 0, .null, []), (14, .iload_n 3, 1, 0, 0, .null, []), (15, .bipush 6, 2, 0, 0, .int 6, []), (17, .if_icmp .ge 26, 3, 43, 0, .null, []), (20, .aload_n 0, 1, 0, 0, .null, []), (21, .getfield 152, 3, 12, 67, .null, []), (24, .iload_n 1, 1, 0, 0, .null, []), (25, .iload_n 2, 1, 0, 0, .null, []), (26, .iastore, 1, 0, 0, .null, []), (27, .aload_n 0, 1, 0, 0, .null, []), (28, .getfield 155, 3, 12, 68, .null, []), (31, .iload_n 1, 1, 0, 0, .null, []), (32, .iload_n 3, 1, 0, 0, .null, []), (33, .iastore, 1, 0, 0, .null, []), (34, .iinc 1 1, 3, 0, 0, .int 1, []), (37, .iinc 3 1, 3, 0, 0, .int 1, []), (40, .goto (-26), 3, 14, 0, .null, []), (43, .iinc 2 1, 3, 0, 0, .int 1, []), (46, .goto (-42), 3, 4, 0, .null, []), (49, .return_, 1, 0, 0, .null, [])]
def cd_M_swapsAll : List (Nat × pE) := [(0, .iconst 0, 1, 0, 0, .int 0, []), (1, .istore_n 2, 1, 0, 0, .null, []), (2, .aload_n 0, 1, 0, 0, .null, []), (3, .invokevirtual 425, 3, 223, 1, .int 0, []), (6, .istore_n 3, 1, 0, 0, .null, []), (7, .iconst 0, 1, 0, 0, .int 0, []), (8, .istore 4, 2, 0, 0, .null, []), (10, .iload 4, 2, 0, 0, .null, []), (12, .bipush 15, 2, 0, 0, .int 15, []), (14, .if_icmp .ge 86, 3, 100, 0, .null, []), (17, .iload_n 1, 1, 0, 0, .null, []), (18, .bipush 14, 2, 0, 0, .int 14, []), (20, .iload 4, 2, 0, 0, .null, []), (22, .isub, 1, 0, 0, .null, []), (23, .ishr, 1, 0, 0, .null, []), (24, .iconst 1, 1, 0, 0, .int 1, []), (25, .iand, 1, 0, 0, .null, []), (26, .ifCond .ne 6, 3, 32, 0, .null, []), (29, .goto 65, 3, 94, 0, .null, []), (32, .iconst 1, 1, 0, 0, .int 1, []), (33, .aload_n 0, 1, 0, 0, .null, []), (34, .getfield 152, 3, 12, 67, .null, []), (37, .iload 4, 2, 0, 0, .null, []), (39, .iaload, 1, 0, 0, .null, []), (40, .ishl, 1, 0, 0, .null, []), (41, .iconst 1, 1, 0, 0, .int 1, []), (42, .aload_n 0, 1, 0, 0, .null, []), (43, .getfield 155, 3, 12, 68, .null, []), (46, .iload 4, 2, 0, 0, .null, []), (48, .iaload, 1, 0, 0, .null, []), (49, .ishl, 1, 0, 0, .null, []), (50, .ior, 1, 0, 0, .null, []), (51, .istore 5, 2, 0, 0, .null, []), (53, .iload_n 2, 1, 0, 0, .null, []), (54, .iload 5, 2, 0, 0, .null, []), (56, .iand, 1, 0, 0, .null, []), (57, .ifCond .ne 12, 3, 69, 0, .null, []), (60, .iload 5, 2, 0, 0, .null, []), (62, .iload_n 3, 1, 0, 0, .null, []), (63, .iconst (-1), 1, 0, 0, .int (-1), []), (64, .ixor, 1, 0, 0, .null, []), (65, .iand, 1, 0, 0, .null, []), (66, .ifCond .eq 5, 3, 71, 0, .null, []), (69, .iconst 0, 1, 0, 0, .int 0, []), (70, .ireturn, 1, 1, 0, .null, []), (71, .iload_n 2, 1, 0, 0, .null, []), (72, .iload 5, 2, 0, 0, .null, []), (74, .ior, 1, 0, 0, .null, []), (75, .istore_n 2, 1, 0, 0, .null, []), (76, .aload_n 0, 1, 0, 0, .null, []), (77, .aload_n 0, 1, 0, 0, .null, []), (78, .getfield 152, 3, 12, 67, .null, []), (81, .iload 4, 2, 0, 0, .null, []), (83, .iaload, 1, 0, 0, .null, []), (84, .aload_n 0, 1, 0, 0, .null, []), (85, .getfield 155, 3, 12, 68, .null, []), (88, .iload 4, 2, 0, 0, .null, []), (90, .iaload, 1, 0, 0, .null, []), (91, .invokevirtual 431, 3, 232, 3, .retAddr 0, []), (94, .iinc 4 1, 3, 0, 0, .int 1, []), (97, .goto (-87), 3, 10, 0, .null, []), (100, .iconst 1, 1, 0, 0, .int 1, []), (101, .ireturn, 1, 1, 0, .null, [])]
def cd_M_fillsSwaps : List (Nat × pE) := [(0, .aload_n 0, 1, 0, 0, .null, []), (1, .invokevirtual 471, 3, 249, 1, .retAddr 0, []), (4, .aload_n 0, 1, 0, 0, .null, []), (5, .iconst (-1), 1, 0, 0, .int (-1), []), (6, .putfield 474, 3, 12, 69, .int 0, []), (9, .aload_n 0, 1, 0, 0, .null, []), (10, .iconst 0, 1, 0, 0, .int 0, []), (11, .putfield 477, 3, 12, 70, .int 0, []), (14, .sipush 32767, 3, 0, 0, .int 32767, []), (17, .istore_n 1, 1, 0, 0, .null, []), (18, .iload_n 1, 1, 0, 0, .null, []), (19, .ifCond .lt 116, 3, 135, 0, .null, []), (22, .iload_n 1, 1, 0, 0, .null, []), (23, .invokestatic 413, 3, 198, 1, .int 0, []), (26, .iconst 3, 1, 0, 0, .int 3, []), (27, .if_icmp .le 6, 3, 33, 0, .null, []), (30, .goto 99, 3, 129, 0, .null, []), (33, .aload_n 0, 1, 0, 0, .null, []), (34, .invokevirtual 404, 3, 204, 1, .retAddr 0, []), (37, .aload_n 0, 1, 0, 0, .null, []), (38, .iload_n 1, 1, 0, 0, .null, []), (39, .invokevirtual 480, 3, 250, 2, .int 0, []), (42, .ifCond .ne 6, 3, 48, 0, .null, []), (45, .goto 84, 3, 129, 0, .null, []), (48, .iconst 0, 1, 0, 0, .int 0, []), (49, .istore_n 2, 1, 0, 0, .null, []), (50, .iconst 0, 1, 0, 0, .int 0, []), (51, .istore_n 3, 1, 0, 0, .null, []), (52, .iload_n 3, 1, 0, 0, .null, []), (53, .aload_n 0, 1, 0, 0, .null, []), (54, .getfield 70, 3, 12, 31, .null, []), (57, .aload_n 0, 1, 0, 0, .null, []), (58, .getfield 248, 3, 12, 18, .int 0, []), (61, .iaload, 1, 0, 0, .null, []), (62, .if_icmp .ge 17, 3, 79, 0, .null, []), (65, .iload_n 2, 1, 0, 0, .null, []), (66, .aload_n 0, 1, 0, 0, .null, []), (67, .iload_n 3, 1, 0, 0, .null, []), (68, .invokevirtual 391, 3, 216, 2, .int 0, []), (71, .iadd, 1, 0, 0, .null, []), (72, .istore_n 2, 1, 0, 0, .null, []), (73, .iinc 3 1, 3, 0, 0, .int 1, []), (76, .goto (-24), 3, 52, 0, .null, []), (79, .aload_n 0, 1, 0, 0, .null, []), (80, .getfield 474, 3, 12, 69, .int 0, []), (83, .ifCond .lt 36, 3, 119, 0, .null, []), (86, .iload_n 2, 1, 0, 0, .null, []), (87, .aload_n 0, 1, 0, 0, .null, []), (88, .getfield 474, 3, 12, 69, .int 0, []), (91, .if_icmp .gt 38, 3, 129, 0, .null, []), (94, .iload_n 2, 1, 0, 0, .null, []), (95, .aload_n 0, 1, 0, 0, .null, []), (96, .getfield 474, 3, 12, 69, .int 0, []), (99, .if_icmp .ne 20, 3, 119, 0, .null, []), (102, .iload_n 1, 1, 0, 0, .null, []), (103, .invokestatic 413, 3, 198, 1, .int 0, []), (106, .aload_n 0, 1, 0, 0, .null, []), (107, .getfield 477, 3, 12, 70, .int 0, []), (110, .invokestatic 413, 3, 198, 1, .int 0, []), (113, .if_icmp .lt 6, 3, 119, 0, .null, []), (116, .goto 13, 3, 129, 0, .null, []), (119, .aload_n 0, 1, 0, 0, .null, []), (120, .iload_n 2, 1, 0, 0, .null, []), (121, .putfield 474, 3, 12, 69, .int 0, []), (124, .aload_n 0, 1, 0, 0, .null, []), (125, .iload_n 1, 1, 0, 0, .null, []), (126, .putfield 477, 3, 12, 70, .int 0, []), (129, .iinc 1 (-1), 3, 0, 0, .int (-1), []), (132, .goto (-114), 3, 18, 0, .null, []), (135, .return_, 1, 0, 0, .null, [])]
def cd_M_swaps : List (Nat × pE) := [(0, .iload_n 1, 1, 0, 0, .null, []), (1, .iconst 0, 1, 0, 0, .int 0, []), (2, .iconst 2, 1, 0, 0, .int 2, []), (3, .invokestatic 338, 3, 197, 3, .int 0, []), (6, .ifCond .ne 5, 3, 11, 0, .null, []), (9, .iconst (-1), 1, 0, 0, .int (-1), []), (10, .ireturn, 1, 0, 0, .null, []), (11, .aload_n 0, 1, 0, 0, .null, []), (12, .invokevirtual 483, 3, 251, 1, .retAddr 0, []), (15, .iload_n 1, 1, 0, 0, .null, []), (16, .ifCond .ne 8, 3, 24, 0, .null, []), (19, .aload_n 0, 1, 0, 0, .null, []), (20, .getfield 474, 3, 12, 69, .int 0, []), (23, .ireturn, 1, 0, 0, .null, []), (24, .iload_n 1, 1, 0, 0, .null, []), (25, .iconst 1, 1, 0, 0, .int 1, []), (26, .if_icmp .ne 11, 3, 37, 0, .null, []), (29, .aload_n 0, 1, 0, 0, .null, []), (30, .getfield 477, 3, 12, 70, .int 0, []), (33, .invokestatic 413, 3, 198, 1, .int 0, []), (36, .ireturn, 1, 0, 0, .null, []), (37, .iconst 0, 1, 0, 0, .int 0, []), (38, .istore_n 2, 1, 0, 0, .null, []), (39, .iload_n 2, 1, 0, 0, .null, []), (40, .bipush 15, 2, 0, 0, .int 15, []), (42, .if_icmp .ge 41, 3, 83, 0, .null, []), (45, .aload_n 0, 1, 0, 0, .null, []), (46, .getfield 477, 3, 12, 70, .int 0, []), (49, .bipush 14, 2, 0, 0, .int 14, []), (51, .iload_n 2, 1, 0, 0, .null, []), (52, .isub, 1, 0, 0, .null, []), (53, .ishr, 1, 0, 0, .null, []), (54, .iconst 1, 1, 0, 0, .int 1, []), (55, .iand, 1, 0, 0, .null, []), (56, .iconst 1, 1, 0, 0, .int 1, []), (57, .if_icmp .ne 20, 3, 77, 0, .null, []), (60, .bipush 10, 2, 0, 0, .int 10, []), (62, .aload_n 0, 1, 0, 0, .null, []), (63, .getfield 152, 3, 12, 67, .null, []), (66, .iload_n 2, 1, 0, 0, .null, []), (67, .iaload, 1, 0, 0, .null, []), (68, .imul, 1, 0, 0, .null, []), (69, .aload_n 0, 1, 0, 0, .null, []), (70, .getfield 155, 3, 12, 68, .null, []), (73, .iload_n 2, 1, 0, 0, .null, []), (74, .iaload, 1, 0, 0, .null, []), (75, .iadd, 1, 0, 0, .null, []), (76, .ireturn, 1, 0, 0, .null, []), (77, .iinc 2 1, 3, 0, 0, .int 1, []), (80, .goto (-41), 3, 39, 0, .null, []), (83, .bipush (-2), 2, 0, 0, .int (-2), []), (85, .ireturn, 1, 0, 0, .null, [])]
def cd_M_paysBy : List (Nat × pE) := [(0, .iload_n 2, 1, 0, 0, .null, []), (1, .iload_n 1, 1, 0, 0, .null, []), (2, .ishr, 1, 0, 0, .null, []), (3, .iconst 1, 1, 0, 0, .int 1, []), (4, .iand, 1, 0, 0, .null, []), (5, .ifCond .ne 12, 3, 17, 0, .null, []), (8, .bipush 100, 2, 0, 0, .int 100, []), (10, .aload_n 0, 1, 0, 0, .null, []), (11, .iload_n 1, 1, 0, 0, .null, []), (12, .invokevirtual 391, 3, 216, 2, .int 0, []), (15, .imul, 1, 0, 0, .null, []), (16, .ireturn, 1, 0, 0, .null, []), (17, .aload_n 0, 1, 0, 0, .null, []), (18, .getfield 94, 3, 12, 39, .null, []), (21, .aload_n 0, 1, 0, 0, .null, []), (22, .getfield 248, 3, 12, 18, .int 0, []), (25, .iaload, 1, 0, 0, .null, []), (26, .aload_n 0, 1, 0, 0, .null, []), (27, .iload_n 1, 1, 0, 0, .null, []), (28, .invokevirtual 391, 3, 216, 2, .int 0, []), (31, .imul, 1, 0, 0, .null, []), (32, .aload_n 0, 1, 0, 0, .null, []), (33, .iload_n 1, 1, 0, 0, .null, []), (34, .invokevirtual 394, 3, 217, 2, .int 0, []), (37, .imul, 1, 0, 0, .null, []), (38, .bipush 100, 2, 0, 0, .int 100, []), (40, .iload_n 2, 1, 0, 0, .null, []), (41, .invokestatic 413, 3, 198, 1, .int 0, []), (44, .iconst 1, 1, 0, 0, .int 1, []), (45, .isub, 1, 0, 0, .null, []), (46, .imul, 1, 0, 0, .null, []), (47, .iadd, 1, 0, 0, .null, []), (48, .ireturn, 1, 0, 0, .null, [])]
def cd_M_isResting : List (Nat × pE) := [(0, .iconst 0, 1, 0, 0, .int 0, []), (1, .istore_n 3, 1, 0, 0, .null, []), (2, .iload_n 3, 1, 0, 0, .null, []), (3, .aload_n 0, 1, 0, 0, .null, []), (4, .getfield 70, 3, 12, 31, .null, []), (7, .aload_n 0, 1, 0, 0, .null, []), (8, .getfield 248, 3, 12, 18, .int 0, []), (11, .iaload, 1, 0, 0, .null, []), (12, .if_icmp .ge 39, 3, 51, 0, .null, []), (15, .iload_n 2, 1, 0, 0, .null, []), (16, .iload_n 3, 1, 0, 0, .null, []), (17, .ishr, 1, 0, 0, .null, []), (18, .iconst 1, 1, 0, 0, .int 1, []), (19, .iand, 1, 0, 0, .null, []), (20, .iconst 1, 1, 0, 0, .int 1, []), (21, .if_icmp .ne 24, 3, 45, 0, .null, []), (24, .aload_n 0, 1, 0, 0, .null, []), (25, .iload_n 3, 1, 0, 0, .null, []), (26, .iload_n 1, 1, 0, 0, .null, []), (27, .iconst 1, 1, 0, 0, .int 1, []), (28, .iload_n 3, 1, 0, 0, .null, []), (29, .ishl, 1, 0, 0, .null, []), (30, .ixor, 1, 0, 0, .null, []), (31, .invokevirtual 486, 3, 253, 3, .int 0, []), (34, .aload_n 0, 1, 0, 0, .null, []), (35, .iload_n 3, 1, 0, 0, .null, []), (36, .iload_n 1, 1, 0, 0, .null, []), (37, .invokevirtual 486, 3, 253, 3, .int 0, []), (40, .if_icmp .ge 5, 3, 45, 0, .null, []), (43, .iconst 0, 1, 0, 0, .int 0, []), (44, .ireturn, 1, 1, 0, .null, []), (45, .iinc 3 1, 3, 0, 0, .int 1, []), (48, .goto (-46), 3, 2, 0, .null, []), (51, .iconst 1, 1, 0, 0, .int 1, []), (52, .ireturn, 1, 1, 0, .null, [])]
def cd_M_declares : List (Nat × pE) := [(0, .iload_n 1, 1, 0, 0, .null, []), (1, .iconst (-1), 1, 0, 0, .int (-1), []), (2, .if_icmp .ge 5, 3, 7, 0, .null, []), (5, .iconst (-1), 1, 0, 0, .int (-1), []), (6, .ireturn, 1, 0, 0, .null, []), (7, .aload_n 0, 1, 0, 0, .null, []), (8, .invokevirtual 404, 3, 204, 1, .retAddr 0, []), (11, .aload_n 0, 1, 0, 0, .null, []), (12, .invokevirtual 425, 3, 223, 1, .int 0, []), (15, .istore_n 2, 1, 0, 0, .null, []), (16, .iconst 0, 1, 0, 0, .int 0, []), (17, .istore_n 3, 1, 0, 0, .null, []), (18, .iconst 0, 1, 0, 0, .int 0, []), (19, .istore 4, 2, 0, 0, .null, []), (21, .iload 4, 2, 0, 0, .null, []), (23, .bipush 64, 2, 0, 0, .int 64, []), (25, .if_icmp .ge 42, 3, 67, 0, .null, []), (28, .iload 4, 2, 0, 0, .null, []), (30, .iload_n 2, 1, 0, 0, .null, []), (31, .iconst (-1), 1, 0, 0, .int (-1), []), (32, .ixor, 1, 0, 0, .null, []), (33, .iand, 1, 0, 0, .null, []), (34, .ifCond .ne 27, 3, 61, 0, .null, []), (37, .aload_n 0, 1, 0, 0, .null, []), (38, .iload 4, 2, 0, 0, .null, []), (40, .iload_n 2, 1, 0, 0, .null, []), (41, .invokevirtual 489, 3, 254, 3, .int 0, []), (44, .ifCond .ne 6, 3, 50, 0, .null, []), (47, .goto 14, 3, 61, 0, .null, []), (50, .iload_n 3, 1, 0, 0, .null, []), (51, .iload_n 1, 1, 0, 0, .null, []), (52, .if_icmp .ne 6, 3, 58, 0, .null, []), (55, .iload 4, 2, 0, 0, .null, []), (57, .ireturn, 1, 0, 0, .null, []), (58, .iinc 3 1, 3, 0, 0, .int 1, []), (61, .iinc 4 1, 3, 0, 0, .int 1, []), (64, .goto (-43), 3, 21, 0, .null, []), (67, .iload_n 1, 1, 0, 0, .null, []), (68, .iconst (-1), 1, 0, 0, .int (-1), []), (69, .if_icmp .ne 7, 3, 76, 0, .null, []), (72, .iload_n 3, 1, 0, 0, .null, []), (73, .goto 4, 3, 77, 0, .null, []), (76, .iconst (-1), 1, 0, 0, .int (-1), []), (77, .ireturn, 1, 0, 0, .null, [])]
def cd_M_posts : List (Nat × pE) := [(0, .iload_n 1, 1, 0, 0, .null, []), (1, .iconst 0, 1, 0, 0, .int 0, []), (2, .iconst 1, 1, 0, 0, .int 1, []), (3, .invokestatic 338, 3, 197, 3, .int 0, []), (6, .ifCond .ne 5, 3, 11, 0, .null, []), (9, .iconst (-1), 1, 0, 0, .int (-1), []), (10, .ireturn, 1, 0, 0, .null, []), (11, .aload_n 0, 1, 0, 0, .null, []), (12, .invokevirtual 404, 3, 204, 1, .retAddr 0, []), (15, .iconst 0, 1, 0, 0, .int 0, []), (16, .istore_n 2, 1, 0, 0, .null, []), (17, .iconst 0, 1, 0, 0, .int 0, []), (18, .istore_n 3, 1, 0, 0, .null, []), (19, .iload_n 3, 1, 0, 0, .null, []), (20, .aload_n 0, 1, 0, 0, .null, []), (21, .getfield 55, 3, 12, 26, .null, []), (24, .aload_n 0, 1, 0, 0, .null, []), (25, .getfield 248, 3, 12, 18, .int 0, []), (28, .iaload, 1, 0, 0, .null, []), (29, .if_icmp .ge 23, 3, 52, 0, .null, []), (32, .aload_n 0, 1, 0, 0, .null, []), (33, .iload_n 3, 1, 0, 0, .null, []), (34, .invokevirtual 410, 3, 224, 2, .int 0, []), (37, .ifCond .eq 9, 3, 46, 0, .null, []), (40, .iload_n 2, 1, 0, 0, .null, []), (41, .iconst 1, 1, 0, 0, .int 1, []), (42, .iload_n 3, 1, 0, 0, .null, []), (43, .ishl, 1, 0, 0, .null, []), (44, .ior, 1, 0, 0, .null, []), (45, .istore_n 2, 1, 0, 0, .null, []), (46, .iinc 3 1, 3, 0, 0, .int 1, []), (49, .goto (-30), 3, 19, 0, .null, []), (52, .bipush (-2), 2, 0, 0, .int (-2), []), (54, .istore_n 3, 1, 0, 0, .null, []), (55, .iconst 0, 1, 0, 0, .int 0, []), (56, .istore 4, 2, 0, 0, .null, []), (58, .iload 4, 2, 0, 0, .null, []), (60, .iconst 1, 1, 0, 0, .int 1, []), (61, .aload_n 0, 1, 0, 0, .null, []), (62, .getfield 88, 3, 12, 37, .null, []), (65, .aload_n 0, 1, 0, 0, .null, []), (66, .getfield 248, 3, 12, 18, .int 0, []), (69, .iaload, 1, 0, 0, .null, []), (70, .ishl, 1, 0, 0, .null, []), (71, .if_icmp .ge 94, 3, 165, 0, .null, []), (74, .iconst 0, 1, 0, 0, .int 0, []), (75, .istore 5, 2, 0, 0, .null, []), (77, .iconst 0, 1, 0, 0, .int 0, []), (78, .istore 6, 2, 0, 0, .null, []), (80, .iload 6, 2, 0, 0, .null, []), (82, .aload_n 0, 1, 0, 0, .null, []), (83, .getfield 88, 3, 12, 37, .null, []), (86, .aload_n 0, 1, 0, 0, .null, []), (87, .getfield 248, 3, 12, 18, .int 0, []), (90, .iaload, 1, 0, 0, .null, []), (91, .if_icmp .ge 40, 3, 131, 0, .null, []), (94, .iload 4, 2, 0, 0, .null, []), (96, .iload 6, 2, 0, 0, .null, []), (98, .ishr, 1, 0, 0, .null, []), (99, .iconst 1, 1, 0, 0, .int 1, []), (100, .iand, 1, 0, 0, .null, []), (101, .iconst 1, 1, 0, 0, .int 1, []), (102, .if_icmp .ne 23, 3, 125, 0, .null, []), (105, .iload 5, 2, 0, 0, .null, []), (107, .aload_n 0, 1, 0, 0, .null, []), (108, .getfield 91, 3, 12, 38, .null, []), (111, .bipush 6, 2, 0, 0, .int 6, []), (113, .aload_n 0, 1, 0, 0, .null, []), (114, .getfield 248, 3, 12, 18, .int 0, []), (117, .imul, 1, 0, 0, .null, []), (118, .iload 6, 2, 0, 0, .null, []), (120, .iadd, 1, 0, 0, .null, []), (121, .iaload, 1, 0, 0, .null, []), (122, .ior, 1, 0, 0, .null, []), (123, .istore 5, 2, 0, 0, .null, []), (125, .iinc 6 1, 3, 0, 0, .int 1, []), (128, .goto (-48), 3, 80, 0, .null, []), (131, .iload_n 2, 1, 0, 0, .null, []), (132, .iload 5, 2, 0, 0, .null, []), (134, .iconst (-1), 1, 0, 0, .int (-1), []), (135, .ixor, 1, 0, 0, .null, []), (136, .iand, 1, 0, 0, .null, []), (137, .ifCond .ne 22, 3, 159, 0, .null, []), (140, .iload_n 3, 1, 0, 0, .null, []), (141, .ifCond .lt 15, 3, 156, 0, .null, []), (144, .iload 4, 2, 0, 0, .null, []), (146, .invokestatic 413, 3, 198, 1, .int 0, []), (149, .iload_n 3, 1, 0, 0, .null, []), (150, .invokestatic 413, 3, 198, 1, .int 0, []), (153, .if_icmp .ge 6, 3, 159, 0, .null, []), (156, .iload 4, 2, 0, 0, .null, []), (158, .istore_n 3, 1, 0, 0, .null, []), (159, .iinc 4 1, 3, 0, 0, .int 1, []), (162, .goto (-104), 3, 58, 0, .null, []), (165, .iload_n 3, 1, 0, 0, .null, []), (166, .ifCond .lt 8, 3, 174, 0, .null, []), (169, .iload_n 1, 1, 0, 0, .null, []), (170, .iconst 1, 1, 0, 0, .int 1, []), (171, .if_icmp .ne 7, 3, 178, 0, .null, []), (174, .iload_n 3, 1, 0, 0, .null, []), (175, .goto 7, 3, 182, 0, .null, []), (178, .iload_n 3, 1, 0, 0, .null, []), (179, .invokestatic 413, 3, 198, 1, .int 0, []), (182, .ireturn, 1, 0, 0, .null, [])]
def cd_M_year : List (Nat × pE) := [(0, .aload_n 0, 1, 0, 0, .null, []), (1, .iload_n 1, 1, 0, 0, .null, []), (2, .invokevirtual 400, 3, 199, 2, .int 0, []), (5, .ifCond .eq 23, 3, 28, 0, .null, []), (8, .iload_n 2, 1, 0, 0, .null, []), (9, .iconst 0, 1, 0, 0, .int 0, []), (10, .bipush 30, 2, 0, 0, .int 30, []), (12, .invokestatic 338, 3, 197, 3, .int 0, []), (15, .ifCond .eq 13, 3, 28, 0, .null, []), (18, .iload_n 3, 1, 0, 0, .null, []), (19, .iconst 1, 1, 0, 0, .int 1, []), (20, .bipush 20, 2, 0, 0, .int 20, []), (22, .invokestatic 338, 3, 197, 3, .int 0, []), (25, .ifCond .ne 7, 3, 32, 0, .null, []), (28, .ldc_w 403, 3, 0, 0, .int (-100000), []), (31, .ireturn, 1, 0, 0, .null, []), (32, .iconst 0, 1, 0, 0, .int 0, []), (33, .istore 4, 2, 0, 0, .null, []), (35, .iconst 0, 1, 0, 0, .int 0, []), (36, .istore 5, 2, 0, 0, .null, []), (38, .iload 5, 2, 0, 0, .null, []), (40, .iload_n 3, 1, 0, 0, .null, []), (41, .if_icmp .ge 59, 3, 100, 0, .null, []), (44, .aload_n 0, 1, 0, 0, .null, []), (45, .invokevirtual 404, 3, 204, 1, .retAddr 0, []), (48, .aload_n 0, 1, 0, 0, .null, []), (49, .dup, 1, 0, 0, .null, []), (50, .getfield 342, 3, 12, 59, .int 0, []), (53, .iload 5, 2, 0, 0, .null, []), (55, .iadd, 1, 0, 0, .null, []), (56, .putfield 342, 3, 12, 59, .int 0, []), (59, .iconst 0, 1, 0, 0, .int 0, []), (60, .istore 6, 2, 0, 0, .null, []), (62, .iload 6, 2, 0, 0, .null, []), (64, .iload_n 2, 1, 0, 0, .null, []), (65, .if_icmp .ge 18, 3, 83, 0, .null, []), (68, .aload_n 0, 1, 0, 0, .null, []), (69, .invokevirtual 422, 3, 220, 1, .retAddr 0, []), (72, .aload_n 0, 1, 0, 0, .null, []), (73, .invokevirtual 428, 3, 222, 1, .int 0, []), (76, .pop, 1, 0, 0, .null, []), (77, .iinc 6 1, 3, 0, 0, .int 1, []), (80, .goto (-18), 3, 62, 0, .null, []), (83, .iload 4, 2, 0, 0, .null, []), (85, .aload_n 0, 1, 0, 0, .null, []), (86, .getfield 140, 3, 12, 58, .null, []), (89, .iload_n 1, 1, 0, 0, .null, []), (90, .iaload, 1, 0, 0, .null, []), (91, .iadd, 1, 0, 0, .null, []), (92, .istore 4, 2, 0, 0, .null, []), (94, .iinc 5 1, 3, 0, 0, .int 1, []), (97, .goto (-59), 3, 38, 0, .null, []), (100, .iload 4, 2, 0, 0, .null, []), (102, .ireturn, 1, 0, 0, .null, [])]
def cd_M_poorBy : List (Nat × pE) := [(0, .aload_n 0, 1, 0, 0, .null, []), (1, .iload_n 1, 1, 0, 0, .null, []), (2, .invokevirtual 400, 3, 199, 2, .int 0, []), (5, .ifCond .ne 5, 3, 10, 0, .null, []), (8, .iconst (-1), 1, 0, 0, .int (-1), []), (9, .ireturn, 1, 0, 0, .null, []), (10, .aload_n 0, 1, 0, 0, .null, []), (11, .invokevirtual 404, 3, 204, 1, .retAddr 0, []), (14, .iconst 0, 1, 0, 0, .int 0, []), (15, .istore_n 2, 1, 0, 0, .null, []), (16, .iload_n 2, 1, 0, 0, .null, []), (17, .bipush 100, 2, 0, 0, .int 100, []), (19, .if_icmp .gt 29, 3, 48, 0, .null, []), (22, .aload_n 0, 1, 0, 0, .null, []), (23, .getfield 140, 3, 12, 58, .null, []), (26, .iload_n 1, 1, 0, 0, .null, []), (27, .iaload, 1, 0, 0, .null, []), (28, .ifCond .ge 5, 3, 33, 0, .null, []), (31, .iload_n 2, 1, 0, 0, .null, []), (32, .ireturn, 1, 0, 0, .null, []), (33, .aload_n 0, 1, 0, 0, .null, []), (34, .invokevirtual 422, 3, 220, 1, .retAddr 0, []), (37, .aload_n 0, 1, 0, 0, .null, []), (38, .invokevirtual 428, 3, 222, 1, .int 0, []), (41, .pop, 1, 0, 0, .null, []), (42, .iinc 2 1, 3, 0, 0, .int 1, []), (45, .goto (-29), 3, 16, 0, .null, []), (48, .bipush (-2), 2, 0, 0, .int (-2), []), (50, .ireturn, 1, 0, 0, .null, [])]
def cd_M_shows : List (Nat × pE) := [(0, .aload_n 0, 1, 0, 0, .null, []), (1, .iload_n 1, 1, 0, 0, .null, []), (2, .invokevirtual 400, 3, 199, 2, .int 0, []), (5, .ifCond .ne 5, 3, 10, 0, .null, []), (8, .iconst (-1), 1, 0, 0, .int (-1), []), (9, .ireturn, 1, 0, 0, .null, []), (10, .aload_n 0, 1, 0, 0, .null, []), (11, .invokevirtual 404, 3, 204, 1, .retAddr 0, []), (14, .aload_n 0, 1, 0, 0, .null, []), (15, .getfield 140, 3, 12, 58, .null, []), (18, .bipush 12, 2, 0, 0, .int 12, []), (20, .iload_n 1, 1, 0, 0, .null, []), (21, .iadd, 1, 0, 0, .null, []), (22, .iaload, 1, 0, 0, .null, []), (23, .ifCond .ge 8, 3, 31, 0, .null, []), (26, .bipush (-2), 2, 0, 0, .int (-2), []), (28, .goto 8, 3, 36, 0, .null, []), (31, .aload_n 0, 1, 0, 0, .null, []), (32, .iload_n 1, 1, 0, 0, .null, []), (33, .invokevirtual 394, 3, 217, 2, .int 0, []), (36, .ireturn, 1, 0, 0, .null, [])]
def cd_M_tell : List (Nat × pE) := [(0, .aload_n 0, 1, 0, 0, .null, []), (1, .getfield 269, 3, 12, 71, .int 0, []), (4, .bipush 20, 2, 0, 0, .int 20, []), (6, .if_icmp .eq 11, 3, 17, 0, .null, []), (9, .aload_n 0, 1, 0, 0, .null, []), (10, .iload_n 1, 1, 0, 0, .null, []), (11, .invokevirtual 416, 3, 201, 2, .int 0, []), (14, .ifCond .ne 5, 3, 19, 0, .null, []), (17, .iconst (-1), 1, 0, 0, .int (-1), []), (18, .ireturn, 1, 0, 0, .null, []), (19, .aload_n 0, 1, 0, 0, .null, []), (20, .getfield 158, 3, 12, 72, .null, []), (23, .aload_n 0, 1, 0, 0, .null, []), (24, .getfield 269, 3, 12, 71, .int 0, []), (27, .iload_n 1, 1, 0, 0, .null, []), (28, .iastore, 1, 0, 0, .null, []), (29, .aload_n 0, 1, 0, 0, .null, []), (30, .dup, 1, 0, 0, .null, []), (31, .getfield 269, 3, 12, 71, .int 0, []), (34, .iconst 1, 1, 0, 0, .int 1, []), (35, .iadd, 1, 0, 0, .null, []), (36, .putfield 269, 3, 12, 71, .int 0, []), (39, .aload_n 0, 1, 0, 0, .null, []), (40, .getfield 269, 3, 12, 71, .int 0, []), (43, .iconst 1, 1, 0, 0, .int 1, []), (44, .isub, 1, 0, 0, .null, []), (45, .ireturn, 1, 0, 0, .null, [])]
def cd_M_forget : List (Nat × pE) := [(0, .aload_n 0, 1, 0, 0, .null, []), (1, .getfield 269, 3, 12, 71, .int 0, []), (4, .istore_n 1, 1, 0, 0, .null, []), (5, .aload_n 0, 1, 0, 0, .null, []), (6, .iconst 0, 1, 0, 0, .int 0, []), (7, .putfield 269, 3, 12, 71, .int 0, []), (10, .iload_n 1, 1, 0, 0, .null, []), (11, .ireturn, 1, 0, 0, .null, [])]
def cd_M_fromBy : List (Nat × pE) := [(0, .iconst 0, 1, 0, 0, .int 0, []), (1, .istore_n 2, 1, 0, 0, .null, []), (2, .iconst 0, 1, 0, 0, .int 0, []), (3, .istore_n 3, 1, 0, 0, .null, []), (4, .iload_n 3, 1, 0, 0, .null, []), (5, .aload_n 0, 1, 0, 0, .null, []), (6, .getfield 55, 3, 12, 26, .null, []), (9, .aload_n 0, 1, 0, 0, .null, []), (10, .getfield 248, 3, 12, 18, .int 0, []), (13, .iaload, 1, 0, 0, .null, []), (14, .if_icmp .ge 56, 3, 70, 0, .null, []), (17, .iconst 1, 1, 0, 0, .int 1, []), (18, .istore 4, 2, 0, 0, .null, []), (20, .iconst 0, 1, 0, 0, .int 0, []), (21, .istore 5, 2, 0, 0, .null, []), (23, .iload 5, 2, 0, 0, .null, []), (25, .iload_n 1, 1, 0, 0, .null, []), (26, .if_icmp .ge 27, 3, 53, 0, .null, []), (29, .aload_n 0, 1, 0, 0, .null, []), (30, .iload_n 3, 1, 0, 0, .null, []), (31, .aload_n 0, 1, 0, 0, .null, []), (32, .getfield 158, 3, 12, 72, .null, []), (35, .iload 5, 2, 0, 0, .null, []), (37, .iaload, 1, 0, 0, .null, []), (38, .invokevirtual 349, 3, 207, 3, .int 0, []), (41, .ifCond .ne 6, 3, 47, 0, .null, []), (44, .iconst 0, 1, 0, 0, .int 0, []), (45, .istore 4, 2, 0, 0, .null, []), (47, .iinc 5 1, 3, 0, 0, .int 1, []), (50, .goto (-27), 3, 23, 0, .null, []), (53, .iload 4, 2, 0, 0, .null, []), (55, .ifCond .eq 9, 3, 64, 0, .null, []), (58, .iload_n 2, 1, 0, 0, .null, []), (59, .iconst 1, 1, 0, 0, .int 1, []), (60, .iload_n 3, 1, 0, 0, .null, []), (61, .ishl, 1, 0, 0, .null, []), (62, .ior, 1, 0, 0, .null, []), (63, .istore_n 2, 1, 0, 0, .null, []), (64, .iinc 3 1, 3, 0, 0, .int 1, []), (67, .goto (-63), 3, 4, 0, .null, []), (70, .iload_n 2, 1, 0, 0, .null, []), (71, .ireturn, 1, 0, 0, .null, [])]
def cd_M_from : List (Nat × pE) := [(0, .iload_n 1, 1, 0, 0, .null, []), (1, .iconst 0, 1, 0, 0, .int 0, []), (2, .aload_n 0, 1, 0, 0, .null, []), (3, .getfield 269, 3, 12, 71, .int 0, []), (6, .invokestatic 338, 3, 197, 3, .int 0, []), (9, .ifCond .eq 11, 3, 20, 0, .null, []), (12, .aload_n 0, 1, 0, 0, .null, []), (13, .iload_n 1, 1, 0, 0, .null, []), (14, .invokevirtual 492, 3, 262, 2, .int 0, []), (17, .goto 4, 3, 21, 0, .null, []), (20, .iconst (-1), 1, 0, 0, .int (-1), []), (21, .ireturn, 1, 0, 0, .null, [])]
def cd_M_productIn : List (Nat × pE) := [(0, .lconst 1, 1, 0, 0, .long 1, []), (1, .lstore 4, 2, 0, 0, .null, []), (3, .iconst 0, 1, 0, 0, .int 0, []), (4, .istore 6, 2, 0, 0, .null, []), (6, .iload 6, 2, 0, 0, .null, []), (8, .iload_n 2, 1, 0, 0, .null, []), (9, .if_icmp .ge 40, 3, 49, 0, .null, []), (12, .lload 4, 2, 0, 0, .null, []), (14, .iload_n 3, 1, 0, 0, .null, []), (15, .ifCond .eq 12, 3, 27, 0, .null, []), (18, .aload_n 0, 1, 0, 0, .null, []), (19, .iload_n 1, 1, 0, 0, .null, []), (20, .invokevirtual 375, 3, 208, 2, .int 0, []), (23, .i2l, 1, 0, 0, .null, []), (24, .goto 16, 3, 40, 0, .null, []), (27, .aload_n 0, 1, 0, 0, .null, []), (28, .iload_n 1, 1, 0, 0, .null, []), (29, .aload_n 0, 1, 0, 0, .null, []), (30, .getfield 158, 3, 12, 72, .null, []), (33, .iload 6, 2, 0, 0, .null, []), (35, .iaload, 1, 0, 0, .null, []), (36, .invokevirtual 349, 3, 207, 3, .int 0, []), (39, .i2l, 1, 0, 0, .null, []), (40, .lmul, 1, 0, 0, .null, []), (41, .lstore 4, 2, 0, 0, .null, []), (43, .iinc 6 1, 3, 0, 0, .int 1, []), (46, .goto (-40), 3, 6, 0, .null, []), (49, .lload 4, 2, 0, 0, .null, []), (51, .lreturn, 1, 0, 0, .null, [])]
def cd_M_likeliest : List (Nat × pE) := [(0, .iload_n 1, 1, 0, 0, .null, []), (1, .iconst 0, 1, 0, 0, .int 0, []), (2, .aload_n 0, 1, 0, 0, .null, []), (3, .getfield 269, 3, 12, 71, .int 0, []), (6, .invokestatic 338, 3, 197, 3, .int 0, []), (9, .ifCond .eq 9, 3, 18, 0, .null, []), (12, .iload_n 1, 1, 0, 0, .null, []), (13, .bipush 6, 2, 0, 0, .int 6, []), (15, .if_icmp .le 5, 3, 20, 0, .null, []), (18, .iconst (-1), 1, 0, 0, .int (-1), []), (19, .ireturn, 1, 0, 0, .null, []), (20, .aload_n 0, 1, 0, 0, .null, []), (21, .iload_n 1, 1, 0, 0, .null, []), (22, .invokevirtual 492, 3, 262, 2, .int 0, []), (25, .istore_n 2, 1, 0, 0, .null, []), (26, .bipush (-2), 2, 0, 0, .int (-2), []), (28, .istore_n 3, 1, 0, 0, .null, []), (29, .iconst 0, 1, 0, 0, .int 0, []), (30, .istore 4, 2, 0, 0, .null, []), (32, .iload 4, 2, 0, 0, .null, []), (34, .aload_n 0, 1, 0, 0, .null, []), (35, .getfield 55, 3, 12, 26, .null, []), (38, .aload_n 0, 1, 0, 0, .null, []), (39, .getfield 248, 3, 12, 18, .int 0, []), (42, .iaload, 1, 0, 0, .null, []), (43, .if_icmp .ge 64, 3, 107, 0, .null, []), (46, .iload_n 2, 1, 0, 0, .null, []), (47, .iload 4, 2, 0, 0, .null, []), (49, .ishr, 1, 0, 0, .null, []), (50, .iconst 1, 1, 0, 0, .int 1, []), (51, .iand, 1, 0, 0, .null, []), (52, .ifCond .ne 6, 3, 58, 0, .null, []), (55, .goto 46, 3, 101, 0, .null, []), (58, .iload_n 3, 1, 0, 0, .null, []), (59, .ifCond .lt 39, 3, 98, 0, .null, []), (62, .aload_n 0, 1, 0, 0, .null, []), (63, .iload 4, 2, 0, 0, .null, []), (65, .iload_n 1, 1, 0, 0, .null, []), (66, .iconst 0, 1, 0, 0, .int 0, []), (67, .invokevirtual 495, 3, 264, 4, .long 0, []), (70, .aload_n 0, 1, 0, 0, .null, []), (71, .iload_n 3, 1, 0, 0, .null, []), (72, .iload_n 1, 1, 0, 0, .null, []), (73, .iconst 1, 1, 0, 0, .int 1, []), (74, .invokevirtual 495, 3, 264, 4, .long 0, []), (77, .lmul, 1, 0, 0, .null, []), (78, .aload_n 0, 1, 0, 0, .null, []), (79, .iload_n 3, 1, 0, 0, .null, []), (80, .iload_n 1, 1, 0, 0, .null, []), (81, .iconst 0, 1, 0, 0, .int 0, []), (82, .invokevirtual 495, 3, 264, 4, .long 0, []), (85, .aload_n 0, 1, 0, 0, .null, []), (86, .iload 4, 2, 0, 0, .null, []), (88, .iload_n 1, 1, 0, 0, .null, []), (89, .iconst 1, 1, 0, 0, .int 1, []), (90, .invokevirtual 495, 3, 264, 4, .long 0, []), (93, .lmul, 1, 0, 0, .null, []), (94, .lcmp, 1, 0, 0, .null, []), (95, .ifCond .le 6, 3, 101, 0, .null, []), (98, .iload 4, 2, 0, 0, .null, []), (100, .istore_n 3, 1, 0, 0, .null, []), (101, .iinc 4 1, 3, 0, 0, .int 1, []), (104, .goto (-72), 3, 32, 0, .null, []), (107, .iload_n 3, 1, 0, 0, .null, []), (108, .ireturn, 1, 0, 0, .null, [])]
def cd_M_whose : List (Nat × pE) := [(0, .iload_n 1, 1, 0, 0, .null, []), (1, .iconst 0, 1, 0, 0, .int 0, []), (2, .aload_n 0, 1, 0, 0, .null, []), (3, .getfield 269, 3, 12, 71, .int 0, []), (6, .invokestatic 338, 3, 197, 3, .int 0, []), (9, .ifCond .ne 5, 3, 14, 0, .null, []), (12, .iconst (-1), 1, 0, 0, .int (-1), []), (13, .ireturn, 1, 0, 0, .null, []), (14, .aload_n 0, 1, 0, 0, .null, []), (15, .invokevirtual 404, 3, 204, 1, .retAddr 0, []), (18, .aload_n 0, 1, 0, 0, .null, []), (19, .iload_n 1, 1, 0, 0, .null, []), (20, .invokevirtual 492, 3, 262, 2, .int 0, []), (23, .istore_n 2, 1, 0, 0, .null, []), (24, .iconst 0, 1, 0, 0, .int 0, []), (25, .istore_n 3, 1, 0, 0, .null, []), (26, .iconst 0, 1, 0, 0, .int 0, []), (27, .istore 4, 2, 0, 0, .null, []), (29, .iload 4, 2, 0, 0, .null, []), (31, .aload_n 0, 1, 0, 0, .null, []), (32, .getfield 55, 3, 12, 26, .null, []), (35, .aload_n 0, 1, 0, 0, .null, []), (36, .getfield 248, 3, 12, 18, .int 0, []), (39, .iaload, 1, 0, 0, .null, []), (40, .if_icmp .ge 28, 3, 68, 0, .null, []), (43, .iload_n 2, 1, 0, 0, .null, []), (44, .iload 4, 2, 0, 0, .null, []), (46, .ishr, 1, 0, 0, .null, []), (47, .iconst 1, 1, 0, 0, .int 1, []), (48, .iand, 1, 0, 0, .null, []), (49, .iconst 1, 1, 0, 0, .int 1, []), (50, .if_icmp .ne 12, 3, 62, 0, .null, []), (53, .iload_n 3, 1, 0, 0, .null, []), (54, .aload_n 0, 1, 0, 0, .null, []), (55, .iload 4, 2, 0, 0, .null, []), (57, .invokevirtual 410, 3, 224, 2, .int 0, []), (60, .ior, 1, 0, 0, .null, []), (61, .istore_n 3, 1, 0, 0, .null, []), (62, .iinc 4 1, 3, 0, 0, .int 1, []), (65, .goto (-36), 3, 29, 0, .null, []), (68, .iload_n 3, 1, 0, 0, .null, []), (69, .ireturn, 1, 0, 0, .null, [])]
def cd_M_hold : List (Nat × pE) := [(0, .iload_n 1, 1, 0, 0, .null, []), (1, .iconst 0, 1, 0, 0, .int 0, []), (2, .iconst 2, 1, 0, 0, .int 2, []), (3, .invokestatic 338, 3, 197, 3, .int 0, []), (6, .ifCond .ne 5, 3, 11, 0, .null, []), (9, .iconst 0, 1, 0, 0, .int 0, []), (10, .ireturn, 1, 1, 0, .null, []), (11, .aload_n 0, 1, 0, 0, .null, []), (12, .getfield 161, 3, 12, 73, .null, []), (15, .iload_n 1, 1, 0, 0, .null, []), (16, .iconst 1, 1, 0, 0, .int 1, []), (17, .bastore, 1, 102, 0, .null, []), (18, .iconst 0, 1, 0, 0, .int 0, []), (19, .istore_n 2, 1, 0, 0, .null, []), (20, .iload_n 2, 1, 0, 0, .null, []), (21, .sipush 152, 3, 0, 0, .int 152, []), (24, .if_icmp .ge 27, 3, 51, 0, .null, []), (27, .aload_n 0, 1, 0, 0, .null, []), (28, .getfield 164, 3, 12, 74, .null, []), (31, .sipush 152, 3, 0, 0, .int 152, []), (34, .iload_n 1, 1, 0, 0, .null, []), (35, .imul, 1, 0, 0, .null, []), (36, .iload_n 2, 1, 0, 0, .null, []), (37, .iadd, 1, 0, 0, .null, []), (38, .aload_n 0, 1, 0, 0, .null, []), (39, .getfield 137, 3, 12, 57, .null, []), (42, .iload_n 2, 1, 0, 0, .null, []), (43, .iaload, 1, 0, 0, .null, []), (44, .iastore, 1, 0, 0, .null, []), (45, .iinc 2 1, 3, 0, 0, .int 1, []), (48, .goto (-28), 3, 20, 0, .null, []), (51, .iconst 1, 1, 0, 0, .int 1, []), (52, .ireturn, 1, 1, 0, .null, [])]
def cd_M_restore : List (Nat × pE) := [(0, .iload_n 1, 1, 0, 0, .null, []), (1, .iconst 0, 1, 0, 0, .int 0, []), (2, .iconst 2, 1, 0, 0, .int 2, []), (3, .invokestatic 338, 3, 197, 3, .int 0, []), (6, .ifCond .eq 12, 3, 18, 0, .null, []), (9, .aload_n 0, 1, 0, 0, .null, []), (10, .getfield 161, 3, 12, 73, .null, []), (13, .iload_n 1, 1, 0, 0, .null, []), (14, .baload, 1, 102, 0, .null, []), (15, .ifCond .ne 5, 3, 20, 0, .null, []), (18, .iconst 0, 1, 0, 0, .int 0, []), (19, .ireturn, 1, 1, 0, .null, []), (20, .iconst 0, 1, 0, 0, .int 0, []), (21, .istore_n 2, 1, 0, 0, .null, []), (22, .iload_n 2, 1, 0, 0, .null, []), (23, .sipush 152, 3, 0, 0, .int 152, []), (26, .if_icmp .ge 27, 3, 53, 0, .null, []), (29, .aload_n 0, 1, 0, 0, .null, []), (30, .getfield 137, 3, 12, 57, .null, []), (33, .iload_n 2, 1, 0, 0, .null, []), (34, .aload_n 0, 1, 0, 0, .null, []), (35, .getfield 164, 3, 12, 74, .null, []), (38, .sipush 152, 3, 0, 0, .int 152, []), (41, .iload_n 1, 1, 0, 0, .null, []), (42, .imul, 1, 0, 0, .null, []), (43, .iload_n 2, 1, 0, 0, .null, []), (44, .iadd, 1, 0, 0, .null, []), (45, .iaload, 1, 0, 0, .null, []), (46, .iastore, 1, 0, 0, .null, []), (47, .iinc 2 1, 3, 0, 0, .int 1, []), (50, .goto (-28), 3, 22, 0, .null, []), (53, .aload_n 0, 1, 0, 0, .null, []), (54, .iconst 0, 1, 0, 0, .int 0, []), (55, .putfield 266, 3, 12, 61, .int 0, []), (58, .iconst 1, 1, 0, 0, .int 1, []), (59, .ireturn, 1, 1, 0, .null, [])]
def cd_M_count : List (Nat × pE) := [(0, .aload_n 0, 1, 0, 0, .null, []), (1, .invokevirtual 404, 3, 204, 1, .retAddr 0, []), (4, .iload_n 1, 1, 0, 0, .null, []), (5, .tableswitch 192 0 12 #[67, 77, 87, 97, 107, 107, 107, 117, 122, 127, 132, 137, 182], 67, 197, 0, .null, [(0, 72), (1, 82), (2, 92), (3, 102), (4, 112), (5, 112), (6, 112), (7, 122), (8, 127), (9, 132), (10, 137), (11, 142), (12, 187)]), (72, .aload_n 0, 1, 0, 0, .null, []), (73, .getfield 49, 3, 12, 24, .null, []), (76, .aload_n 0, 1, 0, 0, .null, []), (77, .getfield 248, 3, 12, 18, .int 0, []), (80, .iaload, 1, 0, 0, .null, []), (81, .ireturn, 1, 0, 0, .null, []), (82, .aload_n 0, 1, 0, 0, .null, []), (83, .getfield 55, 3, 12, 26, .null, []), (86, .aload_n 0, 1, 0, 0, .null, []), (87, .getfield 248, 3, 12, 18, .int 0, []), (90, .iaload, 1, 0, 0, .null, []), (91, .ireturn, 1, 0, 0, .null, []), (92, .aload_n 0, 1, 0, 0, .null, []), (93, .getfield 70, 3, 12, 31, .null, []), (96, .aload_n 0, 1, 0, 0, .null, []), (97, .getfield 248, 3, 12, 18, .int 0, []), (100, .iaload, 1, 0, 0, .null, []), (101, .ireturn, 1, 0, 0, .null, []), (102, .aload_n 0, 1, 0, 0, .null, []), (103, .getfield 88, 3, 12, 37, .null, []), (106, .aload_n 0, 1, 0, 0, .null, []), (107, .getfield 248, 3, 12, 18, .int 0, []), (110, .iaload, 1, 0, 0, .null, []), (111, .ireturn, 1, 0, 0, .null, []), (112, .aload_n 0, 1, 0, 0, .null, []), (113, .getfield 140, 3, 12, 58, .null, []), (116, .bipush 54, 2, 0, 0, .int 54, []), (118, .iload_n 1, 1, 0, 0, .null, []), (119, .iadd, 1, 0, 0, .null, []), (120, .iaload, 1, 0, 0, .null, []), (121, .ireturn, 1, 0, 0, .null, []), (122, .aload_n 0, 1, 0, 0, .null, []), (123, .invokevirtual 425, 3, 223, 1, .int 0, []), (126, .ireturn, 1, 0, 0, .null, []), (127, .aload_n 0, 1, 0, 0, .null, []), (128, .getfield 181, 3, 12, 2, .int 0, []), (131, .ireturn, 1, 0, 0, .null, []), (132, .aload_n 0, 1, 0, 0, .null, []), (133, .getfield 266, 3, 12, 61, .int 0, []), (136, .ireturn, 1, 0, 0, .null, []), (137, .aload_n 0, 1, 0, 0, .null, []), (138, .getfield 269, 3, 12, 71, .int 0, []), (141, .ireturn, 1, 0, 0, .null, []), (142, .aload_n 0, 1, 0, 0, .null, []), (143, .getfield 161, 3, 12, 73, .null, []), (146, .iconst 0, 1, 0, 0, .int 0, []), (147, .baload, 1, 102, 0, .null, []), (148, .ifCond .eq 7, 3, 155, 0, .null, []), (151, .iconst 1, 1, 0, 0, .int 1, []), (152, .goto 4, 3, 156, 0, .null, []), (155, .iconst 0, 1, 0, 0, .int 0, []), (156, .aload_n 0, 1, 0, 0, .null, []), (157, .getfield 161, 3, 12, 73, .null, []), (160, .iconst 1, 1, 0, 0, .int 1, []), (161, .baload, 1, 102, 0, .null, []), (162, .ifCond .eq 7, 3, 169, 0, .null, []), (165, .iconst 1, 1, 0, 0, .int 1, []), (166, .goto 4, 3, 170, 0, .null, []), (169, .iconst 0, 1, 0, 0, .int 0, []), (170, .iadd, 1, 0, 0, .null, []), (171, .aload_n 0, 1, 0, 0, .null, []), (172, .getfield 161, 3, 12, 73, .null, []), (175, .iconst 2, 1, 0, 0, .int 2, []), (176, .baload, 1, 102, 0, .null, []), (177, .ifCond .eq 7, 3, 184, 0, .null, []), (180, .iconst 1, 1, 0, 0, .int 1, []), (181, .goto 4, 3, 185, 0, .null, []), (184, .iconst 0, 1, 0, 0, .int 0, []), (185, .iadd, 1, 0, 0, .null, []), (186, .ireturn, 1, 0, 0, .null, []), (187, .aload_n 0, 1, 0, 0, .null, []), (188, .getfield 94, 3, 12, 39, .null, []), (191, .aload_n 0, 1, 0, 0, .null, []), (192, .getfield 248, 3, 12, 18, .int 0, []), (195, .iaload, 1, 0, 0, .null, []), (196, .ireturn, 1, 0, 0, .null, []), (197, .iconst (-1), 1, 0, 0, .int (-1), []), (198, .ireturn, 1, 0, 0, .null, [])]
def cd_jI_bitCount : List (Nat × pE) := [(0, .iload_n 0, 1, 0, 0, .null, []), (1, .iload_n 0, 1, 0, 0, .null, []), (2, .iconst 1, 1, 0, 0, .int 1, []), (3, .iushr, 1, 0, 0, .null, []), (4, .ldc_w 265, 3, 0, 0, .int 1431655765, []), (7, .iand, 1, 0, 0, .null, []), (8, .isub, 1, 0, 0, .null, []), (9, .istore_n 0, 1, 0, 0, .null, []), (10, .iload_n 0, 1, 0, 0, .null, []), (11, .ldc_w 266, 3, 0, 0, .int 858993459, []), (14, .iand, 1, 0, 0, .null, []), (15, .iload_n 0, 1, 0, 0, .null, []), (16, .iconst 2, 1, 0, 0, .int 2, []), (17, .iushr, 1, 0, 0, .null, []), (18, .ldc_w 266, 3, 0, 0, .int 858993459, []), (21, .iand, 1, 0, 0, .null, []), (22, .iadd, 1, 0, 0, .null, []), (23, .istore_n 0, 1, 0, 0, .null, []), (24, .iload_n 0, 1, 0, 0, .null, []), (25, .iload_n 0, 1, 0, 0, .null, []), (26, .iconst 4, 1, 0, 0, .int 4, []), (27, .iushr, 1, 0, 0, .null, []), (28, .iadd, 1, 0, 0, .null, []), (29, .ldc_w 267, 3, 0, 0, .int 252645135, []), (32, .iand, 1, 0, 0, .null, []), (33, .istore_n 0, 1, 0, 0, .null, []), (34, .iload_n 0, 1, 0, 0, .null, []), (35, .iload_n 0, 1, 0, 0, .null, []), (36, .bipush 8, 2, 0, 0, .int 8, []), (38, .iushr, 1, 0, 0, .null, []), (39, .iadd, 1, 0, 0, .null, []), (40, .istore_n 0, 1, 0, 0, .null, []), (41, .iload_n 0, 1, 0, 0, .null, []), (42, .iload_n 0, 1, 0, 0, .null, []), (43, .bipush 16, 2, 0, 0, .int 16, []), (45, .iushr, 1, 0, 0, .null, []), (46, .iadd, 1, 0, 0, .null, []), (47, .istore_n 0, 1, 0, 0, .null, []), (48, .iload_n 0, 1, 0, 0, .null, []), (49, .bipush 63, 2, 0, 0, .int 63, []), (51, .iand, 1, 0, 0, .null, []), (52, .ireturn, 1, 0, 0, .null, [])]
def cd_jA_fill : List (Nat × pE) := [(0, .iconst 0, 1, 0, 0, .int 0, []), (1, .istore_n 2, 1, 0, 0, .null, []), (2, .aload_n 0, 1, 0, 0, .null, []), (3, .arraylength, 1, 0, 0, .null, []), (4, .istore_n 3, 1, 0, 0, .null, []), (5, .iload_n 2, 1, 0, 0, .null, []), (6, .iload_n 3, 1, 0, 0, .null, []), (7, .if_icmp .ge 13, 3, 20, 0, .null, []), (10, .aload_n 0, 1, 0, 0, .null, []), (11, .iload_n 2, 1, 0, 0, .null, []), (12, .iload_n 1, 1, 0, 0, .null, []), (13, .iastore, 1, 0, 0, .null, []), (14, .iinc 2 1, 3, 0, 0, .int 1, []), (17, .goto (-12), 3, 5, 0, .null, []), (20, .return_, 1, 0, 0, .null, [])]
def cd_jS_length : List (Nat × pE) := [(0, .aload_n 0, 1, 0, 0, .null, []), (1, .getfield 9, 3, 50, 0, .null, []), (4, .arraylength, 1, 0, 0, .null, []), (5, .aload_n 0, 1, 0, 0, .null, []), (6, .invokevirtual 335, 3, 273, 1, .int 0, []), (9, .ishr, 1, 0, 0, .null, []), (10, .ireturn, 1, 0, 0, .null, [])]
def cd_jS_coder : List (Nat × pE) := [(0, .getstatic 38, 3, 0, 0, .int 1, []), (3, .ifCond .eq 10, 3, 13, 0, .null, []), (6, .aload_n 0, 1, 0, 0, .null, []), (7, .getfield 15, 3, 50, 1, .int 0, []), (10, .goto 4, 3, 14, 0, .null, []), (13, .iconst 1, 1, 0, 0, .int 1, []), (14, .ireturn, 1, 3, 0, .null, [])]
def cd_jS_charAt : List (Nat × pE) := [(0, .aload_n 0, 1, 0, 0, .null, []), (1, .invokevirtual 492, 3, 275, 1, .int 0, []), (4, .ifCond .eq 12, 3, 16, 0, .null, []), (7, .aload_n 0, 1, 0, 0, .null, []), (8, .getfield 9, 3, 50, 0, .null, []), (11, .iload_n 1, 1, 0, 0, .null, []), (12, .invokestatic 495, 3, 276, 2, .int 0, []), (15, .ireturn, 1, 2, 0, .null, []), (16, .aload_n 0, 1, 0, 0, .null, []), (17, .getfield 9, 3, 50, 0, .null, []), (20, .iload_n 1, 1, 0, 0, .null, []), (21, .invokestatic 498, 3, 9900, 2, .int 0, []), (24, .ireturn, 1, 2, 0, .null, [])]
def cd_jS_isLatin1 : List (Nat × pE) := [(0, .getstatic 38, 3, 0, 0, .int 1, []), (3, .ifCond .eq 14, 3, 17, 0, .null, []), (6, .aload_n 0, 1, 0, 0, .null, []), (7, .getfield 15, 3, 50, 1, .int 0, []), (10, .ifCond .ne 7, 3, 17, 0, .null, []), (13, .iconst 1, 1, 0, 0, .int 1, []), (14, .goto 4, 3, 18, 0, .null, []), (17, .iconst 0, 1, 0, 0, .int 0, []), (18, .ireturn, 1, 1, 0, .null, [])]
def cd_jT_charAt : List (Nat × pE) := [(0, .iload_n 1, 1, 0, 0, .null, []), (1, .aload_n 0, 1, 0, 0, .null, []), (2, .arraylength, 1, 0, 0, .null, []), (3, .invokestatic 9, 3, 277, 2, .retAddr 0, []), (6, .aload_n 0, 1, 0, 0, .null, []), (7, .iload_n 1, 1, 0, 0, .null, []), (8, .baload, 1, 101, 0, .null, []), (9, .sipush 255, 3, 0, 0, .int 255, []), (12, .iand, 1, 0, 0, .null, []), (13, .i2c, 1, 0, 0, .null, []), (14, .ireturn, 1, 2, 0, .null, [])]
def cd_jS_checkIndex : List (Nat × pE) := [(0, .iload_n 0, 1, 0, 0, .null, []), (1, .iload_n 1, 1, 0, 0, .null, []), (2, .getstatic 1053, 3, 0, 0, .float 0, []), (5, .invokestatic 1059, 3, 278, 3, .int 0, []), (8, .pop, 1, 0, 0, .null, []), (9, .return_, 1, 0, 0, .null, [])]
def cd_jP_checkIndex : List (Nat × pE) := [(0, .iload_n 0, 1, 0, 0, .null, []), (1, .ifCond .lt 8, 3, 9, 0, .null, []), (4, .iload_n 0, 1, 0, 0, .null, []), (5, .iload_n 1, 1, 0, 0, .null, []), (6, .if_icmp .lt 10, 3, 16, 0, .null, []), (9, .aload_n 2, 1, 0, 0, .null, []), (10, .iload_n 0, 1, 0, 0, .null, []), (11, .iload_n 1, 1, 0, 0, .null, []), (12, .invokestatic 95, 3, 9900, 3, .null, []), (15, .athrow, 1, 0, 0, .null, []), (16, .iload_n 0, 1, 0, 0, .null, []), (17, .ireturn, 1, 0, 0, .null, [])]
def cd_jS_indexOf : List (Nat × pE) := [(0, .aload_n 0, 1, 0, 0, .null, []), (1, .iload_n 1, 1, 0, 0, .null, []), (2, .iconst 0, 1, 0, 0, .int 0, []), (3, .invokevirtual 633, 3, 280, 3, .int 0, []), (6, .ireturn, 1, 0, 0, .null, [])]
def cd_jS_indexOf2 : List (Nat × pE) := [(0, .aload_n 0, 1, 0, 0, .null, []), (1, .invokevirtual 492, 3, 275, 1, .int 0, []), (4, .ifCond .eq 19, 3, 23, 0, .null, []), (7, .aload_n 0, 1, 0, 0, .null, []), (8, .getfield 9, 3, 50, 0, .null, []), (11, .iload_n 1, 1, 0, 0, .null, []), (12, .iload_n 2, 1, 0, 0, .null, []), (13, .aload_n 0, 1, 0, 0, .null, []), (14, .invokevirtual 505, 3, 272, 1, .int 0, []), (17, .invokestatic 637, 3, 281, 4, .int 0, []), (20, .goto 16, 3, 36, 0, .null, []), (23, .aload_n 0, 1, 0, 0, .null, []), (24, .getfield 9, 3, 50, 0, .null, []), (27, .iload_n 1, 1, 0, 0, .null, []), (28, .iload_n 2, 1, 0, 0, .null, []), (29, .aload_n 0, 1, 0, 0, .null, []), (30, .invokevirtual 505, 3, 272, 1, .int 0, []), (33, .invokestatic 640, 3, 9900, 4, .int 0, []), (36, .ireturn, 1, 0, 0, .null, [])]
def cd_jT_indexOf : List (Nat × pE) := [(0, .iload_n 1, 1, 0, 0, .null, []), (1, .invokestatic 88, 3, 282, 1, .int 0, []), (4, .ifCond .ne 5, 3, 9, 0, .null, []), (7, .iconst (-1), 1, 0, 0, .int (-1), []), (8, .ireturn, 1, 0, 0, .null, []), (9, .iload_n 2, 1, 0, 0, .null, []), (10, .iconst 0, 1, 0, 0, .int 0, []), (11, .invokestatic 92, 3, 9996, 2, .int 0, []), (14, .istore_n 2, 1, 0, 0, .null, []), (15, .iload_n 3, 1, 0, 0, .null, []), (16, .aload_n 0, 1, 0, 0, .null, []), (17, .arraylength, 1, 0, 0, .null, []), (18, .invokestatic 38, 3, 9995, 2, .int 0, []), (21, .istore_n 3, 1, 0, 0, .null, []), (22, .iload_n 2, 1, 0, 0, .null, []), (23, .iload_n 3, 1, 0, 0, .null, []), (24, .if_icmp .lt 5, 3, 29, 0, .null, []), (27, .iconst (-1), 1, 0, 0, .int (-1), []), (28, .ireturn, 1, 0, 0, .null, []), (29, .aload_n 0, 1, 0, 0, .null, []), (30, .iload_n 1, 1, 0, 0, .null, []), (31, .iload_n 2, 1, 0, 0, .null, []), (32, .iload_n 3, 1, 0, 0, .null, []), (33, .invokestatic 95, 3, 283, 4, .int 0, []), (36, .ireturn, 1, 0, 0, .null, [])]
def cd_jT_canEncode : List (Nat × pE) := [(0, .iload_n 0, 1, 0, 0, .null, []), (1, .ifCond .lt 14, 3, 15, 0, .null, []), (4, .iload_n 0, 1, 0, 0, .null, []), (5, .sipush 255, 3, 0, 0, .int 255, []), (8, .if_icmp .gt 7, 3, 15, 0, .null, []), (11, .iconst 1, 1, 0, 0, .int 1, []), (12, .goto 4, 3, 16, 0, .null, []), (15, .iconst 0, 1, 0, 0, .int 0, []), (16, .ireturn, 1, 1, 0, .null, [])]
def cd_jT_indexOfChar : List (Nat × pE) := [(0, .iload_n 1, 1, 0, 0, .null, []), (1, .i2b, 1, 0, 0, .null, []), (2, .istore 4, 2, 0, 0, .null, []), (4, .iload_n 2, 1, 0, 0, .null, []), (5, .istore 5, 2, 0, 0, .null, []), (7, .iload 5, 2, 0, 0, .null, []), (9, .iload_n 3, 1, 0, 0, .null, []), (10, .if_icmp .ge 21, 3, 31, 0, .null, []), (13, .aload_n 0, 1, 0, 0, .null, []), (14, .iload 5, 2, 0, 0, .null, []), (16, .baload, 1, 101, 0, .null, []), (17, .iload 4, 2, 0, 0, .null, []), (19, .if_icmp .ne 6, 3, 25, 0, .null, []), (22, .iload 5, 2, 0, 0, .null, []), (24, .ireturn, 1, 0, 0, .null, []), (25, .iinc 5 1, 3, 0, 0, .int 1, []), (28, .goto (-21), 3, 7, 0, .null, []), (31, .iconst (-1), 1, 0, 0, .int (-1), []), (32, .ireturn, 1, 0, 0, .null, [])]
def cd_L_law : List (Nat × pE) := [(0, .new 7, 3, 11, 0, .null, []), (3, .dup, 1, 0, 0, .null, []), (4, .invokespecial 9, 3, 109, 1, .retAddr 0, []), (7, .astore_n 1, 1, 0, 0, .null, []), (8, .new 10, 3, 12, 0, .null, []), (11, .dup, 1, 0, 0, .null, []), (12, .invokespecial 12, 3, 159, 1, .retAddr 0, []), (15, .astore_n 2, 1, 0, 0, .null, []), (16, .iconst 0, 1, 0, 0, .int 0, []), (17, .istore_n 3, 1, 0, 0, .null, []), (18, .iload_n 3, 1, 0, 0, .null, []), (19, .aload_n 0, 1, 0, 0, .null, []), (20, .arraylength, 1, 0, 0, .null, []), (21, .bipush 6, 2, 0, 0, .int 6, []), (23, .isub, 1, 0, 0, .null, []), (24, .if_icmp .gt 1046, 3, 1070, 0, .null, []), (27, .aload_n 0, 1, 0, 0, .null, []), (28, .iload_n 3, 1, 0, 0, .null, []), (29, .iaload, 1, 0, 0, .null, []), (30, .bipush 31, 2, 0, 0, .int 31, []), (32, .iand, 1, 0, 0, .null, []), (33, .tableswitch 1031 0 31 #[143, 206, 229, 242, 255, 288, 321, 354, 387, 410, 423, 456, 505, 518, 561, 620, 643, 666, 699, 722, 745, 768, 811, 834, 857, 880, 893, 916, 939, 962, 985, 1008], 143, 1064, 0, .null, [(0, 176), (1, 239), (2, 262), (3, 275), (4, 288), (5, 321), (6, 354), (7, 387), (8, 420), (9, 443), (10, 456), (11, 489), (12, 538), (13, 551), (14, 594), (15, 653), (16, 676), (17, 699), (18, 732), (19, 755), (20, 778), (21, 801), (22, 844), (23, 867), (24, 890), (25, 913), (26, 926), (27, 949), (28, 972), (29, 995), (30, 1018), (31, 1041)]), (176, .aload_n 1, 1, 0, 0, .null, []), (177, .aload_n 0, 1, 0, 0, .null, []), (178, .iload_n 3, 1, 0, 0, .null, []), (179, .iconst 1, 1, 0, 0, .int 1, []), (180, .iadd, 1, 0, 0, .null, []), (181, .iaload, 1, 0, 0, .null, []), (182, .aload_n 0, 1, 0, 0, .null, []), (183, .iload_n 3, 1, 0, 0, .null, []), (184, .iconst 2, 1, 0, 0, .int 2, []), (185, .iadd, 1, 0, 0, .null, []), (186, .iaload, 1, 0, 0, .null, []), (187, .aload_n 0, 1, 0, 0, .null, []), (188, .iload_n 3, 1, 0, 0, .null, []), (189, .iconst 3, 1, 0, 0, .int 3, []), (190, .iadd, 1, 0, 0, .null, []), (191, .iaload, 1, 0, 0, .null, []), (192, .aload_n 0, 1, 0, 0, .null, []), (193, .iload_n 3, 1, 0, 0, .null, []), (194, .iconst 4, 1, 0, 0, .int 4, []), (195, .iadd, 1, 0, 0, .null, []), (196, .iaload, 1, 0, 0, .null, []), (197, .aload_n 0, 1, 0, 0, .null, []), (198, .iload_n 3, 1, 0, 0, .null, []), (199, .iconst 5, 1, 0, 0, .int 5, []), (200, .iadd, 1, 0, 0, .null, []), (201, .iaload, 1, 0, 0, .null, []), (202, .invokevirtual 13, 3, 110, 6, .int 0, []), (205, .aload_n 2, 1, 0, 0, .null, []), (206, .aload_n 0, 1, 0, 0, .null, []), (207, .iload_n 3, 1, 0, 0, .null, []), (208, .iconst 1, 1, 0, 0, .int 1, []), (209, .iadd, 1, 0, 0, .null, []), (210, .iaload, 1, 0, 0, .null, []), (211, .aload_n 0, 1, 0, 0, .null, []), (212, .iload_n 3, 1, 0, 0, .null, []), (213, .iconst 2, 1, 0, 0, .int 2, []), (214, .iadd, 1, 0, 0, .null, []), (215, .iaload, 1, 0, 0, .null, []), (216, .aload_n 0, 1, 0, 0, .null, []), (217, .iload_n 3, 1, 0, 0, .null, []), (218, .iconst 3, 1, 0, 0, .int 3, []), (219, .iadd, 1, 0, 0, .null, []), (220, .iaload, 1, 0, 0, .null, []), (221, .aload_n 0, 1, 0, 0, .null, []), (222, .iload_n 3, 1, 0, 0, .null, []), (223, .iconst 4, 1, 0, 0, .int 4, []), (224, .iadd, 1, 0, 0, .null, []), (225, .iaload, 1, 0, 0, .null, []), (226, .aload_n 0, 1, 0, 0, .null, []), (227, .iload_n 3, 1, 0, 0, .null, []), (228, .iconst 5, 1, 0, 0, .int 5, []), (229, .iadd, 1, 0, 0, .null, []), (230, .iaload, 1, 0, 0, .null, []), (231, .invokevirtual 17, 3, 160, 6, .int 0, []), (234, .if_icmp .eq 830, 3, 1064, 0, .null, []), (237, .iconst 0, 1, 0, 0, .int 0, []), (238, .ireturn, 1, 1, 0, .null, []), (239, .aload_n 1, 1, 0, 0, .null, []), (240, .aload_n 0, 1, 0, 0, .null, []), (241, .iload_n 3, 1, 0, 0, .null, []), (242, .iconst 1, 1, 0, 0, .int 1, []), (243, .iadd, 1, 0, 0, .null, []), (244, .iaload, 1, 0, 0, .null, []), (245, .invokevirtual 18, 3, 111, 2, .int 0, []), (248, .aload_n 2, 1, 0, 0, .null, []), (249, .aload_n 0, 1, 0, 0, .null, []), (250, .iload_n 3, 1, 0, 0, .null, []), (251, .iconst 1, 1, 0, 0, .int 1, []), (252, .iadd, 1, 0, 0, .null, []), (253, .iaload, 1, 0, 0, .null, []), (254, .invokevirtual 22, 3, 162, 2, .int 0, []), (257, .if_icmp .eq 807, 3, 1064, 0, .null, []), (260, .iconst 0, 1, 0, 0, .int 0, []), (261, .ireturn, 1, 1, 0, .null, []), (262, .aload_n 1, 1, 0, 0, .null, []), (263, .invokevirtual 23, 3, 112, 1, .int 0, []), (266, .aload_n 2, 1, 0, 0, .null, []), (267, .invokevirtual 27, 3, 177, 1, .int 0, []), (270, .if_icmp .eq 794, 3, 1064, 0, .null, []), (273, .iconst 0, 1, 0, 0, .int 0, []), (274, .ireturn, 1, 1, 0, .null, []), (275, .aload_n 1, 1, 0, 0, .null, []), (276, .invokevirtual 28, 3, 113, 1, .int 0, []), (279, .aload_n 2, 1, 0, 0, .null, []), (280, .invokevirtual 31, 3, 178, 1, .int 0, []), (283, .if_icmp .eq 781, 3, 1064, 0, .null, []), (286, .iconst 0, 1, 0, 0, .int 0, []), (287, .ireturn, 1, 1, 0, .null, []), (288, .aload_n 1, 1, 0, 0, .null, []), (289, .aload_n 0, 1, 0, 0, .null, []), (290, .iload_n 3, 1, 0, 0, .null, []), (291, .iconst 1, 1, 0, 0, .int 1, []), (292, .iadd, 1, 0, 0, .null, []), (293, .iaload, 1, 0, 0, .null, []), (294, .aload_n 0, 1, 0, 0, .null, []), (295, .iload_n 3, 1, 0, 0, .null, []), (296, .iconst 2, 1, 0, 0, .int 2, []), (297, .iadd, 1, 0, 0, .null, []), (298, .iaload, 1, 0, 0, .null, []), (299, .invokevirtual 32, 3, 114, 3, .int 0, []), (302, .aload_n 2, 1, 0, 0, .null, []), (303, .aload_n 0, 1, 0, 0, .null, []), (304, .iload_n 3, 1, 0, 0, .null, []), (305, .iconst 1, 1, 0, 0, .int 1, []), (306, .iadd, 1, 0, 0, .null, []), (307, .iaload, 1, 0, 0, .null, []), (308, .aload_n 0, 1, 0, 0, .null, []), (309, .iload_n 3, 1, 0, 0, .null, []), (310, .iconst 2, 1, 0, 0, .int 2, []), (311, .iadd, 1, 0, 0, .null, []), (312, .iaload, 1, 0, 0, .null, []), (313, .invokevirtual 36, 3, 225, 3, .int 0, []), (316, .if_icmp .eq 748, 3, 1064, 0, .null, []), (319, .iconst 0, 1, 0, 0, .int 0, []), (320, .ireturn, 1, 1, 0, .null, []), (321, .aload_n 1, 1, 0, 0, .null, []), (322, .aload_n 0, 1, 0, 0, .null, []), (323, .iload_n 3, 1, 0, 0, .null, []), (324, .iconst 1, 1, 0, 0, .int 1, []), (325, .iadd, 1, 0, 0, .null, []), (326, .iaload, 1, 0, 0, .null, []), (327, .aload_n 0, 1, 0, 0, .null, []), (328, .iload_n 3, 1, 0, 0, .null, []), (329, .iconst 2, 1, 0, 0, .int 2, []), (330, .iadd, 1, 0, 0, .null, []), (331, .iaload, 1, 0, 0, .null, []), (332, .invokevirtual 37, 3, 115, 3, .int 0, []), (335, .aload_n 2, 1, 0, 0, .null, []), (336, .aload_n 0, 1, 0, 0, .null, []), (337, .iload_n 3, 1, 0, 0, .null, []), (338, .iconst 1, 1, 0, 0, .int 1, []), (339, .iadd, 1, 0, 0, .null, []), (340, .iaload, 1, 0, 0, .null, []), (341, .aload_n 0, 1, 0, 0, .null, []), (342, .iload_n 3, 1, 0, 0, .null, []), (343, .iconst 2, 1, 0, 0, .int 2, []), (344, .iadd, 1, 0, 0, .null, []), (345, .iaload, 1, 0, 0, .null, []), (346, .invokevirtual 40, 3, 226, 3, .int 0, []), (349, .if_icmp .eq 715, 3, 1064, 0, .null, []), (352, .iconst 0, 1, 0, 0, .int 0, []), (353, .ireturn, 1, 1, 0, .null, []), (354, .aload_n 1, 1, 0, 0, .null, []), (355, .aload_n 0, 1, 0, 0, .null, []), (356, .iload_n 3, 1, 0, 0, .null, []), (357, .iconst 1, 1, 0, 0, .int 1, []), (358, .iadd, 1, 0, 0, .null, []), (359, .iaload, 1, 0, 0, .null, []), (360, .aload_n 0, 1, 0, 0, .null, []), (361, .iload_n 3, 1, 0, 0, .null, []), (362, .iconst 2, 1, 0, 0, .int 2, []), (363, .iadd, 1, 0, 0, .null, []), (364, .iaload, 1, 0, 0, .null, []), (365, .invokevirtual 41, 3, 116, 3, .int 0, []), (368, .aload_n 2, 1, 0, 0, .null, []), (369, .aload_n 0, 1, 0, 0, .null, []), (370, .iload_n 3, 1, 0, 0, .null, []), (371, .iconst 1, 1, 0, 0, .int 1, []), (372, .iadd, 1, 0, 0, .null, []), (373, .iaload, 1, 0, 0, .null, []), (374, .aload_n 0, 1, 0, 0, .null, []), (375, .iload_n 3, 1, 0, 0, .null, []), (376, .iconst 2, 1, 0, 0, .int 2, []), (377, .iadd, 1, 0, 0, .null, []), (378, .iaload, 1, 0, 0, .null, []), (379, .invokevirtual 44, 3, 227, 3, .int 0, []), (382, .if_icmp .eq 682, 3, 1064, 0, .null, []), (385, .iconst 0, 1, 0, 0, .int 0, []), (386, .ireturn, 1, 1, 0, .null, []), (387, .aload_n 1, 1, 0, 0, .null, []), (388, .aload_n 0, 1, 0, 0, .null, []), (389, .iload_n 3, 1, 0, 0, .null, []), (390, .iconst 1, 1, 0, 0, .int 1, []), (391, .iadd, 1, 0, 0, .null, []), (392, .iaload, 1, 0, 0, .null, []), (393, .aload_n 0, 1, 0, 0, .null, []), (394, .iload_n 3, 1, 0, 0, .null, []), (395, .iconst 2, 1, 0, 0, .int 2, []), (396, .iadd, 1, 0, 0, .null, []), (397, .iaload, 1, 0, 0, .null, []), (398, .invokevirtual 45, 3, 117, 3, .int 0, []), (401, .aload_n 2, 1, 0, 0, .null, []), (402, .aload_n 0, 1, 0, 0, .null, []), (403, .iload_n 3, 1, 0, 0, .null, []), (404, .iconst 1, 1, 0, 0, .int 1, []), (405, .iadd, 1, 0, 0, .null, []), (406, .iaload, 1, 0, 0, .null, []), (407, .aload_n 0, 1, 0, 0, .null, []), (408, .iload_n 3, 1, 0, 0, .null, []), (409, .iconst 2, 1, 0, 0, .int 2, []), (410, .iadd, 1, 0, 0, .null, []), (411, .iaload, 1, 0, 0, .null, []), (412, .invokevirtual 49, 3, 229, 3, .int 0, []), (415, .if_icmp .eq 649, 3, 1064, 0, .null, []), (418, .iconst 0, 1, 0, 0, .int 0, []), (419, .ireturn, 1, 1, 0, .null, []), (420, .aload_n 1, 1, 0, 0, .null, []), (421, .aload_n 0, 1, 0, 0, .null, []), (422, .iload_n 3, 1, 0, 0, .null, []), (423, .iconst 1, 1, 0, 0, .int 1, []), (424, .iadd, 1, 0, 0, .null, []), (425, .iaload, 1, 0, 0, .null, []), (426, .invokevirtual 50, 3, 118, 2, .int 0, []), (429, .aload_n 2, 1, 0, 0, .null, []), (430, .aload_n 0, 1, 0, 0, .null, []), (431, .iload_n 3, 1, 0, 0, .null, []), (432, .iconst 1, 1, 0, 0, .int 1, []), (433, .iadd, 1, 0, 0, .null, []), (434, .iaload, 1, 0, 0, .null, []), (435, .invokevirtual 53, 3, 230, 2, .int 0, []), (438, .if_icmp .eq 626, 3, 1064, 0, .null, []), (441, .iconst 0, 1, 0, 0, .int 0, []), (442, .ireturn, 1, 1, 0, .null, []), (443, .aload_n 1, 1, 0, 0, .null, []), (444, .invokevirtual 54, 3, 119, 1, .int 0, []), (447, .aload_n 2, 1, 0, 0, .null, []), (448, .invokevirtual 57, 3, 231, 1, .int 0, []), (451, .if_icmp .eq 613, 3, 1064, 0, .null, []), (454, .iconst 0, 1, 0, 0, .int 0, []), (455, .ireturn, 1, 1, 0, .null, []), (456, .aload_n 1, 1, 0, 0, .null, []), (457, .aload_n 0, 1, 0, 0, .null, []), (458, .iload_n 3, 1, 0, 0, .null, []), (459, .iconst 1, 1, 0, 0, .int 1, []), (460, .iadd, 1, 0, 0, .null, []), (461, .iaload, 1, 0, 0, .null, []), (462, .aload_n 0, 1, 0, 0, .null, []), (463, .iload_n 3, 1, 0, 0, .null, []), (464, .iconst 2, 1, 0, 0, .int 2, []), (465, .iadd, 1, 0, 0, .null, []), (466, .iaload, 1, 0, 0, .null, []), (467, .invokevirtual 58, 3, 120, 3, .int 0, []), (470, .aload_n 2, 1, 0, 0, .null, []), (471, .aload_n 0, 1, 0, 0, .null, []), (472, .iload_n 3, 1, 0, 0, .null, []), (473, .iconst 1, 1, 0, 0, .int 1, []), (474, .iadd, 1, 0, 0, .null, []), (475, .iaload, 1, 0, 0, .null, []), (476, .aload_n 0, 1, 0, 0, .null, []), (477, .iload_n 3, 1, 0, 0, .null, []), (478, .iconst 2, 1, 0, 0, .int 2, []), (479, .iadd, 1, 0, 0, .null, []), (480, .iaload, 1, 0, 0, .null, []), (481, .invokevirtual 61, 3, 233, 3, .int 0, []), (484, .if_icmp .eq 580, 3, 1064, 0, .null, []), (487, .iconst 0, 1, 0, 0, .int 0, []), (488, .ireturn, 1, 1, 0, .null, []), (489, .aload_n 1, 1, 0, 0, .null, []), (490, .aload_n 0, 1, 0, 0, .null, []), (491, .iload_n 3, 1, 0, 0, .null, []), (492, .iconst 1, 1, 0, 0, .int 1, []), (493, .iadd, 1, 0, 0, .null, []), (494, .iaload, 1, 0, 0, .null, []), (495, .aload_n 0, 1, 0, 0, .null, []), (496, .iload_n 3, 1, 0, 0, .null, []), (497, .iconst 2, 1, 0, 0, .int 2, []), (498, .iadd, 1, 0, 0, .null, []), (499, .iaload, 1, 0, 0, .null, []), (500, .ifCond .eq 7, 3, 507, 0, .null, []), (503, .iconst 1, 1, 0, 0, .int 1, []), (504, .goto 4, 3, 508, 0, .null, []), (507, .iconst 0, 1, 0, 0, .int 0, []), (508, .invokevirtual 62, 3, 121, 3, .int 0, []), (511, .aload_n 2, 1, 0, 0, .null, []), (512, .aload_n 0, 1, 0, 0, .null, []), (513, .iload_n 3, 1, 0, 0, .null, []), (514, .iconst 1, 1, 0, 0, .int 1, []), (515, .iadd, 1, 0, 0, .null, []), (516, .iaload, 1, 0, 0, .null, []), (517, .aload_n 0, 1, 0, 0, .null, []), (518, .iload_n 3, 1, 0, 0, .null, []), (519, .iconst 2, 1, 0, 0, .int 2, []), (520, .iadd, 1, 0, 0, .null, []), (521, .iaload, 1, 0, 0, .null, []), (522, .ifCond .eq 7, 3, 529, 0, .null, []), (525, .iconst 1, 1, 0, 0, .int 1, []), (526, .goto 4, 3, 530, 0, .null, []), (529, .iconst 0, 1, 0, 0, .int 0, []), (530, .invokevirtual 66, 3, 234, 3, .int 0, []), (533, .if_icmp .eq 531, 3, 1064, 0, .null, []), (536, .iconst 0, 1, 0, 0, .int 0, []), (537, .ireturn, 1, 1, 0, .null, []), (538, .aload_n 1, 1, 0, 0, .null, []), (539, .invokevirtual 67, 3, 122, 1, .int 0, []), (542, .aload_n 2, 1, 0, 0, .null, []), (543, .invokevirtual 71, 3, 235, 1, .int 0, []), (546, .if_icmp .eq 518, 3, 1064, 0, .null, []), (549, .iconst 0, 1, 0, 0, .int 0, []), (550, .ireturn, 1, 1, 0, .null, []), (551, .aload_n 1, 1, 0, 0, .null, []), (552, .aload_n 0, 1, 0, 0, .null, []), (553, .iload_n 3, 1, 0, 0, .null, []), (554, .iconst 1, 1, 0, 0, .int 1, []), (555, .iadd, 1, 0, 0, .null, []), (556, .iaload, 1, 0, 0, .null, []), (557, .aload_n 0, 1, 0, 0, .null, []), (558, .iload_n 3, 1, 0, 0, .null, []), (559, .iconst 2, 1, 0, 0, .int 2, []), (560, .iadd, 1, 0, 0, .null, []), (561, .iaload, 1, 0, 0, .null, []), (562, .aload_n 0, 1, 0, 0, .null, []), (563, .iload_n 3, 1, 0, 0, .null, []), (564, .iconst 3, 1, 0, 0, .int 3, []), (565, .iadd, 1, 0, 0, .null, []), (566, .iaload, 1, 0, 0, .null, []), (567, .invokevirtual 72, 3, 123, 4, .int 0, []), (570, .aload_n 2, 1, 0, 0, .null, []), (571, .aload_n 0, 1, 0, 0, .null, []), (572, .iload_n 3, 1, 0, 0, .null, []), (573, .iconst 1, 1, 0, 0, .int 1, []), (574, .iadd, 1, 0, 0, .null, []), (575, .iaload, 1, 0, 0, .null, []), (576, .aload_n 0, 1, 0, 0, .null, []), (577, .iload_n 3, 1, 0, 0, .null, []), (578, .iconst 2, 1, 0, 0, .int 2, []), (579, .iadd, 1, 0, 0, .null, []), (580, .iaload, 1, 0, 0, .null, []), (581, .aload_n 0, 1, 0, 0, .null, []), (582, .iload_n 3, 1, 0, 0, .null, []), (583, .iconst 3, 1, 0, 0, .int 3, []), (584, .iadd, 1, 0, 0, .null, []), (585, .iaload, 1, 0, 0, .null, []), (586, .invokevirtual 76, 3, 236, 4, .int 0, []), (589, .if_icmp .eq 475, 3, 1064, 0, .null, []), (592, .iconst 0, 1, 0, 0, .int 0, []), (593, .ireturn, 1, 1, 0, .null, []), (594, .aload_n 1, 1, 0, 0, .null, []), (595, .aload_n 0, 1, 0, 0, .null, []), (596, .iload_n 3, 1, 0, 0, .null, []), (597, .iconst 1, 1, 0, 0, .int 1, []), (598, .iadd, 1, 0, 0, .null, []), (599, .iaload, 1, 0, 0, .null, []), (600, .aload_n 0, 1, 0, 0, .null, []), (601, .iload_n 3, 1, 0, 0, .null, []), (602, .iconst 2, 1, 0, 0, .int 2, []), (603, .iadd, 1, 0, 0, .null, []), (604, .iaload, 1, 0, 0, .null, []), (605, .aload_n 0, 1, 0, 0, .null, []), (606, .iload_n 3, 1, 0, 0, .null, []), (607, .iconst 3, 1, 0, 0, .int 3, []), (608, .iadd, 1, 0, 0, .null, []), (609, .iaload, 1, 0, 0, .null, []), (610, .ifCond .eq 7, 3, 617, 0, .null, []), (613, .iconst 1, 1, 0, 0, .int 1, []), (614, .goto 4, 3, 618, 0, .null, []), (617, .iconst 0, 1, 0, 0, .int 0, []), (618, .invokevirtual 77, 3, 124, 4, .int 0, []), (621, .aload_n 2, 1, 0, 0, .null, []), (622, .aload_n 0, 1, 0, 0, .null, []), (623, .iload_n 3, 1, 0, 0, .null, []), (624, .iconst 1, 1, 0, 0, .int 1, []), (625, .iadd, 1, 0, 0, .null, []), (626, .iaload, 1, 0, 0, .null, []), (627, .aload_n 0, 1, 0, 0, .null, []), (628, .iload_n 3, 1, 0, 0, .null, []), (629, .iconst 2, 1, 0, 0, .int 2, []), (630, .iadd, 1, 0, 0, .null, []), (631, .iaload, 1, 0, 0, .null, []), (632, .aload_n 0, 1, 0, 0, .null, []), (633, .iload_n 3, 1, 0, 0, .null, []), (634, .iconst 3, 1, 0, 0, .int 3, []), (635, .iadd, 1, 0, 0, .null, []), (636, .iaload, 1, 0, 0, .null, []), (637, .ifCond .eq 7, 3, 644, 0, .null, []), (640, .iconst 1, 1, 0, 0, .int 1, []), (641, .goto 4, 3, 645, 0, .null, []), (644, .iconst 0, 1, 0, 0, .int 0, []), (645, .invokevirtual 81, 3, 239, 4, .int 0, []), (648, .if_icmp .eq 416, 3, 1064, 0, .null, []), (651, .iconst 0, 1, 0, 0, .int 0, []), (652, .ireturn, 1, 1, 0, .null, []), (653, .aload_n 1, 1, 0, 0, .null, []), (654, .aload_n 0, 1, 0, 0, .null, []), (655, .iload_n 3, 1, 0, 0, .null, []), (656, .iconst 1, 1, 0, 0, .int 1, []), (657, .iadd, 1, 0, 0, .null, []), (658, .iaload, 1, 0, 0, .null, []), (659, .invokevirtual 82, 3, 125, 2, .int 0, []), (662, .aload_n 2, 1, 0, 0, .null, []), (663, .aload_n 0, 1, 0, 0, .null, []), (664, .iload_n 3, 1, 0, 0, .null, []), (665, .iconst 1, 1, 0, 0, .int 1, []), (666, .iadd, 1, 0, 0, .null, []), (667, .iaload, 1, 0, 0, .null, []), (668, .invokevirtual 85, 3, 240, 2, .int 0, []), (671, .if_icmp .eq 393, 3, 1064, 0, .null, []), (674, .iconst 0, 1, 0, 0, .int 0, []), (675, .ireturn, 1, 1, 0, .null, []), (676, .aload_n 1, 1, 0, 0, .null, []), (677, .aload_n 0, 1, 0, 0, .null, []), (678, .iload_n 3, 1, 0, 0, .null, []), (679, .iconst 1, 1, 0, 0, .int 1, []), (680, .iadd, 1, 0, 0, .null, []), (681, .iaload, 1, 0, 0, .null, []), (682, .invokevirtual 86, 3, 126, 2, .int 0, []), (685, .aload_n 2, 1, 0, 0, .null, []), (686, .aload_n 0, 1, 0, 0, .null, []), (687, .iload_n 3, 1, 0, 0, .null, []), (688, .iconst 1, 1, 0, 0, .int 1, []), (689, .iadd, 1, 0, 0, .null, []), (690, .iaload, 1, 0, 0, .null, []), (691, .invokevirtual 89, 3, 247, 2, .int 0, []), (694, .if_icmp .eq 370, 3, 1064, 0, .null, []), (697, .iconst 0, 1, 0, 0, .int 0, []), (698, .ireturn, 1, 1, 0, .null, []), (699, .aload_n 1, 1, 0, 0, .null, []), (700, .aload_n 0, 1, 0, 0, .null, []), (701, .iload_n 3, 1, 0, 0, .null, []), (702, .iconst 1, 1, 0, 0, .int 1, []), (703, .iadd, 1, 0, 0, .null, []), (704, .iaload, 1, 0, 0, .null, []), (705, .aload_n 0, 1, 0, 0, .null, []), (706, .iload_n 3, 1, 0, 0, .null, []), (707, .iconst 2, 1, 0, 0, .int 2, []), (708, .iadd, 1, 0, 0, .null, []), (709, .iaload, 1, 0, 0, .null, []), (710, .invokevirtual 90, 3, 127, 3, .int 0, []), (713, .aload_n 2, 1, 0, 0, .null, []), (714, .aload_n 0, 1, 0, 0, .null, []), (715, .iload_n 3, 1, 0, 0, .null, []), (716, .iconst 1, 1, 0, 0, .int 1, []), (717, .iadd, 1, 0, 0, .null, []), (718, .iaload, 1, 0, 0, .null, []), (719, .aload_n 0, 1, 0, 0, .null, []), (720, .iload_n 3, 1, 0, 0, .null, []), (721, .iconst 2, 1, 0, 0, .int 2, []), (722, .iadd, 1, 0, 0, .null, []), (723, .iaload, 1, 0, 0, .null, []), (724, .invokevirtual 93, 3, 248, 3, .int 0, []), (727, .if_icmp .eq 337, 3, 1064, 0, .null, []), (730, .iconst 0, 1, 0, 0, .int 0, []), (731, .ireturn, 1, 1, 0, .null, []), (732, .aload_n 1, 1, 0, 0, .null, []), (733, .aload_n 0, 1, 0, 0, .null, []), (734, .iload_n 3, 1, 0, 0, .null, []), (735, .iconst 1, 1, 0, 0, .int 1, []), (736, .iadd, 1, 0, 0, .null, []), (737, .iaload, 1, 0, 0, .null, []), (738, .invokevirtual 94, 3, 128, 2, .int 0, []), (741, .aload_n 2, 1, 0, 0, .null, []), (742, .aload_n 0, 1, 0, 0, .null, []), (743, .iload_n 3, 1, 0, 0, .null, []), (744, .iconst 1, 1, 0, 0, .int 1, []), (745, .iadd, 1, 0, 0, .null, []), (746, .iaload, 1, 0, 0, .null, []), (747, .invokevirtual 97, 3, 252, 2, .int 0, []), (750, .if_icmp .eq 314, 3, 1064, 0, .null, []), (753, .iconst 0, 1, 0, 0, .int 0, []), (754, .ireturn, 1, 1, 0, .null, []), (755, .aload_n 1, 1, 0, 0, .null, []), (756, .aload_n 0, 1, 0, 0, .null, []), (757, .iload_n 3, 1, 0, 0, .null, []), (758, .iconst 1, 1, 0, 0, .int 1, []), (759, .iadd, 1, 0, 0, .null, []), (760, .iaload, 1, 0, 0, .null, []), (761, .invokevirtual 98, 3, 129, 2, .int 0, []), (764, .aload_n 2, 1, 0, 0, .null, []), (765, .aload_n 0, 1, 0, 0, .null, []), (766, .iload_n 3, 1, 0, 0, .null, []), (767, .iconst 1, 1, 0, 0, .int 1, []), (768, .iadd, 1, 0, 0, .null, []), (769, .iaload, 1, 0, 0, .null, []), (770, .invokevirtual 101, 3, 255, 2, .int 0, []), (773, .if_icmp .eq 291, 3, 1064, 0, .null, []), (776, .iconst 0, 1, 0, 0, .int 0, []), (777, .ireturn, 1, 1, 0, .null, []), (778, .aload_n 1, 1, 0, 0, .null, []), (779, .aload_n 0, 1, 0, 0, .null, []), (780, .iload_n 3, 1, 0, 0, .null, []), (781, .iconst 1, 1, 0, 0, .int 1, []), (782, .iadd, 1, 0, 0, .null, []), (783, .iaload, 1, 0, 0, .null, []), (784, .invokevirtual 102, 3, 130, 2, .int 0, []), (787, .aload_n 2, 1, 0, 0, .null, []), (788, .aload_n 0, 1, 0, 0, .null, []), (789, .iload_n 3, 1, 0, 0, .null, []), (790, .iconst 1, 1, 0, 0, .int 1, []), (791, .iadd, 1, 0, 0, .null, []), (792, .iaload, 1, 0, 0, .null, []), (793, .invokevirtual 105, 3, 256, 2, .int 0, []), (796, .if_icmp .eq 268, 3, 1064, 0, .null, []), (799, .iconst 0, 1, 0, 0, .int 0, []), (800, .ireturn, 1, 1, 0, .null, []), (801, .aload_n 1, 1, 0, 0, .null, []), (802, .aload_n 0, 1, 0, 0, .null, []), (803, .iload_n 3, 1, 0, 0, .null, []), (804, .iconst 1, 1, 0, 0, .int 1, []), (805, .iadd, 1, 0, 0, .null, []), (806, .iaload, 1, 0, 0, .null, []), (807, .aload_n 0, 1, 0, 0, .null, []), (808, .iload_n 3, 1, 0, 0, .null, []), (809, .iconst 2, 1, 0, 0, .int 2, []), (810, .iadd, 1, 0, 0, .null, []), (811, .iaload, 1, 0, 0, .null, []), (812, .aload_n 0, 1, 0, 0, .null, []), (813, .iload_n 3, 1, 0, 0, .null, []), (814, .iconst 3, 1, 0, 0, .int 3, []), (815, .iadd, 1, 0, 0, .null, []), (816, .iaload, 1, 0, 0, .null, []), (817, .invokevirtual 106, 3, 131, 4, .int 0, []), (820, .aload_n 2, 1, 0, 0, .null, []), (821, .aload_n 0, 1, 0, 0, .null, []), (822, .iload_n 3, 1, 0, 0, .null, []), (823, .iconst 1, 1, 0, 0, .int 1, []), (824, .iadd, 1, 0, 0, .null, []), (825, .iaload, 1, 0, 0, .null, []), (826, .aload_n 0, 1, 0, 0, .null, []), (827, .iload_n 3, 1, 0, 0, .null, []), (828, .iconst 2, 1, 0, 0, .int 2, []), (829, .iadd, 1, 0, 0, .null, []), (830, .iaload, 1, 0, 0, .null, []), (831, .aload_n 0, 1, 0, 0, .null, []), (832, .iload_n 3, 1, 0, 0, .null, []), (833, .iconst 3, 1, 0, 0, .int 3, []), (834, .iadd, 1, 0, 0, .null, []), (835, .iaload, 1, 0, 0, .null, []), (836, .invokevirtual 109, 3, 257, 4, .int 0, []), (839, .if_icmp .eq 225, 3, 1064, 0, .null, []), (842, .iconst 0, 1, 0, 0, .int 0, []), (843, .ireturn, 1, 1, 0, .null, []), (844, .aload_n 1, 1, 0, 0, .null, []), (845, .aload_n 0, 1, 0, 0, .null, []), (846, .iload_n 3, 1, 0, 0, .null, []), (847, .iconst 1, 1, 0, 0, .int 1, []), (848, .iadd, 1, 0, 0, .null, []), (849, .iaload, 1, 0, 0, .null, []), (850, .invokevirtual 110, 3, 132, 2, .int 0, []), (853, .aload_n 2, 1, 0, 0, .null, []), (854, .aload_n 0, 1, 0, 0, .null, []), (855, .iload_n 3, 1, 0, 0, .null, []), (856, .iconst 1, 1, 0, 0, .int 1, []), (857, .iadd, 1, 0, 0, .null, []), (858, .iaload, 1, 0, 0, .null, []), (859, .invokevirtual 113, 3, 258, 2, .int 0, []), (862, .if_icmp .eq 202, 3, 1064, 0, .null, []), (865, .iconst 0, 1, 0, 0, .int 0, []), (866, .ireturn, 1, 1, 0, .null, []), (867, .aload_n 1, 1, 0, 0, .null, []), (868, .aload_n 0, 1, 0, 0, .null, []), (869, .iload_n 3, 1, 0, 0, .null, []), (870, .iconst 1, 1, 0, 0, .int 1, []), (871, .iadd, 1, 0, 0, .null, []), (872, .iaload, 1, 0, 0, .null, []), (873, .invokevirtual 114, 3, 133, 2, .int 0, []), (876, .aload_n 2, 1, 0, 0, .null, []), (877, .aload_n 0, 1, 0, 0, .null, []), (878, .iload_n 3, 1, 0, 0, .null, []), (879, .iconst 1, 1, 0, 0, .int 1, []), (880, .iadd, 1, 0, 0, .null, []), (881, .iaload, 1, 0, 0, .null, []), (882, .invokevirtual 117, 3, 259, 2, .int 0, []), (885, .if_icmp .eq 179, 3, 1064, 0, .null, []), (888, .iconst 0, 1, 0, 0, .int 0, []), (889, .ireturn, 1, 1, 0, .null, []), (890, .aload_n 1, 1, 0, 0, .null, []), (891, .aload_n 0, 1, 0, 0, .null, []), (892, .iload_n 3, 1, 0, 0, .null, []), (893, .iconst 1, 1, 0, 0, .int 1, []), (894, .iadd, 1, 0, 0, .null, []), (895, .iaload, 1, 0, 0, .null, []), (896, .invokevirtual 118, 3, 134, 2, .int 0, []), (899, .aload_n 2, 1, 0, 0, .null, []), (900, .aload_n 0, 1, 0, 0, .null, []), (901, .iload_n 3, 1, 0, 0, .null, []), (902, .iconst 1, 1, 0, 0, .int 1, []), (903, .iadd, 1, 0, 0, .null, []), (904, .iaload, 1, 0, 0, .null, []), (905, .invokevirtual 121, 3, 260, 2, .int 0, []), (908, .if_icmp .eq 156, 3, 1064, 0, .null, []), (911, .iconst 0, 1, 0, 0, .int 0, []), (912, .ireturn, 1, 1, 0, .null, []), (913, .aload_n 1, 1, 0, 0, .null, []), (914, .invokevirtual 122, 3, 135, 1, .int 0, []), (917, .aload_n 2, 1, 0, 0, .null, []), (918, .invokevirtual 125, 3, 261, 1, .int 0, []), (921, .if_icmp .eq 143, 3, 1064, 0, .null, []), (924, .iconst 0, 1, 0, 0, .int 0, []), (925, .ireturn, 1, 1, 0, .null, []), (926, .aload_n 1, 1, 0, 0, .null, []), (927, .aload_n 0, 1, 0, 0, .null, []), (928, .iload_n 3, 1, 0, 0, .null, []), (929, .iconst 1, 1, 0, 0, .int 1, []), (930, .iadd, 1, 0, 0, .null, []), (931, .iaload, 1, 0, 0, .null, []), (932, .invokevirtual 126, 3, 136, 2, .int 0, []), (935, .aload_n 2, 1, 0, 0, .null, []), (936, .aload_n 0, 1, 0, 0, .null, []), (937, .iload_n 3, 1, 0, 0, .null, []), (938, .iconst 1, 1, 0, 0, .int 1, []), (939, .iadd, 1, 0, 0, .null, []), (940, .iaload, 1, 0, 0, .null, []), (941, .invokevirtual 129, 3, 263, 2, .int 0, []), (944, .if_icmp .eq 120, 3, 1064, 0, .null, []), (947, .iconst 0, 1, 0, 0, .int 0, []), (948, .ireturn, 1, 1, 0, .null, []), (949, .aload_n 1, 1, 0, 0, .null, []), (950, .aload_n 0, 1, 0, 0, .null, []), (951, .iload_n 3, 1, 0, 0, .null, []), (952, .iconst 1, 1, 0, 0, .int 1, []), (953, .iadd, 1, 0, 0, .null, []), (954, .iaload, 1, 0, 0, .null, []), (955, .invokevirtual 130, 3, 137, 2, .int 0, []), (958, .aload_n 2, 1, 0, 0, .null, []), (959, .aload_n 0, 1, 0, 0, .null, []), (960, .iload_n 3, 1, 0, 0, .null, []), (961, .iconst 1, 1, 0, 0, .int 1, []), (962, .iadd, 1, 0, 0, .null, []), (963, .iaload, 1, 0, 0, .null, []), (964, .invokevirtual 133, 3, 265, 2, .int 0, []), (967, .if_icmp .eq 97, 3, 1064, 0, .null, []), (970, .iconst 0, 1, 0, 0, .int 0, []), (971, .ireturn, 1, 1, 0, .null, []), (972, .aload_n 1, 1, 0, 0, .null, []), (973, .aload_n 0, 1, 0, 0, .null, []), (974, .iload_n 3, 1, 0, 0, .null, []), (975, .iconst 1, 1, 0, 0, .int 1, []), (976, .iadd, 1, 0, 0, .null, []), (977, .iaload, 1, 0, 0, .null, []), (978, .invokevirtual 134, 3, 138, 2, .int 0, []), (981, .aload_n 2, 1, 0, 0, .null, []), (982, .aload_n 0, 1, 0, 0, .null, []), (983, .iload_n 3, 1, 0, 0, .null, []), (984, .iconst 1, 1, 0, 0, .int 1, []), (985, .iadd, 1, 0, 0, .null, []), (986, .iaload, 1, 0, 0, .null, []), (987, .invokevirtual 137, 3, 266, 2, .int 0, []), (990, .if_icmp .eq 74, 3, 1064, 0, .null, []), (993, .iconst 0, 1, 0, 0, .int 0, []), (994, .ireturn, 1, 1, 0, .null, []), (995, .aload_n 1, 1, 0, 0, .null, []), (996, .aload_n 0, 1, 0, 0, .null, []), (997, .iload_n 3, 1, 0, 0, .null, []), (998, .iconst 1, 1, 0, 0, .int 1, []), (999, .iadd, 1, 0, 0, .null, []), (1000, .iaload, 1, 0, 0, .null, []), (1001, .invokevirtual 138, 3, 139, 2, .int 0, []), (1004, .aload_n 2, 1, 0, 0, .null, []), (1005, .aload_n 0, 1, 0, 0, .null, []), (1006, .iload_n 3, 1, 0, 0, .null, []), (1007, .iconst 1, 1, 0, 0, .int 1, []), (1008, .iadd, 1, 0, 0, .null, []), (1009, .iaload, 1, 0, 0, .null, []), (1010, .invokevirtual 142, 3, 267, 2, .int 0, []), (1013, .if_icmp .eq 51, 3, 1064, 0, .null, []), (1016, .iconst 0, 1, 0, 0, .int 0, []), (1017, .ireturn, 1, 1, 0, .null, []), (1018, .aload_n 1, 1, 0, 0, .null, []), (1019, .aload_n 0, 1, 0, 0, .null, []), (1020, .iload_n 3, 1, 0, 0, .null, []), (1021, .iconst 1, 1, 0, 0, .int 1, []), (1022, .iadd, 1, 0, 0, .null, []), (1023, .iaload, 1, 0, 0, .null, []), (1024, .invokevirtual 143, 3, 140, 2, .int 0, []), (1027, .aload_n 2, 1, 0, 0, .null, []), (1028, .aload_n 0, 1, 0, 0, .null, []), (1029, .iload_n 3, 1, 0, 0, .null, []), (1030, .iconst 1, 1, 0, 0, .int 1, []), (1031, .iadd, 1, 0, 0, .null, []), (1032, .iaload, 1, 0, 0, .null, []), (1033, .invokevirtual 146, 3, 268, 2, .int 0, []), (1036, .if_icmp .eq 28, 3, 1064, 0, .null, []), (1039, .iconst 0, 1, 0, 0, .int 0, []), (1040, .ireturn, 1, 1, 0, .null, []), (1041, .aload_n 1, 1, 0, 0, .null, []), (1042, .aload_n 0, 1, 0, 0, .null, []), (1043, .iload_n 3, 1, 0, 0, .null, []), (1044, .iconst 1, 1, 0, 0, .int 1, []), (1045, .iadd, 1, 0, 0, .null, []), (1046, .iaload, 1, 0, 0, .null, []), (1047, .invokevirtual 147, 3, 141, 2, .int 0, []), (1050, .aload_n 2, 1, 0, 0, .null, []), (1051, .aload_n 0, 1, 0, 0, .null, []), (1052, .iload_n 3, 1, 0, 0, .null, []), (1053, .iconst 1, 1, 0, 0, .int 1, []), (1054, .iadd, 1, 0, 0, .null, []), (1055, .iaload, 1, 0, 0, .null, []), (1056, .invokevirtual 150, 3, 269, 2, .int 0, []), (1059, .if_icmp .eq 5, 3, 1064, 0, .null, []), (1062, .iconst 0, 1, 0, 0, .int 0, []), (1063, .ireturn, 1, 1, 0, .null, []), (1064, .iinc 3 6, 3, 0, 0, .int 6, []), (1067, .goto (-1049), 3, 18, 0, .null, []), (1070, .iconst 1, 1, 0, 0, .int 1, []), (1071, .ireturn, 1, 1, 0, .null, [])]
def pCodes_0 : List (List (Nat × pE)) := [cd_Bo_init, cd_Bo_begin, cd_Bo_takeOver, cd_Bo_lodgersOf, cd_Bo_usedInns, cd_Bo_dreamers, cd_Bo_sleep, cd_Bo_dreamAt, cd_Bo_drawn, cd_Bo_lot, cd_Bo_stirred, cd_Bo_dreamWould, cd_Bo_twiceAt, cd_Bo_dutyFor, cd_Bo_eyesOf, cd_Bo_look, cd_Bo_alike, cd_Bo_weighAll, cd_Bo_customs, cd_Bo_paysAtCustoms, cd_Bo_meanSum, cd_Gr_init, cd_Gr_check, cd_Gr_stopped, cd_Gr_tellOne, cd_Gr_mostOf, cd_Gr_shapeOf, cd_Gr_takeAll, cd_Gr_postOf, cd_Gr_lawOf, cd_Gr_expression, cd_Gr_unit, cd_Gr_open, cd_Gr_behindUnit, cd_Gr_push, cd_Gr_unwind, cd_Gr_rankOf, cd_Gr_stepOf, cd_Gr_take, cd_Gr_step, cd_Hi_init, cd_Hi_clear, cd_Hi_remember, cd_Hi_goBack, cd_La_init, cd_La_clear, cd_La_add, cd_La_addJump, cd_La_land, cd_La_tells, cd_La_goalOf, cd_La_worked, cd_Lo_init, cd_Lo_find, cd_Lo_sum, cd_Lo_innOf, cd_Lo_prepare, cd_Lo_spread, cd_Lo_fits, cd_Lo_sumOf, cd_Pa_init, cd_Pa_find, cd_Pa_pair, cd_Pa_keepIfBetter, cd_Re_init, cd_Re_weigh, cd_Re_holds, cd_St_init, cd_St_begin, cd_St_copy, cd_St_change, cd_St_leave, cd_St_takeBack, cd_Tl_init, cd_Tl_check, cd_Tl_stopped, cd_Tl_tellOne, cd_Tl_thingOf, cd_Tl_innOf, cd_Tl_guestOf, cd_Tl_weightOf, cd_Tl_twinsOf, cd_Tl_newTwin, cd_Tl_postOf, cd_Tl_newName, cd_Tl_formerName, cd_Tl_find, cd_Tl_number, cd_Tl_goBehindSemicolon, cd_Tl_fail, cd_Tx_init, cd_Tx_clear, cd_Tx_addUp, cd_Tx_weightOf, cd_Tx_watchedBy, cd_Tx_lawOf, cd_Tk_init, cd_Tk_scan, cd_Tk_kindAt, cd_Tk_placeAt, cd_Tk_valueAt, cd_Tk_variable, cd_Tk_isBlank, cd_Tk_isLetter, cd_Tk_isDigit, cd_Tk_endOf, cd_Tk_kindOf, cd_Tk_intOf, cd_Tk_nameOf, cd_D_init, cd_D_feed, cd_D_back, cd_D_read, cd_D_place, cd_D_guest, cd_D_inn, cd_D_gives, cd_D_lodge, cd_D_nights, cd_D_morning, cd_D_swap, cd_D_deposit, cd_D_undo, cd_D_owes, cd_D_mean, cd_D_sure, cd_D_lodging, cd_D_lodgingAt, cd_D_swaps, cd_D_declares, cd_D_posts, cd_D_year, cd_D_poorBy, cd_D_shows, cd_D_tell, cd_D_forget, cd_D_from, cd_D_likeliest, cd_D_whose, cd_D_hold, cd_D_restore, cd_D_count, cd_D_begin, cd_D_putWord, cd_D_isThing, cd_D_isInn, cd_D_isGuest, cd_D_isLodgingSet, cd_D_isKnown, cd_D_heldSlots, cd_D_innsOf, cd_D_weightsOf, cd_D_allWeightsOf, cd_D_dreamOf, cd_D_thingOf, cd_D_unitsOf, cd_D_twiceOf, cd_D_clamp, cd_D_commonDivisor, cd_M_init, cd_M_feed, cd_M_put, cd_M_back, cd_M_byteAt, cd_M_isDigit, cd_M_isLetter, cd_M_appends, cd_M_word, cd_M_token, cd_M_cut, cd_M_sign, cd_M_is, cd_M_fail, cd_M_wrong, cd_M_goesOn, cd_M_must, cd_M_plain, cd_M_read, cd_M_place, cd_M_roomFor, cd_M_tellOne, cd_M_named, cd_M_notes, cd_M_known, cd_M_bounded, cd_M_tellThing, cd_M_tellInn, cd_M_tellGuest, cd_M_tellTwins, cd_M_tellPost, cd_M_tellLaw, cd_M_term, cd_M_emit, cd_M_comesOut, cd_M_expression, cd_M_unit, cd_M_termOf, cd_M_in, cd_M_bits, cd_M_isGuest, cd_M_isInn, cd_M_isThing, cd_M_begins, cd_M_keepsRow, cd_M_copies, cd_M_mixed, cd_M_lotOf, cd_M_weightIn, cd_M_weightsOf, cd_M_alikeTo, cd_M_isTwice, cd_M_looks, cd_M_asks, cd_M_muchOf, cd_M_dutyOf, cd_M_ownDuty, cd_M_owesNow, cd_M_showsNow, cd_M_losesDream, cd_M_sleeps, cd_M_nightGoes, cd_M_paysIn, cd_M_morningGoes, cd_M_withDreams, cd_M_lodgedAt, cd_M_guest, cd_M_inn, cd_M_gives, cd_M_keeps, cd_M_lodge, cd_M_nights, cd_M_morning, cd_M_swapsTwo, cd_M_swap, cd_M_deposit, cd_M_undo, cd_M_owes, cd_M_common, cd_M_meanAbove, cd_M_mean, cd_M_sure, cd_M_fillsCosts, cd_M_fives, cd_M_innIn, cd_M_hasBeds, cd_M_fillsLodging, cd_M_isSet, cd_M_lodging, cd_M_lodgingAt, cd_M_fillsPairs, cd_M_swapsAll, cd_M_fillsSwaps, cd_M_swaps, cd_M_paysBy, cd_M_isResting, cd_M_declares, cd_M_posts, cd_M_year, cd_M_poorBy, cd_M_shows, cd_M_tell, cd_M_forget, cd_M_fromBy, cd_M_from, cd_M_productIn, cd_M_likeliest, cd_M_whose, cd_M_hold, cd_M_restore, cd_M_count, cd_jI_bitCount, cd_jA_fill, cd_jS_length, cd_jS_coder, cd_jS_charAt, cd_jS_isLatin1, cd_jT_charAt, cd_jS_checkIndex, cd_jP_checkIndex, cd_jS_indexOf, cd_jS_indexOf2, cd_jT_indexOf, cd_jT_canEncode, cd_jT_indexOfChar, cd_L_law]
def pCodes : List (List (Nat × pE)) := pCodes_0
def pCutss_0 : List (List Nat) := [[], [], [], [4], [4], [4], [2], [], [28], [], [], [], [], [], [], [43, 76], [5], [2, 64], [9], [], [5], [], [20], [], [], [], [], [2], [7], [12], [18], [], [], [61], [], [0], [], [], [], [], [15], [], [], [], [], [], [], [], [], [4, 115], [], [], [], [28, 59, 91], [], [], [13, 75, 157, 169], [10], [2, 12], [4], [], [], [47], [], [], [15], [15, 68], [], [17], [], [], [], [], [], [22], [], [], [], [], [], [], [], [], [22], [], [35], [2], [], [2], [], [], [], [2, 19], [], [4], [], [43], [15], [], [], [], [], [], [], [], [20], [], [6], [6, 51], [134], [], [], [], [], [], [], [], [34], [32], [], [], [34, 61], [], [], [], [15], [], [], [], [22], [25], [38, 75], [23], [], [], [], [], [28], [21], [], [], [], [33], [3], [], [], [], [], [], [4], [4], [5], [5], [], [], [], [], [], [9], [], [], [3], [], [], [], [], [], [], [], [7, 85, 135, 146, 208], [43, 65, 85], [], [], [], [], [], [51, 77, 103], [10, 112, 134, 164, 219], [], [], [], [12], [], [21], [], [], [], [], [45, 99], [7, 75], [12, 38, 129], [], [], [0, 42], [12, 23, 46, 96, 145, 186, 234], [], [5, 104], [], [4], [], [], [], [2, 24, 66, 97], [2], [2], [], [], [], [4], [5], [], [67], [52, 133], [], [], [], [], [], [], [90, 131], [2], [], [4, 61], [4], [4], [], [], [], [11, 52], [38], [30], [], [3], [], [67, 93, 171], [21], [], [4], [5, 35], [], [15], [7, 51, 66], [4], [], [2, 48, 78], [23, 51], [], [], [], [4, 14], [10], [18, 52], [39], [], [2], [21], [19, 58, 80], [38, 62], [16], [], [], [], [4, 23], [], [6], [32], [29], [20], [22], [156], [], [5], [], [], [], [], [], [], [], [], [], [], [], [7], [18, 508, 618]]
def pCutss : List (List Nat) := pCutss_0
def pMaxLs_0 : List (Nat) := [1, 2, 2, 4, 3, 3, 3, 4, 6, 4, 3, 5, 4, 4, 2, 5, 6, 4, 4, 2, 6, 2, 3, 1, 3, 1, 1, 4, 2, 4, 6, 3, 1, 4, 2, 3, 1, 1, 2, 1, 2, 1, 2, 2, 1, 1, 2, 1, 2, 7, 2, 3, 1, 8, 1, 2, 8, 5, 5, 4, 1, 2, 7, 4, 1, 3, 5, 1, 3, 2, 4, 2, 2, 2, 3, 1, 3, 3, 3, 3, 5, 4, 5, 6, 3, 4, 4, 4, 2, 3, 1, 1, 3, 3, 4, 2, 4, 6, 2, 2, 2, 1, 1, 1, 1, 6, 5, 7, 7, 2, 6, 2, 3, 1, 4, 3, 3, 4, 3, 1, 4, 6, 1, 6, 6, 5, 2, 3, 2, 4, 5, 7, 3, 2, 2, 2, 2, 5, 5, 2, 2, 2, 2, 3, 2, 2, 2, 2, 2, 3, 4, 8, 6, 3, 1, 1, 1, 2, 11, 1, 6, 3, 2, 2, 1, 1, 3, 7, 6, 8, 5, 2, 2, 4, 1, 2, 3, 2, 1, 3, 4, 3, 4, 4, 4, 2, 3, 3, 5, 5, 4, 1, 3, 3, 3, 1, 8, 3, 3, 2, 2, 2, 2, 2, 2, 3, 3, 3, 4, 5, 4, 6, 8, 5, 6, 2, 5, 2, 2, 8, 2, 3, 3, 3, 4, 3, 3, 3, 2, 4, 3, 2, 5, 3, 6, 2, 5, 5, 6, 7, 4, 4, 3, 5, 6, 6, 2, 2, 3, 4, 6, 4, 3, 3, 4, 5, 7, 7, 3, 2, 2, 2, 6, 2, 7, 5, 5, 3, 3, 2, 1, 4, 1, 1, 2, 1, 2, 2, 3, 2, 3, 4, 1, 6, 4]
def pMaxLs : List (Nat) := pMaxLs_0
def pRks_0 : List (Nat) := [2, 2, 2, 0, 0, 0, 4, 3, 2, 1, 0, 2, 0, 2, 2, 1, 0, 3, 4, 3, 3, 1, 6, 1, 5, 0, 0, 4, 2, 4, 3, 2, 1, 2, 0, 1, 0, 0, 1, 0, 2, 0, 2, 2, 1, 0, 0, 1, 0, 1, 0, 0, 1, 5, 0, 0, 4, 0, 0, 0, 1, 13, 4, 0, 1, 4, 1, 1, 1, 1, 0, 0, 0, 1, 5, 1, 4, 2, 2, 2, 2, 3, 2, 2, 1, 1, 0, 1, 1, 0, 2, 1, 1, 0, 0, 0, 4, 5, 0, 0, 0, 0, 0, 0, 0, 1, 4, 0, 0, 5, 1, 0, 7, 0, 4, 1, 1, 3, 5, 5, 3, 3, 3, 3, 4, 1, 6, 6, 14, 5, 1, 5, 5, 3, 1, 0, 3, 3, 3, 2, 2, 1, 3, 0, 0, 0, 0, 1, 0, 0, 2, 1, 0, 0, 0, 0, 0, 1, 0, 2, 1, 0, 0, 0, 0, 0, 0, 1, 0, 2, 1, 0, 0, 0, 1, 2, 0, 7, 0, 2, 6, 3, 0, 3, 2, 4, 4, 4, 4, 4, 5, 4, 0, 1, 3, 2, 0, 0, 0, 1, 1, 1, 0, 0, 0, 0, 1, 0, 1, 0, 0, 1, 1, 2, 2, 3, 4, 2, 0, 3, 4, 5, 6, 0, 0, 5, 2, 2, 1, 2, 5, 7, 0, 2, 2, 0, 3, 0, 3, 4, 2, 4, 0, 1, 2, 5, 1, 6, 6, 0, 1, 5, 6, 5, 6, 7, 1, 7, 7, 3, 2, 0, 1, 2, 2, 3, 2, 1, 1, 1, 0, 0, 1, 0, 3, 0, 2, 1, 0, 3, 2, 1, 0, 0, 15]
def pRks : List (Nat) := pRks_0
def pNargs_0 : List (Nat) := [1, 2, 2, 2, 1, 1, 1, 3, 3, 3, 2, 4, 4, 4, 2, 4, 3, 1, 1, 2, 3, 2, 2, 1, 2, 1, 1, 2, 1, 2, 3, 2, 1, 2, 2, 3, 1, 1, 2, 1, 1, 1, 2, 2, 1, 1, 2, 1, 2, 2, 2, 3, 1, 3, 1, 2, 3, 3, 2, 1, 1, 2, 6, 4, 1, 2, 2, 1, 2, 2, 3, 2, 2, 2, 2, 1, 2, 2, 2, 2, 2, 2, 3, 2, 3, 2, 2, 3, 1, 3, 1, 1, 1, 3, 2, 2, 1, 3, 2, 2, 2, 1, 1, 1, 1, 3, 4, 4, 4, 1, 6, 2, 1, 1, 3, 3, 3, 3, 2, 1, 3, 3, 1, 4, 4, 2, 2, 3, 2, 2, 2, 4, 2, 2, 2, 1, 2, 2, 2, 2, 2, 2, 1, 2, 2, 2, 2, 2, 2, 1, 2, 3, 3, 3, 1, 1, 1, 2, 2, 1, 6, 2, 2, 2, 1, 1, 2, 7, 5, 1, 4, 2, 2, 3, 1, 2, 2, 1, 1, 3, 1, 1, 4, 2, 3, 1, 1, 1, 1, 1, 2, 1, 3, 2, 1, 1, 3, 3, 1, 2, 2, 2, 1, 1, 1, 2, 3, 3, 2, 3, 4, 6, 4, 5, 6, 2, 2, 2, 2, 2, 1, 2, 1, 1, 2, 3, 3, 3, 1, 3, 2, 1, 3, 3, 3, 1, 4, 2, 3, 4, 2, 1, 1, 4, 3, 2, 2, 2, 3, 1, 2, 1, 2, 3, 3, 2, 2, 4, 2, 2, 2, 1, 2, 2, 4, 2, 2, 2, 2, 2, 1, 2, 1, 1, 2, 1, 2, 2, 3, 2, 3, 4, 1, 4, 1]
def pNargs : List (Nat) := pNargs_0
def pRcs_0 : List (Nat) := [0, 0, 0, 0, 0, 0, 0, 0, 0, 0, 99, 0, 0, 0, 0, 0, 0, 0, 0, 0, 0, 1, 1, 1, 1, 99, 99, 1, 1, 1, 1, 1, 1, 1, 1, 1, 99, 99, 1, 1, 2, 2, 2, 2, 3, 3, 3, 3, 3, 3, 3, 99, 4, 4, 4, 4, 4, 4, 4, 4, 5, 5, 5, 5, 6, 6, 6, 7, 7, 7, 7, 7, 7, 8, 8, 8, 8, 8, 8, 8, 8, 8, 8, 8, 8, 8, 8, 8, 8, 8, 9, 9, 9, 9, 9, 9, 10, 10, 10, 10, 10, 99, 99, 99, 99, 99, 10, 10, 10, 11, 11, 11, 11, 11, 11, 11, 11, 11, 11, 11, 11, 11, 11, 11, 11, 11, 11, 11, 11, 11, 11, 11, 11, 11, 11, 11, 11, 11, 11, 11, 11, 11, 11, 11, 11, 11, 11, 11, 11, 11, 11, 11, 11, 99, 99, 99, 99, 99, 99, 12, 12, 12, 12, 12, 99, 99, 99, 99, 12, 12, 12, 12, 12, 12, 12, 12, 12, 12, 12, 12, 12, 12, 12, 12, 12, 12, 12, 12, 12, 12, 12, 12, 12, 12, 12, 12, 12, 99, 99, 12, 12, 12, 12, 12, 12, 99, 12, 12, 12, 12, 12, 12, 12, 12, 12, 12, 12, 12, 12, 12, 12, 12, 12, 12, 12, 12, 12, 12, 12, 12, 12, 12, 12, 12, 12, 12, 12, 99, 12, 12, 12, 12, 99, 12, 12, 12, 12, 12, 12, 12, 12, 12, 12, 12, 12, 12, 12, 12, 12, 12, 12, 12, 12, 12, 12, 12, 12, 12, 12, 12, 99, 99, 50, 50, 50, 50, 99, 99, 99, 50, 50, 99, 99, 99, 99]
def pRcs : List (Nat) := pRcs_0
def pCode (k : Nat) : List (Nat × pE) := pCodes.getD k []
def pCuts (k : Nat) : List Nat := pCutss.getD k []
def pMaxL (k : Nat) : Nat := pMaxLs.getD k 0
def pRk (k : Nat) : Nat := pRks.getD k 0
def pPairG : List Value → Nat
  | [_, _, _, _, _, .int g] => 8 - g.toNatClampNeg
  | _ => 0
def pRank (k : Nat) (a : List Value) : Nat := bif Nat.beq k k_Pa_pair then 4 + pPairG a else pRk k
def pEntry (k : Nat) (a : List Value) : List Value := pPad (pMaxL k) (pArgs a)
def pRecv (X : pG) (k : Nat) (a : List Value) (h : pHeap) : Bool :=
  bif !(Nat.ble (pArgs a).length (pMaxL k) && Nat.beq a.length (pNargs.getD k 99)) then false else
  bif Nat.beq (pRcs.getD k 98) 99 then true else
  match a with
  | .ref o :: _ => (match pCellAt X h o with | some p => Nat.beq p.1 (pRcs.getD k 98) | none => false)
  | _ => false
def sem (X : pG) : Nat → Nat → Nat → Nat → List Value → List Value → pHeap → pRes
  | 0, _, _, _, _, _, _ => none
  | f + 1, k, rk, pc, L, S, h => pEv X pRank (fun k' a h' => bif pRecv X k' a h' then sem X f k' (pRank k' a) 0 (pEntry k' a) [] h' else none) (fun pc L S h => sem X f k rk pc L S h) (pCuts k) (pCode k) rk 4000 true pc L S h
end
section
theorem pm_cond_some {α : Type} {b : Bool} {x : Option α} {r : α} : ((bif b then x else none) = some r) ↔ (b = true ∧ x = some r) := by cases b <;> simp
theorem pSpK_some {α : Type} {rk key : Nat} {S : List Value} {h : pHeap} {k : List Value → pHeap → Option α} {r : α} : pSpK rk key S h k = some r ↔ ∃ S' h', pSpK rk key S h (fun S h => some (S, h)) = some (S', h') ∧ k S' h' = some r := by
  have h1 := pSpK_bind (rk := rk) (key := key) (S := S) (h := h) (fun S h => some (S, h)) (fun t : List Value × pHeap => k t.1 t.2)
  simp only [Option.bind_some] at h1
  rw [← h1, Option.bind_eq_some_iff]
  exact ⟨fun ⟨q, h1, h2⟩ => ⟨q.1, q.2, h1, h2⟩, fun ⟨a, b, h1, h2⟩ => ⟨(a, b), h1, h2⟩⟩
theorem pInv_mono {α : Type} {rank : Nat → List Value → Nat} {C C' : Nat → List Value → pHeap → pRes} {rk : Nat} {e : pE} {S : List Value} {h : pHeap} {k k' : List Value → pHeap → Option α} {r : α} (hC : ∀ n a h r, C n a h = some r → C' n a h = some r) (hk : ∀ S h, k S h = some r → k' S h = some r) (H : pInv rank C rk e S h k = some r) : pInv rank C' rk e S h k' = some r := by
  unfold pInv at H ⊢
  cases b1 : Nat.ble 9990 e.2.2.1
  · simp only [b1, cond_false] at H ⊢
    rw [pm_cond_some] at H ⊢
    refine ⟨H.1, ?_⟩
    have H := H.2
    split at H <;> simp only [Option.bind_eq_some_iff, pAI, pAJ, pAR, pAV] at H ⊢ <;> (first | obtain ⟨q, ⟨w, hw, hq⟩, hr⟩ := H) <;> exact ⟨q, ⟨w, hC _ _ _ _ hw, hq⟩, hk _ _ hr⟩
  · simp only [b1, cond_true] at H ⊢
    obtain ⟨S', h', h1, h2⟩ := pSpK_some.mp H
    exact pSpK_some.mpr ⟨S', h', h1, hk _ _ h2⟩
theorem pmI_mono {α : Type} {X : pG} {e : pE} {L S : List Value} {h : pHeap} {k k' : List Value → List Value → pHeap → Option α} {r : α} (hk : ∀ L S h, k L S h = some r → k' L S h = some r) (H : pmI X e L S h k = some r) : pmI X e L S h k' = some r := by
  have h1 := pmI_bind X e L S h (fun L S h => some (L, S, h)) (fun t => k t.1 t.2.1 t.2.2)
  have h2 := pmI_bind X e L S h (fun L S h => some (L, S, h)) (fun t => k' t.1 t.2.1 t.2.2)
  simp only [Option.bind_some] at h1 h2
  rw [← h1] at H
  rw [← h2]
  obtain ⟨q, hq, hr⟩ := Option.bind_eq_some_iff.mp H
  exact Option.bind_eq_some_iff.mpr ⟨q, hq, hk _ _ _ hr⟩
theorem pSw_some {α : Type} {x : Int32} {d : Nat} {k k' : Nat → Option α} {r : α} (hk : ∀ t, k t = some r → k' t = some r) : ∀ l, pSw x d k l = some r → pSw x d k' l = some r
  | [], H => hk _ H
  | q :: l, H => by
    unfold pSw at H ⊢
    split at H
    · rw [if_pos (by assumption)]; exact hk _ H
    · rw [if_neg (by assumption)]; exact pSw_some hk l H
theorem pIf_some {α : Type} {c : ClassFile.Cond} {x y : Int32} {a b a' b' : Option α} {r : α} (ha : a = some r → a' = some r) (hb : b = some r → b' = some r) (H : pIf c x y a b = some r) : pIf c x y a' b' = some r := by
  unfold pIf at H ⊢
  split at H <;> split at H <;> (first | (rw [if_pos (by assumption)]; first | exact ha H | exact hb H) | (rw [if_neg (by assumption)]; first | exact ha H | exact hb H))
theorem pEv_mono {X : pG} {rank : Nat → List Value → Nat} {C C' : Nat → List Value → pHeap → pRes} {K K' : Nat → List Value → List Value → pHeap → pRes} {cuts : List Nat} {code : List (Nat × pE)} {rk : Nat} (hC : ∀ n a h r, C n a h = some r → C' n a h = some r) (hK : ∀ pc L S h r, K pc L S h = some r → K' pc L S h = some r) {r : Value × pHeap} :
    ∀ (n : Nat) (st : Bool) (pc : Nat) (L S : List Value) (h : pHeap), pEv X rank C K cuts code rk n st pc L S h = some r → pEv X rank C' K' cuts code rk n st pc L S h = some r := by
  intro n
  induction n with
  | zero => intro st pc L S h H; cases H
  | succ n ih =>
    intro st pc L S h H
    unfold pEv at H ⊢
    cases hb : (!st && pMem cuts pc)
    · simp only [hb, cond_false] at H ⊢
      cases hat : pAt code pc with
      | none => simp only [hat] at H; cases H
      | some e =>
        simp only [hat] at H ⊢
        split at H
        · exact ih _ _ _ _ _ H
        · split at H
          · exact pIf_some (ih _ _ _ _ _) (ih _ _ _ _ _) H
          · cases H
        · split at H
          · exact pIf_some (ih _ _ _ _ _) (ih _ _ _ _ _) H
          · cases H
        · split at H
          · exact pSw_some (fun t => ih _ _ _ _ _) _ H
          · cases H
        · exact H
        · exact H
        · exact H
        · exact H
        · exact pInv_mono hC (fun S h => ih _ _ _ _ _) H
        · exact pInv_mono hC (fun S h => ih _ _ _ _ _) H
        · exact pInv_mono hC (fun S h => ih _ _ _ _ _) H
        · exact pmI_mono (fun L S h => ih _ _ _ _ _) H
    · simp only [hb, cond_true] at H ⊢
      exact hK _ _ _ _ _ H
theorem sem_mono1 (X : pG) : ∀ (f k rk pc : Nat) (L S : List Value) (h : pHeap) (r : Value × pHeap), sem X f k rk pc L S h = some r → sem X (f + 1) k rk pc L S h = some r := by
  intro f
  induction f with
  | zero => intro k rk pc L S h r H; cases H
  | succ f ih =>
    intro k rk pc L S h r H
    unfold sem at H ⊢
    refine pEv_mono (fun n a h r H => ?_) (fun pc L S h r H => ih _ _ _ _ _ _ _ H) _ _ _ _ _ _ H
    rw [pm_cond_some] at H ⊢
    exact ⟨H.1, ih _ _ _ _ _ _ _ H.2⟩
theorem sem_mono (X : pG) {f g k rk pc : Nat} {L S : List Value} {h : pHeap} {r : Value × pHeap} (hfg : f ≤ g) (H : sem X f k rk pc L S h = some r) : sem X g k rk pc L S h = some r := by
  induction hfg with
  | refl => exact H
  | step _ ih => exact sem_mono1 X _ _ _ _ _ _ _ _ ih
theorem sem_det (X : pG) {f g k rk pc : Nat} {L S : List Value} {h : pHeap} {r r' : Value × pHeap} (H : sem X f k rk pc L S h = some r) (H' : sem X g k rk pc L S h = some r') : r = r' := by
  have a := sem_mono X (Nat.le_max_left f g) H
  have b := sem_mono X (Nat.le_max_right f g) H'
  rw [a] at b
  exact Option.some.inj b
/-- what the machine comes to, if it does -/
noncomputable def Sem (X : pG) (k rk pc : Nat) (L S : List Value) (h : pHeap) : pRes :=
  haveI := Classical.propDecidable (∃ f r, sem X f k rk pc L S h = some r)
  if H : ∃ f r, sem X f k rk pc L S h = some r then sem X (Classical.choose H) k rk pc L S h else none
theorem Sem_of {X : pG} {f k rk pc : Nat} {L S : List Value} {h : pHeap} {r : Value × pHeap} (H : sem X f k rk pc L S h = some r) : Sem X k rk pc L S h = some r := by
  have E : ∃ f r, sem X f k rk pc L S h = some r := ⟨f, r, H⟩
  unfold Sem
  rw [dif_pos E]
  obtain ⟨r', hr'⟩ := Classical.choose_spec E
  rw [hr', sem_det X hr' H]
theorem Sem_to {X : pG} {k rk pc : Nat} {L S : List Value} {h : pHeap} {r : Value × pHeap} (H : Sem X k rk pc L S h = some r) : ∃ f, sem X f k rk pc L S h = some r := by
  unfold Sem at H
  split at H
  · exact ⟨_, H⟩
  · cases H
noncomputable def Call (X : pG) (k : Nat) (a : List Value) (h : pHeap) : pRes := bif pRecv X k a h then Sem X k (pRank k a) 0 (pEntry k a) [] h else none
def semC (X : pG) (f : Nat) (k : Nat) (a : List Value) (h : pHeap) : pRes := bif pRecv X k a h then sem X f k (pRank k a) 0 (pEntry k a) [] h else none
theorem semC_mono (X : pG) {f g k : Nat} {a : List Value} {h : pHeap} {r : Value × pHeap} (hfg : f ≤ g) (H : semC X f k a h = some r) : semC X g k a h = some r := by
  unfold semC at H ⊢
  rw [pm_cond_some] at H ⊢
  exact ⟨H.1, sem_mono X hfg H.2⟩
theorem Call_to {X : pG} {k : Nat} {a : List Value} {h : pHeap} {r : Value × pHeap} (H : Call X k a h = some r) : ∃ f, semC X f k a h = some r := by
  unfold Call at H
  rw [pm_cond_some] at H
  obtain ⟨f, hf⟩ := Sem_to H.2
  exact ⟨f, by unfold semC; rw [pm_cond_some]; exact ⟨H.1, hf⟩⟩
theorem Call_of {X : pG} {f k : Nat} {a : List Value} {h : pHeap} {r : Value × pHeap} (H : semC X f k a h = some r) : Call X k a h = some r := by
  unfold semC at H
  rw [pm_cond_some] at H
  unfold Call
  rw [pm_cond_some]
  exact ⟨H.1, Sem_of H.2⟩
/-- what comes out of the limits comes out of some bound -/
theorem pInv_cont {α : Type} {X : pG} {rk : Nat} {e : pE} {S : List Value} {h : pHeap} {k : List Value → pHeap → Option α} {r : α} (H : pInv pRank (Call X) rk e S h k = some r) : ∃ f S' h', pInv pRank (semC X f) rk e S h (fun S h => some (S, h)) = some (S', h') ∧ k S' h' = some r := by
  unfold pInv at H ⊢
  cases b1 : Nat.ble 9990 e.2.2.1
  · simp only [b1, cond_false] at H ⊢
    rw [pm_cond_some] at H
    simp only [pm_cond_some]
    have G := H.1
    have H := H.2
    split at H <;> simp only [Option.bind_eq_some_iff, pAI, pAJ, pAR, pAV] at H ⊢ <;> obtain ⟨q, ⟨w, hw, hq⟩, hr⟩ := H <;> obtain ⟨f, hf⟩ := Call_to hw <;> exact ⟨f, _, _, ⟨G, q, ⟨w, hf, hq⟩, rfl⟩, hr⟩
  · simp only [b1, cond_true] at H ⊢
    obtain ⟨S', h', h1, h2⟩ := pSpK_some.mp H
    exact ⟨0, S', h', h1, h2⟩
theorem pInv_bind {α β : Type} {rank : Nat → List Value → Nat} {C : Nat → List Value → pHeap → pRes} {rk : Nat} {e : pE} {S : List Value} {h : pHeap} {k : List Value → pHeap → Option α} {g : α → Option β} : (pInv rank C rk e S h k).bind g = pInv rank C rk e S h (fun S h => (k S h).bind g) := by
  unfold pInv
  cases b1 : Nat.ble 9990 e.2.2.1
  · simp only [cond_false, pm_cond_bind]
    split <;> simp only [Option.bind_assoc]
  · simp only [cond_true]
    exact pSpK_bind _ _
theorem pInv_some {α : Type} {rank : Nat → List Value → Nat} {C : Nat → List Value → pHeap → pRes} {rk : Nat} {e : pE} {S S' : List Value} {h h' : pHeap} {k : List Value → pHeap → Option α} {r : α} (H : pInv rank C rk e S h (fun S h => some (S, h)) = some (S', h')) (hk : k S' h' = some r) : pInv rank C rk e S h k = some r := by
  have e1 := pInv_bind (rank := rank) (C := C) (rk := rk) (e := e) (S := S) (h := h) (k := fun S h => some (S, h)) (g := fun t : List Value × pHeap => k t.1 t.2)
  simp only [Option.bind_some] at e1
  rw [← e1, H]
  exact hk
theorem pSw_ex {α : Type} {x : Int32} {d : Nat} {k : Nat → Option α} {r : α} {P : Nat → Prop} (hk : ∀ t, k t = some r → P t) : ∀ l, pSw x d k l = some r → ∃ t, P t ∧ ∀ {β : Type} (g : Nat → β), pSw x d g l = g t
  | [], H => ⟨d, hk _ H, fun g => rfl⟩
  | q :: l, H => by
    unfold pSw at H
    split at H
    · exact ⟨q.2, hk _ H, fun g => by unfold pSw; rw [if_pos (by assumption)]⟩
    · obtain ⟨t, h1, h2⟩ := pSw_ex hk l H
      exact ⟨t, h1, fun g => by
        have e := @h2
        unfold pSw; rw [if_neg (by assumption)]; exact e g⟩
theorem pEv_cont {X : pG} {k rk : Nat} {cuts : List Nat} {code : List (Nat × pE)} {r : Value × pHeap} :
    ∀ (n : Nat) (st : Bool) (pc : Nat) (L S : List Value) (h : pHeap), pEv X pRank (Call X) (fun pc L S h => Sem X k rk pc L S h) cuts code rk n st pc L S h = some r → ∃ f, pEv X pRank (semC X f) (fun pc L S h => sem X f k rk pc L S h) cuts code rk n st pc L S h = some r := by
  intro n
  induction n with
  | zero => intro st pc L S h H; cases H
  | succ n ih =>
    intro st pc L S h H
    unfold pEv at H ⊢
    cases hb : (!st && pMem cuts pc)
    · simp only [hb, cond_false] at H ⊢
      cases hat : pAt code pc with
      | none => simp only [hat] at H; cases H
      | some e =>
        simp only [hat] at H ⊢
        split at H
        · exact ih _ _ _ _ _ H
        · split at H
          · unfold pIf at H ⊢
            split at H <;> split at H <;> obtain ⟨f, hf⟩ := ih _ _ _ _ _ H <;> exact ⟨f, by first | (rw [if_pos (by assumption)]; exact hf) | (rw [if_neg (by assumption)]; exact hf)⟩
          · cases H
        · split at H
          · unfold pIf at H ⊢
            split at H <;> split at H <;> obtain ⟨f, hf⟩ := ih _ _ _ _ _ H <;> exact ⟨f, by first | (rw [if_pos (by assumption)]; exact hf) | (rw [if_neg (by assumption)]; exact hf)⟩
          · cases H
        · split at H
          · obtain ⟨t, ⟨f, hf⟩, h2⟩ := pSw_ex (P := fun t => ∃ f, pEv X pRank (semC X f) (fun pc L S h => sem X f k rk pc L S h) cuts code rk n false t L _ h = some r) (fun t => ih _ _ _ _ _) _ H
            exact ⟨f, by rw [h2]; exact hf⟩
          · cases H
        · exact ⟨0, H⟩
        · exact ⟨0, H⟩
        · exact ⟨0, H⟩
        · exact ⟨0, H⟩
        iterate 3
          · obtain ⟨f, S', h', h1, h2⟩ := pInv_cont H
            obtain ⟨g, hg⟩ := ih _ _ _ _ _ h2
            refine ⟨max f g, pInv_some (S' := S') (h' := h') (pInv_mono (fun n a h r H => semC_mono X (Nat.le_max_left f g) H) (fun S h H => H) h1) ?_⟩
            exact pEv_mono (fun n a h r H => semC_mono X (Nat.le_max_right f g) H) (fun pc L S h r H => sem_mono X (Nat.le_max_right f g) H) _ _ _ _ _ _ hg
        · have h1 := pmI_bind X e L S h (fun L S h => some (L, S, h)) (fun t => pEv X pRank (Call X) (fun pc L S h => Sem X k rk pc L S h) cuts code rk n false (pc + e.2.1) t.1 t.2.1 t.2.2)
          simp only [Option.bind_some] at h1
          rw [← h1] at H
          obtain ⟨q, hq, hr⟩ := Option.bind_eq_some_iff.mp H
          obtain ⟨g, hg⟩ := ih _ _ _ _ _ hr
          refine ⟨g, ?_⟩
          have h2 := pmI_bind X e L S h (fun L S h => some (L, S, h)) (fun t => pEv X pRank (semC X g) (fun pc L S h => sem X g k rk pc L S h) cuts code rk n false (pc + e.2.1) t.1 t.2.1 t.2.2)
          simp only [Option.bind_some] at h2
          rw [← h2]
          exact Option.bind_eq_some_iff.mpr ⟨q, hq, hg⟩
    · simp only [hb, cond_true] at H ⊢
      exact Sem_to H
theorem Sem_step (X : pG) (k rk pc : Nat) (L S : List Value) (h : pHeap) : Sem X k rk pc L S h = pEv X pRank (Call X) (fun pc L S h => Sem X k rk pc L S h) (pCuts k) (pCode k) rk 4000 true pc L S h := by
  cases H : pEv X pRank (Call X) (fun pc L S h => Sem X k rk pc L S h) (pCuts k) (pCode k) rk 4000 true pc L S h with
  | some r =>
    obtain ⟨f, hf⟩ := pEv_cont _ _ _ _ _ _ H
    exact Sem_of (f := f + 1) (by unfold sem; exact hf)
  | none =>
    cases G : Sem X k rk pc L S h with
    | none => rfl
    | some r =>
      obtain ⟨f, hf⟩ := Sem_to G
      cases f with
      | zero => cases hf
      | succ f =>
        unfold sem at hf
        have e := pEv_mono (C' := Call X) (K' := fun pc L S h => Sem X k rk pc L S h) (fun n a h r H => Call_of (f := f) H) (fun pc L S h r H => Sem_of H) _ _ _ _ _ _ hf
        rw [H] at e
        cases e
noncomputable def Sm (X : pG) (k pc : Nat) (L S : List Value) (h : pHeap) : pRes := Sem X k (pRk k) pc L S h
theorem Sm_step (X : pG) (k pc : Nat) (L S : List Value) (h : pHeap) : Sm X k pc L S h = pEv X pRank (Call X) (Sm X k) (pCuts k) (pCode k) (pRk k) 4000 true pc L S h := Sem_step X k (pRk k) pc L S h
end
section
def RX0 : String := "DreamDuty$Border"
def TX0 : u_T := fun k => match k with
  | 0 => ("DreamDuty$Border", "state", "LDreamDuty$State;", true)
  | 1 => ("DreamDuty$Border", "owed", "[I", true)
  | 2 => ("DreamDuty$Border", "values", "[I", true)
  | 3 => ("DreamDuty$Border", "text", "LDreamDuty$Text;", false)
  | _ => ("DreamDuty$Border", "seed", "I", false)
def tyX0 : Nat → FieldType := fun k => match k with
  | 0 => .object "DreamDuty$State"
  | 1 => .array .int
  | 2 => .array .int
  | 3 => .object "DreamDuty$Text"
  | _ => .int
abbrev wsX00 : List Cond := u_ws RX0 TX0 5
theorem nmX0 : ∀ a, a < 5 → ∀ b, b < 5 → a ≠ b → (TX0 a).2.1 ≠ (TX0 b).2.1 := by decide +kernel
theorem tyX0_ok : ∀ k, k < 5 → parseFieldDescriptor (TX0 k).2.2.1 = some (tyX0 k) := by decide +kernel
def RX1 : String := "DreamDuty$Grammar"
def TX1 : u_T := fun k => match k with
  | 0 => ("DreamDuty$Grammar", "tokens", "LDreamDuty$Tokens;", true)
  | 1 => ("DreamDuty$Grammar", "told", "[I", true)
  | 2 => ("DreamDuty$Grammar", "waiting", "[I", true)
  | 3 => ("DreamDuty$Grammar", "waitingCount", "I", false)
  | 4 => ("DreamDuty$Grammar", "depth", "I", false)
  | 5 => ("DreamDuty$Grammar", "at", "I", false)
  | _ => ("DreamDuty$Grammar", "fault", "I", false)
def tyX1 : Nat → FieldType := fun k => match k with
  | 0 => .object "DreamDuty$Tokens"
  | 1 => .array .int
  | 2 => .array .int
  | 3 => .int
  | 4 => .int
  | 5 => .int
  | _ => .int
abbrev wsX10 : List Cond := u_ws RX1 TX1 7
theorem nmX1 : ∀ a, a < 7 → ∀ b, b < 7 → a ≠ b → (TX1 a).2.1 ≠ (TX1 b).2.1 := by decide +kernel
theorem tyX1_ok : ∀ k, k < 7 → parseFieldDescriptor (TX1 k).2.2.1 = some (tyX1 k) := by decide +kernel
def RX2 : String := "DreamDuty$History"
def TX2 : u_T := fun k => match k with
  | 0 => ("DreamDuty$History", "past", "[LDreamDuty$State;", true)
  | 1 => ("DreamDuty$History", "next", "I", false)
  | _ => ("DreamDuty$History", "size", "I", false)
def tyX2 : Nat → FieldType := fun k => match k with
  | 0 => .array (.object "DreamDuty$State")
  | 1 => .int
  | _ => .int
abbrev wsX20 : List Cond := u_ws RX2 TX2 3
theorem nmX2 : ∀ a, a < 3 → ∀ b, b < 3 → a ≠ b → (TX2 a).2.1 ≠ (TX2 b).2.1 := by decide +kernel
theorem tyX2_ok : ∀ k, k < 3 → parseFieldDescriptor (TX2 k).2.2.1 = some (tyX2 k) := by decide +kernel
def RX3 : String := "DreamDuty$Law"
def TX3 : u_T := fun k => match k with
  | 0 => ("DreamDuty$Law", "code", "[I", true)
  | 1 => ("DreamDuty$Law", "stack", "[I", true)
  | _ => ("DreamDuty$Law", "size", "I", false)
def tyX3 : Nat → FieldType := fun k => match k with
  | 0 => .array .int
  | 1 => .array .int
  | _ => .int
abbrev wsX30 : List Cond := u_ws RX3 TX3 3
theorem nmX3 : ∀ a, a < 3 → ∀ b, b < 3 → a ≠ b → (TX3 a).2.1 ≠ (TX3 b).2.1 := by decide +kernel
theorem tyX3_ok : ∀ k, k < 3 → parseFieldDescriptor (TX3 k).2.2.1 = some (tyX3 k) := by decide +kernel
def RX4 : String := "DreamDuty$Lodgings"
def TX4 : u_T := fun k => match k with
  | 0 => ("DreamDuty$Lodgings", "members", "[I", true)
  | 1 => ("DreamDuty$Lodgings", "innOf", "[I", true)
  | 2 => ("DreamDuty$Lodgings", "bestInn", "[I", true)
  | 3 => ("DreamDuty$Lodgings", "free", "[I", true)
  | 4 => ("DreamDuty$Lodgings", "cost", "[J", true)
  | 5 => ("DreamDuty$Lodgings", "size", "I", false)
  | 6 => ("DreamDuty$Lodgings", "below", "J", false)
  | _ => ("DreamDuty$Lodgings", "bestSum", "J", false)
def tyX4 : Nat → FieldType := fun k => match k with
  | 0 => .array .int
  | 1 => .array .int
  | 2 => .array .int
  | 3 => .array .int
  | 4 => .array .long
  | 5 => .int
  | 6 => .long
  | _ => .long
abbrev wsX40 : List Cond := u_ws RX4 TX4 8
theorem nmX4 : ∀ a, a < 8 → ∀ b, b < 8 → a ≠ b → (TX4 a).2.1 ≠ (TX4 b).2.1 := by decide +kernel
theorem tyX4_ok : ∀ k, k < 8 → parseFieldDescriptor (TX4 k).2.2.1 = some (tyX4 k) := by decide +kernel
def RX5 : String := "DreamDuty$Pairings"
def TX5 : u_T := fun k => match k with
  | 0 => ("DreamDuty$Pairings", "bestSum", "I", false)
  | 1 => ("DreamDuty$Pairings", "bestCount", "I", false)
  | _ => ("DreamDuty$Pairings", "bestFirst", "I", false)
def tyX5 : Nat → FieldType := fun k => match k with
  | 0 => .int
  | 1 => .int
  | _ => .int
abbrev wsX50 : List Cond := u_ws RX5 TX5 3
theorem nmX5 : ∀ a, a < 3 → ∀ b, b < 3 → a ≠ b → (TX5 a).2.1 ≠ (TX5 b).2.1 := by decide +kernel
theorem tyX5_ok : ∀ k, k < 3 → parseFieldDescriptor (TX5 k).2.2.1 = some (tyX5 k) := by decide +kernel
def RX6 : String := "DreamDuty$Rests"
def TX6 : u_T := fun k => match k with
  | 0 => ("DreamDuty$Rests", "declaring", "[I", true)
  | 1 => ("DreamDuty$Rests", "hiding", "[I", true)
  | _ => ("DreamDuty$Rests", "dreamers", "I", false)
def tyX6 : Nat → FieldType := fun k => match k with
  | 0 => .array .int
  | 1 => .array .int
  | _ => .int
abbrev wsX60 : List Cond := u_ws RX6 TX6 3
theorem nmX6 : ∀ a, a < 3 → ∀ b, b < 3 → a ≠ b → (TX6 a).2.1 ≠ (TX6 b).2.1 := by decide +kernel
theorem tyX6_ok : ∀ k, k < 3 → parseFieldDescriptor (TX6 k).2.2.1 = some (tyX6 k) := by decide +kernel
def RX7 : String := "DreamDuty$State"
def TX7 : u_T := fun k => match k with
  | 0 => ("DreamDuty$State", "night", "I", false)
  | 1 => ("DreamDuty$State", "paidAtCustoms", "I", false)
  | 2 => ("DreamDuty$State", "paidToInns", "I", false)
  | 3 => ("DreamDuty$State", "coins", "[I", true)
  | 4 => ("DreamDuty$State", "lodged", "[I", true)
  | 5 => ("DreamDuty$State", "dream", "[I", true)
  | 6 => ("DreamDuty$State", "kept", "[I", true)
  | 7 => ("DreamDuty$State", "keptCount", "[I", true)
  | 8 => ("DreamDuty$State", "declared", "[I", true)
  | 9 => ("DreamDuty$State", "seen", "[I", true)
  | 10 => ("DreamDuty$State", "lastThing", "[I", true)
  | _ => ("DreamDuty$State", "lastBy", "[I", true)
def tyX7 : Nat → FieldType := fun k => match k with
  | 0 => .int
  | 1 => .int
  | 2 => .int
  | 3 => .array .int
  | 4 => .array .int
  | 5 => .array .int
  | 6 => .array .int
  | 7 => .array .int
  | 8 => .array .int
  | 9 => .array .int
  | 10 => .array .int
  | _ => .array .int
abbrev wsX70 : List Cond := u_ws RX7 TX7 12
theorem nmX7 : ∀ a, a < 12 → ∀ b, b < 12 → a ≠ b → (TX7 a).2.1 ≠ (TX7 b).2.1 := by decide +kernel
theorem tyX7_ok : ∀ k, k < 12 → parseFieldDescriptor (TX7 k).2.2.1 = some (tyX7 k) := by decide +kernel
def RX8 : String := "DreamDuty$Teller"
def TX8 : u_T := fun k => match k with
  | 0 => ("DreamDuty$Teller", "tokens", "LDreamDuty$Tokens;", true)
  | 1 => ("DreamDuty$Teller", "names", "[J", true)
  | 2 => ("DreamDuty$Teller", "sorts", "[I", true)
  | 3 => ("DreamDuty$Teller", "numbers", "[I", true)
  | 4 => ("DreamDuty$Teller", "nameCount", "I", false)
  | 5 => ("DreamDuty$Teller", "at", "I", false)
  | 6 => ("DreamDuty$Teller", "fault", "I", false)
  | _ => ("DreamDuty$Teller", "faultAt", "I", false)
def tyX8 : Nat → FieldType := fun k => match k with
  | 0 => .object "DreamDuty$Tokens"
  | 1 => .array .long
  | 2 => .array .int
  | 3 => .array .int
  | 4 => .int
  | 5 => .int
  | 6 => .int
  | _ => .int
abbrev wsX80 : List Cond := u_ws RX8 TX8 8
theorem nmX8 : ∀ a, a < 8 → ∀ b, b < 8 → a ≠ b → (TX8 a).2.1 ≠ (TX8 b).2.1 := by decide +kernel
theorem tyX8_ok : ∀ k, k < 8 → parseFieldDescriptor (TX8 k).2.2.1 = some (tyX8 k) := by decide +kernel
def RX9 : String := "DreamDuty$Text"
def TX9 : u_T := fun k => match k with
  | 0 => ("DreamDuty$Text", "things", "I", false)
  | 1 => ("DreamDuty$Text", "inns", "I", false)
  | 2 => ("DreamDuty$Text", "guests", "I", false)
  | 3 => ("DreamDuty$Text", "posts", "I", false)
  | 4 => ("DreamDuty$Text", "fine", "I", false)
  | 5 => ("DreamDuty$Text", "seed", "I", false)
  | 6 => ("DreamDuty$Text", "tariff", "[I", true)
  | 7 => ("DreamDuty$Text", "price", "[I", true)
  | 8 => ("DreamDuty$Text", "beds", "[I", true)
  | 9 => ("DreamDuty$Text", "cheese", "[I", true)
  | 10 => ("DreamDuty$Text", "weight", "[I", true)
  | 11 => ("DreamDuty$Text", "allWeights", "[I", true)
  | 12 => ("DreamDuty$Text", "coins", "[I", true)
  | 13 => ("DreamDuty$Text", "honest", "[I", true)
  | 14 => ("DreamDuty$Text", "degree", "[I", true)
  | 15 => ("DreamDuty$Text", "twin", "[I", true)
  | 16 => ("DreamDuty$Text", "watches", "[I", true)
  | 17 => ("DreamDuty$Text", "muchLaw", "LDreamDuty$Law;", true)
  | 18 => ("DreamDuty$Text", "owesLaw", "LDreamDuty$Law;", true)
  | _ => ("DreamDuty$Text", "showsLaw", "LDreamDuty$Law;", true)
def tyX9 : Nat → FieldType := fun k => match k with
  | 0 => .int
  | 1 => .int
  | 2 => .int
  | 3 => .int
  | 4 => .int
  | 5 => .int
  | 6 => .array .int
  | 7 => .array .int
  | 8 => .array .int
  | 9 => .array .int
  | 10 => .array .int
  | 11 => .array .int
  | 12 => .array .int
  | 13 => .array .int
  | 14 => .array .int
  | 15 => .array .int
  | 16 => .array .int
  | 17 => .object "DreamDuty$Law"
  | 18 => .object "DreamDuty$Law"
  | _ => .object "DreamDuty$Law"
abbrev wsX90 : List Cond := u_ws RX9 TX9 20
theorem nmX9 : ∀ a, a < 20 → ∀ b, b < 20 → a ≠ b → (TX9 a).2.1 ≠ (TX9 b).2.1 := by decide +kernel
theorem tyX9_ok : ∀ k, k < 20 → parseFieldDescriptor (TX9 k).2.2.1 = some (tyX9 k) := by decide +kernel
def RX10 : String := "DreamDuty$Tokens"
def TX10 : u_T := fun k => match k with
  | 0 => ("DreamDuty$Tokens", "words", "[J", true)
  | 1 => ("DreamDuty$Tokens", "kinds", "[I", true)
  | 2 => ("DreamDuty$Tokens", "places", "[I", true)
  | 3 => ("DreamDuty$Tokens", "values", "[J", true)
  | 4 => ("DreamDuty$Tokens", "count", "I", false)
  | _ => ("DreamDuty$Tokens", "textLength", "I", false)
def tyX10 : Nat → FieldType := fun k => match k with
  | 0 => .array .long
  | 1 => .array .int
  | 2 => .array .int
  | 3 => .array .long
  | 4 => .int
  | _ => .int
abbrev wsX100 : List Cond := u_ws RX10 TX10 6
theorem nmX10 : ∀ a, a < 6 → ∀ b, b < 6 → a ≠ b → (TX10 a).2.1 ≠ (TX10 b).2.1 := by decide +kernel
theorem tyX10_ok : ∀ k, k < 6 → parseFieldDescriptor (TX10 k).2.2.1 = some (tyX10 k) := by decide +kernel
def RX11 : String := "DreamDuty"
def TX11 : u_T := fun k => match k with
  | 0 => ("DreamDuty", "tape", "[I", true)
  | 1 => ("DreamDuty", "tapeLength", "I", false)
  | 2 => ("DreamDuty", "faultPlace", "I", false)
  | 3 => ("DreamDuty", "tokens", "LDreamDuty$Tokens;", true)
  | 4 => ("DreamDuty", "grammar", "LDreamDuty$Grammar;", true)
  | 5 => ("DreamDuty", "teller", "LDreamDuty$Teller;", true)
  | 6 => ("DreamDuty", "text", "LDreamDuty$Text;", false)
  | 7 => ("DreamDuty", "spare", "LDreamDuty$Text;", false)
  | 8 => ("DreamDuty", "border", "LDreamDuty$Border;", true)
  | 9 => ("DreamDuty", "trial", "LDreamDuty$Border;", true)
  | 10 => ("DreamDuty", "history", "LDreamDuty$History;", true)
  | 11 => ("DreamDuty", "slots", "[LDreamDuty$State;", true)
  | 12 => ("DreamDuty", "held", "[Z", true)
  | 13 => ("DreamDuty", "told", "[I", true)
  | 14 => ("DreamDuty", "toldCount", "I", false)
  | 15 => ("DreamDuty", "lodgings", "LDreamDuty$Lodgings;", true)
  | 16 => ("DreamDuty", "pairings", "LDreamDuty$Pairings;", true)
  | _ => ("DreamDuty", "rests", "LDreamDuty$Rests;", true)
def tyX11 : Nat → FieldType := fun k => match k with
  | 0 => .array .int
  | 1 => .int
  | 2 => .int
  | 3 => .object "DreamDuty$Tokens"
  | 4 => .object "DreamDuty$Grammar"
  | 5 => .object "DreamDuty$Teller"
  | 6 => .object "DreamDuty$Text"
  | 7 => .object "DreamDuty$Text"
  | 8 => .object "DreamDuty$Border"
  | 9 => .object "DreamDuty$Border"
  | 10 => .object "DreamDuty$History"
  | 11 => .array (.object "DreamDuty$State")
  | 12 => .array .boolean
  | 13 => .array .int
  | 14 => .int
  | 15 => .object "DreamDuty$Lodgings"
  | 16 => .object "DreamDuty$Pairings"
  | _ => .object "DreamDuty$Rests"
abbrev wsX110 : List Cond := u_ws RX11 TX11 18
theorem nmX11 : ∀ a, a < 18 → ∀ b, b < 18 → a ≠ b → (TX11 a).2.1 ≠ (TX11 b).2.1 := by decide +kernel
theorem tyX11_ok : ∀ k, k < 18 → parseFieldDescriptor (TX11 k).2.2.1 = some (tyX11 k) := by decide +kernel
def RX12 : String := "DreamDutyModel"
def TX12 : u_T := fun k => match k with
  | 0 => ("DreamDutyModel", "thrown", "I", false)
  | 1 => ("DreamDutyModel", "tape", "[B", true)
  | 2 => ("DreamDutyModel", "taped", "I", false)
  | 3 => ("DreamDutyModel", "text", "[B", true)
  | 4 => ("DreamDutyModel", "size", "I", false)
  | 5 => ("DreamDutyModel", "tKind", "[I", true)
  | 6 => ("DreamDutyModel", "tPlace", "[I", true)
  | 7 => ("DreamDutyModel", "tValue", "[I", true)
  | 8 => ("DreamDutyModel", "tName", "[J", true)
  | 9 => ("DreamDutyModel", "keys", "[J", true)
  | 10 => ("DreamDutyModel", "tokens", "I", false)
  | 11 => ("DreamDutyModel", "t", "I", false)
  | 12 => ("DreamDutyModel", "open", "I", false)
  | 13 => ("DreamDutyModel", "fault", "I", false)
  | 14 => ("DreamDutyModel", "faultPlace", "I", false)
  | 15 => ("DreamDutyModel", "worst", "I", false)
  | 16 => ("DreamDutyModel", "worstPlace", "I", false)
  | 17 => ("DreamDutyModel", "place", "I", false)
  | 18 => ("DreamDutyModel", "live", "I", false)
  | 19 => ("DreamDutyModel", "side", "I", false)
  | 20 => ("DreamDutyModel", "names", "I", false)
  | 21 => ("DreamDutyModel", "nameOf", "[J", true)
  | 22 => ("DreamDutyModel", "nameSort", "[I", true)
  | 23 => ("DreamDutyModel", "nameAt", "[I", true)
  | 24 => ("DreamDutyModel", "things", "[I", true)
  | 25 => ("DreamDutyModel", "tariffOf", "[I", true)
  | 26 => ("DreamDutyModel", "inns", "[I", true)
  | 27 => ("DreamDutyModel", "priceOf", "[I", true)
  | 28 => ("DreamDutyModel", "bedsOf", "[I", true)
  | 29 => ("DreamDutyModel", "cheeseOf", "[I", true)
  | 30 => ("DreamDutyModel", "weightOf", "[I", true)
  | 31 => ("DreamDutyModel", "guests", "[I", true)
  | 32 => ("DreamDutyModel", "coinsTold", "[I", true)
  | 33 => ("DreamDutyModel", "honestOf", "[I", true)
  | 34 => ("DreamDutyModel", "degreeOf", "[I", true)
  | 35 => ("DreamDutyModel", "twinOf", "[I", true)
  | 36 => ("DreamDutyModel", "pairs", "[I", true)
  | 37 => ("DreamDutyModel", "posts", "[I", true)
  | 38 => ("DreamDutyModel", "watches", "[I", true)
  | 39 => ("DreamDutyModel", "fine", "[I", true)
  | 40 => ("DreamDutyModel", "seed", "[I", true)
  | 41 => ("DreamDutyModel", "lawFirst", "[I", true)
  | 42 => ("DreamDutyModel", "lawLast", "[I", true)
  | 43 => ("DreamDutyModel", "branches", "I", false)
  | 44 => ("DreamDutyModel", "hasTest", "[Z", true)
  | 45 => ("DreamDutyModel", "testFrom", "[I", true)
  | 46 => ("DreamDutyModel", "testMid", "[I", true)
  | 47 => ("DreamDutyModel", "testTo", "[I", true)
  | 48 => ("DreamDutyModel", "termTo", "[I", true)
  | 49 => ("DreamDutyModel", "codes", "I", false)
  | 50 => ("DreamDutyModel", "code", "[I", true)
  | 51 => ("DreamDutyModel", "codeInt", "[I", true)
  | 52 => ("DreamDutyModel", "waits", "[I", true)
  | 53 => ("DreamDutyModel", "waiting", "I", false)
  | 54 => ("DreamDutyModel", "variables", "[I", true)
  | 55 => ("DreamDutyModel", "pile", "[I", true)
  | 56 => ("DreamDutyModel", "isBroken", "Z", false)
  | 57 => ("DreamDutyModel", "now", "[I", true)
  | 58 => ("DreamDutyModel", "row", "[I", true)
  | 59 => ("DreamDutyModel", "lots", "I", false)
  | 60 => ("DreamDutyModel", "paying", "[I", true)
  | 61 => ("DreamDutyModel", "undos", "I", false)
  | 62 => ("DreamDutyModel", "history", "[I", true)
  | 63 => ("DreamDutyModel", "whole", "J", false)
  | 64 => ("DreamDutyModel", "costsBy", "[J", true)
  | 65 => ("DreamDutyModel", "lodgingCosts", "J", false)
  | 66 => ("DreamDutyModel", "lodgingWay", "I", false)
  | 67 => ("DreamDutyModel", "pairOne", "[I", true)
  | 68 => ("DreamDutyModel", "pairTwo", "[I", true)
  | 69 => ("DreamDutyModel", "swapSum", "I", false)
  | 70 => ("DreamDutyModel", "swapSet", "I", false)
  | 71 => ("DreamDutyModel", "told", "I", false)
  | 72 => ("DreamDutyModel", "toldThing", "[I", true)
  | 73 => ("DreamDutyModel", "isHeld", "[Z", true)
  | _ => ("DreamDutyModel", "heldRows", "[I", true)
def tyX12 : Nat → FieldType := fun k => match k with
  | 0 => .int
  | 1 => .array .byte
  | 2 => .int
  | 3 => .array .byte
  | 4 => .int
  | 5 => .array .int
  | 6 => .array .int
  | 7 => .array .int
  | 8 => .array .long
  | 9 => .array .long
  | 10 => .int
  | 11 => .int
  | 12 => .int
  | 13 => .int
  | 14 => .int
  | 15 => .int
  | 16 => .int
  | 17 => .int
  | 18 => .int
  | 19 => .int
  | 20 => .int
  | 21 => .array .long
  | 22 => .array .int
  | 23 => .array .int
  | 24 => .array .int
  | 25 => .array .int
  | 26 => .array .int
  | 27 => .array .int
  | 28 => .array .int
  | 29 => .array .int
  | 30 => .array .int
  | 31 => .array .int
  | 32 => .array .int
  | 33 => .array .int
  | 34 => .array .int
  | 35 => .array .int
  | 36 => .array .int
  | 37 => .array .int
  | 38 => .array .int
  | 39 => .array .int
  | 40 => .array .int
  | 41 => .array .int
  | 42 => .array .int
  | 43 => .int
  | 44 => .array .boolean
  | 45 => .array .int
  | 46 => .array .int
  | 47 => .array .int
  | 48 => .array .int
  | 49 => .int
  | 50 => .array .int
  | 51 => .array .int
  | 52 => .array .int
  | 53 => .int
  | 54 => .array .int
  | 55 => .array .int
  | 56 => .boolean
  | 57 => .array .int
  | 58 => .array .int
  | 59 => .int
  | 60 => .array .int
  | 61 => .int
  | 62 => .array .int
  | 63 => .long
  | 64 => .array .long
  | 65 => .long
  | 66 => .int
  | 67 => .array .int
  | 68 => .array .int
  | 69 => .int
  | 70 => .int
  | 71 => .int
  | 72 => .array .int
  | 73 => .array .boolean
  | _ => .array .int
abbrev wsX120 : List Cond := u_ws RX12 TX12 75
theorem nmX12 : ∀ a, a < 75 → ∀ b, b < 75 → a ≠ b → (TX12 a).2.1 ≠ (TX12 b).2.1 := by decide +kernel
theorem tyX12_ok : ∀ k, k < 75 → parseFieldDescriptor (TX12 k).2.2.1 = some (tyX12 k) := by decide +kernel
abbrev vwCl : List vw_C := [(RX0, TX0, 5), (RX1, TX1, 7), (RX2, TX2, 3), (RX3, TX3, 3), (RX4, TX4, 8), (RX5, TX5, 3), (RX6, TX6, 3), (RX7, TX7, 12), (RX8, TX8, 8), (RX9, TX9, 20), (RX10, TX10, 6), (RX11, TX11, 18), (RX12, TX12, 75)]
def gw : List Cond := lw_tbl.filter goodWord
theorem gw_of {i : Nat} {w : Cond} (h : lw_tbl[i]? = some w) (g : goodWord w = true) : w ∈ gw := List.mem_filter.mpr ⟨List.mem_of_getElem? h, g⟩
theorem gwc_1 {i : Nat} {w : Cond} (h : tables_1_1[i]? = some w) (g : goodWord w = true) : w ∈ gw := by
  have h1 : w ∈ tables_1 := by
    have := List.mem_of_getElem? h
    unfold tables_1
    simp only [List.mem_append]
    exact Or.inl this
  exact List.mem_filter.mpr ⟨List.mem_append_right _ h1, g⟩
theorem gwc_2 {i : Nat} {w : Cond} (h : tables_1_2[i]? = some w) (g : goodWord w = true) : w ∈ gw := by
  have h1 : w ∈ tables_1 := by
    have := List.mem_of_getElem? h
    unfold tables_1
    simp only [List.mem_append]
    exact Or.inr (Or.inl this)
  exact List.mem_filter.mpr ⟨List.mem_append_right _ h1, g⟩
theorem gwc_3 {i : Nat} {w : Cond} (h : tables_1_3[i]? = some w) (g : goodWord w = true) : w ∈ gw := by
  have h1 : w ∈ tables_1 := by
    have := List.mem_of_getElem? h
    unfold tables_1
    simp only [List.mem_append]
    exact Or.inr (Or.inr (Or.inl this))
  exact List.mem_filter.mpr ⟨List.mem_append_right _ h1, g⟩
theorem gwc_4 {i : Nat} {w : Cond} (h : tables_1_4[i]? = some w) (g : goodWord w = true) : w ∈ gw := by
  have h1 : w ∈ tables_1 := by
    have := List.mem_of_getElem? h
    unfold tables_1
    simp only [List.mem_append]
    exact Or.inr (Or.inr (Or.inr (Or.inl this)))
  exact List.mem_filter.mpr ⟨List.mem_append_right _ h1, g⟩
theorem gwc_5 {i : Nat} {w : Cond} (h : tables_1_5[i]? = some w) (g : goodWord w = true) : w ∈ gw := by
  have h1 : w ∈ tables_1 := by
    have := List.mem_of_getElem? h
    unfold tables_1
    simp only [List.mem_append]
    exact Or.inr (Or.inr (Or.inr (Or.inr (Or.inl this))))
  exact List.mem_filter.mpr ⟨List.mem_append_right _ h1, g⟩
theorem gwc_6 {i : Nat} {w : Cond} (h : tables_1_6[i]? = some w) (g : goodWord w = true) : w ∈ gw := by
  have h1 : w ∈ tables_1 := by
    have := List.mem_of_getElem? h
    unfold tables_1
    simp only [List.mem_append]
    exact Or.inr (Or.inr (Or.inr (Or.inr (Or.inr (Or.inl this)))))
  exact List.mem_filter.mpr ⟨List.mem_append_right _ h1, g⟩
theorem gwc_7 {i : Nat} {w : Cond} (h : tables_1_7[i]? = some w) (g : goodWord w = true) : w ∈ gw := by
  have h1 : w ∈ tables_1 := by
    have := List.mem_of_getElem? h
    unfold tables_1
    simp only [List.mem_append]
    exact Or.inr (Or.inr (Or.inr (Or.inr (Or.inr (Or.inr (Or.inl this))))))
  exact List.mem_filter.mpr ⟨List.mem_append_right _ h1, g⟩
theorem gwc_8 {i : Nat} {w : Cond} (h : tables_1_8[i]? = some w) (g : goodWord w = true) : w ∈ gw := by
  have h1 : w ∈ tables_1 := by
    have := List.mem_of_getElem? h
    unfold tables_1
    simp only [List.mem_append]
    exact Or.inr (Or.inr (Or.inr (Or.inr (Or.inr (Or.inr (Or.inr (this)))))))
  exact List.mem_filter.mpr ⟨List.mem_append_right _ h1, g⟩
theorem lw_of {i : Nat} {w : Cond} (h : lw_tbl[i]? = some w) : w ∈ lw_tbl := List.mem_of_getElem? h
def pOwnL : List (Nat × String) := [(0, "DreamDuty$Border"), (1, "DreamDuty$Grammar"), (2, "DreamDuty$History"), (3, "DreamDuty$Law"), (4, "DreamDuty$Lodgings"), (5, "DreamDuty$Pairings"), (6, "DreamDuty$Rests"), (7, "DreamDuty$State"), (8, "DreamDuty$Teller"), (9, "DreamDuty$Text"), (10, "DreamDuty$Tokens"), (11, "DreamDuty"), (12, "DreamDutyModel"), (13, "DreamDutyLaw"), (60, "java/lang/Integer"), (61, "java/lang/String"), (62, "java/lang/StringLatin1"), (63, "java/util/Arrays"), (64, "jdk/internal/util/Preconditions")]
def pOwnN (i : Nat) : String := (pOwnL.lookup i).getD ""
def pOwns : List Nat := [0, 0, 0, 0, 0, 0, 0, 0, 0, 0, 0, 0, 0, 0, 0, 0, 0, 0, 0, 0, 0, 1, 1, 1, 1, 1, 1, 1, 1, 1, 1, 1, 1, 1, 1, 1, 1, 1, 1, 1, 2, 2, 2, 2, 3, 3, 3, 3, 3, 3, 3, 3, 4, 4, 4, 4, 4, 4, 4, 4, 5, 5, 5, 5, 6, 6, 6, 7, 7, 7, 7, 7, 7, 8, 8, 8, 8, 8, 8, 8, 8, 8, 8, 8, 8, 8, 8, 8, 8, 8, 9, 9, 9, 9, 9, 9, 10, 10, 10, 10, 10, 10, 10, 10, 10, 10, 10, 10, 10, 11, 11, 11, 11, 11, 11, 11, 11, 11, 11, 11, 11, 11, 11, 11, 11, 11, 11, 11, 11, 11, 11, 11, 11, 11, 11, 11, 11, 11, 11, 11, 11, 11, 11, 11, 11, 11, 11, 11, 11, 11, 11, 11, 11, 11, 11, 11, 11, 11, 11, 12, 12, 12, 12, 12, 12, 12, 12, 12, 12, 12, 12, 12, 12, 12, 12, 12, 12, 12, 12, 12, 12, 12, 12, 12, 12, 12, 12, 12, 12, 12, 12, 12, 12, 12, 12, 12, 12, 12, 12, 12, 12, 12, 12, 12, 12, 12, 12, 12, 12, 12, 12, 12, 12, 12, 12, 12, 12, 12, 12, 12, 12, 12, 12, 12, 12, 12, 12, 12, 12, 12, 12, 12, 12, 12, 12, 12, 12, 12, 12, 12, 12, 12, 12, 12, 12, 12, 12, 12, 12, 12, 12, 12, 12, 12, 12, 12, 12, 12, 12, 12, 12, 12, 12, 12, 12, 12, 12, 12, 12, 12, 60, 63, 61, 61, 61, 61, 62, 61, 64, 61, 61, 62, 62, 62, 13]
def pOwn (k : Nat) : Nat := pOwns.getD k 99
def pYs_0 : List (MethodName) := [⟨"DreamDuty$Border", "<init>", "()V"⟩, ⟨"DreamDuty$Border", "begin", "(LDreamDuty$Text;)V"⟩, ⟨"DreamDuty$Border", "takeOver", "(LDreamDuty$Border;)V"⟩, ⟨"DreamDuty$Border", "lodgersOf", "(I)I"⟩, ⟨"DreamDuty$Border", "usedInns", "()I"⟩, ⟨"DreamDuty$Border", "dreamers", "()I"⟩, ⟨"DreamDuty$Border", "sleep", "()V"⟩, ⟨"DreamDuty$Border", "dreamAt", "(II)V"⟩, ⟨"DreamDuty$Border", "drawn", "(II)I"⟩, ⟨"DreamDuty$Border", "lot", "(II)I"⟩, ⟨"DreamDuty$Border", "stirred", "(II)I"⟩, ⟨"DreamDuty$Border", "dreamWould", "(III)I"⟩, ⟨"DreamDuty$Border", "twiceAt", "(III)I"⟩, ⟨"DreamDuty$Border", "dutyFor", "(III)I"⟩, ⟨"DreamDuty$Border", "eyesOf", "(I)I"⟩, ⟨"DreamDuty$Border", "look", "(III)V"⟩, ⟨"DreamDuty$Border", "alike", "(II)I"⟩, ⟨"DreamDuty$Border", "weighAll", "()I"⟩, ⟨"DreamDuty$Border", "customs", "()I"⟩, ⟨"DreamDuty$Border", "paysAtCustoms", "(I)I"⟩, ⟨"DreamDuty$Border", "meanSum", "(II)I"⟩, ⟨"DreamDuty$Grammar", "<init>", "(LDreamDuty$Tokens;)V"⟩, ⟨"DreamDuty$Grammar", "check", "(LDreamDuty$Text;)I"⟩, ⟨"DreamDuty$Grammar", "stopped", "()I"⟩, ⟨"DreamDuty$Grammar", "tellOne", "(LDreamDuty$Text;)V"⟩, ⟨"DreamDuty$Grammar", "mostOf", "(I)I"⟩, ⟨"DreamDuty$Grammar", "shapeOf", "(I)Ljava/lang/String;"⟩, ⟨"DreamDuty$Grammar", "takeAll", "(Ljava/lang/String;)V"⟩, ⟨"DreamDuty$Grammar", "postOf", "()V"⟩, ⟨"DreamDuty$Grammar", "lawOf", "(LDreamDuty$Law;)V"⟩, ⟨"DreamDuty$Grammar", "expression", "(LDreamDuty$Law;I)V"⟩, ⟨"DreamDuty$Grammar", "unit", "(LDreamDuty$Law;)Z"⟩, ⟨"DreamDuty$Grammar", "open", "()V"⟩, ⟨"DreamDuty$Grammar", "behindUnit", "(LDreamDuty$Law;)Z"⟩, ⟨"DreamDuty$Grammar", "push", "(I)V"⟩, ⟨"DreamDuty$Grammar", "unwind", "(LDreamDuty$Law;I)V"⟩, ⟨"DreamDuty$Grammar", "rankOf", "(I)I"⟩, ⟨"DreamDuty$Grammar", "stepOf", "(I)I"⟩, ⟨"DreamDuty$Grammar", "take", "(I)V"⟩, ⟨"DreamDuty$Grammar", "step", "()V"⟩, ⟨"DreamDuty$History", "<init>", "()V"⟩, ⟨"DreamDuty$History", "clear", "()V"⟩, ⟨"DreamDuty$History", "remember", "(LDreamDuty$State;)V"⟩, ⟨"DreamDuty$History", "goBack", "(LDreamDuty$State;)Z"⟩, ⟨"DreamDuty$Law", "<init>", "()V"⟩, ⟨"DreamDuty$Law", "clear", "()V"⟩, ⟨"DreamDuty$Law", "add", "(I)V"⟩, ⟨"DreamDuty$Law", "addJump", "()I"⟩, ⟨"DreamDuty$Law", "land", "(I)V"⟩, ⟨"DreamDuty$Law", "tells", "([I)I"⟩, ⟨"DreamDuty$Law", "goalOf", "(I)I"⟩, ⟨"DreamDuty$Law", "worked", "(III)I"⟩, ⟨"DreamDuty$Lodgings", "<init>", "()V"⟩, ⟨"DreamDuty$Lodgings", "find", "(LDreamDuty$Border;I)Z"⟩, ⟨"DreamDuty$Lodgings", "sum", "()I"⟩, ⟨"DreamDuty$Lodgings", "innOf", "(I)I"⟩, ⟨"DreamDuty$Lodgings", "prepare", "(LDreamDuty$Border;I)V"⟩, ⟨"DreamDuty$Lodgings", "spread", "(II)V"⟩, ⟨"DreamDuty$Lodgings", "fits", "(I)Z"⟩, ⟨"DreamDuty$Lodgings", "sumOf", "()J"⟩, ⟨"DreamDuty$Pairings", "<init>", "()V"⟩, ⟨"DreamDuty$Pairings", "find", "(LDreamDuty$Border;)V"⟩, ⟨"DreamDuty$Pairings", "pair", "(LDreamDuty$Border;IIII)V"⟩, ⟨"DreamDuty$Pairings", "keepIfBetter", "(III)V"⟩, ⟨"DreamDuty$Rests", "<init>", "()V"⟩, ⟨"DreamDuty$Rests", "weigh", "(LDreamDuty$Border;)V"⟩, ⟨"DreamDuty$Rests", "holds", "(I)Z"⟩, ⟨"DreamDuty$State", "<init>", "()V"⟩, ⟨"DreamDuty$State", "begin", "(LDreamDuty$Text;)V"⟩, ⟨"DreamDuty$State", "copy", "(LDreamDuty$State;)V"⟩, ⟨"DreamDuty$State", "change", "(II)V"⟩, ⟨"DreamDuty$State", "leave", "(I)V"⟩, ⟨"DreamDuty$State", "takeBack", "(I)V"⟩, ⟨"DreamDuty$Teller", "<init>", "(LDreamDuty$Tokens;)V"⟩, ⟨"DreamDuty$Teller", "check", "(LDreamDuty$Text;)I"⟩, ⟨"DreamDuty$Teller", "stopped", "()I"⟩, ⟨"DreamDuty$Teller", "tellOne", "(LDreamDuty$Text;)V"⟩, ⟨"DreamDuty$Teller", "thingOf", "(LDreamDuty$Text;)V"⟩, ⟨"DreamDuty$Teller", "innOf", "(LDreamDuty$Text;)V"⟩, ⟨"DreamDuty$Teller", "guestOf", "(LDreamDuty$Text;)V"⟩, ⟨"DreamDuty$Teller", "weightOf", "(LDreamDuty$Text;)V"⟩, ⟨"DreamDuty$Teller", "twinsOf", "(LDreamDuty$Text;)V"⟩, ⟨"DreamDuty$Teller", "newTwin", "(LDreamDuty$Text;I)I"⟩, ⟨"DreamDuty$Teller", "postOf", "(LDreamDuty$Text;)V"⟩, ⟨"DreamDuty$Teller", "newName", "(II)V"⟩, ⟨"DreamDuty$Teller", "formerName", "(I)I"⟩, ⟨"DreamDuty$Teller", "find", "(J)I"⟩, ⟨"DreamDuty$Teller", "number", "(II)I"⟩, ⟨"DreamDuty$Teller", "goBehindSemicolon", "()V"⟩, ⟨"DreamDuty$Teller", "fail", "(II)V"⟩, ⟨"DreamDuty$Text", "<init>", "()V"⟩, ⟨"DreamDuty$Text", "clear", "()V"⟩, ⟨"DreamDuty$Text", "addUp", "()V"⟩, ⟨"DreamDuty$Text", "weightOf", "(II)I"⟩, ⟨"DreamDuty$Text", "watchedBy", "(I)I"⟩, ⟨"DreamDuty$Text", "lawOf", "(I)LDreamDuty$Law;"⟩, ⟨"DreamDuty$Tokens", "<init>", "()V"⟩, ⟨"DreamDuty$Tokens", "scan", "([II)V"⟩, ⟨"DreamDuty$Tokens", "kindAt", "(I)I"⟩, ⟨"DreamDuty$Tokens", "placeAt", "(I)I"⟩, ⟨"DreamDuty$Tokens", "valueAt", "(I)J"⟩, ⟨"DreamDuty$Tokens", "variable", "(I)I"⟩, ⟨"DreamDuty$Tokens", "isBlank", "(I)Z"⟩, ⟨"DreamDuty$Tokens", "isLetter", "(I)Z"⟩, ⟨"DreamDuty$Tokens", "isDigit", "(I)Z"⟩, ⟨"DreamDuty$Tokens", "endOf", "([III)I"⟩, ⟨"DreamDuty$Tokens", "kindOf", "([III)I"⟩, ⟨"DreamDuty$Tokens", "intOf", "([III)I"⟩, ⟨"DreamDuty$Tokens", "nameOf", "([III)I"⟩, ⟨"DreamDuty", "<init>", "()V"⟩, ⟨"DreamDuty", "feed", "(IIIII)I"⟩, ⟨"DreamDuty", "back", "(I)I"⟩, ⟨"DreamDuty", "read", "()I"⟩, ⟨"DreamDuty", "place", "()I"⟩, ⟨"DreamDuty", "guest", "(II)I"⟩, ⟨"DreamDuty", "inn", "(II)I"⟩, ⟨"DreamDuty", "gives", "(II)I"⟩, ⟨"DreamDuty", "lodge", "(II)Z"⟩, ⟨"DreamDuty", "nights", "(I)I"⟩, ⟨"DreamDuty", "morning", "()I"⟩, ⟨"DreamDuty", "swap", "(II)Z"⟩, ⟨"DreamDuty", "deposit", "(IZ)I"⟩, ⟨"DreamDuty", "undo", "()Z"⟩, ⟨"DreamDuty", "owes", "(III)I"⟩, ⟨"DreamDuty", "mean", "(IIZ)I"⟩, ⟨"DreamDuty", "sure", "(I)I"⟩, ⟨"DreamDuty", "lodging", "(I)I"⟩, ⟨"DreamDuty", "lodgingAt", "(II)I"⟩, ⟨"DreamDuty", "swaps", "(I)I"⟩, ⟨"DreamDuty", "declares", "(I)I"⟩, ⟨"DreamDuty", "posts", "(I)I"⟩, ⟨"DreamDuty", "year", "(III)I"⟩, ⟨"DreamDuty", "poorBy", "(I)I"⟩, ⟨"DreamDuty", "shows", "(I)I"⟩, ⟨"DreamDuty", "tell", "(I)I"⟩, ⟨"DreamDuty", "forget", "()I"⟩, ⟨"DreamDuty", "from", "(I)I"⟩, ⟨"DreamDuty", "likeliest", "(I)I"⟩, ⟨"DreamDuty", "whose", "(I)I"⟩, ⟨"DreamDuty", "hold", "(I)Z"⟩, ⟨"DreamDuty", "restore", "(I)Z"⟩, ⟨"DreamDuty", "count", "(I)I"⟩, ⟨"DreamDuty", "begin", "()V"⟩, ⟨"DreamDuty", "putWord", "(I)V"⟩, ⟨"DreamDuty", "isThing", "(I)Z"⟩, ⟨"DreamDuty", "isInn", "(I)Z"⟩, ⟨"DreamDuty", "isGuest", "(I)Z"⟩, ⟨"DreamDuty", "isLodgingSet", "(I)Z"⟩, ⟨"DreamDuty", "isKnown", "(I)Z"⟩, ⟨"DreamDuty", "heldSlots", "()I"⟩, ⟨"DreamDuty", "innsOf", "(I)I"⟩, ⟨"DreamDuty", "weightsOf", "(II)J"⟩, ⟨"DreamDuty", "allWeightsOf", "(II)J"⟩, ⟨"DreamDuty", "dreamOf", "(III)I"⟩, ⟨"DreamDuty", "thingOf", "(I)I"⟩, ⟨"DreamDuty", "unitsOf", "(I)I"⟩, ⟨"DreamDuty", "twiceOf", "(I)I"⟩, ⟨"DreamDuty", "clamp", "(II)I"⟩, ⟨"DreamDuty", "commonDivisor", "(JJ)J"⟩, ⟨"DreamDutyModel", "<init>", "()V"⟩, ⟨"DreamDutyModel", "feed", "(IIIII)I"⟩, ⟨"DreamDutyModel", "put", "(I)V"⟩, ⟨"DreamDutyModel", "back", "(I)I"⟩, ⟨"DreamDutyModel", "byteAt", "(I)I"⟩, ⟨"DreamDutyModel", "isDigit", "(I)Z"⟩, ⟨"DreamDutyModel", "isLetter", "(I)Z"⟩, ⟨"DreamDutyModel", "appends", "(JI)J"⟩, ⟨"DreamDutyModel", "word", "(IIIIIII)J"⟩, ⟨"DreamDutyModel", "token", "(IIIJ)V"⟩, ⟨"DreamDutyModel", "cut", "()V"⟩, ⟨"DreamDutyModel", "sign", "(III)I"⟩, ⟨"DreamDutyModel", "is", "(I)Z"⟩, ⟨"DreamDutyModel", "fail", "(I)V"⟩, ⟨"DreamDutyModel", "wrong", "(II)V"⟩, ⟨"DreamDutyModel", "goesOn", "()V"⟩, ⟨"DreamDutyModel", "must", "(I)V"⟩, ⟨"DreamDutyModel", "plain", "(I)V"⟩, ⟨"DreamDutyModel", "read", "()I"⟩, ⟨"DreamDutyModel", "place", "()I"⟩, ⟨"DreamDutyModel", "roomFor", "(II)V"⟩, ⟨"DreamDutyModel", "tellOne", "()V"⟩, ⟨"DreamDutyModel", "named", "()I"⟩, ⟨"DreamDutyModel", "notes", "(III)V"⟩, ⟨"DreamDutyModel", "known", "(I)I"⟩, ⟨"DreamDutyModel", "bounded", "(II)I"⟩, ⟨"DreamDutyModel", "tellThing", "()V"⟩, ⟨"DreamDutyModel", "tellInn", "()V"⟩, ⟨"DreamDutyModel", "tellGuest", "()V"⟩, ⟨"DreamDutyModel", "tellTwins", "()V"⟩, ⟨"DreamDutyModel", "tellPost", "()V"⟩, ⟨"DreamDutyModel", "tellLaw", "(I)V"⟩, ⟨"DreamDutyModel", "term", "()V"⟩, ⟨"DreamDutyModel", "emit", "(II)V"⟩, ⟨"DreamDutyModel", "comesOut", "(Z)V"⟩, ⟨"DreamDutyModel", "expression", "()V"⟩, ⟨"DreamDutyModel", "unit", "()V"⟩, ⟨"DreamDutyModel", "termOf", "(II)I"⟩, ⟨"DreamDutyModel", "in", "(III)Z"⟩, ⟨"DreamDutyModel", "bits", "(I)I"⟩, ⟨"DreamDutyModel", "isGuest", "(I)Z"⟩, ⟨"DreamDutyModel", "isInn", "(I)Z"⟩, ⟨"DreamDutyModel", "isThing", "(I)Z"⟩, ⟨"DreamDutyModel", "begins", "()V"⟩, ⟨"DreamDutyModel", "keepsRow", "()V"⟩, ⟨"DreamDutyModel", "copies", "()V"⟩, ⟨"DreamDutyModel", "mixed", "(II)I"⟩, ⟨"DreamDutyModel", "lotOf", "(II)I"⟩, ⟨"DreamDutyModel", "weightIn", "(II)I"⟩, ⟨"DreamDutyModel", "weightsOf", "(I)I"⟩, ⟨"DreamDutyModel", "alikeTo", "(II)I"⟩, ⟨"DreamDutyModel", "isTwice", "(III)Z"⟩, ⟨"DreamDutyModel", "looks", "(IIIII)V"⟩, ⟨"DreamDutyModel", "asks", "(III)I"⟩, ⟨"DreamDutyModel", "muchOf", "(IIII)I"⟩, ⟨"DreamDutyModel", "dutyOf", "(IIIII)I"⟩, ⟨"DreamDutyModel", "ownDuty", "(I)I"⟩, ⟨"DreamDutyModel", "owesNow", "(I)I"⟩, ⟨"DreamDutyModel", "showsNow", "(I)I"⟩, ⟨"DreamDutyModel", "losesDream", "(I)V"⟩, ⟨"DreamDutyModel", "sleeps", "(I)V"⟩, ⟨"DreamDutyModel", "nightGoes", "()V"⟩, ⟨"DreamDutyModel", "paysIn", "(I)I"⟩, ⟨"DreamDutyModel", "morningGoes", "()I"⟩, ⟨"DreamDutyModel", "withDreams", "()I"⟩, ⟨"DreamDutyModel", "lodgedAt", "(I)I"⟩, ⟨"DreamDutyModel", "guest", "(II)I"⟩, ⟨"DreamDutyModel", "inn", "(II)I"⟩, ⟨"DreamDutyModel", "gives", "(II)I"⟩, ⟨"DreamDutyModel", "keeps", "()V"⟩, ⟨"DreamDutyModel", "lodge", "(II)Z"⟩, ⟨"DreamDutyModel", "nights", "(I)I"⟩, ⟨"DreamDutyModel", "morning", "()I"⟩, ⟨"DreamDutyModel", "swapsTwo", "(II)V"⟩, ⟨"DreamDutyModel", "swap", "(II)Z"⟩, ⟨"DreamDutyModel", "deposit", "(IZ)I"⟩, ⟨"DreamDutyModel", "undo", "()Z"⟩, ⟨"DreamDutyModel", "owes", "(III)I"⟩, ⟨"DreamDutyModel", "common", "(II)I"⟩, ⟨"DreamDutyModel", "meanAbove", "(II)I"⟩, ⟨"DreamDutyModel", "mean", "(IIZ)I"⟩, ⟨"DreamDutyModel", "sure", "(I)I"⟩, ⟨"DreamDutyModel", "fillsCosts", "()V"⟩, ⟨"DreamDutyModel", "fives", "(I)I"⟩, ⟨"DreamDutyModel", "innIn", "(III)I"⟩, ⟨"DreamDutyModel", "hasBeds", "(II)Z"⟩, ⟨"DreamDutyModel", "fillsLodging", "(I)V"⟩, ⟨"DreamDutyModel", "isSet", "(I)Z"⟩, ⟨"DreamDutyModel", "lodging", "(I)I"⟩, ⟨"DreamDutyModel", "lodgingAt", "(II)I"⟩, ⟨"DreamDutyModel", "fillsPairs", "()V"⟩, ⟨"DreamDutyModel", "swapsAll", "(I)Z"⟩, ⟨"DreamDutyModel", "fillsSwaps", "()V"⟩, ⟨"DreamDutyModel", "swaps", "(I)I"⟩, ⟨"DreamDutyModel", "paysBy", "(II)I"⟩, ⟨"DreamDutyModel", "isResting", "(II)Z"⟩, ⟨"DreamDutyModel", "declares", "(I)I"⟩, ⟨"DreamDutyModel", "posts", "(I)I"⟩, ⟨"DreamDutyModel", "year", "(III)I"⟩, ⟨"DreamDutyModel", "poorBy", "(I)I"⟩, ⟨"DreamDutyModel", "shows", "(I)I"⟩, ⟨"DreamDutyModel", "tell", "(I)I"⟩, ⟨"DreamDutyModel", "forget", "()I"⟩, ⟨"DreamDutyModel", "fromBy", "(I)I"⟩, ⟨"DreamDutyModel", "from", "(I)I"⟩, ⟨"DreamDutyModel", "productIn", "(IIZ)J"⟩, ⟨"DreamDutyModel", "likeliest", "(I)I"⟩, ⟨"DreamDutyModel", "whose", "(I)I"⟩, ⟨"DreamDutyModel", "hold", "(I)Z"⟩, ⟨"DreamDutyModel", "restore", "(I)Z"⟩, ⟨"DreamDutyModel", "count", "(I)I"⟩, ⟨"java/lang/Integer", "bitCount", "(I)I"⟩, ⟨"java/util/Arrays", "fill", "([II)V"⟩, ⟨"java/lang/String", "length", "()I"⟩, ⟨"java/lang/String", "coder", "()B"⟩, ⟨"java/lang/String", "charAt", "(I)C"⟩, ⟨"java/lang/String", "isLatin1", "()Z"⟩, ⟨"java/lang/StringLatin1", "charAt", "([BI)C"⟩, ⟨"java/lang/String", "checkIndex", "(II)V"⟩, ⟨"jdk/internal/util/Preconditions", "checkIndex", "(IILjava/util/function/BiFunction;)I"⟩, ⟨"java/lang/String", "indexOf", "(I)I"⟩, ⟨"java/lang/String", "indexOf", "(II)I"⟩, ⟨"java/lang/StringLatin1", "indexOf", "([BIII)I"⟩, ⟨"java/lang/StringLatin1", "canEncode", "(I)Z"⟩, ⟨"java/lang/StringLatin1", "indexOfChar", "([BIII)I"⟩, ⟨"DreamDutyLaw", "law", "([I)Z"⟩]
def pYs : List (MethodName) := pYs_0
def pY (k : Nat) : MethodName := pYs.getD k ⟨"", "", ""⟩
def pBytess_0 : List (ByteArray) := [prog_2_method_1_code, prog_2_method_2_code, prog_2_method_3_code, prog_2_method_4_code, prog_2_method_5_code, prog_2_method_6_code, prog_2_method_7_code, prog_2_method_8_code, prog_2_method_9_code, prog_2_method_10_code, prog_2_method_11_code, prog_2_method_12_code, prog_2_method_13_code, prog_2_method_14_code, prog_2_method_15_code, prog_2_method_16_code, prog_2_method_17_code, prog_2_method_18_code, prog_2_method_19_code, prog_2_method_20_code, prog_2_method_21_code, prog_3_method_1_code, prog_3_method_2_code, prog_3_method_3_code, prog_3_method_4_code, prog_3_method_5_code, prog_3_method_6_code, prog_3_method_7_code, prog_3_method_8_code, prog_3_method_9_code, prog_3_method_10_code, prog_3_method_11_code, prog_3_method_12_code, prog_3_method_13_code, prog_3_method_14_code, prog_3_method_15_code, prog_3_method_16_code, prog_3_method_17_code, prog_3_method_18_code, prog_3_method_19_code, prog_4_method_1_code, prog_4_method_2_code, prog_4_method_3_code, prog_4_method_4_code, prog_5_method_1_code, prog_5_method_2_code, prog_5_method_3_code, prog_5_method_4_code, prog_5_method_5_code, prog_5_method_6_code, prog_5_method_7_code, prog_5_method_8_code, prog_6_method_1_code, prog_6_method_2_code, prog_6_method_3_code, prog_6_method_4_code, prog_6_method_5_code, prog_6_method_6_code, prog_6_method_7_code, prog_6_method_8_code, prog_7_method_1_code, prog_7_method_2_code, prog_7_method_3_code, prog_7_method_4_code, prog_8_method_1_code, prog_8_method_2_code, prog_8_method_3_code, prog_9_method_1_code, prog_9_method_2_code, prog_9_method_3_code, prog_9_method_4_code, prog_9_method_5_code, prog_9_method_6_code, prog_10_method_1_code, prog_10_method_2_code, prog_10_method_3_code, prog_10_method_4_code, prog_10_method_5_code, prog_10_method_6_code, prog_10_method_7_code, prog_10_method_8_code, prog_10_method_9_code, prog_10_method_10_code, prog_10_method_11_code, prog_10_method_12_code, prog_10_method_13_code, prog_10_method_14_code, prog_10_method_15_code, prog_10_method_16_code, prog_10_method_17_code, prog_11_method_1_code, prog_11_method_2_code, prog_11_method_3_code, prog_11_method_4_code, prog_11_method_5_code, prog_11_method_6_code, prog_12_method_1_code, prog_12_method_2_code, prog_12_method_3_code, prog_12_method_4_code, prog_12_method_5_code, prog_12_method_6_code, prog_12_method_7_code, prog_12_method_8_code, prog_12_method_9_code, prog_12_method_10_code, prog_12_method_11_code, prog_12_method_12_code, prog_12_method_13_code, prog_1_method_1_code, prog_1_method_2_code, prog_1_method_3_code, prog_1_method_4_code, prog_1_method_5_code, prog_1_method_6_code, prog_1_method_7_code, prog_1_method_8_code, prog_1_method_9_code, prog_1_method_10_code, prog_1_method_11_code, prog_1_method_12_code, prog_1_method_13_code, prog_1_method_14_code, prog_1_method_15_code, prog_1_method_16_code, prog_1_method_17_code, prog_1_method_18_code, prog_1_method_19_code, prog_1_method_20_code, prog_1_method_21_code, prog_1_method_22_code, prog_1_method_23_code, prog_1_method_24_code, prog_1_method_25_code, prog_1_method_26_code, prog_1_method_27_code, prog_1_method_28_code, prog_1_method_29_code, prog_1_method_30_code, prog_1_method_31_code, prog_1_method_32_code, prog_1_method_33_code, prog_1_method_34_code, prog_1_method_35_code, prog_1_method_36_code, prog_1_method_37_code, prog_1_method_38_code, prog_1_method_39_code, prog_1_method_40_code, prog_1_method_41_code, prog_1_method_42_code, prog_1_method_43_code, prog_1_method_44_code, prog_1_method_45_code, prog_1_method_46_code, prog_1_method_47_code, prog_1_method_48_code, prog_1_method_49_code, prog_1_method_50_code, prog_14_method_2_code, prog_14_method_3_code, prog_14_method_4_code, prog_14_method_5_code, prog_14_method_6_code, prog_14_method_7_code, prog_14_method_8_code, prog_14_method_9_code, prog_14_method_10_code, prog_14_method_11_code, prog_14_method_12_code, prog_14_method_13_code, prog_14_method_14_code, prog_14_method_15_code, prog_14_method_16_code, prog_14_method_17_code, prog_14_method_18_code, prog_14_method_19_code, prog_14_method_20_code, prog_14_method_21_code, prog_14_method_22_code, prog_14_method_23_code, prog_14_method_24_code, prog_14_method_25_code, prog_14_method_26_code, prog_14_method_27_code, prog_14_method_28_code, prog_14_method_29_code, prog_14_method_30_code, prog_14_method_31_code, prog_14_method_32_code, prog_14_method_33_code, prog_14_method_34_code, prog_14_method_35_code, prog_14_method_36_code, prog_14_method_37_code, prog_14_method_38_code, prog_14_method_39_code, prog_14_method_40_code, prog_14_method_41_code, prog_14_method_42_code, prog_14_method_43_code, prog_14_method_44_code, prog_14_method_45_code, prog_14_method_46_code, prog_14_method_47_code, prog_14_method_48_code, prog_14_method_49_code, prog_14_method_50_code, prog_14_method_51_code, prog_14_method_52_code, prog_14_method_53_code, prog_14_method_54_code, prog_14_method_55_code, prog_14_method_56_code, prog_14_method_57_code, prog_14_method_58_code, prog_14_method_59_code, prog_14_method_60_code, prog_14_method_61_code, prog_14_method_62_code, prog_14_method_63_code, prog_14_method_64_code, prog_14_method_65_code, prog_14_method_66_code, prog_14_method_67_code, prog_14_method_68_code, prog_14_method_69_code, prog_14_method_70_code, prog_14_method_71_code, prog_14_method_72_code, prog_14_method_73_code, prog_14_method_74_code, prog_14_method_75_code, prog_14_method_76_code, prog_14_method_77_code, prog_14_method_78_code, prog_14_method_79_code, prog_14_method_80_code, prog_14_method_81_code, prog_14_method_82_code, prog_14_method_83_code, prog_14_method_84_code, prog_14_method_85_code, prog_14_method_86_code, prog_14_method_87_code, prog_14_method_88_code, prog_14_method_89_code, prog_14_method_90_code, prog_14_method_91_code, prog_14_method_92_code, prog_14_method_93_code, prog_14_method_94_code, prog_14_method_95_code, prog_14_method_96_code, prog_14_method_97_code, prog_14_method_98_code, prog_14_method_99_code, prog_14_method_100_code, prog_14_method_101_code, prog_14_method_102_code, prog_14_method_103_code, prog_14_method_104_code, prog_14_method_105_code, prog_14_method_106_code, prog_14_method_107_code, prog_14_method_108_code, prog_14_method_109_code, prog_14_method_110_code, prog_14_method_111_code, prog_14_method_112_code, prog_16_method_49_code, prog_22_method_103_code, prog_18_method_54_code, prog_18_method_152_code, prog_18_method_56_code, prog_18_method_154_code, prog_19_method_2_code, prog_18_method_155_code, prog_23_method_11_code, prog_18_method_79_code, prog_18_method_80_code, prog_19_method_22_code, prog_19_method_4_code, prog_19_method_23_code, code]
def pBytess : List (ByteArray) := pBytess_0
def pBytes (k : Nat) : ByteArray := pBytess.getD k ⟨#[]⟩
def pRets_0 : List (Option FieldType) := [none, none, none, some .int, some .int, some .int, none, none, some .int, some .int, some .int, some .int, some .int, some .int, some .int, none, some .int, some .int, some .int, some .int, some .int, none, some .int, some .int, none, some .int, some (.object "java/lang/String"), none, none, none, none, some .boolean, none, some .boolean, none, none, some .int, some .int, none, none, none, none, none, some .boolean, none, none, none, some .int, none, some .int, some .int, some .int, none, some .boolean, some .int, some .int, none, none, some .boolean, some .long, none, none, none, none, none, none, some .boolean, none, none, none, none, none, none, none, some .int, some .int, none, none, none, none, none, none, some .int, none, none, some .int, some .int, some .int, none, none, none, none, none, some .int, some .int, some (.object "DreamDuty$Law"), none, none, some .int, some .int, some .long, some .int, some .boolean, some .boolean, some .boolean, some .int, some .int, some .int, some .int, none, some .int, some .int, some .int, some .int, some .int, some .int, some .int, some .boolean, some .int, some .int, some .boolean, some .int, some .boolean, some .int, some .int, some .int, some .int, some .int, some .int, some .int, some .int, some .int, some .int, some .int, some .int, some .int, some .int, some .int, some .int, some .boolean, some .boolean, some .int, none, none, some .boolean, some .boolean, some .boolean, some .boolean, some .boolean, some .int, some .int, some .long, some .long, some .int, some .int, some .int, some .int, some .int, some .long, none, some .int, none, some .int, some .int, some .boolean, some .boolean, some .long, some .long, none, none, some .int, some .boolean, none, none, none, none, none, some .int, some .int, none, none, some .int, none, some .int, some .int, none, none, none, none, none, none, none, none, none, none, none, some .int, some .boolean, some .int, some .boolean, some .boolean, some .boolean, none, none, none, some .int, some .int, some .int, some .int, some .int, some .boolean, none, some .int, some .int, some .int, some .int, some .int, some .int, none, none, none, some .int, some .int, some .int, some .int, some .int, some .int, some .int, none, some .boolean, some .int, some .int, none, some .boolean, some .int, some .boolean, some .int, some .int, some .int, some .int, some .int, none, some .int, some .int, some .boolean, none, some .boolean, some .int, some .int, none, some .boolean, none, some .int, some .int, some .boolean, some .int, some .int, some .int, some .int, some .int, some .int, some .int, some .int, some .int, some .long, some .int, some .int, some .boolean, some .boolean, some .int, some .int, none, some .int, some .byte, some .char, some .boolean, some .char, none, some .int, some .int, some .int, some .int, some .boolean, some .int, some .boolean]
def pRets : List (Option FieldType) := pRets_0
def pRet (k : Nat) : Option FieldType := pRets.getD k none
def pVoid (k : Nat) : Bool := (pRet k).isNone
def pInits : List Nat := [0, 21, 40, 44, 52, 60, 64, 67, 73, 90, 96, 109, 159]
def pFld_0 : List (Nat × Nat × Nat × Nat) := [(0, 12, 0, 0), (0, 18, 0, 1), (0, 24, 0, 2), (0, 27, 0, 3), (0, 31, 9, 5), (0, 37, 0, 4), (0, 46, 9, 2), (0, 49, 7, 4), (0, 52, 7, 5), (0, 55, 7, 3), (0, 58, 9, 7), (0, 61, 7, 2), (0, 68, 7, 0), (0, 79, 7, 10), (0, 82, 7, 11), (0, 85, 9, 11), (0, 91, 9, 0), (0, 111, 9, 17), (0, 122, 9, 18), (0, 125, 9, 19)]
def pFld_1 : List (Nat × Nat × Nat × Nat) := [(0, 132, 9, 6), (0, 138, 9, 9), (0, 141, 9, 14), (0, 144, 9, 13), (0, 156, 9, 15), (0, 166, 7, 1), (0, 175, 7, 8), (0, 181, 7, 9), (0, 184, 9, 4), (1, 11, 1, 1), (1, 17, 1, 2), (1, 20, 1, 0), (1, 24, 1, 5), (1, 28, 1, 6), (1, 116, 1, 3), (1, 119, 1, 4), (2, 11, 2, 0), (2, 18, 2, 1), (2, 22, 2, 2), (3, 7, 3, 0)]
def pFld_2 : List (Nat × Nat × Nat × Nat) := [(3, 13, 3, 1), (3, 16, 3, 2), (4, 9, 4, 0), (4, 15, 4, 1), (4, 18, 4, 2), (4, 21, 4, 3), (4, 24, 4, 4), (4, 32, 0, 3), (4, 38, 9, 1), (4, 44, 4, 5), (4, 49, 4, 7), (4, 71, 4, 6), (4, 74, 9, 2), (4, 77, 9, 8), (4, 89, 9, 11), (4, 102, 9, 7), (5, 15, 5, 0), (5, 21, 5, 1), (5, 24, 5, 2), (5, 34, 0, 3)]
def pFld_3 : List (Nat × Nat × Nat × Nat) := [(5, 38, 9, 2), (5, 47, 0, 0), (6, 9, 6, 0), (6, 15, 6, 1), (6, 24, 6, 2), (6, 30, 0, 3), (6, 34, 9, 2), (6, 39, 0, 1), (6, 42, 9, 4), (7, 9, 7, 3), (7, 15, 7, 4), (7, 18, 7, 5), (7, 21, 7, 6), (7, 24, 7, 7), (7, 27, 7, 8), (7, 30, 7, 9), (7, 33, 7, 10), (7, 36, 7, 11), (7, 39, 7, 0), (7, 43, 7, 1)]
def pFld_4 : List (Nat × Nat × Nat × Nat) := [(7, 46, 7, 2), (7, 49, 9, 2), (7, 54, 9, 12), (8, 11, 8, 1), (8, 15, 8, 2), (8, 19, 8, 3), (8, 22, 8, 0), (8, 26, 8, 4), (8, 30, 8, 5), (8, 33, 8, 6), (8, 36, 8, 7), (8, 79, 9, 4), (8, 82, 9, 5), (8, 88, 9, 0), (8, 95, 9, 6), (8, 98, 9, 1), (8, 101, 9, 7), (8, 104, 9, 8), (8, 107, 9, 9), (8, 110, 9, 2)]
def pFld_5 : List (Nat × Nat × Nat × Nat) := [(8, 113, 9, 12), (8, 116, 9, 13), (8, 119, 9, 14), (8, 125, 9, 10), (8, 132, 9, 15), (8, 138, 9, 3), (8, 141, 9, 16), (9, 9, 9, 6), (9, 15, 9, 7), (9, 18, 9, 8), (9, 21, 9, 9), (9, 24, 9, 10), (9, 27, 9, 11), (9, 30, 9, 12), (9, 33, 9, 13), (9, 36, 9, 14), (9, 39, 9, 15), (9, 42, 9, 16), (9, 48, 9, 17), (9, 52, 9, 18)]
def pFld_6 : List (Nat × Nat × Nat × Nat) := [(9, 55, 9, 19), (9, 61, 9, 0), (9, 65, 9, 1), (9, 68, 9, 2), (9, 71, 9, 3), (9, 74, 9, 4), (9, 77, 9, 5), (10, 9, 10, 0), (10, 13, 10, 1), (10, 17, 10, 2), (10, 20, 10, 3), (10, 37, 10, 4), (10, 41, 10, 5), (11, 9, 11, 0), (11, 13, 11, 12), (11, 17, 11, 13), (11, 23, 11, 3), (11, 32, 11, 4), (11, 39, 11, 5), (11, 46, 11, 6)]
def pFld_7 : List (Nat × Nat × Nat × Nat) := [(11, 50, 11, 7), (11, 56, 11, 8), (11, 60, 11, 9), (11, 66, 11, 10), (11, 72, 11, 11), (11, 80, 11, 15), (11, 87, 11, 16), (11, 94, 11, 17), (11, 98, 11, 2), (11, 105, 11, 1), (11, 134, 0, 0), (11, 138, 7, 3), (11, 141, 7, 4), (11, 144, 7, 5), (11, 157, 0, 1), (11, 160, 7, 7), (11, 163, 7, 8), (11, 166, 7, 9), (11, 175, 9, 8), (11, 183, 7, 10)]
def pFld_8 : List (Nat × Nat × Nat × Nat) := [(11, 186, 7, 11), (11, 189, 9, 11), (11, 206, 7, 0), (11, 246, 9, 1), (11, 268, 5, 0), (11, 271, 5, 1), (11, 274, 5, 2), (11, 280, 9, 2), (11, 289, 9, 3), (11, 295, 9, 5), (11, 298, 0, 4), (11, 302, 11, 14), (11, 322, 9, 0), (11, 325, 7, 1), (11, 328, 7, 2), (11, 331, 2, 2), (11, 337, 9, 4), (12, 13, 12, 1), (12, 17, 12, 3), (12, 20, 12, 5)]
def pFld_9 : List (Nat × Nat × Nat × Nat) := [(12, 24, 12, 6), (12, 27, 12, 7), (12, 30, 12, 8), (12, 34, 12, 9), (12, 37, 12, 17), (12, 40, 12, 21), (12, 43, 12, 22), (12, 46, 12, 23), (12, 49, 12, 24), (12, 52, 12, 25), (12, 55, 12, 26), (12, 58, 12, 27), (12, 61, 12, 28), (12, 64, 12, 29), (12, 67, 12, 30), (12, 70, 12, 31), (12, 73, 12, 32), (12, 76, 12, 33), (12, 79, 12, 34), (12, 82, 12, 35)]
def pFld_10 : List (Nat × Nat × Nat × Nat) := [(12, 85, 12, 36), (12, 88, 12, 37), (12, 91, 12, 38), (12, 94, 12, 39), (12, 97, 12, 40), (12, 100, 12, 41), (12, 103, 12, 42), (12, 106, 12, 44), (12, 110, 12, 45), (12, 113, 12, 46), (12, 116, 12, 47), (12, 119, 12, 48), (12, 122, 12, 50), (12, 125, 12, 51), (12, 128, 12, 52), (12, 131, 12, 54), (12, 134, 12, 55), (12, 137, 12, 57), (12, 140, 12, 58), (12, 143, 12, 60)]
def pFld_11 : List (Nat × Nat × Nat × Nat) := [(12, 146, 12, 62), (12, 149, 12, 64), (12, 152, 12, 67), (12, 155, 12, 68), (12, 158, 12, 72), (12, 161, 12, 73), (12, 164, 12, 74), (12, 181, 12, 2), (12, 187, 12, 4), (12, 196, 12, 10), (12, 218, 12, 13), (12, 221, 12, 11), (12, 224, 12, 14), (12, 227, 12, 15), (12, 230, 12, 16), (12, 245, 12, 12), (12, 248, 12, 18), (12, 251, 12, 19), (12, 254, 12, 20), (12, 257, 12, 43)]
def pFld_12 : List (Nat × Nat × Nat × Nat) := [(12, 260, 12, 49), (12, 266, 12, 61), (12, 269, 12, 71), (12, 321, 12, 53), (12, 334, 12, 56), (12, 342, 12, 59), (12, 440, 12, 63), (12, 455, 12, 65), (12, 458, 12, 66), (12, 474, 12, 69), (12, 477, 12, 70)]
def pFld : List (Nat × Nat × Nat × Nat) := pFld_0 ++ (pFld_1 ++ (pFld_2 ++ (pFld_3 ++ (pFld_4 ++ (pFld_5 ++ (pFld_6 ++ (pFld_7 ++ (pFld_8 ++ (pFld_9 ++ (pFld_10 ++ (pFld_11 ++ (pFld_12))))))))))))
def pFldS_0 : List (Nat × Nat × Nat × Nat) := [(61, 9, 50, 0), (61, 15, 50, 1)]
def pFldS : List (Nat × Nat × Nat × Nat) := pFldS_0
def pCst_0 : List (Nat × Nat × Int32) := [(0, 100, 1103515245), (11, 133, (-100000)), (12, 345, 1103515245), (12, 403, (-100000)), (60, 265, 1431655765), (60, 266, 858993459), (60, 267, 252645135)]
def pCst : List (Nat × Nat × Int32) := pCst_0
def pCstL_0 : List (Nat × Nat × Int64) := [(4, 47, (-1)), (10, 35, 27), (10, 73, 10), (12, 190, 27), (12, 453, (-1))]
def pCstL : List (Nat × Nat × Int64) := pCstL_0
def pStrT_0 : List (Nat × Nat × Nat) := [(1, 74, 2), (1, 76, 3), (1, 78, 4), (1, 80, 5), (1, 82, 6), (10, 23, 0), (10, 67, 1)]
def pStrT : List (Nat × Nat × Nat) := pStrT_0
def pStat_0 : List (Nat × Nat × Nat) := [(61, 38, 0), (61, 1053, 1)]
def pStat : List (Nat × Nat × Nat) := pStat_0
def pCls_0 : List (Nat × Nat × Nat) := [(0, 9, 7), (2, 9, 7), (9, 45, 3), (11, 20, 10), (11, 27, 1), (11, 36, 8), (11, 43, 9), (11, 53, 0), (11, 63, 2), (11, 70, 7), (11, 77, 4), (11, 84, 5), (11, 91, 6), (13, 7, 11), (13, 10, 12)]
def pCls : List (Nat × Nat × Nat) := pCls_0
def pAcl_0 : List (Nat × Nat) := [(2, 9), (11, 70)]
def pAcl : List (Nat × Nat) := pAcl_0
def pOin_0 : List (Nat × Nat) := [(0, 3), (1, 3), (2, 3), (3, 1), (4, 3), (5, 3), (6, 3), (7, 3), (8, 3), (9, 3), (10, 1), (11, 1), (12, 7)]
def pOin : List (Nat × Nat) := pOin_0
def pCpy_0 : List (Nat × Nat) := [(4, 65), (7, 61)]
def pCpy : List (Nat × Nat) := pCpy_0
def pMth_0 : List (Nat × Nat × Nat) := [(1, 145, 9996), (2, 29, 9995), (3, 28, 9996), (4, 92, 9996), (11, 348, 9994), (11, 353, 9995), (11, 355, 9996), (62, 38, 9995), (62, 92, 9996)]
def pMth : List (Nat × Nat × Nat) := pMth_0
def pInvT_0 : List (Nat × Nat × Nat × Nat × Nat) := [(0, 11, 67, 1, 12), (0, 38, 68, 2, 0), (0, 42, 69, 2, 0), (0, 64, 7, 3, 0), (0, 71, 8, 3, 0), (0, 75, 11, 4, 0), (0, 88, 9, 3, 0), (0, 94, 93, 3, 0), (0, 97, 10, 2, 1), (0, 101, 12, 4, 0), (0, 104, 153, 3, 11), (0, 107, 15, 4, 0), (0, 115, 49, 2, 0), (0, 119, 157, 2, 11), (0, 128, 154, 1, 11), (0, 135, 155, 1, 11), (0, 147, 156, 1, 11), (0, 150, 16, 3, 0), (0, 153, 13, 4, 0), (0, 159, 17, 1, 0)]
def pInvT_1 : List (Nat × Nat × Nat × Nat × Nat) := [(0, 163, 19, 2, 0), (0, 169, 271, 2, 1), (0, 178, 14, 2, 0), (1, 31, 271, 2, 1), (1, 37, 98, 2, 0), (1, 41, 24, 2, 0), (1, 45, 99, 2, 0), (1, 48, 25, 1, 1), (1, 51, 39, 1, 0), (1, 54, 28, 1, 0), (1, 57, 95, 2, 0), (1, 63, 29, 2, 0), (1, 66, 26, 1, 1), (1, 70, 27, 2, 0), (1, 84, 272, 1, 0), (1, 90, 274, 2, 0), (1, 94, 38, 2, 0), (1, 98, 45, 1, 0), (1, 103, 30, 3, 0), (1, 107, 47, 1, 0)]
def pInvT_2 : List (Nat × Nat × Nat × Nat × Nat) := [(1, 110, 46, 2, 0), (1, 113, 48, 2, 0), (1, 122, 31, 2, 0), (1, 126, 35, 3, 0), (1, 129, 33, 2, 0), (1, 132, 32, 1, 0), (1, 135, 100, 2, 0), (1, 139, 101, 1, 1), (1, 142, 34, 2, 0), (1, 151, 36, 1, 1), (1, 154, 37, 1, 1), (2, 17, 67, 1, 12), (2, 25, 69, 2, 0), (3, 20, 46, 2, 0), (3, 24, 50, 2, 0), (3, 34, 51, 3, 1), (4, 28, 56, 3, 0), (4, 53, 57, 3, 0), (4, 57, 58, 2, 0), (4, 61, 59, 1, 0)]
def pInvT_3 : List (Nat × Nat × Nat × Nat × Nat) := [(4, 80, 3, 2, 0), (4, 84, 270, 1, 1), (4, 98, 158, 2, 11), (4, 105, 20, 3, 0), (5, 9, 17, 1, 0), (5, 27, 5, 1, 0), (5, 30, 62, 6, 0), (5, 43, 63, 4, 0), (5, 51, 70, 3, 0), (6, 18, 5, 1, 0), (6, 27, 17, 1, 0), (6, 45, 14, 2, 0), (6, 49, 270, 1, 1), (7, 55, 271, 2, 1), (8, 41, 98, 2, 0), (8, 45, 76, 2, 0), (8, 49, 92, 1, 0), (8, 54, 99, 2, 0), (8, 57, 77, 2, 0), (8, 60, 78, 2, 0)]
def pInvT_4 : List (Nat × Nat × Nat × Nat × Nat) := [(8, 63, 80, 2, 0), (8, 66, 79, 2, 0), (8, 69, 81, 2, 0), (8, 72, 83, 2, 0), (8, 75, 87, 3, 0), (8, 85, 88, 1, 0), (8, 91, 84, 3, 0), (8, 122, 85, 2, 0), (8, 128, 82, 3, 0), (8, 135, 89, 3, 0), (8, 144, 100, 2, 0), (8, 148, 86, 2, 0), (9, 47, 44, 1, 12), (9, 58, 91, 1, 0), (9, 80, 271, 2, 1), (9, 86, 45, 1, 0), (9, 87, 46, 2, 0), (9, 93, 101, 1, 1), (9, 97, 93, 3, 0), (10, 25, 272, 1, 0)]
def pInvT_5 : List (Nat × Nat × Nat × Nat × Nat) := [(10, 31, 274, 2, 0), (10, 44, 102, 1, 1), (10, 48, 105, 3, 1), (10, 52, 106, 4, 0), (10, 55, 103, 1, 1), (10, 58, 104, 1, 1), (10, 61, 107, 4, 0), (10, 64, 108, 4, 0), (10, 69, 279, 2, 0), (11, 22, 96, 1, 2), (11, 29, 21, 2, 2), (11, 38, 73, 2, 2), (11, 45, 90, 1, 2), (11, 55, 0, 1, 12), (11, 65, 40, 1, 2), (11, 76, 67, 1, 12), (11, 79, 52, 1, 12), (11, 86, 60, 1, 12), (11, 93, 64, 1, 12), (11, 102, 142, 1, 0)]
def pInvT_6 : List (Nat × Nat × Nat × Nat × Nat) := [(11, 108, 143, 2, 0), (11, 112, 97, 3, 0), (11, 116, 91, 1, 0), (11, 119, 22, 2, 0), (11, 123, 23, 1, 0), (11, 127, 74, 2, 0), (11, 128, 75, 1, 0), (11, 129, 146, 2, 0), (11, 147, 154, 1, 1), (11, 151, 155, 1, 1), (11, 154, 17, 1, 0), (11, 169, 145, 2, 0), (11, 172, 3, 2, 0), (11, 178, 270, 1, 1), (11, 192, 144, 2, 0), (11, 195, 93, 3, 0), (11, 199, 42, 2, 0), (11, 203, 6, 1, 0), (11, 209, 5, 1, 0), (11, 212, 18, 1, 0)]
def pInvT_7 : List (Nat × Nat × Nat × Nat × Nat) := [(11, 215, 70, 3, 0), (11, 219, 72, 2, 0), (11, 222, 71, 2, 0), (11, 225, 43, 2, 0), (11, 229, 12, 4, 0), (11, 233, 153, 3, 1), (11, 236, 13, 4, 0), (11, 239, 20, 3, 0), (11, 242, 158, 2, 1), (11, 249, 147, 2, 0), (11, 252, 53, 3, 0), (11, 256, 54, 1, 0), (11, 259, 55, 2, 0), (11, 262, 2, 2, 0), (11, 266, 61, 2, 0), (11, 277, 65, 2, 0), (11, 283, 66, 2, 0), (11, 286, 4, 1, 0), (11, 292, 94, 2, 0), (11, 299, 14, 2, 0)]
def pInvT_8 : List (Nat × Nat × Nat × Nat × Nat) := [(11, 305, 148, 2, 0), (11, 308, 150, 2, 0), (11, 311, 151, 3, 0), (11, 315, 152, 3, 0), (11, 318, 69, 2, 0), (11, 321, 41, 1, 0), (11, 334, 149, 1, 0), (11, 340, 1, 2, 0), (11, 343, 271, 2, 1), (12, 167, 176, 2, 0), (12, 171, 167, 7, 1), (12, 175, 202, 1, 0), (12, 178, 203, 1, 0), (12, 184, 161, 2, 0), (12, 192, 166, 2, 1), (12, 199, 163, 2, 0), (12, 203, 168, 5, 0), (12, 207, 165, 1, 1), (12, 211, 164, 1, 1), (12, 214, 170, 4, 0)]
def pInvT_9 : List (Nat × Nat × Nat × Nat × Nat) := [(12, 233, 172, 2, 0), (12, 236, 171, 2, 0), (12, 239, 174, 1, 0), (12, 242, 169, 1, 0), (12, 263, 180, 1, 0), (12, 272, 179, 3, 0), (12, 276, 185, 1, 0), (12, 279, 186, 1, 0), (12, 282, 183, 2, 0), (12, 285, 184, 3, 0), (12, 289, 175, 2, 0), (12, 292, 187, 1, 0), (12, 295, 188, 1, 0), (12, 298, 189, 1, 0), (12, 301, 190, 2, 0), (12, 304, 173, 3, 0), (12, 307, 181, 1, 0), (12, 311, 182, 4, 0), (12, 315, 194, 1, 0), (12, 318, 191, 1, 0)]
def pInvT_10 : List (Nat × Nat × Nat × Nat × Nat) := [(12, 324, 192, 3, 0), (12, 327, 195, 1, 0), (12, 330, 193, 2, 0), (12, 338, 197, 3, 1), (12, 346, 205, 2, 1), (12, 349, 207, 3, 0), (12, 352, 209, 3, 0), (12, 355, 196, 3, 0), (12, 358, 211, 6, 0), (12, 362, 212, 4, 0), (12, 365, 214, 6, 0), (12, 369, 215, 2, 0), (12, 372, 218, 2, 0), (12, 375, 208, 2, 0), (12, 378, 206, 3, 0), (12, 381, 210, 4, 0), (12, 384, 213, 5, 0), (12, 388, 219, 2, 0), (12, 391, 216, 2, 0), (12, 394, 217, 2, 0)]
def pInvT_11 : List (Nat × Nat × Nat × Nat × Nat) := [(12, 397, 221, 2, 0), (12, 400, 199, 2, 0), (12, 404, 204, 1, 0), (12, 407, 200, 2, 0), (12, 410, 224, 2, 0), (12, 413, 198, 1, 1), (12, 416, 201, 2, 0), (12, 419, 228, 1, 0), (12, 422, 220, 1, 0), (12, 425, 223, 1, 0), (12, 428, 222, 1, 0), (12, 431, 232, 3, 0), (12, 434, 238, 3, 0), (12, 437, 237, 2, 1), (12, 444, 242, 1, 1), (12, 447, 243, 4, 0), (12, 450, 241, 1, 0), (12, 461, 244, 3, 0), (12, 465, 246, 2, 0), (12, 468, 245, 2, 0)]
def pInvT_12 : List (Nat × Nat × Nat × Nat × Nat) := [(12, 471, 249, 1, 0), (12, 480, 250, 2, 0), (12, 483, 251, 1, 0), (12, 486, 253, 3, 0), (12, 489, 254, 3, 0), (12, 492, 262, 2, 0), (12, 495, 264, 4, 0), (13, 9, 109, 1, 2), (13, 12, 159, 1, 2), (13, 13, 110, 6, 0), (13, 17, 160, 6, 0), (13, 18, 111, 2, 0), (13, 22, 162, 2, 0), (13, 23, 112, 1, 0), (13, 27, 177, 1, 0), (13, 28, 113, 1, 0), (13, 31, 178, 1, 0), (13, 32, 114, 3, 0), (13, 36, 225, 3, 0), (13, 37, 115, 3, 0)]
def pInvT_13 : List (Nat × Nat × Nat × Nat × Nat) := [(13, 40, 226, 3, 0), (13, 41, 116, 3, 0), (13, 44, 227, 3, 0), (13, 45, 117, 3, 0), (13, 49, 229, 3, 0), (13, 50, 118, 2, 0), (13, 53, 230, 2, 0), (13, 54, 119, 1, 0), (13, 57, 231, 1, 0), (13, 58, 120, 3, 0), (13, 61, 233, 3, 0), (13, 62, 121, 3, 0), (13, 66, 234, 3, 0), (13, 67, 122, 1, 0), (13, 71, 235, 1, 0), (13, 72, 123, 4, 0), (13, 76, 236, 4, 0), (13, 77, 124, 4, 0), (13, 81, 239, 4, 0), (13, 82, 125, 2, 0)]
def pInvT_14 : List (Nat × Nat × Nat × Nat × Nat) := [(13, 85, 240, 2, 0), (13, 86, 126, 2, 0), (13, 89, 247, 2, 0), (13, 90, 127, 3, 0), (13, 93, 248, 3, 0), (13, 94, 128, 2, 0), (13, 97, 252, 2, 0), (13, 98, 129, 2, 0), (13, 101, 255, 2, 0), (13, 102, 130, 2, 0), (13, 105, 256, 2, 0), (13, 106, 131, 4, 0), (13, 109, 257, 4, 0), (13, 110, 132, 2, 0), (13, 113, 258, 2, 0), (13, 114, 133, 2, 0), (13, 117, 259, 2, 0), (13, 118, 134, 2, 0), (13, 121, 260, 2, 0), (13, 122, 135, 1, 0)]
def pInvT_15 : List (Nat × Nat × Nat × Nat × Nat) := [(13, 125, 261, 1, 0), (13, 126, 136, 2, 0), (13, 129, 263, 2, 0), (13, 130, 137, 2, 0), (13, 133, 265, 2, 0), (13, 134, 138, 2, 0), (13, 137, 266, 2, 0), (13, 138, 139, 2, 0), (13, 142, 267, 2, 0), (13, 143, 140, 2, 0), (13, 146, 268, 2, 0), (13, 147, 141, 2, 0), (13, 150, 269, 2, 0), (61, 335, 273, 1, 0), (61, 492, 275, 1, 0), (61, 495, 276, 2, 1), (61, 505, 272, 1, 0), (61, 633, 280, 3, 0), (61, 637, 281, 4, 1), (61, 1059, 278, 3, 1)]
def pInvT_16 : List (Nat × Nat × Nat × Nat × Nat) := [(62, 9, 277, 2, 1), (62, 88, 282, 1, 1), (62, 95, 283, 4, 1)]
def pInvT : List (Nat × Nat × Nat × Nat × Nat) := pInvT_0 ++ (pInvT_1 ++ (pInvT_2 ++ (pInvT_3 ++ (pInvT_4 ++ (pInvT_5 ++ (pInvT_6 ++ (pInvT_7 ++ (pInvT_8 ++ (pInvT_9 ++ (pInvT_10 ++ (pInvT_11 ++ (pInvT_12 ++ (pInvT_13 ++ (pInvT_14 ++ (pInvT_15 ++ (pInvT_16))))))))))))))))
def pC (c : Nat) : vw_C := vwCl.getD c ("", fun _ => ("", "", "", false), 0)
def pTys : List (Nat → FieldType) := [tyX0, tyX1, tyX2, tyX3, tyX4, tyX5, tyX6, tyX7, tyX8, tyX9, tyX10, tyX11, tyX12]
def pTyF (c : Nat) : Nat → FieldType := pTys.getD c (fun _ => .int)
def pTy (t : Nat) : FieldType := bif Nat.beq t 100 then .int else bif Nat.beq t 101 then .byte else bif Nat.beq t 102 then .boolean else bif Nat.beq t 103 then .long else .object "DreamDuty$State"
def pArrT : ArrayType → Nat × Value
  | .int => (100, .int 0)
  | .byte => (101, .int 0)
  | .boolean => (102, .int 0)
  | .long => (103, .long 0)
  | _ => (0, .null)
def pPutT : Value → FieldType → Bool
  | .int _, .int => true
  | .float _, .boolean => true
  | .long _, .long => true
  | .null, .object _ => true
  | .null, .array _ => true
  | _, _ => false
def pRetT : Nat → Option FieldType → Bool
  | 0, some .int => true
  | 1, some .boolean => true
  | 2, some .char => true
  | 3, some .byte => true
  | _, _ => false
def pSwOK (pc : Nat) (lo hi : Int) (offs : Array Int) (tbl : List (Int32 × Nat)) : Bool :=
  decide (hi - lo + 1 = (offs.size : Int)) && (decide (-2147483648 ≤ lo) && (decide (hi < 2147483648) && ((List.range offs.size).all (fun i => decide ((pc : Int) + offs.getD i 0 = ((tbl.getD i (0, 0)).2 : Int)) && decide ((tbl.getD i (0, 0)).1.toInt = lo + (i : Int))) && decide (tbl.length = offs.size))))
/-- an entry is what its instruction says -/
def chkE (k pc : Nat) (en : pE) : Bool :=
  match en.1 with
  | .iconst n => decide (en.2.1 = 1) && decide (en.2.2.2.2.1 = .int (Int32.ofInt n))
  | .bipush n => decide (en.2.1 = 2) && decide (en.2.2.2.2.1 = .int (Int8.ofInt n).toInt32)
  | .sipush n => decide (en.2.1 = 3) && decide (en.2.2.2.2.1 = .int (Int16.ofInt n).toInt32)
  | .lconst n => decide (en.2.1 = 1) && decide (en.2.2.2.2.1 = .long (Int64.ofNat n.val))
  | .ldc i => decide (en.2.1 = 2) && (match en.2.2.2.2.1 with
    | .int c => decide ((pOwn k, i, c) ∈ pCst)
    | .ref r => decide (100001 ≤ r) && decide ((pOwn k, i, r - 100001) ∈ pStrT)
    | _ => false)
  | .ldc_w i => decide (en.2.1 = 3) && (match en.2.2.2.2.1 with
    | .int c => decide ((pOwn k, i, c) ∈ pCst)
    | _ => false)
  | .ldc2_w i => decide (en.2.1 = 3) && (match en.2.2.2.2.1 with
    | .long c => decide ((pOwn k, i, c) ∈ pCstL)
    | _ => false)
  | .getstatic i => decide (en.2.1 = 3) && (match en.2.2.2.2.1 with
    | .int c => decide (c = 1) && decide ((pOwn k, i, 0) ∈ pStat)
    | .float _ => decide ((pOwn k, i, 1) ∈ pStat)
    | _ => false)
  | .iload_n _ => decide (en.2.1 = 1)
  | .iload _ => decide (en.2.1 = 2)
  | .lload_n _ => decide (en.2.1 = 1)
  | .lload _ => decide (en.2.1 = 2)
  | .aload_n _ => decide (en.2.1 = 1)
  | .aload _ => decide (en.2.1 = 2)
  | .istore_n i => decide (en.2.1 = 1) && decide (i.val < pMaxL k)
  | .istore i => decide (en.2.1 = 2) && decide (i < pMaxL k)
  | .lstore_n i => decide (en.2.1 = 1) && decide (i.val + 1 < pMaxL k)
  | .lstore i => decide (en.2.1 = 2) && decide (i + 1 < pMaxL k)
  | .astore_n i => decide (en.2.1 = 1) && decide (i.val < pMaxL k)
  | .astore i => decide (en.2.1 = 2) && decide (i < pMaxL k)
  | .iinc i n => decide (en.2.1 = 3) && (decide (i < pMaxL k) && decide (en.2.2.2.2.1 = .int (Int32.ofInt n)))
  | .getfield i => decide (en.2.1 = 3) && (decide ((pOwn k, i, en.2.2.1, en.2.2.2.1) ∈ pFld) || decide ((pOwn k, i, en.2.2.1, en.2.2.2.1) ∈ pFldS))
  | .putfield i => decide (en.2.1 = 3) && (decide ((pOwn k, i, en.2.2.1, en.2.2.2.1) ∈ pFld) && (pPutT en.2.2.2.2.1 (pTyF en.2.2.1 en.2.2.2.1) && (!((pC en.2.2.1).2.1 en.2.2.2.1).2.2.2 || (decide (k ∈ pInits) && decide (pOwn k = en.2.2.1)))))
  | .baload => decide (en.2.1 = 1) && (decide (en.2.2.1 = 101) || decide (en.2.2.1 = 102))
  | .bastore => decide (en.2.1 = 1) && (decide (en.2.2.1 = 101) || decide (en.2.2.1 = 102))
  | .newarray t => decide (en.2.1 = 2) && (decide (en.2.2.1 = (pArrT t).1) && (decide (en.2.2.2.2.1 = (pArrT t).2) && decide (100 ≤ (pArrT t).1)))
  | .anewarray i => decide (en.2.1 = 3) && decide ((pOwn k, i) ∈ pAcl)
  | .new i => decide (en.2.1 = 3) && decide ((pOwn k, i, en.2.2.1) ∈ pCls)
  | .invokevirtual i => decide ((pOwn k, i, en.2.2.1, en.2.2.2.1, 0) ∈ pInvT) && decide ((en.2.2.2.2.1 = .retAddr 0) = (pVoid en.2.2.1 = true))
  | .invokestatic i => decide (en.2.2.1 = 9998 ∧ (pOwn k, i) ∈ pCpy) || decide ((pOwn k, i, en.2.2.1) ∈ pMth) || (decide (((pOwn k, i, en.2.2.1, en.2.2.2.1, 1) ∈ pInvT ∨ (pOwn k, i, en.2.2.1, en.2.2.2.1, 11) ∈ pInvT)) && decide ((en.2.2.2.2.1 = .retAddr 0) = (pVoid en.2.2.1 = true)))
  | .invokespecial i => decide (en.2.2.1 = 9999 ∧ (pOwn k, i) ∈ pOin) || (decide (((pOwn k, i, en.2.2.1, en.2.2.2.1, 2) ∈ pInvT ∨ (pOwn k, i, en.2.2.1, en.2.2.2.1, 12) ∈ pInvT)) && decide ((en.2.2.2.2.1 = .retAddr 0) = (pVoid en.2.2.1 = true)))
  | .ireturn => decide (en.2.1 = 1) && pRetT en.2.2.1 (pRet k)
  | .lreturn => decide (en.2.1 = 1) && decide (pRet k = some .long)
  | .areturn => decide (en.2.1 = 1) && (match pRet k with | some t => t.isReference | none => false)
  | .return_ => decide (en.2.1 = 1) && decide (pRet k = none)
  | .goto d => decide (en.2.1 = 3) && decide ((pc : Int) + d = (en.2.2.1 : Int))
  | .if_icmp _ d => decide (en.2.1 = 3) && decide ((pc : Int) + d = (en.2.2.1 : Int))
  | .ifCond _ d => decide (en.2.1 = 3) && decide ((pc : Int) + d = (en.2.2.1 : Int))
  | .tableswitch d lo hi offs => decide ((pc : Int) + d = (en.2.2.1 : Int)) && pSwOK pc lo hi offs en.2.2.2.2.2
  | _ => decide (en.2.1 = 1)
def chkM (k : Nat) : Bool := (pCode k).all (fun q => decide (decode (pBytes k) q.1 = .ok (q.2.1, q.2.2.1)) && (chkE k q.1 q.2 || (match q.2.1 with | .athrow => true | .invokestatic _ => Nat.beq q.2.2.2.1 9900 | _ => false)))
end
section
def pKinds : List Nat := [2, 0, 0, 0, 0, 0, 0, 0, 0, 0, 1, 0, 0, 0, 0, 0, 0, 0, 0, 0, 0, 2, 0, 0, 0, 1, 1, 0, 0, 0, 0, 0, 0, 0, 0, 0, 1, 1, 0, 0, 2, 0, 0, 0, 2, 0, 0, 0, 0, 0, 0, 1, 2, 0, 0, 0, 0, 0, 0, 0, 2, 0, 0, 0, 2, 0, 0, 2, 0, 0, 0, 0, 0, 2, 0, 0, 0, 0, 0, 0, 0, 0, 0, 0, 0, 0, 0, 0, 0, 0, 2, 0, 0, 0, 0, 0, 2, 0, 0, 0, 0, 1, 1, 1, 1, 1, 0, 0, 0, 2, 0, 0, 0, 0, 0, 0, 0, 0, 0, 0, 0, 0, 0, 0, 0, 0, 0, 0, 0, 0, 0, 0, 0, 0, 0, 0, 0, 0, 0, 0, 0, 0, 0, 0, 0, 0, 0, 0, 0, 0, 0, 0, 0, 1, 1, 1, 1, 1, 1, 2, 0, 0, 0, 0, 1, 1, 1, 1, 0, 0, 0, 0, 0, 0, 0, 0, 0, 0, 0, 0, 0, 0, 0, 0, 0, 0, 0, 0, 0, 0, 0, 0, 0, 0, 0, 0, 0, 1, 1, 0, 0, 0, 0, 0, 0, 1, 0, 0, 0, 0, 0, 0, 0, 0, 0, 0, 0, 0, 0, 0, 0, 0, 0, 0, 0, 0, 0, 0, 0, 0, 0, 0, 0, 0, 0, 0, 0, 1, 0, 0, 0, 0, 1, 0, 0, 0, 0, 0, 0, 0, 0, 0, 0, 0, 0, 0, 0, 0, 0, 0, 0, 0, 0, 0, 0, 0, 0, 0, 0, 0, 1, 1, 0, 0, 0, 0, 1, 1, 1, 0, 0, 1, 1, 1, 1]
def pKind (k : Nat) : Nat := pKinds.getD k 9
def pPars : List Nat := [0, 1, 1, 1, 0, 0, 0, 2, 2, 2, 2, 3, 3, 3, 1, 3, 2, 0, 0, 1, 2, 1, 1, 0, 1, 1, 1, 1, 0, 1, 2, 1, 0, 1, 1, 2, 1, 1, 1, 0, 0, 0, 1, 1, 0, 0, 1, 0, 1, 1, 1, 3, 0, 2, 0, 1, 2, 2, 1, 0, 0, 1, 5, 3, 0, 1, 1, 0, 1, 1, 2, 1, 1, 1, 1, 0, 1, 1, 1, 1, 1, 1, 2, 1, 2, 1, 1, 2, 0, 2, 0, 0, 0, 2, 1, 1, 0, 2, 1, 1, 1, 1, 1, 1, 1, 3, 3, 3, 3, 0, 5, 1, 0, 0, 2, 2, 2, 2, 1, 0, 2, 2, 0, 3, 3, 1, 1, 2, 1, 1, 1, 3, 1, 1, 1, 0, 1, 1, 1, 1, 1, 1, 0, 1, 1, 1, 1, 1, 1, 0, 1, 2, 2, 3, 1, 1, 1, 2, 2, 0, 5, 1, 1, 1, 1, 1, 2, 7, 4, 0, 3, 1, 1, 2, 0, 1, 1, 0, 0, 2, 0, 0, 3, 1, 2, 0, 0, 0, 0, 0, 1, 0, 2, 1, 0, 0, 2, 3, 1, 1, 1, 1, 0, 0, 0, 2, 2, 2, 1, 2, 3, 5, 3, 4, 5, 1, 1, 1, 1, 1, 0, 1, 0, 0, 1, 2, 2, 2, 0, 2, 1, 0, 2, 2, 2, 0, 3, 2, 2, 3, 1, 0, 1, 3, 2, 1, 1, 1, 2, 0, 1, 0, 1, 2, 2, 1, 1, 3, 1, 1, 1, 0, 1, 1, 3, 1, 1, 1, 1, 1, 1, 2, 0, 0, 1, 0, 2, 2, 3, 1, 2, 4, 1, 4, 1]
def pPar (k : Nat) : Nat := pPars.getD k 0
def pNest : List Cond := [.methodLinkNest "DreamDuty$Text" 47 ⟨"DreamDuty$Law", "<init>", "()V"⟩ "DreamDuty", .methodLinkNest "DreamDuty" 55 ⟨"DreamDuty$Border", "<init>", "()V"⟩ "DreamDuty", .methodLinkNest "DreamDuty$Border" 11 ⟨"DreamDuty$State", "<init>", "()V"⟩ "DreamDuty", .methodLinkNest "DreamDuty$History" 17 ⟨"DreamDuty$State", "<init>", "()V"⟩ "DreamDuty", .methodLinkNest "DreamDuty" 76 ⟨"DreamDuty$State", "<init>", "()V"⟩ "DreamDuty", .methodLinkNest "DreamDuty" 79 ⟨"DreamDuty$Lodgings", "<init>", "()V"⟩ "DreamDuty", .methodLinkNest "DreamDuty" 86 ⟨"DreamDuty$Pairings", "<init>", "()V"⟩ "DreamDuty", .methodLinkNest "DreamDuty" 93 ⟨"DreamDuty$Rests", "<init>", "()V"⟩ "DreamDuty", .methodLinkNest "DreamDuty$Border" 128 ⟨"DreamDuty", "thingOf", "(I)I"⟩ "DreamDuty", .methodLinkNest "DreamDuty$Border" 135 ⟨"DreamDuty", "unitsOf", "(I)I"⟩ "DreamDuty", .methodLinkNest "DreamDuty$Border" 147 ⟨"DreamDuty", "twiceOf", "(I)I"⟩ "DreamDuty", .methodLinkNest "DreamDuty$Border" 119 ⟨"DreamDuty", "clamp", "(II)I"⟩ "DreamDuty", .methodLinkNest "DreamDuty$Border" 104 ⟨"DreamDuty", "dreamOf", "(III)I"⟩ "DreamDuty", .methodLinkNest "DreamDuty$Lodgings" 98 ⟨"DreamDuty", "commonDivisor", "(JJ)J"⟩ "DreamDuty"]
def fldP (q : Nat × Nat × Nat × Nat) : Prop := Cond.fieldLink (pOwnN q.1) q.2.1 (pC q.2.2.1).1 ((pC q.2.2.1).2.1 q.2.2.2).2.1 ((pC q.2.2.1).2.1 q.2.2.2).2.2.1 ∈ gw ∧ q.2.2.1 < 13 ∧ q.2.2.2 < (pC q.2.2.1).2.2 ∧ ((pC q.2.2.1).2.1 q.2.2.2).1 = (pC q.2.2.1).1
def cstP (q : Nat × Nat × Int32) : Prop := Cond.constant (pOwnN q.1) q.2.1 q.2.2 ∈ gw
def cstLP (q : Nat × Nat × Int64) : Prop := Cond.constantLong (pOwnN q.1) q.2.1 q.2.2 ∈ gw
def clsP (q : Nat × Nat × Nat) : Prop := Cond.classLink (pOwnN q.1) q.2.1 (pC q.2.2).1 ∈ gw ∧ Cond.instantiable (pC q.2.2).1 (pC q.2.2).2.2 ∈ gw ∧ Cond.initialized (pC q.2.2).1 ∈ gw ∧ q.2.2 < 13
def aclP (q : Nat × Nat) : Prop := Cond.classLink (pOwnN q.1) q.2 "DreamDuty$State" ∈ gw
def oinP (q : Nat × Nat) : Prop := Cond.methodLink (pOwnN q.1) q.2 objectInit ∈ gw
def cpyP (q : Nat × Nat) : Prop := Cond.methodLink (pOwnN q.1) q.2 arraycopyName ∈ gw
def pMthY (key : Nat) : MethodName := bif Nat.beq key 9996 then ⟨"java/lang/Math", "max", "(II)I"⟩ else bif Nat.beq key 9995 then ⟨"java/lang/Math", "min", "(II)I"⟩ else ⟨"java/lang/Math", "min", "(JJ)J"⟩
def mthP (q : Nat × Nat × Nat) : Prop := Cond.methodLink (pOwnN q.1) q.2.1 (pMthY q.2.2) ∈ gw
def clsNP (c : String) : Prop := (c ≠ "java/lang/invoke/MethodHandle" ∧ c ≠ "java/lang/invoke/VarHandle") ∧ plainName c = true
def rcsP (k : Nat) : Prop := (pRcs.getD k 98 < 13 ∧ (pC (pRcs.getD k 98)).1 = (pY k).cls) ∨ (pRcs.getD k 98 = 50 ∧ (pY k).cls = "java/lang/String") ∨ pRcs.getD k 98 = 99
def keyP (k : Nat) : Prop := Cond.code (pY k) (pBytes k) (pMaxL k) (pRet k) ∈ gw ∧ Cond.initialized (pY k).cls ∈ gw ∧ clsNP (pY k).cls ∧ (pKind k = 0 → Cond.instanceMethod (pY k) ∈ gw ∧ Cond.selects (pY k).cls (pY k) (pY k) ∈ gw) ∧ (pKind k = 1 → Cond.static (pY k) ∈ gw) ∧ (pKind k = 2 → Cond.instanceMethod (pY k) ∈ gw ∧ (pY k).name = "<init>") ∧ pOwnN (pOwn k) = (pY k).cls ∧ rcsP k ∧ (parseMethodDescriptor (pY k).desc).map (fun d => d.parameters.length) = some (pPar k)
def invP (q : Nat × Nat × Nat × Nat × Nat) : Prop := q.2.2.2.2 % 10 = pKind q.2.2.1 ∧ q.2.2.1 < 284 ∧ (q.2.2.2.2 < 10 → Cond.methodLink (pOwnN q.1) q.2.1 (pY q.2.2.1) ∈ gw) ∧ (10 ≤ q.2.2.2.2 → Cond.methodLinkNest (pOwnN q.1) q.2.1 (pY q.2.2.1) "DreamDuty" ∈ pNest) ∧ q.2.2.2.1 = pPar q.2.2.1 + (if pKind q.2.2.1 = 1 then 0 else 1)
set_option maxRecDepth 100000 in
theorem fld_ok_0 : ∀ q ∈ pFld_0, fldP q := List.forall_mem_cons.mpr ⟨⟨(gwc_2 (i := 148) rfl rfl), by decide, by decide, rfl⟩, List.forall_mem_cons.mpr ⟨⟨(gwc_2 (i := 151) rfl rfl), by decide, by decide, rfl⟩, List.forall_mem_cons.mpr ⟨⟨(gwc_2 (i := 154) rfl rfl), by decide, by decide, rfl⟩, List.forall_mem_cons.mpr ⟨⟨(gwc_2 (i := 155) rfl rfl), by decide, by decide, rfl⟩, List.forall_mem_cons.mpr ⟨⟨(gwc_1 (i := 233) rfl rfl), by decide, by decide, rfl⟩, List.forall_mem_cons.mpr ⟨⟨(gwc_2 (i := 159) rfl rfl), by decide, by decide, rfl⟩, List.forall_mem_cons.mpr ⟨⟨(gwc_1 (i := 221) rfl rfl), by decide, by decide, rfl⟩, List.forall_mem_cons.mpr ⟨⟨(gwc_2 (i := 103) rfl rfl), by decide, by decide, rfl⟩, List.forall_mem_cons.mpr ⟨⟨(gwc_2 (i := 106) rfl rfl), by decide, by decide, rfl⟩, List.forall_mem_cons.mpr ⟨⟨(gwc_2 (i := 101) rfl rfl), by decide, by decide, rfl⟩, List.forall_mem_cons.mpr ⟨⟨(gwc_2 (i := 3) rfl rfl), by decide, by decide, rfl⟩, List.forall_mem_cons.mpr ⟨⟨(gwc_2 (i := 97) rfl rfl), by decide, by decide, rfl⟩, List.forall_mem_cons.mpr ⟨⟨(gwc_2 (i := 91) rfl rfl), by decide, by decide, rfl⟩, List.forall_mem_cons.mpr ⟨⟨(gwc_2 (i := 119) rfl rfl), by decide, by decide, rfl⟩, List.forall_mem_cons.mpr ⟨⟨(gwc_2 (i := 122) rfl rfl), by decide, by decide, rfl⟩, List.forall_mem_cons.mpr ⟨⟨(gwc_2 (i := 16) rfl rfl), by decide, by decide, rfl⟩, List.forall_mem_cons.mpr ⟨⟨(gwc_1 (i := 211) rfl rfl), by decide, by decide, rfl⟩, List.forall_mem_cons.mpr ⟨⟨(gwc_2 (i := 32) rfl rfl), by decide, by decide, rfl⟩, List.forall_mem_cons.mpr ⟨⟨(gwc_2 (i := 34) rfl rfl), by decide, by decide, rfl⟩, List.forall_mem_cons.mpr ⟨⟨(gwc_2 (i := 36) rfl rfl), by decide, by decide, rfl⟩, fun _ h => absurd h List.not_mem_nil⟩⟩⟩⟩⟩⟩⟩⟩⟩⟩⟩⟩⟩⟩⟩⟩⟩⟩⟩⟩
set_option maxRecDepth 100000 in
theorem fld_ok_1 : ∀ q ∈ pFld_1, fldP q := List.forall_mem_cons.mpr ⟨⟨(gwc_1 (i := 239) rfl rfl), by decide, by decide, rfl⟩, List.forall_mem_cons.mpr ⟨⟨(gwc_2 (i := 10) rfl rfl), by decide, by decide, rfl⟩, List.forall_mem_cons.mpr ⟨⟨(gwc_2 (i := 25) rfl rfl), by decide, by decide, rfl⟩, List.forall_mem_cons.mpr ⟨⟨(gwc_2 (i := 22) rfl rfl), by decide, by decide, rfl⟩, List.forall_mem_cons.mpr ⟨⟨(gwc_2 (i := 28) rfl rfl), by decide, by decide, rfl⟩, List.forall_mem_cons.mpr ⟨⟨(gwc_2 (i := 94) rfl rfl), by decide, by decide, rfl⟩, List.forall_mem_cons.mpr ⟨⟨(gwc_2 (i := 113) rfl rfl), by decide, by decide, rfl⟩, List.forall_mem_cons.mpr ⟨⟨(gwc_2 (i := 116) rfl rfl), by decide, by decide, rfl⟩, List.forall_mem_cons.mpr ⟨⟨(gwc_1 (i := 231) rfl rfl), by decide, by decide, rfl⟩, List.forall_mem_cons.mpr ⟨⟨(gwc_1 (i := 117) rfl rfl), by decide, by decide, rfl⟩, List.forall_mem_cons.mpr ⟨⟨(gwc_1 (i := 118) rfl rfl), by decide, by decide, rfl⟩, List.forall_mem_cons.mpr ⟨⟨(gwc_1 (i := 116) rfl rfl), by decide, by decide, rfl⟩, List.forall_mem_cons.mpr ⟨⟨(gwc_1 (i := 121) rfl rfl), by decide, by decide, rfl⟩, List.forall_mem_cons.mpr ⟨⟨(gwc_1 (i := 122) rfl rfl), by decide, by decide, rfl⟩, List.forall_mem_cons.mpr ⟨⟨(gwc_1 (i := 119) rfl rfl), by decide, by decide, rfl⟩, List.forall_mem_cons.mpr ⟨⟨(gwc_1 (i := 120) rfl rfl), by decide, by decide, rfl⟩, List.forall_mem_cons.mpr ⟨⟨(gwc_2 (i := 181) rfl rfl), by decide, by decide, rfl⟩, List.forall_mem_cons.mpr ⟨⟨(gwc_2 (i := 182) rfl rfl), by decide, by decide, rfl⟩, List.forall_mem_cons.mpr ⟨⟨(gwc_2 (i := 183) rfl rfl), by decide, by decide, rfl⟩, List.forall_mem_cons.mpr ⟨⟨(gwc_1 (i := 181) rfl rfl), by decide, by decide, rfl⟩, fun _ h => absurd h List.not_mem_nil⟩⟩⟩⟩⟩⟩⟩⟩⟩⟩⟩⟩⟩⟩⟩⟩⟩⟩⟩⟩
set_option maxRecDepth 100000 in
theorem fld_ok_2 : ∀ q ∈ pFld_2, fldP q := List.forall_mem_cons.mpr ⟨⟨(gwc_1 (i := 182) rfl rfl), by decide, by decide, rfl⟩, List.forall_mem_cons.mpr ⟨⟨(gwc_1 (i := 183) rfl rfl), by decide, by decide, rfl⟩, List.forall_mem_cons.mpr ⟨⟨(gwc_2 (i := 200) rfl rfl), by decide, by decide, rfl⟩, List.forall_mem_cons.mpr ⟨⟨(gwc_2 (i := 201) rfl rfl), by decide, by decide, rfl⟩, List.forall_mem_cons.mpr ⟨⟨(gwc_2 (i := 202) rfl rfl), by decide, by decide, rfl⟩, List.forall_mem_cons.mpr ⟨⟨(gwc_2 (i := 203) rfl rfl), by decide, by decide, rfl⟩, List.forall_mem_cons.mpr ⟨⟨(gwc_2 (i := 204) rfl rfl), by decide, by decide, rfl⟩, List.forall_mem_cons.mpr ⟨⟨(gwc_2 (i := 156) rfl rfl), by decide, by decide, rfl⟩, List.forall_mem_cons.mpr ⟨⟨(gwc_1 (i := 214) rfl rfl), by decide, by decide, rfl⟩, List.forall_mem_cons.mpr ⟨⟨(gwc_2 (i := 205) rfl rfl), by decide, by decide, rfl⟩, List.forall_mem_cons.mpr ⟨⟨(gwc_2 (i := 207) rfl rfl), by decide, by decide, rfl⟩, List.forall_mem_cons.mpr ⟨⟨(gwc_2 (i := 206) rfl rfl), by decide, by decide, rfl⟩, List.forall_mem_cons.mpr ⟨⟨(gwc_1 (i := 222) rfl rfl), by decide, by decide, rfl⟩, List.forall_mem_cons.mpr ⟨⟨(gwc_2 (i := 5) rfl rfl), by decide, by decide, rfl⟩, List.forall_mem_cons.mpr ⟨⟨(gwc_2 (i := 14) rfl rfl), by decide, by decide, rfl⟩, List.forall_mem_cons.mpr ⟨⟨(gwc_2 (i := 1) rfl rfl), by decide, by decide, rfl⟩, List.forall_mem_cons.mpr ⟨⟨(gwc_2 (i := 231) rfl rfl), by decide, by decide, rfl⟩, List.forall_mem_cons.mpr ⟨⟨(gwc_2 (i := 233) rfl rfl), by decide, by decide, rfl⟩, List.forall_mem_cons.mpr ⟨⟨(gwc_2 (i := 235) rfl rfl), by decide, by decide, rfl⟩, List.forall_mem_cons.mpr ⟨⟨(gwc_2 (i := 158) rfl rfl), by decide, by decide, rfl⟩, fun _ h => absurd h List.not_mem_nil⟩⟩⟩⟩⟩⟩⟩⟩⟩⟩⟩⟩⟩⟩⟩⟩⟩⟩⟩⟩
set_option maxRecDepth 100000 in
theorem fld_ok_3 : ∀ q ∈ pFld_3, fldP q := List.forall_mem_cons.mpr ⟨⟨(gwc_1 (i := 220) rfl rfl), by decide, by decide, rfl⟩, List.forall_mem_cons.mpr ⟨⟨(gwc_2 (i := 149) rfl rfl), by decide, by decide, rfl⟩, List.forall_mem_cons.mpr ⟨⟨(gwc_3 (i := 10) rfl rfl), by decide, by decide, rfl⟩, List.forall_mem_cons.mpr ⟨⟨(gwc_3 (i := 11) rfl rfl), by decide, by decide, rfl⟩, List.forall_mem_cons.mpr ⟨⟨(gwc_3 (i := 12) rfl rfl), by decide, by decide, rfl⟩, List.forall_mem_cons.mpr ⟨⟨(gwc_2 (i := 157) rfl rfl), by decide, by decide, rfl⟩, List.forall_mem_cons.mpr ⟨⟨(gwc_1 (i := 219) rfl rfl), by decide, by decide, rfl⟩, List.forall_mem_cons.mpr ⟨⟨(gwc_2 (i := 152) rfl rfl), by decide, by decide, rfl⟩, List.forall_mem_cons.mpr ⟨⟨(gwc_1 (i := 229) rfl rfl), by decide, by decide, rfl⟩, List.forall_mem_cons.mpr ⟨⟨(gwc_2 (i := 99) rfl rfl), by decide, by decide, rfl⟩, List.forall_mem_cons.mpr ⟨⟨(gwc_2 (i := 102) rfl rfl), by decide, by decide, rfl⟩, List.forall_mem_cons.mpr ⟨⟨(gwc_2 (i := 105) rfl rfl), by decide, by decide, rfl⟩, List.forall_mem_cons.mpr ⟨⟨(gwc_2 (i := 108) rfl rfl), by decide, by decide, rfl⟩, List.forall_mem_cons.mpr ⟨⟨(gwc_2 (i := 109) rfl rfl), by decide, by decide, rfl⟩, List.forall_mem_cons.mpr ⟨⟨(gwc_2 (i := 111) rfl rfl), by decide, by decide, rfl⟩, List.forall_mem_cons.mpr ⟨⟨(gwc_2 (i := 114) rfl rfl), by decide, by decide, rfl⟩, List.forall_mem_cons.mpr ⟨⟨(gwc_2 (i := 117) rfl rfl), by decide, by decide, rfl⟩, List.forall_mem_cons.mpr ⟨⟨(gwc_2 (i := 120) rfl rfl), by decide, by decide, rfl⟩, List.forall_mem_cons.mpr ⟨⟨(gwc_2 (i := 90) rfl rfl), by decide, by decide, rfl⟩, List.forall_mem_cons.mpr ⟨⟨(gwc_2 (i := 93) rfl rfl), by decide, by decide, rfl⟩, fun _ h => absurd h List.not_mem_nil⟩⟩⟩⟩⟩⟩⟩⟩⟩⟩⟩⟩⟩⟩⟩⟩⟩⟩⟩⟩
set_option maxRecDepth 100000 in
theorem fld_ok_4 : ∀ q ∈ pFld_4, fldP q := List.forall_mem_cons.mpr ⟨⟨(gwc_2 (i := 96) rfl rfl), by decide, by decide, rfl⟩, List.forall_mem_cons.mpr ⟨⟨(gwc_1 (i := 218) rfl rfl), by decide, by decide, rfl⟩, List.forall_mem_cons.mpr ⟨⟨(gwc_2 (i := 18) rfl rfl), by decide, by decide, rfl⟩, List.forall_mem_cons.mpr ⟨⟨(gwc_1 (i := 145) rfl rfl), by decide, by decide, rfl⟩, List.forall_mem_cons.mpr ⟨⟨(gwc_1 (i := 146) rfl rfl), by decide, by decide, rfl⟩, List.forall_mem_cons.mpr ⟨⟨(gwc_1 (i := 147) rfl rfl), by decide, by decide, rfl⟩, List.forall_mem_cons.mpr ⟨⟨(gwc_1 (i := 144) rfl rfl), by decide, by decide, rfl⟩, List.forall_mem_cons.mpr ⟨⟨(gwc_1 (i := 148) rfl rfl), by decide, by decide, rfl⟩, List.forall_mem_cons.mpr ⟨⟨(gwc_1 (i := 149) rfl rfl), by decide, by decide, rfl⟩, List.forall_mem_cons.mpr ⟨⟨(gwc_1 (i := 150) rfl rfl), by decide, by decide, rfl⟩, List.forall_mem_cons.mpr ⟨⟨(gwc_1 (i := 151) rfl rfl), by decide, by decide, rfl⟩, List.forall_mem_cons.mpr ⟨⟨(gwc_1 (i := 230) rfl rfl), by decide, by decide, rfl⟩, List.forall_mem_cons.mpr ⟨⟨(gwc_1 (i := 235) rfl rfl), by decide, by decide, rfl⟩, List.forall_mem_cons.mpr ⟨⟨(gwc_1 (i := 210) rfl rfl), by decide, by decide, rfl⟩, List.forall_mem_cons.mpr ⟨⟨(gwc_1 (i := 238) rfl rfl), by decide, by decide, rfl⟩, List.forall_mem_cons.mpr ⟨⟨(gwc_1 (i := 215) rfl rfl), by decide, by decide, rfl⟩, List.forall_mem_cons.mpr ⟨⟨(gwc_2 (i := 2) rfl rfl), by decide, by decide, rfl⟩, List.forall_mem_cons.mpr ⟨⟨(gwc_2 (i := 6) rfl rfl), by decide, by decide, rfl⟩, List.forall_mem_cons.mpr ⟨⟨(gwc_2 (i := 9) rfl rfl), by decide, by decide, rfl⟩, List.forall_mem_cons.mpr ⟨⟨(gwc_1 (i := 223) rfl rfl), by decide, by decide, rfl⟩, fun _ h => absurd h List.not_mem_nil⟩⟩⟩⟩⟩⟩⟩⟩⟩⟩⟩⟩⟩⟩⟩⟩⟩⟩⟩⟩
set_option maxRecDepth 100000 in
theorem fld_ok_5 : ∀ q ∈ pFld_5, fldP q := List.forall_mem_cons.mpr ⟨⟨(gwc_2 (i := 19) rfl rfl), by decide, by decide, rfl⟩, List.forall_mem_cons.mpr ⟨⟨(gwc_2 (i := 21) rfl rfl), by decide, by decide, rfl⟩, List.forall_mem_cons.mpr ⟨⟨(gwc_2 (i := 24) rfl rfl), by decide, by decide, rfl⟩, List.forall_mem_cons.mpr ⟨⟨(gwc_2 (i := 12) rfl rfl), by decide, by decide, rfl⟩, List.forall_mem_cons.mpr ⟨⟨(gwc_2 (i := 27) rfl rfl), by decide, by decide, rfl⟩, List.forall_mem_cons.mpr ⟨⟨(gwc_1 (i := 226) rfl rfl), by decide, by decide, rfl⟩, List.forall_mem_cons.mpr ⟨⟨(gwc_2 (i := 30) rfl rfl), by decide, by decide, rfl⟩, List.forall_mem_cons.mpr ⟨⟨(gwc_1 (i := 237) rfl rfl), by decide, by decide, rfl⟩, List.forall_mem_cons.mpr ⟨⟨(gwc_2 (i := 0) rfl rfl), by decide, by decide, rfl⟩, List.forall_mem_cons.mpr ⟨⟨(gwc_2 (i := 4) rfl rfl), by decide, by decide, rfl⟩, List.forall_mem_cons.mpr ⟨⟨(gwc_2 (i := 8) rfl rfl), by decide, by decide, rfl⟩, List.forall_mem_cons.mpr ⟨⟨(gwc_2 (i := 11) rfl rfl), by decide, by decide, rfl⟩, List.forall_mem_cons.mpr ⟨⟨(gwc_2 (i := 13) rfl rfl), by decide, by decide, rfl⟩, List.forall_mem_cons.mpr ⟨⟨(gwc_2 (i := 17) rfl rfl), by decide, by decide, rfl⟩, List.forall_mem_cons.mpr ⟨⟨(gwc_2 (i := 20) rfl rfl), by decide, by decide, rfl⟩, List.forall_mem_cons.mpr ⟨⟨(gwc_2 (i := 23) rfl rfl), by decide, by decide, rfl⟩, List.forall_mem_cons.mpr ⟨⟨(gwc_2 (i := 26) rfl rfl), by decide, by decide, rfl⟩, List.forall_mem_cons.mpr ⟨⟨(gwc_2 (i := 29) rfl rfl), by decide, by decide, rfl⟩, List.forall_mem_cons.mpr ⟨⟨(gwc_2 (i := 31) rfl rfl), by decide, by decide, rfl⟩, List.forall_mem_cons.mpr ⟨⟨(gwc_2 (i := 33) rfl rfl), by decide, by decide, rfl⟩, fun _ h => absurd h List.not_mem_nil⟩⟩⟩⟩⟩⟩⟩⟩⟩⟩⟩⟩⟩⟩⟩⟩⟩⟩⟩⟩
set_option maxRecDepth 100000 in
theorem fld_ok_6 : ∀ q ∈ pFld_6, fldP q := List.forall_mem_cons.mpr ⟨⟨(gwc_2 (i := 35) rfl rfl), by decide, by decide, rfl⟩, List.forall_mem_cons.mpr ⟨⟨(gwc_1 (i := 209) rfl rfl), by decide, by decide, rfl⟩, List.forall_mem_cons.mpr ⟨⟨(gwc_1 (i := 213) rfl rfl), by decide, by decide, rfl⟩, List.forall_mem_cons.mpr ⟨⟨(gwc_1 (i := 217) rfl rfl), by decide, by decide, rfl⟩, List.forall_mem_cons.mpr ⟨⟨(gwc_1 (i := 225) rfl rfl), by decide, by decide, rfl⟩, List.forall_mem_cons.mpr ⟨⟨(gwc_1 (i := 228) rfl rfl), by decide, by decide, rfl⟩, List.forall_mem_cons.mpr ⟨⟨(gwc_1 (i := 234) rfl rfl), by decide, by decide, rfl⟩, List.forall_mem_cons.mpr ⟨⟨(gwc_1 (i := 87) rfl rfl), by decide, by decide, rfl⟩, List.forall_mem_cons.mpr ⟨⟨(gwc_1 (i := 88) rfl rfl), by decide, by decide, rfl⟩, List.forall_mem_cons.mpr ⟨⟨(gwc_1 (i := 89) rfl rfl), by decide, by decide, rfl⟩, List.forall_mem_cons.mpr ⟨⟨(gwc_1 (i := 90) rfl rfl), by decide, by decide, rfl⟩, List.forall_mem_cons.mpr ⟨⟨(gwc_1 (i := 91) rfl rfl), by decide, by decide, rfl⟩, List.forall_mem_cons.mpr ⟨⟨(gwc_1 (i := 92) rfl rfl), by decide, by decide, rfl⟩, List.forall_mem_cons.mpr ⟨⟨(gwc_3 (i := 38) rfl rfl), by decide, by decide, rfl⟩, List.forall_mem_cons.mpr ⟨⟨(gwc_3 (i := 50) rfl rfl), by decide, by decide, rfl⟩, List.forall_mem_cons.mpr ⟨⟨(gwc_3 (i := 51) rfl rfl), by decide, by decide, rfl⟩, List.forall_mem_cons.mpr ⟨⟨(gwc_3 (i := 41) rfl rfl), by decide, by decide, rfl⟩, List.forall_mem_cons.mpr ⟨⟨(gwc_3 (i := 42) rfl rfl), by decide, by decide, rfl⟩, List.forall_mem_cons.mpr ⟨⟨(gwc_3 (i := 43) rfl rfl), by decide, by decide, rfl⟩, List.forall_mem_cons.mpr ⟨⟨(gwc_3 (i := 44) rfl rfl), by decide, by decide, rfl⟩, fun _ h => absurd h List.not_mem_nil⟩⟩⟩⟩⟩⟩⟩⟩⟩⟩⟩⟩⟩⟩⟩⟩⟩⟩⟩⟩
set_option maxRecDepth 100000 in
theorem fld_ok_7 : ∀ q ∈ pFld_7, fldP q := List.forall_mem_cons.mpr ⟨⟨(gwc_3 (i := 45) rfl rfl), by decide, by decide, rfl⟩, List.forall_mem_cons.mpr ⟨⟨(gwc_3 (i := 46) rfl rfl), by decide, by decide, rfl⟩, List.forall_mem_cons.mpr ⟨⟨(gwc_3 (i := 47) rfl rfl), by decide, by decide, rfl⟩, List.forall_mem_cons.mpr ⟨⟨(gwc_3 (i := 48) rfl rfl), by decide, by decide, rfl⟩, List.forall_mem_cons.mpr ⟨⟨(gwc_3 (i := 49) rfl rfl), by decide, by decide, rfl⟩, List.forall_mem_cons.mpr ⟨⟨(gwc_3 (i := 53) rfl rfl), by decide, by decide, rfl⟩, List.forall_mem_cons.mpr ⟨⟨(gwc_3 (i := 54) rfl rfl), by decide, by decide, rfl⟩, List.forall_mem_cons.mpr ⟨⟨(gwc_3 (i := 55) rfl rfl), by decide, by decide, rfl⟩, List.forall_mem_cons.mpr ⟨⟨(gwc_3 (i := 40) rfl rfl), by decide, by decide, rfl⟩, List.forall_mem_cons.mpr ⟨⟨(gwc_3 (i := 39) rfl rfl), by decide, by decide, rfl⟩, List.forall_mem_cons.mpr ⟨⟨(gwc_2 (i := 150) rfl rfl), by decide, by decide, rfl⟩, List.forall_mem_cons.mpr ⟨⟨(gwc_2 (i := 100) rfl rfl), by decide, by decide, rfl⟩, List.forall_mem_cons.mpr ⟨⟨(gwc_2 (i := 104) rfl rfl), by decide, by decide, rfl⟩, List.forall_mem_cons.mpr ⟨⟨(gwc_2 (i := 107) rfl rfl), by decide, by decide, rfl⟩, List.forall_mem_cons.mpr ⟨⟨(gwc_2 (i := 153) rfl rfl), by decide, by decide, rfl⟩, List.forall_mem_cons.mpr ⟨⟨(gwc_2 (i := 110) rfl rfl), by decide, by decide, rfl⟩, List.forall_mem_cons.mpr ⟨⟨(gwc_2 (i := 112) rfl rfl), by decide, by decide, rfl⟩, List.forall_mem_cons.mpr ⟨⟨(gwc_2 (i := 115) rfl rfl), by decide, by decide, rfl⟩, List.forall_mem_cons.mpr ⟨⟨(gwc_2 (i := 7) rfl rfl), by decide, by decide, rfl⟩, List.forall_mem_cons.mpr ⟨⟨(gwc_2 (i := 118) rfl rfl), by decide, by decide, rfl⟩, fun _ h => absurd h List.not_mem_nil⟩⟩⟩⟩⟩⟩⟩⟩⟩⟩⟩⟩⟩⟩⟩⟩⟩⟩⟩⟩
set_option maxRecDepth 100000 in
theorem fld_ok_8 : ∀ q ∈ pFld_8, fldP q := List.forall_mem_cons.mpr ⟨⟨(gwc_2 (i := 121) rfl rfl), by decide, by decide, rfl⟩, List.forall_mem_cons.mpr ⟨⟨(gwc_2 (i := 15) rfl rfl), by decide, by decide, rfl⟩, List.forall_mem_cons.mpr ⟨⟨(gwc_2 (i := 92) rfl rfl), by decide, by decide, rfl⟩, List.forall_mem_cons.mpr ⟨⟨(gwc_1 (i := 216) rfl rfl), by decide, by decide, rfl⟩, List.forall_mem_cons.mpr ⟨⟨(gwc_2 (i := 232) rfl rfl), by decide, by decide, rfl⟩, List.forall_mem_cons.mpr ⟨⟨(gwc_2 (i := 234) rfl rfl), by decide, by decide, rfl⟩, List.forall_mem_cons.mpr ⟨⟨(gwc_2 (i := 236) rfl rfl), by decide, by decide, rfl⟩, List.forall_mem_cons.mpr ⟨⟨(gwc_1 (i := 224) rfl rfl), by decide, by decide, rfl⟩, List.forall_mem_cons.mpr ⟨⟨(gwc_1 (i := 227) rfl rfl), by decide, by decide, rfl⟩, List.forall_mem_cons.mpr ⟨⟨(gwc_1 (i := 236) rfl rfl), by decide, by decide, rfl⟩, List.forall_mem_cons.mpr ⟨⟨(gwc_2 (i := 160) rfl rfl), by decide, by decide, rfl⟩, List.forall_mem_cons.mpr ⟨⟨(gwc_3 (i := 52) rfl rfl), by decide, by decide, rfl⟩, List.forall_mem_cons.mpr ⟨⟨(gwc_1 (i := 212) rfl rfl), by decide, by decide, rfl⟩, List.forall_mem_cons.mpr ⟨⟨(gwc_2 (i := 95) rfl rfl), by decide, by decide, rfl⟩, List.forall_mem_cons.mpr ⟨⟨(gwc_2 (i := 98) rfl rfl), by decide, by decide, rfl⟩, List.forall_mem_cons.mpr ⟨⟨(gwc_2 (i := 184) rfl rfl), by decide, by decide, rfl⟩, List.forall_mem_cons.mpr ⟨⟨(gwc_1 (i := 232) rfl rfl), by decide, by decide, rfl⟩, List.forall_mem_cons.mpr ⟨⟨(gwc_6 (i := 60) rfl rfl), by decide, by decide, rfl⟩, List.forall_mem_cons.mpr ⟨⟨(gwc_6 (i := 62) rfl rfl), by decide, by decide, rfl⟩, List.forall_mem_cons.mpr ⟨⟨(gwc_6 (i := 64) rfl rfl), by decide, by decide, rfl⟩, fun _ h => absurd h List.not_mem_nil⟩⟩⟩⟩⟩⟩⟩⟩⟩⟩⟩⟩⟩⟩⟩⟩⟩⟩⟩⟩
set_option maxRecDepth 100000 in
theorem fld_ok_9 : ∀ q ∈ pFld_9, fldP q := List.forall_mem_cons.mpr ⟨⟨(gwc_6 (i := 65) rfl rfl), by decide, by decide, rfl⟩, List.forall_mem_cons.mpr ⟨⟨(gwc_6 (i := 66) rfl rfl), by decide, by decide, rfl⟩, List.forall_mem_cons.mpr ⟨⟨(gwc_6 (i := 67) rfl rfl), by decide, by decide, rfl⟩, List.forall_mem_cons.mpr ⟨⟨(gwc_6 (i := 68) rfl rfl), by decide, by decide, rfl⟩, List.forall_mem_cons.mpr ⟨⟨(gwc_6 (i := 76) rfl rfl), by decide, by decide, rfl⟩, List.forall_mem_cons.mpr ⟨⟨(gwc_6 (i := 80) rfl rfl), by decide, by decide, rfl⟩, List.forall_mem_cons.mpr ⟨⟨(gwc_6 (i := 81) rfl rfl), by decide, by decide, rfl⟩, List.forall_mem_cons.mpr ⟨⟨(gwc_6 (i := 82) rfl rfl), by decide, by decide, rfl⟩, List.forall_mem_cons.mpr ⟨⟨(gwc_6 (i := 83) rfl rfl), by decide, by decide, rfl⟩, List.forall_mem_cons.mpr ⟨⟨(gwc_6 (i := 84) rfl rfl), by decide, by decide, rfl⟩, List.forall_mem_cons.mpr ⟨⟨(gwc_6 (i := 85) rfl rfl), by decide, by decide, rfl⟩, List.forall_mem_cons.mpr ⟨⟨(gwc_6 (i := 86) rfl rfl), by decide, by decide, rfl⟩, List.forall_mem_cons.mpr ⟨⟨(gwc_6 (i := 87) rfl rfl), by decide, by decide, rfl⟩, List.forall_mem_cons.mpr ⟨⟨(gwc_6 (i := 88) rfl rfl), by decide, by decide, rfl⟩, List.forall_mem_cons.mpr ⟨⟨(gwc_6 (i := 89) rfl rfl), by decide, by decide, rfl⟩, List.forall_mem_cons.mpr ⟨⟨(gwc_6 (i := 90) rfl rfl), by decide, by decide, rfl⟩, List.forall_mem_cons.mpr ⟨⟨(gwc_6 (i := 91) rfl rfl), by decide, by decide, rfl⟩, List.forall_mem_cons.mpr ⟨⟨(gwc_6 (i := 92) rfl rfl), by decide, by decide, rfl⟩, List.forall_mem_cons.mpr ⟨⟨(gwc_6 (i := 93) rfl rfl), by decide, by decide, rfl⟩, List.forall_mem_cons.mpr ⟨⟨(gwc_6 (i := 94) rfl rfl), by decide, by decide, rfl⟩, fun _ h => absurd h List.not_mem_nil⟩⟩⟩⟩⟩⟩⟩⟩⟩⟩⟩⟩⟩⟩⟩⟩⟩⟩⟩⟩
set_option maxRecDepth 100000 in
theorem fld_ok_10 : ∀ q ∈ pFld_10, fldP q := List.forall_mem_cons.mpr ⟨⟨(gwc_6 (i := 95) rfl rfl), by decide, by decide, rfl⟩, List.forall_mem_cons.mpr ⟨⟨(gwc_6 (i := 96) rfl rfl), by decide, by decide, rfl⟩, List.forall_mem_cons.mpr ⟨⟨(gwc_6 (i := 97) rfl rfl), by decide, by decide, rfl⟩, List.forall_mem_cons.mpr ⟨⟨(gwc_6 (i := 98) rfl rfl), by decide, by decide, rfl⟩, List.forall_mem_cons.mpr ⟨⟨(gwc_6 (i := 99) rfl rfl), by decide, by decide, rfl⟩, List.forall_mem_cons.mpr ⟨⟨(gwc_6 (i := 100) rfl rfl), by decide, by decide, rfl⟩, List.forall_mem_cons.mpr ⟨⟨(gwc_6 (i := 101) rfl rfl), by decide, by decide, rfl⟩, List.forall_mem_cons.mpr ⟨⟨(gwc_6 (i := 103) rfl rfl), by decide, by decide, rfl⟩, List.forall_mem_cons.mpr ⟨⟨(gwc_6 (i := 104) rfl rfl), by decide, by decide, rfl⟩, List.forall_mem_cons.mpr ⟨⟨(gwc_6 (i := 105) rfl rfl), by decide, by decide, rfl⟩, List.forall_mem_cons.mpr ⟨⟨(gwc_6 (i := 106) rfl rfl), by decide, by decide, rfl⟩, List.forall_mem_cons.mpr ⟨⟨(gwc_6 (i := 107) rfl rfl), by decide, by decide, rfl⟩, List.forall_mem_cons.mpr ⟨⟨(gwc_6 (i := 109) rfl rfl), by decide, by decide, rfl⟩, List.forall_mem_cons.mpr ⟨⟨(gwc_6 (i := 110) rfl rfl), by decide, by decide, rfl⟩, List.forall_mem_cons.mpr ⟨⟨(gwc_6 (i := 111) rfl rfl), by decide, by decide, rfl⟩, List.forall_mem_cons.mpr ⟨⟨(gwc_6 (i := 113) rfl rfl), by decide, by decide, rfl⟩, List.forall_mem_cons.mpr ⟨⟨(gwc_6 (i := 114) rfl rfl), by decide, by decide, rfl⟩, List.forall_mem_cons.mpr ⟨⟨(gwc_6 (i := 116) rfl rfl), by decide, by decide, rfl⟩, List.forall_mem_cons.mpr ⟨⟨(gwc_6 (i := 117) rfl rfl), by decide, by decide, rfl⟩, List.forall_mem_cons.mpr ⟨⟨(gwc_6 (i := 119) rfl rfl), by decide, by decide, rfl⟩, fun _ h => absurd h List.not_mem_nil⟩⟩⟩⟩⟩⟩⟩⟩⟩⟩⟩⟩⟩⟩⟩⟩⟩⟩⟩⟩
set_option maxRecDepth 100000 in
theorem fld_ok_11 : ∀ q ∈ pFld_11, fldP q := List.forall_mem_cons.mpr ⟨⟨(gwc_6 (i := 121) rfl rfl), by decide, by decide, rfl⟩, List.forall_mem_cons.mpr ⟨⟨(gwc_6 (i := 123) rfl rfl), by decide, by decide, rfl⟩, List.forall_mem_cons.mpr ⟨⟨(gwc_6 (i := 126) rfl rfl), by decide, by decide, rfl⟩, List.forall_mem_cons.mpr ⟨⟨(gwc_6 (i := 127) rfl rfl), by decide, by decide, rfl⟩, List.forall_mem_cons.mpr ⟨⟨(gwc_6 (i := 131) rfl rfl), by decide, by decide, rfl⟩, List.forall_mem_cons.mpr ⟨⟨(gwc_6 (i := 132) rfl rfl), by decide, by decide, rfl⟩, List.forall_mem_cons.mpr ⟨⟨(gwc_6 (i := 133) rfl rfl), by decide, by decide, rfl⟩, List.forall_mem_cons.mpr ⟨⟨(gwc_6 (i := 61) rfl rfl), by decide, by decide, rfl⟩, List.forall_mem_cons.mpr ⟨⟨(gwc_6 (i := 63) rfl rfl), by decide, by decide, rfl⟩, List.forall_mem_cons.mpr ⟨⟨(gwc_6 (i := 69) rfl rfl), by decide, by decide, rfl⟩, List.forall_mem_cons.mpr ⟨⟨(gwc_6 (i := 72) rfl rfl), by decide, by decide, rfl⟩, List.forall_mem_cons.mpr ⟨⟨(gwc_6 (i := 70) rfl rfl), by decide, by decide, rfl⟩, List.forall_mem_cons.mpr ⟨⟨(gwc_6 (i := 73) rfl rfl), by decide, by decide, rfl⟩, List.forall_mem_cons.mpr ⟨⟨(gwc_6 (i := 74) rfl rfl), by decide, by decide, rfl⟩, List.forall_mem_cons.mpr ⟨⟨(gwc_6 (i := 75) rfl rfl), by decide, by decide, rfl⟩, List.forall_mem_cons.mpr ⟨⟨(gwc_6 (i := 71) rfl rfl), by decide, by decide, rfl⟩, List.forall_mem_cons.mpr ⟨⟨(gwc_6 (i := 77) rfl rfl), by decide, by decide, rfl⟩, List.forall_mem_cons.mpr ⟨⟨(gwc_6 (i := 78) rfl rfl), by decide, by decide, rfl⟩, List.forall_mem_cons.mpr ⟨⟨(gwc_6 (i := 79) rfl rfl), by decide, by decide, rfl⟩, List.forall_mem_cons.mpr ⟨⟨(gwc_6 (i := 102) rfl rfl), by decide, by decide, rfl⟩, fun _ h => absurd h List.not_mem_nil⟩⟩⟩⟩⟩⟩⟩⟩⟩⟩⟩⟩⟩⟩⟩⟩⟩⟩⟩⟩
set_option maxRecDepth 100000 in
theorem fld_ok_12 : ∀ q ∈ pFld_12, fldP q := List.forall_mem_cons.mpr ⟨⟨(gwc_6 (i := 108) rfl rfl), by decide, by decide, rfl⟩, List.forall_mem_cons.mpr ⟨⟨(gwc_6 (i := 120) rfl rfl), by decide, by decide, rfl⟩, List.forall_mem_cons.mpr ⟨⟨(gwc_6 (i := 130) rfl rfl), by decide, by decide, rfl⟩, List.forall_mem_cons.mpr ⟨⟨(gwc_6 (i := 112) rfl rfl), by decide, by decide, rfl⟩, List.forall_mem_cons.mpr ⟨⟨(gwc_6 (i := 115) rfl rfl), by decide, by decide, rfl⟩, List.forall_mem_cons.mpr ⟨⟨(gwc_6 (i := 118) rfl rfl), by decide, by decide, rfl⟩, List.forall_mem_cons.mpr ⟨⟨(gwc_6 (i := 122) rfl rfl), by decide, by decide, rfl⟩, List.forall_mem_cons.mpr ⟨⟨(gwc_6 (i := 124) rfl rfl), by decide, by decide, rfl⟩, List.forall_mem_cons.mpr ⟨⟨(gwc_6 (i := 125) rfl rfl), by decide, by decide, rfl⟩, List.forall_mem_cons.mpr ⟨⟨(gwc_6 (i := 128) rfl rfl), by decide, by decide, rfl⟩, List.forall_mem_cons.mpr ⟨⟨(gwc_6 (i := 129) rfl rfl), by decide, by decide, rfl⟩, fun _ h => absurd h List.not_mem_nil⟩⟩⟩⟩⟩⟩⟩⟩⟩⟩⟩
theorem fld_ok : ∀ q ∈ pFld, fldP q := List.forall_mem_append.mpr ⟨fld_ok_0, List.forall_mem_append.mpr ⟨fld_ok_1, List.forall_mem_append.mpr ⟨fld_ok_2, List.forall_mem_append.mpr ⟨fld_ok_3, List.forall_mem_append.mpr ⟨fld_ok_4, List.forall_mem_append.mpr ⟨fld_ok_5, List.forall_mem_append.mpr ⟨fld_ok_6, List.forall_mem_append.mpr ⟨fld_ok_7, List.forall_mem_append.mpr ⟨fld_ok_8, List.forall_mem_append.mpr ⟨fld_ok_9, List.forall_mem_append.mpr ⟨fld_ok_10, List.forall_mem_append.mpr ⟨fld_ok_11, fld_ok_12⟩⟩⟩⟩⟩⟩⟩⟩⟩⟩⟩⟩
end
section
set_option maxRecDepth 100000 in
theorem cst_ok_0 : ∀ q ∈ pCst_0, cstP q := List.forall_mem_cons.mpr ⟨(gwc_5 (i := 22) rfl rfl), List.forall_mem_cons.mpr ⟨(gwc_4 (i := 151) rfl rfl), List.forall_mem_cons.mpr ⟨(gwc_8 (i := 41) rfl rfl), List.forall_mem_cons.mpr ⟨(gwc_7 (i := 186) rfl rfl), List.forall_mem_cons.mpr ⟨(gwc_4 (i := 211) rfl rfl), List.forall_mem_cons.mpr ⟨(gwc_4 (i := 212) rfl rfl), List.forall_mem_cons.mpr ⟨(gwc_4 (i := 213) rfl rfl), fun _ h => absurd h List.not_mem_nil⟩⟩⟩⟩⟩⟩⟩
theorem cst_ok : ∀ q ∈ pCst, cstP q := cst_ok_0
set_option maxRecDepth 100000 in
theorem cstL_ok_0 : ∀ q ∈ pCstL_0, cstLP q := List.forall_mem_cons.mpr ⟨(gwc_5 (i := 128) rfl rfl), List.forall_mem_cons.mpr ⟨(gwc_1 (i := 86) rfl rfl), List.forall_mem_cons.mpr ⟨(gwc_3 (i := 133) rfl rfl), List.forall_mem_cons.mpr ⟨(gwc_6 (i := 51) rfl rfl), List.forall_mem_cons.mpr ⟨(gwc_8 (i := 121) rfl rfl), fun _ h => absurd h List.not_mem_nil⟩⟩⟩⟩⟩
theorem cstL_ok : ∀ q ∈ pCstL, cstLP q := cstL_ok_0
set_option maxRecDepth 100000 in
theorem cls_ok_0 : ∀ q ∈ pCls_0, clsP q := List.forall_mem_cons.mpr ⟨⟨(gwc_2 (i := 84) rfl rfl), (gwc_2 (i := 85) rfl rfl), (gwc_1 (i := 13) rfl rfl), by decide⟩, List.forall_mem_cons.mpr ⟨⟨(gwc_2 (i := 178) rfl rfl), (gwc_2 (i := 85) rfl rfl), (gwc_1 (i := 13) rfl rfl), by decide⟩, List.forall_mem_cons.mpr ⟨⟨(gwc_1 (i := 175) rfl rfl), (gwc_1 (i := 176) rfl rfl), (gwc_1 (i := 10) rfl rfl), by decide⟩, List.forall_mem_cons.mpr ⟨⟨(gwc_1 (i := 31) rfl rfl), (gwc_1 (i := 32) rfl rfl), (gwc_1 (i := 2) rfl rfl), by decide⟩, List.forall_mem_cons.mpr ⟨⟨(gwc_1 (i := 110) rfl rfl), (gwc_1 (i := 111) rfl rfl), (gwc_1 (i := 7) rfl rfl), by decide⟩, List.forall_mem_cons.mpr ⟨⟨(gwc_1 (i := 138) rfl rfl), (gwc_1 (i := 139) rfl rfl), (gwc_1 (i := 8) rfl rfl), by decide⟩, List.forall_mem_cons.mpr ⟨⟨(gwc_1 (i := 169) rfl rfl), (gwc_1 (i := 170) rfl rfl), (gwc_1 (i := 9) rfl rfl), by decide⟩, List.forall_mem_cons.mpr ⟨⟨(gwc_2 (i := 78) rfl rfl), (gwc_2 (i := 79) rfl rfl), (gwc_1 (i := 12) rfl rfl), by decide⟩, List.forall_mem_cons.mpr ⟨⟨(gwc_2 (i := 172) rfl rfl), (gwc_2 (i := 173) rfl rfl), (gwc_1 (i := 14) rfl rfl), by decide⟩, List.forall_mem_cons.mpr ⟨⟨(gwc_2 (i := 192) rfl rfl), (gwc_2 (i := 85) rfl rfl), (gwc_1 (i := 13) rfl rfl), by decide⟩, List.forall_mem_cons.mpr ⟨⟨(gwc_2 (i := 194) rfl rfl), (gwc_2 (i := 195) rfl rfl), (gwc_1 (i := 15) rfl rfl), by decide⟩, List.forall_mem_cons.mpr ⟨⟨(gwc_2 (i := 225) rfl rfl), (gwc_2 (i := 226) rfl rfl), (gwc_1 (i := 16) rfl rfl), by decide⟩, List.forall_mem_cons.mpr ⟨⟨(gwc_3 (i := 4) rfl rfl), (gwc_3 (i := 5) rfl rfl), (gwc_1 (i := 17) rfl rfl), by decide⟩, List.forall_mem_cons.mpr ⟨⟨(gwc_1 (i := 23) rfl rfl), (gwc_1 (i := 24) rfl rfl), (gwc_1 (i := 1) rfl rfl), by decide⟩, List.forall_mem_cons.mpr ⟨⟨(gwc_6 (i := 35) rfl rfl), (gwc_6 (i := 36) rfl rfl), (gwc_1 (i := 18) rfl rfl), by decide⟩, fun _ h => absurd h List.not_mem_nil⟩⟩⟩⟩⟩⟩⟩⟩⟩⟩⟩⟩⟩⟩⟩
theorem cls_ok : ∀ q ∈ pCls, clsP q := cls_ok_0
set_option maxRecDepth 100000 in
theorem acl_ok_0 : ∀ q ∈ pAcl_0, aclP q := List.forall_mem_cons.mpr ⟨(gwc_2 (i := 178) rfl rfl), List.forall_mem_cons.mpr ⟨(gwc_2 (i := 192) rfl rfl), fun _ h => absurd h List.not_mem_nil⟩⟩
theorem acl_ok : ∀ q ∈ pAcl, aclP q := acl_ok_0
set_option maxRecDepth 100000 in
theorem oin_ok_0 : ∀ q ∈ pOin_0, oinP q := List.forall_mem_cons.mpr ⟨(gwc_2 (i := 83) rfl rfl), List.forall_mem_cons.mpr ⟨(gwc_1 (i := 115) rfl rfl), List.forall_mem_cons.mpr ⟨(gwc_2 (i := 177) rfl rfl), List.forall_mem_cons.mpr ⟨(gwc_1 (i := 180) rfl rfl), List.forall_mem_cons.mpr ⟨(gwc_2 (i := 199) rfl rfl), List.forall_mem_cons.mpr ⟨(gwc_2 (i := 230) rfl rfl), List.forall_mem_cons.mpr ⟨(gwc_3 (i := 9) rfl rfl), List.forall_mem_cons.mpr ⟨(gwc_2 (i := 89) rfl rfl), List.forall_mem_cons.mpr ⟨(gwc_1 (i := 143) rfl rfl), List.forall_mem_cons.mpr ⟨(gwc_1 (i := 174) rfl rfl), List.forall_mem_cons.mpr ⟨(gwc_1 (i := 36) rfl rfl), List.forall_mem_cons.mpr ⟨(gwc_1 (i := 28) rfl rfl), List.forall_mem_cons.mpr ⟨(gwc_6 (i := 40) rfl rfl), fun _ h => absurd h List.not_mem_nil⟩⟩⟩⟩⟩⟩⟩⟩⟩⟩⟩⟩⟩
theorem oin_ok : ∀ q ∈ pOin, oinP q := oin_ok_0
set_option maxRecDepth 100000 in
theorem cpy_ok_0 : ∀ q ∈ pCpy_0, cpyP q := List.forall_mem_cons.mpr ⟨(gwc_5 (i := 141) rfl rfl), List.forall_mem_cons.mpr ⟨(gwc_4 (i := 235) rfl rfl), fun _ h => absurd h List.not_mem_nil⟩⟩
theorem cpy_ok : ∀ q ∈ pCpy, cpyP q := cpy_ok_0
set_option maxRecDepth 100000 in
theorem mth_ok_0 : ∀ q ∈ pMth_0, mthP q := List.forall_mem_cons.mpr ⟨(gwc_4 (i := 32) rfl rfl), List.forall_mem_cons.mpr ⟨(gwc_4 (i := 238) rfl rfl), List.forall_mem_cons.mpr ⟨(gwc_4 (i := 187) rfl rfl), List.forall_mem_cons.mpr ⟨(gwc_5 (i := 125) rfl rfl), List.forall_mem_cons.mpr ⟨(gwc_6 (i := 3) rfl rfl), List.forall_mem_cons.mpr ⟨(gwc_4 (i := 194) rfl rfl), List.forall_mem_cons.mpr ⟨(gwc_4 (i := 195) rfl rfl), List.forall_mem_cons.mpr ⟨(gwc_3 (i := 157) rfl rfl), List.forall_mem_cons.mpr ⟨(gwc_3 (i := 154) rfl rfl), fun _ h => absurd h List.not_mem_nil⟩⟩⟩⟩⟩⟩⟩⟩⟩
theorem mth_ok : ∀ q ∈ pMth, mthP q := mth_ok_0
set_option maxRecDepth 20000 in
theorem w_arr_int : Cond.arrayClass .int ∈ gw := (gwc_1 (i := 106) rfl rfl)
set_option maxRecDepth 20000 in
theorem w_arr_boolean : Cond.arrayClass .boolean ∈ gw := (gwc_1 (i := 107) rfl rfl)
set_option maxRecDepth 20000 in
theorem w_arr_long : Cond.arrayClass .long ∈ gw := (gwc_1 (i := 108) rfl rfl)
set_option maxRecDepth 20000 in
theorem w_arr_byte : Cond.arrayClass .byte ∈ gw := (gwc_1 (i := 109) rfl rfl)
set_option maxRecDepth 20000 in
theorem w_oinM : Cond.instanceMethod objectInit ∈ gw ∧ Cond.code objectInit ⟨#[0xb1]⟩ 1 none ∈ gw := ⟨(gwc_1 (i := 29) rfl rfl), (gwc_1 (i := 30) rfl rfl)⟩
set_option maxRecDepth 20000 in
theorem w_cpyM : Cond.native arraycopyName ∈ gw ∧ Cond.static arraycopyName ∈ gw ∧ Cond.initialized "java/lang/System" ∈ gw := ⟨(gwc_4 (i := 237) rfl rfl), (gwc_4 (i := 236) rfl rfl), (gwc_1 (i := 22) rfl rfl)⟩
set_option maxRecDepth 20000 in
theorem w_mmax : Cond.static Lib.Math.max.name ∈ gw ∧ Cond.initialized "java/lang/Math" ∈ gw ∧ Cond.code Lib.Math.max.name Lib.Math.max.code 2 (some .int) ∈ gw := ⟨(gwc_3 (i := 155) rfl rfl), (gwc_1 (i := 19) rfl rfl), (gwc_3 (i := 156) rfl rfl)⟩
set_option maxRecDepth 20000 in
theorem w_mmin : Cond.static Lib.Math.min.name ∈ gw ∧ Cond.initialized "java/lang/Math" ∈ gw ∧ Cond.code Lib.Math.min.name Lib.Math.min.code 2 (some .int) ∈ gw := ⟨(gwc_3 (i := 158) rfl rfl), (gwc_1 (i := 19) rfl rfl), (gwc_3 (i := 159) rfl rfl)⟩
set_option maxRecDepth 20000 in
theorem w_mminJ : Cond.static Lib.MathLoose.min_long.x ∈ gw ∧ Cond.initialized "java/lang/Math" ∈ gw ∧ Cond.code Lib.MathLoose.min_long.x Lib.MathLoose.min_long.code 4 (some .long) ∈ gw := ⟨(gwc_6 (i := 4) rfl rfl), (gwc_1 (i := 19) rfl rfl), (gwc_6 (i := 5) rfl rfl)⟩
set_option maxRecDepth 20000 in
theorem lay_0_0 : u_lay RX0 TX0 0 ∈ gw := (gwc_2 (i := 161) rfl rfl)
set_option maxRecDepth 20000 in
theorem lay_0_1 : u_lay RX0 TX0 1 ∈ gw := (gwc_2 (i := 163) rfl rfl)
set_option maxRecDepth 20000 in
theorem lay_0_2 : u_lay RX0 TX0 2 ∈ gw := (gwc_2 (i := 165) rfl rfl)
set_option maxRecDepth 20000 in
theorem lay_0_3 : u_lay RX0 TX0 3 ∈ gw := (gwc_2 (i := 167) rfl rfl)
set_option maxRecDepth 20000 in
theorem lay_0_4 : u_lay RX0 TX0 4 ∈ gw := (gwc_2 (i := 169) rfl rfl)
set_option maxRecDepth 100000 in
theorem lays_0 : ∀ w ∈ wsX00, w ∈ gw := by
  show ∀ w ∈ [u_lay RX0 TX0 0, u_lay RX0 TX0 1, u_lay RX0 TX0 2, u_lay RX0 TX0 3, u_lay RX0 TX0 4], w ∈ gw
  exact List.forall_mem_cons.mpr ⟨lay_0_0, List.forall_mem_cons.mpr ⟨lay_0_1, List.forall_mem_cons.mpr ⟨lay_0_2, List.forall_mem_cons.mpr ⟨lay_0_3, List.forall_mem_cons.mpr ⟨lay_0_4, fun _ h => absurd h List.not_mem_nil⟩⟩⟩⟩⟩
set_option maxRecDepth 20000 in
theorem lay_1_0 : u_lay RX1 TX1 0 ∈ gw := (gwc_1 (i := 123) rfl rfl)
set_option maxRecDepth 20000 in
theorem lay_1_1 : u_lay RX1 TX1 1 ∈ gw := (gwc_1 (i := 125) rfl rfl)
set_option maxRecDepth 20000 in
theorem lay_1_2 : u_lay RX1 TX1 2 ∈ gw := (gwc_1 (i := 127) rfl rfl)
set_option maxRecDepth 20000 in
theorem lay_1_3 : u_lay RX1 TX1 3 ∈ gw := (gwc_1 (i := 129) rfl rfl)
set_option maxRecDepth 20000 in
theorem lay_1_4 : u_lay RX1 TX1 4 ∈ gw := (gwc_1 (i := 131) rfl rfl)
set_option maxRecDepth 20000 in
theorem lay_1_5 : u_lay RX1 TX1 5 ∈ gw := (gwc_1 (i := 133) rfl rfl)
set_option maxRecDepth 20000 in
theorem lay_1_6 : u_lay RX1 TX1 6 ∈ gw := (gwc_1 (i := 135) rfl rfl)
set_option maxRecDepth 100000 in
theorem lays_1 : ∀ w ∈ wsX10, w ∈ gw := by
  show ∀ w ∈ [u_lay RX1 TX1 0, u_lay RX1 TX1 1, u_lay RX1 TX1 2, u_lay RX1 TX1 3, u_lay RX1 TX1 4, u_lay RX1 TX1 5, u_lay RX1 TX1 6], w ∈ gw
  exact List.forall_mem_cons.mpr ⟨lay_1_0, List.forall_mem_cons.mpr ⟨lay_1_1, List.forall_mem_cons.mpr ⟨lay_1_2, List.forall_mem_cons.mpr ⟨lay_1_3, List.forall_mem_cons.mpr ⟨lay_1_4, List.forall_mem_cons.mpr ⟨lay_1_5, List.forall_mem_cons.mpr ⟨lay_1_6, fun _ h => absurd h List.not_mem_nil⟩⟩⟩⟩⟩⟩⟩
set_option maxRecDepth 20000 in
theorem lay_2_0 : u_lay RX2 TX2 0 ∈ gw := (gwc_2 (i := 185) rfl rfl)
set_option maxRecDepth 20000 in
theorem lay_2_1 : u_lay RX2 TX2 1 ∈ gw := (gwc_2 (i := 187) rfl rfl)
set_option maxRecDepth 20000 in
theorem lay_2_2 : u_lay RX2 TX2 2 ∈ gw := (gwc_2 (i := 189) rfl rfl)
set_option maxRecDepth 100000 in
theorem lays_2 : ∀ w ∈ wsX20, w ∈ gw := by
  show ∀ w ∈ [u_lay RX2 TX2 0, u_lay RX2 TX2 1, u_lay RX2 TX2 2], w ∈ gw
  exact List.forall_mem_cons.mpr ⟨lay_2_0, List.forall_mem_cons.mpr ⟨lay_2_1, List.forall_mem_cons.mpr ⟨lay_2_2, fun _ h => absurd h List.not_mem_nil⟩⟩⟩
set_option maxRecDepth 20000 in
theorem lay_3_0 : u_lay RX3 TX3 0 ∈ gw := (gwc_1 (i := 184) rfl rfl)
set_option maxRecDepth 20000 in
theorem lay_3_1 : u_lay RX3 TX3 1 ∈ gw := (gwc_1 (i := 186) rfl rfl)
set_option maxRecDepth 20000 in
theorem lay_3_2 : u_lay RX3 TX3 2 ∈ gw := (gwc_1 (i := 188) rfl rfl)
set_option maxRecDepth 100000 in
theorem lays_3 : ∀ w ∈ wsX30, w ∈ gw := by
  show ∀ w ∈ [u_lay RX3 TX3 0, u_lay RX3 TX3 1, u_lay RX3 TX3 2], w ∈ gw
  exact List.forall_mem_cons.mpr ⟨lay_3_0, List.forall_mem_cons.mpr ⟨lay_3_1, List.forall_mem_cons.mpr ⟨lay_3_2, fun _ h => absurd h List.not_mem_nil⟩⟩⟩
set_option maxRecDepth 20000 in
theorem lay_4_0 : u_lay RX4 TX4 0 ∈ gw := (gwc_2 (i := 208) rfl rfl)
set_option maxRecDepth 20000 in
theorem lay_4_1 : u_lay RX4 TX4 1 ∈ gw := (gwc_2 (i := 210) rfl rfl)
set_option maxRecDepth 20000 in
theorem lay_4_2 : u_lay RX4 TX4 2 ∈ gw := (gwc_2 (i := 212) rfl rfl)
set_option maxRecDepth 20000 in
theorem lay_4_3 : u_lay RX4 TX4 3 ∈ gw := (gwc_2 (i := 214) rfl rfl)
set_option maxRecDepth 20000 in
theorem lay_4_4 : u_lay RX4 TX4 4 ∈ gw := (gwc_2 (i := 216) rfl rfl)
set_option maxRecDepth 20000 in
theorem lay_4_5 : u_lay RX4 TX4 5 ∈ gw := (gwc_2 (i := 218) rfl rfl)
set_option maxRecDepth 20000 in
theorem lay_4_6 : u_lay RX4 TX4 6 ∈ gw := (gwc_2 (i := 220) rfl rfl)
set_option maxRecDepth 20000 in
theorem lay_4_7 : u_lay RX4 TX4 7 ∈ gw := (gwc_2 (i := 222) rfl rfl)
set_option maxRecDepth 100000 in
theorem lays_4 : ∀ w ∈ wsX40, w ∈ gw := by
  show ∀ w ∈ [u_lay RX4 TX4 0, u_lay RX4 TX4 1, u_lay RX4 TX4 2, u_lay RX4 TX4 3, u_lay RX4 TX4 4, u_lay RX4 TX4 5, u_lay RX4 TX4 6, u_lay RX4 TX4 7], w ∈ gw
  exact List.forall_mem_cons.mpr ⟨lay_4_0, List.forall_mem_cons.mpr ⟨lay_4_1, List.forall_mem_cons.mpr ⟨lay_4_2, List.forall_mem_cons.mpr ⟨lay_4_3, List.forall_mem_cons.mpr ⟨lay_4_4, List.forall_mem_cons.mpr ⟨lay_4_5, List.forall_mem_cons.mpr ⟨lay_4_6, List.forall_mem_cons.mpr ⟨lay_4_7, fun _ h => absurd h List.not_mem_nil⟩⟩⟩⟩⟩⟩⟩⟩
set_option maxRecDepth 20000 in
theorem lay_5_0 : u_lay RX5 TX5 0 ∈ gw := (gwc_2 (i := 237) rfl rfl)
set_option maxRecDepth 20000 in
theorem lay_5_1 : u_lay RX5 TX5 1 ∈ gw := (gwc_2 (i := 239) rfl rfl)
set_option maxRecDepth 20000 in
theorem lay_5_2 : u_lay RX5 TX5 2 ∈ gw := (gwc_3 (i := 1) rfl rfl)
set_option maxRecDepth 100000 in
theorem lays_5 : ∀ w ∈ wsX50, w ∈ gw := by
  show ∀ w ∈ [u_lay RX5 TX5 0, u_lay RX5 TX5 1, u_lay RX5 TX5 2], w ∈ gw
  exact List.forall_mem_cons.mpr ⟨lay_5_0, List.forall_mem_cons.mpr ⟨lay_5_1, List.forall_mem_cons.mpr ⟨lay_5_2, fun _ h => absurd h List.not_mem_nil⟩⟩⟩
set_option maxRecDepth 20000 in
theorem lay_6_0 : u_lay RX6 TX6 0 ∈ gw := (gwc_3 (i := 13) rfl rfl)
set_option maxRecDepth 20000 in
theorem lay_6_1 : u_lay RX6 TX6 1 ∈ gw := (gwc_3 (i := 15) rfl rfl)
set_option maxRecDepth 20000 in
theorem lay_6_2 : u_lay RX6 TX6 2 ∈ gw := (gwc_3 (i := 17) rfl rfl)
set_option maxRecDepth 100000 in
theorem lays_6 : ∀ w ∈ wsX60, w ∈ gw := by
  show ∀ w ∈ [u_lay RX6 TX6 0, u_lay RX6 TX6 1, u_lay RX6 TX6 2], w ∈ gw
  exact List.forall_mem_cons.mpr ⟨lay_6_0, List.forall_mem_cons.mpr ⟨lay_6_1, List.forall_mem_cons.mpr ⟨lay_6_2, fun _ h => absurd h List.not_mem_nil⟩⟩⟩
set_option maxRecDepth 20000 in
theorem lay_7_0 : u_lay RX7 TX7 0 ∈ gw := (gwc_2 (i := 123) rfl rfl)
set_option maxRecDepth 20000 in
theorem lay_7_1 : u_lay RX7 TX7 1 ∈ gw := (gwc_2 (i := 125) rfl rfl)
set_option maxRecDepth 20000 in
theorem lay_7_2 : u_lay RX7 TX7 2 ∈ gw := (gwc_2 (i := 127) rfl rfl)
set_option maxRecDepth 20000 in
theorem lay_7_3 : u_lay RX7 TX7 3 ∈ gw := (gwc_2 (i := 129) rfl rfl)
set_option maxRecDepth 20000 in
theorem lay_7_4 : u_lay RX7 TX7 4 ∈ gw := (gwc_2 (i := 131) rfl rfl)
set_option maxRecDepth 20000 in
theorem lay_7_5 : u_lay RX7 TX7 5 ∈ gw := (gwc_2 (i := 133) rfl rfl)
set_option maxRecDepth 20000 in
theorem lay_7_6 : u_lay RX7 TX7 6 ∈ gw := (gwc_2 (i := 135) rfl rfl)
set_option maxRecDepth 20000 in
theorem lay_7_7 : u_lay RX7 TX7 7 ∈ gw := (gwc_2 (i := 137) rfl rfl)
set_option maxRecDepth 20000 in
theorem lay_7_8 : u_lay RX7 TX7 8 ∈ gw := (gwc_2 (i := 139) rfl rfl)
set_option maxRecDepth 20000 in
theorem lay_7_9 : u_lay RX7 TX7 9 ∈ gw := (gwc_2 (i := 141) rfl rfl)
set_option maxRecDepth 20000 in
theorem lay_7_10 : u_lay RX7 TX7 10 ∈ gw := (gwc_2 (i := 143) rfl rfl)
set_option maxRecDepth 20000 in
theorem lay_7_11 : u_lay RX7 TX7 11 ∈ gw := (gwc_2 (i := 145) rfl rfl)
set_option maxRecDepth 100000 in
theorem lays_7 : ∀ w ∈ wsX70, w ∈ gw := by
  show ∀ w ∈ [u_lay RX7 TX7 0, u_lay RX7 TX7 1, u_lay RX7 TX7 2, u_lay RX7 TX7 3, u_lay RX7 TX7 4, u_lay RX7 TX7 5, u_lay RX7 TX7 6, u_lay RX7 TX7 7, u_lay RX7 TX7 8, u_lay RX7 TX7 9, u_lay RX7 TX7 10, u_lay RX7 TX7 11], w ∈ gw
  exact List.forall_mem_cons.mpr ⟨lay_7_0, List.forall_mem_cons.mpr ⟨lay_7_1, List.forall_mem_cons.mpr ⟨lay_7_2, List.forall_mem_cons.mpr ⟨lay_7_3, List.forall_mem_cons.mpr ⟨lay_7_4, List.forall_mem_cons.mpr ⟨lay_7_5, List.forall_mem_cons.mpr ⟨lay_7_6, List.forall_mem_cons.mpr ⟨lay_7_7, List.forall_mem_cons.mpr ⟨lay_7_8, List.forall_mem_cons.mpr ⟨lay_7_9, List.forall_mem_cons.mpr ⟨lay_7_10, List.forall_mem_cons.mpr ⟨lay_7_11, fun _ h => absurd h List.not_mem_nil⟩⟩⟩⟩⟩⟩⟩⟩⟩⟩⟩⟩
set_option maxRecDepth 20000 in
theorem lay_8_0 : u_lay RX8 TX8 0 ∈ gw := (gwc_1 (i := 152) rfl rfl)
set_option maxRecDepth 20000 in
theorem lay_8_1 : u_lay RX8 TX8 1 ∈ gw := (gwc_1 (i := 154) rfl rfl)
set_option maxRecDepth 20000 in
theorem lay_8_2 : u_lay RX8 TX8 2 ∈ gw := (gwc_1 (i := 156) rfl rfl)
set_option maxRecDepth 20000 in
theorem lay_8_3 : u_lay RX8 TX8 3 ∈ gw := (gwc_1 (i := 158) rfl rfl)
set_option maxRecDepth 20000 in
theorem lay_8_4 : u_lay RX8 TX8 4 ∈ gw := (gwc_1 (i := 160) rfl rfl)
set_option maxRecDepth 20000 in
theorem lay_8_5 : u_lay RX8 TX8 5 ∈ gw := (gwc_1 (i := 162) rfl rfl)
set_option maxRecDepth 20000 in
theorem lay_8_6 : u_lay RX8 TX8 6 ∈ gw := (gwc_1 (i := 164) rfl rfl)
set_option maxRecDepth 20000 in
theorem lay_8_7 : u_lay RX8 TX8 7 ∈ gw := (gwc_1 (i := 166) rfl rfl)
set_option maxRecDepth 100000 in
theorem lays_8 : ∀ w ∈ wsX80, w ∈ gw := by
  show ∀ w ∈ [u_lay RX8 TX8 0, u_lay RX8 TX8 1, u_lay RX8 TX8 2, u_lay RX8 TX8 3, u_lay RX8 TX8 4, u_lay RX8 TX8 5, u_lay RX8 TX8 6, u_lay RX8 TX8 7], w ∈ gw
  exact List.forall_mem_cons.mpr ⟨lay_8_0, List.forall_mem_cons.mpr ⟨lay_8_1, List.forall_mem_cons.mpr ⟨lay_8_2, List.forall_mem_cons.mpr ⟨lay_8_3, List.forall_mem_cons.mpr ⟨lay_8_4, List.forall_mem_cons.mpr ⟨lay_8_5, List.forall_mem_cons.mpr ⟨lay_8_6, List.forall_mem_cons.mpr ⟨lay_8_7, fun _ h => absurd h List.not_mem_nil⟩⟩⟩⟩⟩⟩⟩⟩
set_option maxRecDepth 20000 in
theorem lay_9_0 : u_lay RX9 TX9 0 ∈ gw := (gwc_2 (i := 37) rfl rfl)
set_option maxRecDepth 20000 in
theorem lay_9_1 : u_lay RX9 TX9 1 ∈ gw := (gwc_2 (i := 39) rfl rfl)
set_option maxRecDepth 20000 in
theorem lay_9_2 : u_lay RX9 TX9 2 ∈ gw := (gwc_2 (i := 41) rfl rfl)
set_option maxRecDepth 20000 in
theorem lay_9_3 : u_lay RX9 TX9 3 ∈ gw := (gwc_2 (i := 43) rfl rfl)
set_option maxRecDepth 20000 in
theorem lay_9_4 : u_lay RX9 TX9 4 ∈ gw := (gwc_2 (i := 45) rfl rfl)
set_option maxRecDepth 20000 in
theorem lay_9_5 : u_lay RX9 TX9 5 ∈ gw := (gwc_2 (i := 47) rfl rfl)
set_option maxRecDepth 20000 in
theorem lay_9_6 : u_lay RX9 TX9 6 ∈ gw := (gwc_2 (i := 49) rfl rfl)
set_option maxRecDepth 20000 in
theorem lay_9_7 : u_lay RX9 TX9 7 ∈ gw := (gwc_2 (i := 51) rfl rfl)
set_option maxRecDepth 20000 in
theorem lay_9_8 : u_lay RX9 TX9 8 ∈ gw := (gwc_2 (i := 53) rfl rfl)
set_option maxRecDepth 20000 in
theorem lay_9_9 : u_lay RX9 TX9 9 ∈ gw := (gwc_2 (i := 55) rfl rfl)
set_option maxRecDepth 20000 in
theorem lay_9_10 : u_lay RX9 TX9 10 ∈ gw := (gwc_2 (i := 57) rfl rfl)
set_option maxRecDepth 20000 in
theorem lay_9_11 : u_lay RX9 TX9 11 ∈ gw := (gwc_2 (i := 59) rfl rfl)
set_option maxRecDepth 20000 in
theorem lay_9_12 : u_lay RX9 TX9 12 ∈ gw := (gwc_2 (i := 61) rfl rfl)
set_option maxRecDepth 20000 in
theorem lay_9_13 : u_lay RX9 TX9 13 ∈ gw := (gwc_2 (i := 63) rfl rfl)
set_option maxRecDepth 20000 in
theorem lay_9_14 : u_lay RX9 TX9 14 ∈ gw := (gwc_2 (i := 65) rfl rfl)
set_option maxRecDepth 20000 in
theorem lay_9_15 : u_lay RX9 TX9 15 ∈ gw := (gwc_2 (i := 67) rfl rfl)
set_option maxRecDepth 20000 in
theorem lay_9_16 : u_lay RX9 TX9 16 ∈ gw := (gwc_2 (i := 69) rfl rfl)
set_option maxRecDepth 20000 in
theorem lay_9_17 : u_lay RX9 TX9 17 ∈ gw := (gwc_2 (i := 71) rfl rfl)
set_option maxRecDepth 20000 in
theorem lay_9_18 : u_lay RX9 TX9 18 ∈ gw := (gwc_2 (i := 73) rfl rfl)
set_option maxRecDepth 20000 in
theorem lay_9_19 : u_lay RX9 TX9 19 ∈ gw := (gwc_2 (i := 75) rfl rfl)
set_option maxRecDepth 100000 in
theorem lays_9 : ∀ w ∈ wsX90, w ∈ gw := by
  show ∀ w ∈ [u_lay RX9 TX9 0, u_lay RX9 TX9 1, u_lay RX9 TX9 2, u_lay RX9 TX9 3, u_lay RX9 TX9 4, u_lay RX9 TX9 5, u_lay RX9 TX9 6, u_lay RX9 TX9 7, u_lay RX9 TX9 8, u_lay RX9 TX9 9, u_lay RX9 TX9 10, u_lay RX9 TX9 11, u_lay RX9 TX9 12, u_lay RX9 TX9 13, u_lay RX9 TX9 14, u_lay RX9 TX9 15, u_lay RX9 TX9 16, u_lay RX9 TX9 17, u_lay RX9 TX9 18, u_lay RX9 TX9 19], w ∈ gw
  exact List.forall_mem_cons.mpr ⟨lay_9_0, List.forall_mem_cons.mpr ⟨lay_9_1, List.forall_mem_cons.mpr ⟨lay_9_2, List.forall_mem_cons.mpr ⟨lay_9_3, List.forall_mem_cons.mpr ⟨lay_9_4, List.forall_mem_cons.mpr ⟨lay_9_5, List.forall_mem_cons.mpr ⟨lay_9_6, List.forall_mem_cons.mpr ⟨lay_9_7, List.forall_mem_cons.mpr ⟨lay_9_8, List.forall_mem_cons.mpr ⟨lay_9_9, List.forall_mem_cons.mpr ⟨lay_9_10, List.forall_mem_cons.mpr ⟨lay_9_11, List.forall_mem_cons.mpr ⟨lay_9_12, List.forall_mem_cons.mpr ⟨lay_9_13, List.forall_mem_cons.mpr ⟨lay_9_14, List.forall_mem_cons.mpr ⟨lay_9_15, List.forall_mem_cons.mpr ⟨lay_9_16, List.forall_mem_cons.mpr ⟨lay_9_17, List.forall_mem_cons.mpr ⟨lay_9_18, List.forall_mem_cons.mpr ⟨lay_9_19, fun _ h => absurd h List.not_mem_nil⟩⟩⟩⟩⟩⟩⟩⟩⟩⟩⟩⟩⟩⟩⟩⟩⟩⟩⟩⟩
set_option maxRecDepth 20000 in
theorem lay_10_0 : u_lay RX10 TX10 0 ∈ gw := (gwc_1 (i := 93) rfl rfl)
set_option maxRecDepth 20000 in
theorem lay_10_1 : u_lay RX10 TX10 1 ∈ gw := (gwc_1 (i := 95) rfl rfl)
set_option maxRecDepth 20000 in
theorem lay_10_2 : u_lay RX10 TX10 2 ∈ gw := (gwc_1 (i := 97) rfl rfl)
set_option maxRecDepth 20000 in
theorem lay_10_3 : u_lay RX10 TX10 3 ∈ gw := (gwc_1 (i := 99) rfl rfl)
set_option maxRecDepth 20000 in
theorem lay_10_4 : u_lay RX10 TX10 4 ∈ gw := (gwc_1 (i := 101) rfl rfl)
set_option maxRecDepth 20000 in
theorem lay_10_5 : u_lay RX10 TX10 5 ∈ gw := (gwc_1 (i := 103) rfl rfl)
set_option maxRecDepth 100000 in
theorem lays_10 : ∀ w ∈ wsX100, w ∈ gw := by
  show ∀ w ∈ [u_lay RX10 TX10 0, u_lay RX10 TX10 1, u_lay RX10 TX10 2, u_lay RX10 TX10 3, u_lay RX10 TX10 4, u_lay RX10 TX10 5], w ∈ gw
  exact List.forall_mem_cons.mpr ⟨lay_10_0, List.forall_mem_cons.mpr ⟨lay_10_1, List.forall_mem_cons.mpr ⟨lay_10_2, List.forall_mem_cons.mpr ⟨lay_10_3, List.forall_mem_cons.mpr ⟨lay_10_4, List.forall_mem_cons.mpr ⟨lay_10_5, fun _ h => absurd h List.not_mem_nil⟩⟩⟩⟩⟩⟩
set_option maxRecDepth 20000 in
theorem lay_11_0 : u_lay RX11 TX11 0 ∈ gw := (gwc_3 (i := 56) rfl rfl)
set_option maxRecDepth 20000 in
theorem lay_11_1 : u_lay RX11 TX11 1 ∈ gw := (gwc_3 (i := 58) rfl rfl)
set_option maxRecDepth 20000 in
theorem lay_11_2 : u_lay RX11 TX11 2 ∈ gw := (gwc_3 (i := 60) rfl rfl)
set_option maxRecDepth 20000 in
theorem lay_11_3 : u_lay RX11 TX11 3 ∈ gw := (gwc_3 (i := 62) rfl rfl)
set_option maxRecDepth 20000 in
theorem lay_11_4 : u_lay RX11 TX11 4 ∈ gw := (gwc_3 (i := 64) rfl rfl)
set_option maxRecDepth 20000 in
theorem lay_11_5 : u_lay RX11 TX11 5 ∈ gw := (gwc_3 (i := 66) rfl rfl)
set_option maxRecDepth 20000 in
theorem lay_11_6 : u_lay RX11 TX11 6 ∈ gw := (gwc_3 (i := 68) rfl rfl)
set_option maxRecDepth 20000 in
theorem lay_11_7 : u_lay RX11 TX11 7 ∈ gw := (gwc_3 (i := 70) rfl rfl)
set_option maxRecDepth 20000 in
theorem lay_11_8 : u_lay RX11 TX11 8 ∈ gw := (gwc_3 (i := 72) rfl rfl)
set_option maxRecDepth 20000 in
theorem lay_11_9 : u_lay RX11 TX11 9 ∈ gw := (gwc_3 (i := 74) rfl rfl)
set_option maxRecDepth 20000 in
theorem lay_11_10 : u_lay RX11 TX11 10 ∈ gw := (gwc_3 (i := 76) rfl rfl)
set_option maxRecDepth 20000 in
theorem lay_11_11 : u_lay RX11 TX11 11 ∈ gw := (gwc_3 (i := 78) rfl rfl)
set_option maxRecDepth 20000 in
theorem lay_11_12 : u_lay RX11 TX11 12 ∈ gw := (gwc_3 (i := 80) rfl rfl)
set_option maxRecDepth 20000 in
theorem lay_11_13 : u_lay RX11 TX11 13 ∈ gw := (gwc_3 (i := 82) rfl rfl)
set_option maxRecDepth 20000 in
theorem lay_11_14 : u_lay RX11 TX11 14 ∈ gw := (gwc_3 (i := 84) rfl rfl)
set_option maxRecDepth 20000 in
theorem lay_11_15 : u_lay RX11 TX11 15 ∈ gw := (gwc_3 (i := 86) rfl rfl)
set_option maxRecDepth 20000 in
theorem lay_11_16 : u_lay RX11 TX11 16 ∈ gw := (gwc_3 (i := 88) rfl rfl)
set_option maxRecDepth 20000 in
theorem lay_11_17 : u_lay RX11 TX11 17 ∈ gw := (gwc_3 (i := 90) rfl rfl)
set_option maxRecDepth 100000 in
theorem lays_11 : ∀ w ∈ wsX110, w ∈ gw := by
  show ∀ w ∈ [u_lay RX11 TX11 0, u_lay RX11 TX11 1, u_lay RX11 TX11 2, u_lay RX11 TX11 3, u_lay RX11 TX11 4, u_lay RX11 TX11 5, u_lay RX11 TX11 6, u_lay RX11 TX11 7, u_lay RX11 TX11 8, u_lay RX11 TX11 9, u_lay RX11 TX11 10, u_lay RX11 TX11 11, u_lay RX11 TX11 12, u_lay RX11 TX11 13, u_lay RX11 TX11 14, u_lay RX11 TX11 15, u_lay RX11 TX11 16, u_lay RX11 TX11 17], w ∈ gw
  exact List.forall_mem_cons.mpr ⟨lay_11_0, List.forall_mem_cons.mpr ⟨lay_11_1, List.forall_mem_cons.mpr ⟨lay_11_2, List.forall_mem_cons.mpr ⟨lay_11_3, List.forall_mem_cons.mpr ⟨lay_11_4, List.forall_mem_cons.mpr ⟨lay_11_5, List.forall_mem_cons.mpr ⟨lay_11_6, List.forall_mem_cons.mpr ⟨lay_11_7, List.forall_mem_cons.mpr ⟨lay_11_8, List.forall_mem_cons.mpr ⟨lay_11_9, List.forall_mem_cons.mpr ⟨lay_11_10, List.forall_mem_cons.mpr ⟨lay_11_11, List.forall_mem_cons.mpr ⟨lay_11_12, List.forall_mem_cons.mpr ⟨lay_11_13, List.forall_mem_cons.mpr ⟨lay_11_14, List.forall_mem_cons.mpr ⟨lay_11_15, List.forall_mem_cons.mpr ⟨lay_11_16, List.forall_mem_cons.mpr ⟨lay_11_17, fun _ h => absurd h List.not_mem_nil⟩⟩⟩⟩⟩⟩⟩⟩⟩⟩⟩⟩⟩⟩⟩⟩⟩⟩
set_option maxRecDepth 20000 in
theorem lay_12_0 : u_lay RX12 TX12 0 ∈ gw := (gwc_6 (i := 134) rfl rfl)
set_option maxRecDepth 20000 in
theorem lay_12_1 : u_lay RX12 TX12 1 ∈ gw := (gwc_6 (i := 136) rfl rfl)
set_option maxRecDepth 20000 in
theorem lay_12_2 : u_lay RX12 TX12 2 ∈ gw := (gwc_6 (i := 138) rfl rfl)
set_option maxRecDepth 20000 in
theorem lay_12_3 : u_lay RX12 TX12 3 ∈ gw := (gwc_6 (i := 140) rfl rfl)
set_option maxRecDepth 20000 in
theorem lay_12_4 : u_lay RX12 TX12 4 ∈ gw := (gwc_6 (i := 142) rfl rfl)
set_option maxRecDepth 20000 in
theorem lay_12_5 : u_lay RX12 TX12 5 ∈ gw := (gwc_6 (i := 144) rfl rfl)
set_option maxRecDepth 20000 in
theorem lay_12_6 : u_lay RX12 TX12 6 ∈ gw := (gwc_6 (i := 146) rfl rfl)
set_option maxRecDepth 20000 in
theorem lay_12_7 : u_lay RX12 TX12 7 ∈ gw := (gwc_6 (i := 148) rfl rfl)
set_option maxRecDepth 20000 in
theorem lay_12_8 : u_lay RX12 TX12 8 ∈ gw := (gwc_6 (i := 150) rfl rfl)
set_option maxRecDepth 20000 in
theorem lay_12_9 : u_lay RX12 TX12 9 ∈ gw := (gwc_6 (i := 152) rfl rfl)
set_option maxRecDepth 20000 in
theorem lay_12_10 : u_lay RX12 TX12 10 ∈ gw := (gwc_6 (i := 154) rfl rfl)
set_option maxRecDepth 20000 in
theorem lay_12_11 : u_lay RX12 TX12 11 ∈ gw := (gwc_6 (i := 156) rfl rfl)
set_option maxRecDepth 20000 in
theorem lay_12_12 : u_lay RX12 TX12 12 ∈ gw := (gwc_6 (i := 158) rfl rfl)
set_option maxRecDepth 20000 in
theorem lay_12_13 : u_lay RX12 TX12 13 ∈ gw := (gwc_6 (i := 160) rfl rfl)
set_option maxRecDepth 20000 in
theorem lay_12_14 : u_lay RX12 TX12 14 ∈ gw := (gwc_6 (i := 162) rfl rfl)
set_option maxRecDepth 20000 in
theorem lay_12_15 : u_lay RX12 TX12 15 ∈ gw := (gwc_6 (i := 164) rfl rfl)
set_option maxRecDepth 20000 in
theorem lay_12_16 : u_lay RX12 TX12 16 ∈ gw := (gwc_6 (i := 166) rfl rfl)
set_option maxRecDepth 20000 in
theorem lay_12_17 : u_lay RX12 TX12 17 ∈ gw := (gwc_6 (i := 168) rfl rfl)
set_option maxRecDepth 20000 in
theorem lay_12_18 : u_lay RX12 TX12 18 ∈ gw := (gwc_6 (i := 170) rfl rfl)
set_option maxRecDepth 20000 in
theorem lay_12_19 : u_lay RX12 TX12 19 ∈ gw := (gwc_6 (i := 172) rfl rfl)
set_option maxRecDepth 20000 in
theorem lay_12_20 : u_lay RX12 TX12 20 ∈ gw := (gwc_6 (i := 174) rfl rfl)
set_option maxRecDepth 20000 in
theorem lay_12_21 : u_lay RX12 TX12 21 ∈ gw := (gwc_6 (i := 176) rfl rfl)
set_option maxRecDepth 20000 in
theorem lay_12_22 : u_lay RX12 TX12 22 ∈ gw := (gwc_6 (i := 178) rfl rfl)
set_option maxRecDepth 20000 in
theorem lay_12_23 : u_lay RX12 TX12 23 ∈ gw := (gwc_6 (i := 180) rfl rfl)
set_option maxRecDepth 20000 in
theorem lay_12_24 : u_lay RX12 TX12 24 ∈ gw := (gwc_6 (i := 182) rfl rfl)
set_option maxRecDepth 20000 in
theorem lay_12_25 : u_lay RX12 TX12 25 ∈ gw := (gwc_6 (i := 184) rfl rfl)
set_option maxRecDepth 20000 in
theorem lay_12_26 : u_lay RX12 TX12 26 ∈ gw := (gwc_6 (i := 186) rfl rfl)
set_option maxRecDepth 20000 in
theorem lay_12_27 : u_lay RX12 TX12 27 ∈ gw := (gwc_6 (i := 188) rfl rfl)
set_option maxRecDepth 20000 in
theorem lay_12_28 : u_lay RX12 TX12 28 ∈ gw := (gwc_6 (i := 190) rfl rfl)
set_option maxRecDepth 20000 in
theorem lay_12_29 : u_lay RX12 TX12 29 ∈ gw := (gwc_6 (i := 192) rfl rfl)
set_option maxRecDepth 20000 in
theorem lay_12_30 : u_lay RX12 TX12 30 ∈ gw := (gwc_6 (i := 194) rfl rfl)
set_option maxRecDepth 20000 in
theorem lay_12_31 : u_lay RX12 TX12 31 ∈ gw := (gwc_6 (i := 196) rfl rfl)
set_option maxRecDepth 20000 in
theorem lay_12_32 : u_lay RX12 TX12 32 ∈ gw := (gwc_6 (i := 198) rfl rfl)
set_option maxRecDepth 20000 in
theorem lay_12_33 : u_lay RX12 TX12 33 ∈ gw := (gwc_6 (i := 200) rfl rfl)
set_option maxRecDepth 20000 in
theorem lay_12_34 : u_lay RX12 TX12 34 ∈ gw := (gwc_6 (i := 202) rfl rfl)
set_option maxRecDepth 20000 in
theorem lay_12_35 : u_lay RX12 TX12 35 ∈ gw := (gwc_6 (i := 204) rfl rfl)
set_option maxRecDepth 20000 in
theorem lay_12_36 : u_lay RX12 TX12 36 ∈ gw := (gwc_6 (i := 206) rfl rfl)
set_option maxRecDepth 20000 in
theorem lay_12_37 : u_lay RX12 TX12 37 ∈ gw := (gwc_6 (i := 208) rfl rfl)
set_option maxRecDepth 20000 in
theorem lay_12_38 : u_lay RX12 TX12 38 ∈ gw := (gwc_6 (i := 210) rfl rfl)
set_option maxRecDepth 20000 in
theorem lay_12_39 : u_lay RX12 TX12 39 ∈ gw := (gwc_6 (i := 212) rfl rfl)
set_option maxRecDepth 20000 in
theorem lay_12_40 : u_lay RX12 TX12 40 ∈ gw := (gwc_6 (i := 214) rfl rfl)
set_option maxRecDepth 20000 in
theorem lay_12_41 : u_lay RX12 TX12 41 ∈ gw := (gwc_6 (i := 216) rfl rfl)
set_option maxRecDepth 20000 in
theorem lay_12_42 : u_lay RX12 TX12 42 ∈ gw := (gwc_6 (i := 218) rfl rfl)
set_option maxRecDepth 20000 in
theorem lay_12_43 : u_lay RX12 TX12 43 ∈ gw := (gwc_6 (i := 220) rfl rfl)
set_option maxRecDepth 20000 in
theorem lay_12_44 : u_lay RX12 TX12 44 ∈ gw := (gwc_6 (i := 222) rfl rfl)
set_option maxRecDepth 20000 in
theorem lay_12_45 : u_lay RX12 TX12 45 ∈ gw := (gwc_6 (i := 224) rfl rfl)
set_option maxRecDepth 20000 in
theorem lay_12_46 : u_lay RX12 TX12 46 ∈ gw := (gwc_6 (i := 226) rfl rfl)
set_option maxRecDepth 20000 in
theorem lay_12_47 : u_lay RX12 TX12 47 ∈ gw := (gwc_6 (i := 228) rfl rfl)
set_option maxRecDepth 20000 in
theorem lay_12_48 : u_lay RX12 TX12 48 ∈ gw := (gwc_6 (i := 230) rfl rfl)
set_option maxRecDepth 20000 in
theorem lay_12_49 : u_lay RX12 TX12 49 ∈ gw := (gwc_6 (i := 232) rfl rfl)
set_option maxRecDepth 20000 in
theorem lay_12_50 : u_lay RX12 TX12 50 ∈ gw := (gwc_6 (i := 234) rfl rfl)
set_option maxRecDepth 20000 in
theorem lay_12_51 : u_lay RX12 TX12 51 ∈ gw := (gwc_6 (i := 236) rfl rfl)
set_option maxRecDepth 20000 in
theorem lay_12_52 : u_lay RX12 TX12 52 ∈ gw := (gwc_6 (i := 238) rfl rfl)
set_option maxRecDepth 20000 in
theorem lay_12_53 : u_lay RX12 TX12 53 ∈ gw := (gwc_7 (i := 0) rfl rfl)
set_option maxRecDepth 20000 in
theorem lay_12_54 : u_lay RX12 TX12 54 ∈ gw := (gwc_7 (i := 2) rfl rfl)
set_option maxRecDepth 20000 in
theorem lay_12_55 : u_lay RX12 TX12 55 ∈ gw := (gwc_7 (i := 4) rfl rfl)
set_option maxRecDepth 20000 in
theorem lay_12_56 : u_lay RX12 TX12 56 ∈ gw := (gwc_7 (i := 6) rfl rfl)
set_option maxRecDepth 20000 in
theorem lay_12_57 : u_lay RX12 TX12 57 ∈ gw := (gwc_7 (i := 8) rfl rfl)
set_option maxRecDepth 20000 in
theorem lay_12_58 : u_lay RX12 TX12 58 ∈ gw := (gwc_7 (i := 10) rfl rfl)
set_option maxRecDepth 20000 in
theorem lay_12_59 : u_lay RX12 TX12 59 ∈ gw := (gwc_7 (i := 12) rfl rfl)
set_option maxRecDepth 20000 in
theorem lay_12_60 : u_lay RX12 TX12 60 ∈ gw := (gwc_7 (i := 14) rfl rfl)
set_option maxRecDepth 20000 in
theorem lay_12_61 : u_lay RX12 TX12 61 ∈ gw := (gwc_7 (i := 16) rfl rfl)
set_option maxRecDepth 20000 in
theorem lay_12_62 : u_lay RX12 TX12 62 ∈ gw := (gwc_7 (i := 18) rfl rfl)
set_option maxRecDepth 20000 in
theorem lay_12_63 : u_lay RX12 TX12 63 ∈ gw := (gwc_7 (i := 20) rfl rfl)
set_option maxRecDepth 20000 in
theorem lay_12_64 : u_lay RX12 TX12 64 ∈ gw := (gwc_7 (i := 22) rfl rfl)
set_option maxRecDepth 20000 in
theorem lay_12_65 : u_lay RX12 TX12 65 ∈ gw := (gwc_7 (i := 24) rfl rfl)
set_option maxRecDepth 20000 in
theorem lay_12_66 : u_lay RX12 TX12 66 ∈ gw := (gwc_7 (i := 26) rfl rfl)
set_option maxRecDepth 20000 in
theorem lay_12_67 : u_lay RX12 TX12 67 ∈ gw := (gwc_7 (i := 28) rfl rfl)
set_option maxRecDepth 20000 in
theorem lay_12_68 : u_lay RX12 TX12 68 ∈ gw := (gwc_7 (i := 30) rfl rfl)
set_option maxRecDepth 20000 in
theorem lay_12_69 : u_lay RX12 TX12 69 ∈ gw := (gwc_7 (i := 32) rfl rfl)
set_option maxRecDepth 20000 in
theorem lay_12_70 : u_lay RX12 TX12 70 ∈ gw := (gwc_7 (i := 34) rfl rfl)
set_option maxRecDepth 20000 in
theorem lay_12_71 : u_lay RX12 TX12 71 ∈ gw := (gwc_7 (i := 36) rfl rfl)
set_option maxRecDepth 20000 in
theorem lay_12_72 : u_lay RX12 TX12 72 ∈ gw := (gwc_7 (i := 38) rfl rfl)
set_option maxRecDepth 20000 in
theorem lay_12_73 : u_lay RX12 TX12 73 ∈ gw := (gwc_7 (i := 40) rfl rfl)
set_option maxRecDepth 20000 in
theorem lay_12_74 : u_lay RX12 TX12 74 ∈ gw := (gwc_7 (i := 42) rfl rfl)
set_option maxRecDepth 100000 in
theorem lays_12 : ∀ w ∈ wsX120, w ∈ gw := by
  show ∀ w ∈ [u_lay RX12 TX12 0, u_lay RX12 TX12 1, u_lay RX12 TX12 2, u_lay RX12 TX12 3, u_lay RX12 TX12 4, u_lay RX12 TX12 5, u_lay RX12 TX12 6, u_lay RX12 TX12 7, u_lay RX12 TX12 8, u_lay RX12 TX12 9, u_lay RX12 TX12 10, u_lay RX12 TX12 11, u_lay RX12 TX12 12, u_lay RX12 TX12 13, u_lay RX12 TX12 14, u_lay RX12 TX12 15, u_lay RX12 TX12 16, u_lay RX12 TX12 17, u_lay RX12 TX12 18, u_lay RX12 TX12 19, u_lay RX12 TX12 20, u_lay RX12 TX12 21, u_lay RX12 TX12 22, u_lay RX12 TX12 23, u_lay RX12 TX12 24, u_lay RX12 TX12 25, u_lay RX12 TX12 26, u_lay RX12 TX12 27, u_lay RX12 TX12 28, u_lay RX12 TX12 29, u_lay RX12 TX12 30, u_lay RX12 TX12 31, u_lay RX12 TX12 32, u_lay RX12 TX12 33, u_lay RX12 TX12 34, u_lay RX12 TX12 35, u_lay RX12 TX12 36, u_lay RX12 TX12 37, u_lay RX12 TX12 38, u_lay RX12 TX12 39, u_lay RX12 TX12 40, u_lay RX12 TX12 41, u_lay RX12 TX12 42, u_lay RX12 TX12 43, u_lay RX12 TX12 44, u_lay RX12 TX12 45, u_lay RX12 TX12 46, u_lay RX12 TX12 47, u_lay RX12 TX12 48, u_lay RX12 TX12 49, u_lay RX12 TX12 50, u_lay RX12 TX12 51, u_lay RX12 TX12 52, u_lay RX12 TX12 53, u_lay RX12 TX12 54, u_lay RX12 TX12 55, u_lay RX12 TX12 56, u_lay RX12 TX12 57, u_lay RX12 TX12 58, u_lay RX12 TX12 59, u_lay RX12 TX12 60, u_lay RX12 TX12 61, u_lay RX12 TX12 62, u_lay RX12 TX12 63, u_lay RX12 TX12 64, u_lay RX12 TX12 65, u_lay RX12 TX12 66, u_lay RX12 TX12 67, u_lay RX12 TX12 68, u_lay RX12 TX12 69, u_lay RX12 TX12 70, u_lay RX12 TX12 71, u_lay RX12 TX12 72, u_lay RX12 TX12 73, u_lay RX12 TX12 74], w ∈ gw
  exact List.forall_mem_cons.mpr ⟨lay_12_0, List.forall_mem_cons.mpr ⟨lay_12_1, List.forall_mem_cons.mpr ⟨lay_12_2, List.forall_mem_cons.mpr ⟨lay_12_3, List.forall_mem_cons.mpr ⟨lay_12_4, List.forall_mem_cons.mpr ⟨lay_12_5, List.forall_mem_cons.mpr ⟨lay_12_6, List.forall_mem_cons.mpr ⟨lay_12_7, List.forall_mem_cons.mpr ⟨lay_12_8, List.forall_mem_cons.mpr ⟨lay_12_9, List.forall_mem_cons.mpr ⟨lay_12_10, List.forall_mem_cons.mpr ⟨lay_12_11, List.forall_mem_cons.mpr ⟨lay_12_12, List.forall_mem_cons.mpr ⟨lay_12_13, List.forall_mem_cons.mpr ⟨lay_12_14, List.forall_mem_cons.mpr ⟨lay_12_15, List.forall_mem_cons.mpr ⟨lay_12_16, List.forall_mem_cons.mpr ⟨lay_12_17, List.forall_mem_cons.mpr ⟨lay_12_18, List.forall_mem_cons.mpr ⟨lay_12_19, List.forall_mem_cons.mpr ⟨lay_12_20, List.forall_mem_cons.mpr ⟨lay_12_21, List.forall_mem_cons.mpr ⟨lay_12_22, List.forall_mem_cons.mpr ⟨lay_12_23, List.forall_mem_cons.mpr ⟨lay_12_24, List.forall_mem_cons.mpr ⟨lay_12_25, List.forall_mem_cons.mpr ⟨lay_12_26, List.forall_mem_cons.mpr ⟨lay_12_27, List.forall_mem_cons.mpr ⟨lay_12_28, List.forall_mem_cons.mpr ⟨lay_12_29, List.forall_mem_cons.mpr ⟨lay_12_30, List.forall_mem_cons.mpr ⟨lay_12_31, List.forall_mem_cons.mpr ⟨lay_12_32, List.forall_mem_cons.mpr ⟨lay_12_33, List.forall_mem_cons.mpr ⟨lay_12_34, List.forall_mem_cons.mpr ⟨lay_12_35, List.forall_mem_cons.mpr ⟨lay_12_36, List.forall_mem_cons.mpr ⟨lay_12_37, List.forall_mem_cons.mpr ⟨lay_12_38, List.forall_mem_cons.mpr ⟨lay_12_39, List.forall_mem_cons.mpr ⟨lay_12_40, List.forall_mem_cons.mpr ⟨lay_12_41, List.forall_mem_cons.mpr ⟨lay_12_42, List.forall_mem_cons.mpr ⟨lay_12_43, List.forall_mem_cons.mpr ⟨lay_12_44, List.forall_mem_cons.mpr ⟨lay_12_45, List.forall_mem_cons.mpr ⟨lay_12_46, List.forall_mem_cons.mpr ⟨lay_12_47, List.forall_mem_cons.mpr ⟨lay_12_48, List.forall_mem_cons.mpr ⟨lay_12_49, List.forall_mem_cons.mpr ⟨lay_12_50, List.forall_mem_cons.mpr ⟨lay_12_51, List.forall_mem_cons.mpr ⟨lay_12_52, List.forall_mem_cons.mpr ⟨lay_12_53, List.forall_mem_cons.mpr ⟨lay_12_54, List.forall_mem_cons.mpr ⟨lay_12_55, List.forall_mem_cons.mpr ⟨lay_12_56, List.forall_mem_cons.mpr ⟨lay_12_57, List.forall_mem_cons.mpr ⟨lay_12_58, List.forall_mem_cons.mpr ⟨lay_12_59, List.forall_mem_cons.mpr ⟨lay_12_60, List.forall_mem_cons.mpr ⟨lay_12_61, List.forall_mem_cons.mpr ⟨lay_12_62, List.forall_mem_cons.mpr ⟨lay_12_63, List.forall_mem_cons.mpr ⟨lay_12_64, List.forall_mem_cons.mpr ⟨lay_12_65, List.forall_mem_cons.mpr ⟨lay_12_66, List.forall_mem_cons.mpr ⟨lay_12_67, List.forall_mem_cons.mpr ⟨lay_12_68, List.forall_mem_cons.mpr ⟨lay_12_69, List.forall_mem_cons.mpr ⟨lay_12_70, List.forall_mem_cons.mpr ⟨lay_12_71, List.forall_mem_cons.mpr ⟨lay_12_72, List.forall_mem_cons.mpr ⟨lay_12_73, List.forall_mem_cons.mpr ⟨lay_12_74, fun _ h => absurd h List.not_mem_nil⟩⟩⟩⟩⟩⟩⟩⟩⟩⟩⟩⟩⟩⟩⟩⟩⟩⟩⟩⟩⟩⟩⟩⟩⟩⟩⟩⟩⟩⟩⟩⟩⟩⟩⟩⟩⟩⟩⟩⟩⟩⟩⟩⟩⟩⟩⟩⟩⟩⟩⟩⟩⟩⟩⟩⟩⟩⟩⟩⟩⟩⟩⟩⟩⟩⟩⟩⟩⟩⟩⟩⟩⟩⟩⟩
def fldSP (q : Nat × Nat × Nat × Nat) : Prop := q.2.2.1 = 50 ∧ ((q.2.2.2 = 0 ∧ Cond.fieldLink (pOwnN q.1) q.2.1 "java/lang/String" "value" "[B" ∈ gw) ∨ (q.2.2.2 = 1 ∧ Cond.fieldLink (pOwnN q.1) q.2.1 "java/lang/String" "coder" "B" ∈ gw))
def statP (q : Nat × Nat × Nat) : Prop := (q.2.2 = 0 → Cond.fieldLink (pOwnN q.1) q.2.1 "java/lang/String" "COMPACT_STRINGS" "Z" ∈ gw) ∧ (q.2.2 = 1 → Cond.fieldLink (pOwnN q.1) q.2.1 "jdk/internal/util/Preconditions" "SIOOBE_FORMATTER" "Ljava/util/function/BiFunction;" ∈ gw)
set_option maxRecDepth 100000 in
theorem fldS_ok_0 : ∀ q ∈ pFldS_0, fldSP q := List.forall_mem_cons.mpr ⟨⟨rfl, Or.inl ⟨rfl, (gwc_8 (i := 221) rfl rfl)⟩⟩, List.forall_mem_cons.mpr ⟨⟨rfl, Or.inr ⟨rfl, (gwc_8 (i := 222) rfl rfl)⟩⟩, fun _ h => absurd h List.not_mem_nil⟩⟩
theorem fldS_ok : ∀ q ∈ pFldS, fldSP q := fldS_ok_0
set_option maxRecDepth 100000 in
theorem stat_ok_0 : ∀ q ∈ pStat_0, statP q := List.forall_mem_cons.mpr ⟨⟨fun _ => (gwc_1 (i := 46) rfl rfl), fun h => absurd h (by decide)⟩, List.forall_mem_cons.mpr ⟨⟨fun h => absurd h (by decide), fun _ => (gwc_1 (i := 62) rfl rfl)⟩, fun _ h => absurd h List.not_mem_nil⟩⟩
theorem stat_ok : ∀ q ∈ pStat, statP q := stat_ok_0
end
section
set_option maxRecDepth 100000 in
theorem inv_ok_0 : ∀ q ∈ pInvT_0, invP q := List.forall_mem_cons.mpr ⟨⟨rfl, by decide, fun h => absurd h (by decide), fun _ => List.mem_of_getElem? (i := 2) rfl, rfl⟩, List.forall_mem_cons.mpr ⟨⟨rfl, by decide, fun _ => (gwc_3 (i := 28) rfl rfl), fun h => absurd h (by decide), rfl⟩, List.forall_mem_cons.mpr ⟨⟨rfl, by decide, fun _ => (gwc_5 (i := 162) rfl rfl), fun h => absurd h (by decide), rfl⟩, List.forall_mem_cons.mpr ⟨⟨rfl, by decide, fun _ => (gwc_5 (i := 7) rfl rfl), fun h => absurd h (by decide), rfl⟩, List.forall_mem_cons.mpr ⟨⟨rfl, by decide, fun _ => (gwc_5 (i := 11) rfl rfl), fun h => absurd h (by decide), rfl⟩, List.forall_mem_cons.mpr ⟨⟨rfl, by decide, fun _ => (gwc_5 (i := 24) rfl rfl), fun h => absurd h (by decide), rfl⟩, List.forall_mem_cons.mpr ⟨⟨rfl, by decide, fun _ => (gwc_5 (i := 15) rfl rfl), fun h => absurd h (by decide), rfl⟩, List.forall_mem_cons.mpr ⟨⟨rfl, by decide, fun _ => (gwc_5 (i := 23) rfl rfl), fun h => absurd h (by decide), rfl⟩, List.forall_mem_cons.mpr ⟨⟨rfl, by decide, fun _ => (gwc_5 (i := 19) rfl rfl), fun h => absurd h (by decide), rfl⟩, List.forall_mem_cons.mpr ⟨⟨rfl, by decide, fun _ => (gwc_5 (i := 28) rfl rfl), fun h => absurd h (by decide), rfl⟩, List.forall_mem_cons.mpr ⟨⟨rfl, by decide, fun h => absurd h (by decide), fun _ => List.mem_of_getElem? (i := 12) rfl, rfl⟩, List.forall_mem_cons.mpr ⟨⟨rfl, by decide, fun _ => (gwc_4 (i := 166) rfl rfl), fun h => absurd h (by decide), rfl⟩, List.forall_mem_cons.mpr ⟨⟨rfl, by decide, fun _ => (gwc_4 (i := 179) rfl rfl), fun h => absurd h (by decide), rfl⟩, List.forall_mem_cons.mpr ⟨⟨rfl, by decide, fun h => absurd h (by decide), fun _ => List.mem_of_getElem? (i := 11) rfl, rfl⟩, List.forall_mem_cons.mpr ⟨⟨rfl, by decide, fun h => absurd h (by decide), fun _ => List.mem_of_getElem? (i := 8) rfl, rfl⟩, List.forall_mem_cons.mpr ⟨⟨rfl, by decide, fun h => absurd h (by decide), fun _ => List.mem_of_getElem? (i := 9) rfl, rfl⟩, List.forall_mem_cons.mpr ⟨⟨rfl, by decide, fun h => absurd h (by decide), fun _ => List.mem_of_getElem? (i := 10) rfl, rfl⟩, List.forall_mem_cons.mpr ⟨⟨rfl, by decide, fun _ => (gwc_4 (i := 175) rfl rfl), fun h => absurd h (by decide), rfl⟩, List.forall_mem_cons.mpr ⟨⟨rfl, by decide, fun _ => (gwc_4 (i := 162) rfl rfl), fun h => absurd h (by decide), rfl⟩, List.forall_mem_cons.mpr ⟨⟨rfl, by decide, fun _ => (gwc_5 (i := 47) rfl rfl), fun h => absurd h (by decide), rfl⟩, fun _ h => absurd h List.not_mem_nil⟩⟩⟩⟩⟩⟩⟩⟩⟩⟩⟩⟩⟩⟩⟩⟩⟩⟩⟩⟩
set_option maxRecDepth 100000 in
theorem inv_ok_1 : ∀ q ∈ pInvT_1, invP q := List.forall_mem_cons.mpr ⟨⟨rfl, by decide, fun _ => (gwc_5 (i := 48) rfl rfl), fun h => absurd h (by decide), rfl⟩, List.forall_mem_cons.mpr ⟨⟨rfl, by decide, fun _ => (gwc_5 (i := 56) rfl rfl), fun h => absurd h (by decide), rfl⟩, List.forall_mem_cons.mpr ⟨⟨rfl, by decide, fun _ => (gwc_5 (i := 52) rfl rfl), fun h => absurd h (by decide), rfl⟩, List.forall_mem_cons.mpr ⟨⟨rfl, by decide, fun _ => (gwc_3 (i := 203) rfl rfl), fun h => absurd h (by decide), rfl⟩, List.forall_mem_cons.mpr ⟨⟨rfl, by decide, fun _ => (gwc_3 (i := 204) rfl rfl), fun h => absurd h (by decide), rfl⟩, List.forall_mem_cons.mpr ⟨⟨rfl, by decide, fun _ => (gwc_3 (i := 208) rfl rfl), fun h => absurd h (by decide), rfl⟩, List.forall_mem_cons.mpr ⟨⟨rfl, by decide, fun _ => (gwc_4 (i := 60) rfl rfl), fun h => absurd h (by decide), rfl⟩, List.forall_mem_cons.mpr ⟨⟨rfl, by decide, fun _ => (gwc_3 (i := 212) rfl rfl), fun h => absurd h (by decide), rfl⟩, List.forall_mem_cons.mpr ⟨⟨rfl, by decide, fun _ => (gwc_3 (i := 215) rfl rfl), fun h => absurd h (by decide), rfl⟩, List.forall_mem_cons.mpr ⟨⟨rfl, by decide, fun _ => (gwc_3 (i := 219) rfl rfl), fun h => absurd h (by decide), rfl⟩, List.forall_mem_cons.mpr ⟨⟨rfl, by decide, fun _ => (gwc_3 (i := 227) rfl rfl), fun h => absurd h (by decide), rfl⟩, List.forall_mem_cons.mpr ⟨⟨rfl, by decide, fun _ => (gwc_3 (i := 231) rfl rfl), fun h => absurd h (by decide), rfl⟩, List.forall_mem_cons.mpr ⟨⟨rfl, by decide, fun _ => (gwc_4 (i := 42) rfl rfl), fun h => absurd h (by decide), rfl⟩, List.forall_mem_cons.mpr ⟨⟨rfl, by decide, fun _ => (gwc_4 (i := 50) rfl rfl), fun h => absurd h (by decide), rfl⟩, List.forall_mem_cons.mpr ⟨⟨rfl, by decide, fun _ => (gwc_4 (i := 54) rfl rfl), fun h => absurd h (by decide), rfl⟩, List.forall_mem_cons.mpr ⟨⟨rfl, by decide, fun _ => (gwc_4 (i := 55) rfl rfl), fun h => absurd h (by decide), rfl⟩, List.forall_mem_cons.mpr ⟨⟨rfl, by decide, fun _ => (gwc_3 (i := 223) rfl rfl), fun h => absurd h (by decide), rfl⟩, List.forall_mem_cons.mpr ⟨⟨rfl, by decide, fun _ => (gwc_3 (i := 235) rfl rfl), fun h => absurd h (by decide), rfl⟩, List.forall_mem_cons.mpr ⟨⟨rfl, by decide, fun _ => (gwc_3 (i := 236) rfl rfl), fun h => absurd h (by decide), rfl⟩, List.forall_mem_cons.mpr ⟨⟨rfl, by decide, fun _ => (gwc_4 (i := 33) rfl rfl), fun h => absurd h (by decide), rfl⟩, fun _ h => absurd h List.not_mem_nil⟩⟩⟩⟩⟩⟩⟩⟩⟩⟩⟩⟩⟩⟩⟩⟩⟩⟩⟩⟩
set_option maxRecDepth 100000 in
theorem inv_ok_2 : ∀ q ∈ pInvT_2, invP q := List.forall_mem_cons.mpr ⟨⟨rfl, by decide, fun _ => (gwc_4 (i := 16) rfl rfl), fun h => absurd h (by decide), rfl⟩, List.forall_mem_cons.mpr ⟨⟨rfl, by decide, fun _ => (gwc_4 (i := 38) rfl rfl), fun h => absurd h (by decide), rfl⟩, List.forall_mem_cons.mpr ⟨⟨rfl, by decide, fun _ => (gwc_4 (i := 0) rfl rfl), fun h => absurd h (by decide), rfl⟩, List.forall_mem_cons.mpr ⟨⟨rfl, by decide, fun _ => (gwc_4 (i := 18) rfl rfl), fun h => absurd h (by decide), rfl⟩, List.forall_mem_cons.mpr ⟨⟨rfl, by decide, fun _ => (gwc_4 (i := 28) rfl rfl), fun h => absurd h (by decide), rfl⟩, List.forall_mem_cons.mpr ⟨⟨rfl, by decide, fun _ => (gwc_4 (i := 4) rfl rfl), fun h => absurd h (by decide), rfl⟩, List.forall_mem_cons.mpr ⟨⟨rfl, by decide, fun _ => (gwc_4 (i := 12) rfl rfl), fun h => absurd h (by decide), rfl⟩, List.forall_mem_cons.mpr ⟨⟨rfl, by decide, fun _ => (gwc_4 (i := 17) rfl rfl), fun h => absurd h (by decide), rfl⟩, List.forall_mem_cons.mpr ⟨⟨rfl, by decide, fun _ => (gwc_4 (i := 8) rfl rfl), fun h => absurd h (by decide), rfl⟩, List.forall_mem_cons.mpr ⟨⟨rfl, by decide, fun _ => (gwc_4 (i := 22) rfl rfl), fun h => absurd h (by decide), rfl⟩, List.forall_mem_cons.mpr ⟨⟨rfl, by decide, fun _ => (gwc_4 (i := 25) rfl rfl), fun h => absurd h (by decide), rfl⟩, List.forall_mem_cons.mpr ⟨⟨rfl, by decide, fun h => absurd h (by decide), fun _ => List.mem_of_getElem? (i := 3) rfl, rfl⟩, List.forall_mem_cons.mpr ⟨⟨rfl, by decide, fun _ => (gwc_4 (i := 231) rfl rfl), fun h => absurd h (by decide), rfl⟩, List.forall_mem_cons.mpr ⟨⟨rfl, by decide, fun _ => (gwc_4 (i := 37) rfl rfl), fun h => absurd h (by decide), rfl⟩, List.forall_mem_cons.mpr ⟨⟨rfl, by decide, fun _ => (gwc_4 (i := 183) rfl rfl), fun h => absurd h (by decide), rfl⟩, List.forall_mem_cons.mpr ⟨⟨rfl, by decide, fun _ => (gwc_4 (i := 188) rfl rfl), fun h => absurd h (by decide), rfl⟩, List.forall_mem_cons.mpr ⟨⟨rfl, by decide, fun _ => (gwc_5 (i := 119) rfl rfl), fun h => absurd h (by decide), rfl⟩, List.forall_mem_cons.mpr ⟨⟨rfl, by decide, fun _ => (gwc_5 (i := 129) rfl rfl), fun h => absurd h (by decide), rfl⟩, List.forall_mem_cons.mpr ⟨⟨rfl, by decide, fun _ => (gwc_5 (i := 133) rfl rfl), fun h => absurd h (by decide), rfl⟩, List.forall_mem_cons.mpr ⟨⟨rfl, by decide, fun _ => (gwc_5 (i := 137) rfl rfl), fun h => absurd h (by decide), rfl⟩, fun _ h => absurd h List.not_mem_nil⟩⟩⟩⟩⟩⟩⟩⟩⟩⟩⟩⟩⟩⟩⟩⟩⟩⟩⟩⟩
set_option maxRecDepth 100000 in
theorem inv_ok_3 : ∀ q ∈ pInvT_3, invP q := List.forall_mem_cons.mpr ⟨⟨rfl, by decide, fun _ => (gwc_5 (i := 123) rfl rfl), fun h => absurd h (by decide), rfl⟩, List.forall_mem_cons.mpr ⟨⟨rfl, by decide, fun _ => (gwc_5 (i := 124) rfl rfl), fun h => absurd h (by decide), rfl⟩, List.forall_mem_cons.mpr ⟨⟨rfl, by decide, fun h => absurd h (by decide), fun _ => List.mem_of_getElem? (i := 13) rfl, rfl⟩, List.forall_mem_cons.mpr ⟨⟨rfl, by decide, fun _ => (gwc_5 (i := 127) rfl rfl), fun h => absurd h (by decide), rfl⟩, List.forall_mem_cons.mpr ⟨⟨rfl, by decide, fun _ => (gwc_5 (i := 167) rfl rfl), fun h => absurd h (by decide), rfl⟩, List.forall_mem_cons.mpr ⟨⟨rfl, by decide, fun _ => (gwc_5 (i := 168) rfl rfl), fun h => absurd h (by decide), rfl⟩, List.forall_mem_cons.mpr ⟨⟨rfl, by decide, fun _ => (gwc_5 (i := 169) rfl rfl), fun h => absurd h (by decide), rfl⟩, List.forall_mem_cons.mpr ⟨⟨rfl, by decide, fun _ => (gwc_5 (i := 173) rfl rfl), fun h => absurd h (by decide), rfl⟩, List.forall_mem_cons.mpr ⟨⟨rfl, by decide, fun _ => (gwc_5 (i := 177) rfl rfl), fun h => absurd h (by decide), rfl⟩, List.forall_mem_cons.mpr ⟨⟨rfl, by decide, fun _ => (gwc_5 (i := 186) rfl rfl), fun h => absurd h (by decide), rfl⟩, List.forall_mem_cons.mpr ⟨⟨rfl, by decide, fun _ => (gwc_5 (i := 187) rfl rfl), fun h => absurd h (by decide), rfl⟩, List.forall_mem_cons.mpr ⟨⟨rfl, by decide, fun _ => (gwc_5 (i := 188) rfl rfl), fun h => absurd h (by decide), rfl⟩, List.forall_mem_cons.mpr ⟨⟨rfl, by decide, fun _ => (gwc_5 (i := 193) rfl rfl), fun h => absurd h (by decide), rfl⟩, List.forall_mem_cons.mpr ⟨⟨rfl, by decide, fun _ => (gwc_3 (i := 32) rfl rfl), fun h => absurd h (by decide), rfl⟩, List.forall_mem_cons.mpr ⟨⟨rfl, by decide, fun _ => (gwc_4 (i := 68) rfl rfl), fun h => absurd h (by decide), rfl⟩, List.forall_mem_cons.mpr ⟨⟨rfl, by decide, fun _ => (gwc_4 (i := 69) rfl rfl), fun h => absurd h (by decide), rfl⟩, List.forall_mem_cons.mpr ⟨⟨rfl, by decide, fun _ => (gwc_4 (i := 126) rfl rfl), fun h => absurd h (by decide), rfl⟩, List.forall_mem_cons.mpr ⟨⟨rfl, by decide, fun _ => (gwc_4 (i := 138) rfl rfl), fun h => absurd h (by decide), rfl⟩, List.forall_mem_cons.mpr ⟨⟨rfl, by decide, fun _ => (gwc_4 (i := 73) rfl rfl), fun h => absurd h (by decide), rfl⟩, List.forall_mem_cons.mpr ⟨⟨rfl, by decide, fun _ => (gwc_4 (i := 94) rfl rfl), fun h => absurd h (by decide), rfl⟩, fun _ h => absurd h List.not_mem_nil⟩⟩⟩⟩⟩⟩⟩⟩⟩⟩⟩⟩⟩⟩⟩⟩⟩⟩⟩⟩
set_option maxRecDepth 100000 in
theorem inv_ok_4 : ∀ q ∈ pInvT_4, invP q := List.forall_mem_cons.mpr ⟨⟨rfl, by decide, fun _ => (gwc_4 (i := 98) rfl rfl), fun h => absurd h (by decide), rfl⟩, List.forall_mem_cons.mpr ⟨⟨rfl, by decide, fun _ => (gwc_4 (i := 106) rfl rfl), fun h => absurd h (by decide), rfl⟩, List.forall_mem_cons.mpr ⟨⟨rfl, by decide, fun _ => (gwc_4 (i := 110) rfl rfl), fun h => absurd h (by decide), rfl⟩, List.forall_mem_cons.mpr ⟨⟨rfl, by decide, fun _ => (gwc_4 (i := 118) rfl rfl), fun h => absurd h (by decide), rfl⟩, List.forall_mem_cons.mpr ⟨⟨rfl, by decide, fun _ => (gwc_4 (i := 90) rfl rfl), fun h => absurd h (by decide), rfl⟩, List.forall_mem_cons.mpr ⟨⟨rfl, by decide, fun _ => (gwc_4 (i := 122) rfl rfl), fun h => absurd h (by decide), rfl⟩, List.forall_mem_cons.mpr ⟨⟨rfl, by decide, fun _ => (gwc_4 (i := 77) rfl rfl), fun h => absurd h (by decide), rfl⟩, List.forall_mem_cons.mpr ⟨⟨rfl, by decide, fun _ => (gwc_4 (i := 102) rfl rfl), fun h => absurd h (by decide), rfl⟩, List.forall_mem_cons.mpr ⟨⟨rfl, by decide, fun _ => (gwc_4 (i := 114) rfl rfl), fun h => absurd h (by decide), rfl⟩, List.forall_mem_cons.mpr ⟨⟨rfl, by decide, fun _ => (gwc_4 (i := 86) rfl rfl), fun h => absurd h (by decide), rfl⟩, List.forall_mem_cons.mpr ⟨⟨rfl, by decide, fun _ => (gwc_4 (i := 81) rfl rfl), fun h => absurd h (by decide), rfl⟩, List.forall_mem_cons.mpr ⟨⟨rfl, by decide, fun _ => (gwc_4 (i := 82) rfl rfl), fun h => absurd h (by decide), rfl⟩, List.forall_mem_cons.mpr ⟨⟨rfl, by decide, fun h => absurd h (by decide), fun _ => List.mem_of_getElem? (i := 0) rfl, rfl⟩, List.forall_mem_cons.mpr ⟨⟨rfl, by decide, fun _ => (gwc_1 (i := 191) rfl rfl), fun h => absurd h (by decide), rfl⟩, List.forall_mem_cons.mpr ⟨⟨rfl, by decide, fun _ => (gwc_1 (i := 195) rfl rfl), fun h => absurd h (by decide), rfl⟩, List.forall_mem_cons.mpr ⟨⟨rfl, by decide, fun _ => (gwc_1 (i := 198) rfl rfl), fun h => absurd h (by decide), rfl⟩, List.forall_mem_cons.mpr ⟨⟨rfl, by decide, fun _ => (gwc_1 (i := 202) rfl rfl), fun h => absurd h (by decide), rfl⟩, List.forall_mem_cons.mpr ⟨⟨rfl, by decide, fun _ => (gwc_1 (i := 206) rfl rfl), fun h => absurd h (by decide), rfl⟩, List.forall_mem_cons.mpr ⟨⟨rfl, by decide, fun _ => (gwc_4 (i := 130) rfl rfl), fun h => absurd h (by decide), rfl⟩, List.forall_mem_cons.mpr ⟨⟨rfl, by decide, fun _ => (gwc_1 (i := 38) rfl rfl), fun h => absurd h (by decide), rfl⟩, fun _ h => absurd h List.not_mem_nil⟩⟩⟩⟩⟩⟩⟩⟩⟩⟩⟩⟩⟩⟩⟩⟩⟩⟩⟩⟩
set_option maxRecDepth 100000 in
theorem inv_ok_5 : ∀ q ∈ pInvT_5, invP q := List.forall_mem_cons.mpr ⟨⟨rfl, by decide, fun _ => (gwc_1 (i := 48) rfl rfl), fun h => absurd h (by decide), rfl⟩, List.forall_mem_cons.mpr ⟨⟨rfl, by decide, fun _ => (gwc_3 (i := 113) rfl rfl), fun h => absurd h (by decide), rfl⟩, List.forall_mem_cons.mpr ⟨⟨rfl, by decide, fun _ => (gwc_3 (i := 116) rfl rfl), fun h => absurd h (by decide), rfl⟩, List.forall_mem_cons.mpr ⟨⟨rfl, by decide, fun _ => (gwc_3 (i := 125) rfl rfl), fun h => absurd h (by decide), rfl⟩, List.forall_mem_cons.mpr ⟨⟨rfl, by decide, fun _ => (gwc_3 (i := 119) rfl rfl), fun h => absurd h (by decide), rfl⟩, List.forall_mem_cons.mpr ⟨⟨rfl, by decide, fun _ => (gwc_3 (i := 122) rfl rfl), fun h => absurd h (by decide), rfl⟩, List.forall_mem_cons.mpr ⟨⟨rfl, by decide, fun _ => (gwc_3 (i := 129) rfl rfl), fun h => absurd h (by decide), rfl⟩, List.forall_mem_cons.mpr ⟨⟨rfl, by decide, fun _ => (gwc_3 (i := 134) rfl rfl), fun h => absurd h (by decide), rfl⟩, List.forall_mem_cons.mpr ⟨⟨rfl, by decide, fun _ => (gwc_3 (i := 139) rfl rfl), fun h => absurd h (by decide), rfl⟩, List.forall_mem_cons.mpr ⟨⟨rfl, by decide, fun _ => (gwc_1 (i := 33) rfl rfl), fun h => absurd h (by decide), rfl⟩, List.forall_mem_cons.mpr ⟨⟨rfl, by decide, fun _ => (gwc_1 (i := 112) rfl rfl), fun h => absurd h (by decide), rfl⟩, List.forall_mem_cons.mpr ⟨⟨rfl, by decide, fun _ => (gwc_1 (i := 140) rfl rfl), fun h => absurd h (by decide), rfl⟩, List.forall_mem_cons.mpr ⟨⟨rfl, by decide, fun _ => (gwc_1 (i := 171) rfl rfl), fun h => absurd h (by decide), rfl⟩, List.forall_mem_cons.mpr ⟨⟨rfl, by decide, fun h => absurd h (by decide), fun _ => List.mem_of_getElem? (i := 1) rfl, rfl⟩, List.forall_mem_cons.mpr ⟨⟨rfl, by decide, fun _ => (gwc_2 (i := 174) rfl rfl), fun h => absurd h (by decide), rfl⟩, List.forall_mem_cons.mpr ⟨⟨rfl, by decide, fun h => absurd h (by decide), fun _ => List.mem_of_getElem? (i := 4) rfl, rfl⟩, List.forall_mem_cons.mpr ⟨⟨rfl, by decide, fun h => absurd h (by decide), fun _ => List.mem_of_getElem? (i := 5) rfl, rfl⟩, List.forall_mem_cons.mpr ⟨⟨rfl, by decide, fun h => absurd h (by decide), fun _ => List.mem_of_getElem? (i := 6) rfl, rfl⟩, List.forall_mem_cons.mpr ⟨⟨rfl, by decide, fun h => absurd h (by decide), fun _ => List.mem_of_getElem? (i := 7) rfl, rfl⟩, List.forall_mem_cons.mpr ⟨⟨rfl, by decide, fun _ => (gwc_3 (i := 20) rfl rfl), fun h => absurd h (by decide), rfl⟩, fun _ h => absurd h List.not_mem_nil⟩⟩⟩⟩⟩⟩⟩⟩⟩⟩⟩⟩⟩⟩⟩⟩⟩⟩⟩⟩
set_option maxRecDepth 100000 in
theorem inv_ok_6 : ∀ q ∈ pInvT_6, invP q := List.forall_mem_cons.mpr ⟨⟨rfl, by decide, fun _ => (gwc_3 (i := 97) rfl rfl), fun h => absurd h (by decide), rfl⟩, List.forall_mem_cons.mpr ⟨⟨rfl, by decide, fun _ => (gwc_3 (i := 109) rfl rfl), fun h => absurd h (by decide), rfl⟩, List.forall_mem_cons.mpr ⟨⟨rfl, by decide, fun _ => (gwc_3 (i := 198) rfl rfl), fun h => absurd h (by decide), rfl⟩, List.forall_mem_cons.mpr ⟨⟨rfl, by decide, fun _ => (gwc_3 (i := 199) rfl rfl), fun h => absurd h (by decide), rfl⟩, List.forall_mem_cons.mpr ⟨⟨rfl, by decide, fun _ => (gwc_4 (i := 56) rfl rfl), fun h => absurd h (by decide), rfl⟩, List.forall_mem_cons.mpr ⟨⟨rfl, by decide, fun _ => (gwc_4 (i := 64) rfl rfl), fun h => absurd h (by decide), rfl⟩, List.forall_mem_cons.mpr ⟨⟨rfl, by decide, fun _ => (gwc_4 (i := 134) rfl rfl), fun h => absurd h (by decide), rfl⟩, List.forall_mem_cons.mpr ⟨⟨rfl, by decide, fun _ => (gwc_4 (i := 147) rfl rfl), fun h => absurd h (by decide), rfl⟩, List.forall_mem_cons.mpr ⟨⟨rfl, by decide, fun _ => (gwc_4 (i := 152) rfl rfl), fun h => absurd h (by decide), rfl⟩, List.forall_mem_cons.mpr ⟨⟨rfl, by decide, fun _ => (gwc_4 (i := 155) rfl rfl), fun h => absurd h (by decide), rfl⟩, List.forall_mem_cons.mpr ⟨⟨rfl, by decide, fun _ => (gwc_4 (i := 158) rfl rfl), fun h => absurd h (by decide), rfl⟩, List.forall_mem_cons.mpr ⟨⟨rfl, by decide, fun _ => (gwc_4 (i := 200) rfl rfl), fun h => absurd h (by decide), rfl⟩, List.forall_mem_cons.mpr ⟨⟨rfl, by decide, fun _ => (gwc_4 (i := 204) rfl rfl), fun h => absurd h (by decide), rfl⟩, List.forall_mem_cons.mpr ⟨⟨rfl, by decide, fun _ => (gwc_4 (i := 208) rfl rfl), fun h => absurd h (by decide), rfl⟩, List.forall_mem_cons.mpr ⟨⟨rfl, by decide, fun _ => (gwc_4 (i := 218) rfl rfl), fun h => absurd h (by decide), rfl⟩, List.forall_mem_cons.mpr ⟨⟨rfl, by decide, fun _ => (gwc_4 (i := 222) rfl rfl), fun h => absurd h (by decide), rfl⟩, List.forall_mem_cons.mpr ⟨⟨rfl, by decide, fun _ => (gwc_4 (i := 227) rfl rfl), fun h => absurd h (by decide), rfl⟩, List.forall_mem_cons.mpr ⟨⟨rfl, by decide, fun _ => (gwc_5 (i := 3) rfl rfl), fun h => absurd h (by decide), rfl⟩, List.forall_mem_cons.mpr ⟨⟨rfl, by decide, fun _ => (gwc_5 (i := 39) rfl rfl), fun h => absurd h (by decide), rfl⟩, List.forall_mem_cons.mpr ⟨⟨rfl, by decide, fun _ => (gwc_5 (i := 43) rfl rfl), fun h => absurd h (by decide), rfl⟩, fun _ h => absurd h List.not_mem_nil⟩⟩⟩⟩⟩⟩⟩⟩⟩⟩⟩⟩⟩⟩⟩⟩⟩⟩⟩⟩
set_option maxRecDepth 100000 in
theorem inv_ok_7 : ∀ q ∈ pInvT_7, invP q := List.forall_mem_cons.mpr ⟨⟨rfl, by decide, fun _ => (gwc_5 (i := 61) rfl rfl), fun h => absurd h (by decide), rfl⟩, List.forall_mem_cons.mpr ⟨⟨rfl, by decide, fun _ => (gwc_5 (i := 69) rfl rfl), fun h => absurd h (by decide), rfl⟩, List.forall_mem_cons.mpr ⟨⟨rfl, by decide, fun _ => (gwc_5 (i := 73) rfl rfl), fun h => absurd h (by decide), rfl⟩, List.forall_mem_cons.mpr ⟨⟨rfl, by decide, fun _ => (gwc_5 (i := 81) rfl rfl), fun h => absurd h (by decide), rfl⟩, List.forall_mem_cons.mpr ⟨⟨rfl, by decide, fun _ => (gwc_5 (i := 89) rfl rfl), fun h => absurd h (by decide), rfl⟩, List.forall_mem_cons.mpr ⟨⟨rfl, by decide, fun _ => (gwc_5 (i := 90) rfl rfl), fun h => absurd h (by decide), rfl⟩, List.forall_mem_cons.mpr ⟨⟨rfl, by decide, fun _ => (gwc_5 (i := 91) rfl rfl), fun h => absurd h (by decide), rfl⟩, List.forall_mem_cons.mpr ⟨⟨rfl, by decide, fun _ => (gwc_5 (i := 96) rfl rfl), fun h => absurd h (by decide), rfl⟩, List.forall_mem_cons.mpr ⟨⟨rfl, by decide, fun _ => (gwc_5 (i := 100) rfl rfl), fun h => absurd h (by decide), rfl⟩, List.forall_mem_cons.mpr ⟨⟨rfl, by decide, fun _ => (gwc_5 (i := 111) rfl rfl), fun h => absurd h (by decide), rfl⟩, List.forall_mem_cons.mpr ⟨⟨rfl, by decide, fun _ => (gwc_5 (i := 115) rfl rfl), fun h => absurd h (by decide), rfl⟩, List.forall_mem_cons.mpr ⟨⟨rfl, by decide, fun _ => (gwc_5 (i := 142) rfl rfl), fun h => absurd h (by decide), rfl⟩, List.forall_mem_cons.mpr ⟨⟨rfl, by decide, fun _ => (gwc_5 (i := 150) rfl rfl), fun h => absurd h (by decide), rfl⟩, List.forall_mem_cons.mpr ⟨⟨rfl, by decide, fun _ => (gwc_5 (i := 158) rfl rfl), fun h => absurd h (by decide), rfl⟩, List.forall_mem_cons.mpr ⟨⟨rfl, by decide, fun _ => (gwc_5 (i := 163) rfl rfl), fun h => absurd h (by decide), rfl⟩, List.forall_mem_cons.mpr ⟨⟨rfl, by decide, fun _ => (gwc_5 (i := 182) rfl rfl), fun h => absurd h (by decide), rfl⟩, List.forall_mem_cons.mpr ⟨⟨rfl, by decide, fun _ => (gwc_5 (i := 189) rfl rfl), fun h => absurd h (by decide), rfl⟩, List.forall_mem_cons.mpr ⟨⟨rfl, by decide, fun _ => (gwc_5 (i := 198) rfl rfl), fun h => absurd h (by decide), rfl⟩, List.forall_mem_cons.mpr ⟨⟨rfl, by decide, fun _ => (gwc_5 (i := 202) rfl rfl), fun h => absurd h (by decide), rfl⟩, List.forall_mem_cons.mpr ⟨⟨rfl, by decide, fun _ => (gwc_5 (i := 218) rfl rfl), fun h => absurd h (by decide), rfl⟩, fun _ h => absurd h List.not_mem_nil⟩⟩⟩⟩⟩⟩⟩⟩⟩⟩⟩⟩⟩⟩⟩⟩⟩⟩⟩⟩
set_option maxRecDepth 100000 in
theorem inv_ok_8 : ∀ q ∈ pInvT_8, invP q := List.forall_mem_cons.mpr ⟨⟨rfl, by decide, fun _ => (gwc_5 (i := 231) rfl rfl), fun h => absurd h (by decide), rfl⟩, List.forall_mem_cons.mpr ⟨⟨rfl, by decide, fun _ => (gwc_5 (i := 235) rfl rfl), fun h => absurd h (by decide), rfl⟩, List.forall_mem_cons.mpr ⟨⟨rfl, by decide, fun _ => (gwc_5 (i := 239) rfl rfl), fun h => absurd h (by decide), rfl⟩, List.forall_mem_cons.mpr ⟨⟨rfl, by decide, fun _ => (gwc_6 (i := 10) rfl rfl), fun h => absurd h (by decide), rfl⟩, List.forall_mem_cons.mpr ⟨⟨rfl, by decide, fun _ => (gwc_6 (i := 22) rfl rfl), fun h => absurd h (by decide), rfl⟩, List.forall_mem_cons.mpr ⟨⟨rfl, by decide, fun _ => (gwc_3 (i := 33) rfl rfl), fun h => absurd h (by decide), rfl⟩, List.forall_mem_cons.mpr ⟨⟨rfl, by decide, fun _ => (gwc_6 (i := 31) rfl rfl), fun h => absurd h (by decide), rfl⟩, List.forall_mem_cons.mpr ⟨⟨rfl, by decide, fun _ => (gwc_3 (i := 24) rfl rfl), fun h => absurd h (by decide), rfl⟩, List.forall_mem_cons.mpr ⟨⟨rfl, by decide, fun _ => (gwc_3 (i := 37) rfl rfl), fun h => absurd h (by decide), rfl⟩, List.forall_mem_cons.mpr ⟨⟨rfl, by decide, fun _ => (gwc_6 (i := 41) rfl rfl), fun h => absurd h (by decide), rfl⟩, List.forall_mem_cons.mpr ⟨⟨rfl, by decide, fun _ => (gwc_6 (i := 45) rfl rfl), fun h => absurd h (by decide), rfl⟩, List.forall_mem_cons.mpr ⟨⟨rfl, by decide, fun _ => (gwc_6 (i := 52) rfl rfl), fun h => absurd h (by decide), rfl⟩, List.forall_mem_cons.mpr ⟨⟨rfl, by decide, fun _ => (gwc_6 (i := 56) rfl rfl), fun h => absurd h (by decide), rfl⟩, List.forall_mem_cons.mpr ⟨⟨rfl, by decide, fun _ => (gwc_7 (i := 49) rfl rfl), fun h => absurd h (by decide), rfl⟩, List.forall_mem_cons.mpr ⟨⟨rfl, by decide, fun _ => (gwc_6 (i := 48) rfl rfl), fun h => absurd h (by decide), rfl⟩, List.forall_mem_cons.mpr ⟨⟨rfl, by decide, fun _ => (gwc_7 (i := 65) rfl rfl), fun h => absurd h (by decide), rfl⟩, List.forall_mem_cons.mpr ⟨⟨rfl, by decide, fun _ => (gwc_7 (i := 69) rfl rfl), fun h => absurd h (by decide), rfl⟩, List.forall_mem_cons.mpr ⟨⟨rfl, by decide, fun _ => (gwc_7 (i := 73) rfl rfl), fun h => absurd h (by decide), rfl⟩, List.forall_mem_cons.mpr ⟨⟨rfl, by decide, fun _ => (gwc_7 (i := 76) rfl rfl), fun h => absurd h (by decide), rfl⟩, List.forall_mem_cons.mpr ⟨⟨rfl, by decide, fun _ => (gwc_7 (i := 79) rfl rfl), fun h => absurd h (by decide), rfl⟩, fun _ h => absurd h List.not_mem_nil⟩⟩⟩⟩⟩⟩⟩⟩⟩⟩⟩⟩⟩⟩⟩⟩⟩⟩⟩⟩
set_option maxRecDepth 100000 in
theorem inv_ok_9 : ∀ q ∈ pInvT_9, invP q := List.forall_mem_cons.mpr ⟨⟨rfl, by decide, fun _ => (gwc_7 (i := 95) rfl rfl), fun h => absurd h (by decide), rfl⟩, List.forall_mem_cons.mpr ⟨⟨rfl, by decide, fun _ => (gwc_7 (i := 83) rfl rfl), fun h => absurd h (by decide), rfl⟩, List.forall_mem_cons.mpr ⟨⟨rfl, by decide, fun _ => (gwc_7 (i := 99) rfl rfl), fun h => absurd h (by decide), rfl⟩, List.forall_mem_cons.mpr ⟨⟨rfl, by decide, fun _ => (gwc_7 (i := 61) rfl rfl), fun h => absurd h (by decide), rfl⟩, List.forall_mem_cons.mpr ⟨⟨rfl, by decide, fun _ => (gwc_7 (i := 87) rfl rfl), fun h => absurd h (by decide), rfl⟩, List.forall_mem_cons.mpr ⟨⟨rfl, by decide, fun _ => (gwc_7 (i := 91) rfl rfl), fun h => absurd h (by decide), rfl⟩, List.forall_mem_cons.mpr ⟨⟨rfl, by decide, fun _ => (gwc_7 (i := 103) rfl rfl), fun h => absurd h (by decide), rfl⟩, List.forall_mem_cons.mpr ⟨⟨rfl, by decide, fun _ => (gwc_7 (i := 127) rfl rfl), fun h => absurd h (by decide), rfl⟩, List.forall_mem_cons.mpr ⟨⟨rfl, by decide, fun _ => (gwc_7 (i := 131) rfl rfl), fun h => absurd h (by decide), rfl⟩, List.forall_mem_cons.mpr ⟨⟨rfl, by decide, fun _ => (gwc_7 (i := 119) rfl rfl), fun h => absurd h (by decide), rfl⟩, List.forall_mem_cons.mpr ⟨⟨rfl, by decide, fun _ => (gwc_7 (i := 111) rfl rfl), fun h => absurd h (by decide), rfl⟩, List.forall_mem_cons.mpr ⟨⟨rfl, by decide, fun _ => (gwc_7 (i := 135) rfl rfl), fun h => absurd h (by decide), rfl⟩, List.forall_mem_cons.mpr ⟨⟨rfl, by decide, fun _ => (gwc_7 (i := 139) rfl rfl), fun h => absurd h (by decide), rfl⟩, List.forall_mem_cons.mpr ⟨⟨rfl, by decide, fun _ => (gwc_7 (i := 143) rfl rfl), fun h => absurd h (by decide), rfl⟩, List.forall_mem_cons.mpr ⟨⟨rfl, by decide, fun _ => (gwc_7 (i := 147) rfl rfl), fun h => absurd h (by decide), rfl⟩, List.forall_mem_cons.mpr ⟨⟨rfl, by decide, fun _ => (gwc_7 (i := 115) rfl rfl), fun h => absurd h (by decide), rfl⟩, List.forall_mem_cons.mpr ⟨⟨rfl, by decide, fun _ => (gwc_7 (i := 107) rfl rfl), fun h => absurd h (by decide), rfl⟩, List.forall_mem_cons.mpr ⟨⟨rfl, by decide, fun _ => (gwc_7 (i := 123) rfl rfl), fun h => absurd h (by decide), rfl⟩, List.forall_mem_cons.mpr ⟨⟨rfl, by decide, fun _ => (gwc_7 (i := 151) rfl rfl), fun h => absurd h (by decide), rfl⟩, List.forall_mem_cons.mpr ⟨⟨rfl, by decide, fun _ => (gwc_7 (i := 167) rfl rfl), fun h => absurd h (by decide), rfl⟩, fun _ h => absurd h List.not_mem_nil⟩⟩⟩⟩⟩⟩⟩⟩⟩⟩⟩⟩⟩⟩⟩⟩⟩⟩⟩⟩
set_option maxRecDepth 100000 in
theorem inv_ok_10 : ∀ q ∈ pInvT_10, invP q := List.forall_mem_cons.mpr ⟨⟨rfl, by decide, fun _ => (gwc_7 (i := 159) rfl rfl), fun h => absurd h (by decide), rfl⟩, List.forall_mem_cons.mpr ⟨⟨rfl, by decide, fun _ => (gwc_7 (i := 155) rfl rfl), fun h => absurd h (by decide), rfl⟩, List.forall_mem_cons.mpr ⟨⟨rfl, by decide, fun _ => (gwc_7 (i := 163) rfl rfl), fun h => absurd h (by decide), rfl⟩, List.forall_mem_cons.mpr ⟨⟨rfl, by decide, fun _ => (gwc_7 (i := 183) rfl rfl), fun h => absurd h (by decide), rfl⟩, List.forall_mem_cons.mpr ⟨⟨rfl, by decide, fun _ => (gwc_8 (i := 38) rfl rfl), fun h => absurd h (by decide), rfl⟩, List.forall_mem_cons.mpr ⟨⟨rfl, by decide, fun _ => (gwc_7 (i := 238) rfl rfl), fun h => absurd h (by decide), rfl⟩, List.forall_mem_cons.mpr ⟨⟨rfl, by decide, fun _ => (gwc_7 (i := 207) rfl rfl), fun h => absurd h (by decide), rfl⟩, List.forall_mem_cons.mpr ⟨⟨rfl, by decide, fun _ => (gwc_7 (i := 215) rfl rfl), fun h => absurd h (by decide), rfl⟩, List.forall_mem_cons.mpr ⟨⟨rfl, by decide, fun _ => (gwc_7 (i := 203) rfl rfl), fun h => absurd h (by decide), rfl⟩, List.forall_mem_cons.mpr ⟨⟨rfl, by decide, fun _ => (gwc_7 (i := 211) rfl rfl), fun h => absurd h (by decide), rfl⟩, List.forall_mem_cons.mpr ⟨⟨rfl, by decide, fun _ => (gwc_7 (i := 199) rfl rfl), fun h => absurd h (by decide), rfl⟩, List.forall_mem_cons.mpr ⟨⟨rfl, by decide, fun _ => (gwc_7 (i := 195) rfl rfl), fun h => absurd h (by decide), rfl⟩, List.forall_mem_cons.mpr ⟨⟨rfl, by decide, fun _ => (gwc_8 (i := 30) rfl rfl), fun h => absurd h (by decide), rfl⟩, List.forall_mem_cons.mpr ⟨⟨rfl, by decide, fun _ => (gwc_7 (i := 234) rfl rfl), fun h => absurd h (by decide), rfl⟩, List.forall_mem_cons.mpr ⟨⟨rfl, by decide, fun _ => (gwc_8 (i := 34) rfl rfl), fun h => absurd h (by decide), rfl⟩, List.forall_mem_cons.mpr ⟨⟨rfl, by decide, fun _ => (gwc_8 (i := 42) rfl rfl), fun h => absurd h (by decide), rfl⟩, List.forall_mem_cons.mpr ⟨⟨rfl, by decide, fun _ => (gwc_8 (i := 46) rfl rfl), fun h => absurd h (by decide), rfl⟩, List.forall_mem_cons.mpr ⟨⟨rfl, by decide, fun _ => (gwc_8 (i := 26) rfl rfl), fun h => absurd h (by decide), rfl⟩, List.forall_mem_cons.mpr ⟨⟨rfl, by decide, fun _ => (gwc_7 (i := 191) rfl rfl), fun h => absurd h (by decide), rfl⟩, List.forall_mem_cons.mpr ⟨⟨rfl, by decide, fun _ => (gwc_8 (i := 66) rfl rfl), fun h => absurd h (by decide), rfl⟩, fun _ h => absurd h List.not_mem_nil⟩⟩⟩⟩⟩⟩⟩⟩⟩⟩⟩⟩⟩⟩⟩⟩⟩⟩⟩⟩
set_option maxRecDepth 100000 in
theorem inv_ok_11 : ∀ q ∈ pInvT_11, invP q := List.forall_mem_cons.mpr ⟨⟨rfl, by decide, fun _ => (gwc_8 (i := 62) rfl rfl), fun h => absurd h (by decide), rfl⟩, List.forall_mem_cons.mpr ⟨⟨rfl, by decide, fun _ => (gwc_7 (i := 179) rfl rfl), fun h => absurd h (by decide), rfl⟩, List.forall_mem_cons.mpr ⟨⟨rfl, by decide, fun _ => (gwc_7 (i := 187) rfl rfl), fun h => absurd h (by decide), rfl⟩, List.forall_mem_cons.mpr ⟨⟨rfl, by decide, fun _ => (gwc_7 (i := 223) rfl rfl), fun h => absurd h (by decide), rfl⟩, List.forall_mem_cons.mpr ⟨⟨rfl, by decide, fun _ => (gwc_7 (i := 227) rfl rfl), fun h => absurd h (by decide), rfl⟩, List.forall_mem_cons.mpr ⟨⟨rfl, by decide, fun _ => (gwc_7 (i := 231) rfl rfl), fun h => absurd h (by decide), rfl⟩, List.forall_mem_cons.mpr ⟨⟨rfl, by decide, fun _ => (gwc_8 (i := 6) rfl rfl), fun h => absurd h (by decide), rfl⟩, List.forall_mem_cons.mpr ⟨⟨rfl, by decide, fun _ => (gwc_8 (i := 14) rfl rfl), fun h => absurd h (by decide), rfl⟩, List.forall_mem_cons.mpr ⟨⟨rfl, by decide, fun _ => (gwc_8 (i := 22) rfl rfl), fun h => absurd h (by decide), rfl⟩, List.forall_mem_cons.mpr ⟨⟨rfl, by decide, fun _ => (gwc_8 (i := 54) rfl rfl), fun h => absurd h (by decide), rfl⟩, List.forall_mem_cons.mpr ⟨⟨rfl, by decide, fun _ => (gwc_8 (i := 58) rfl rfl), fun h => absurd h (by decide), rfl⟩, List.forall_mem_cons.mpr ⟨⟨rfl, by decide, fun _ => (gwc_8 (i := 74) rfl rfl), fun h => absurd h (by decide), rfl⟩, List.forall_mem_cons.mpr ⟨⟨rfl, by decide, fun _ => (gwc_8 (i := 94) rfl rfl), fun h => absurd h (by decide), rfl⟩, List.forall_mem_cons.mpr ⟨⟨rfl, by decide, fun _ => (gwc_8 (i := 98) rfl rfl), fun h => absurd h (by decide), rfl⟩, List.forall_mem_cons.mpr ⟨⟨rfl, by decide, fun _ => (gwc_8 (i := 122) rfl rfl), fun h => absurd h (by decide), rfl⟩, List.forall_mem_cons.mpr ⟨⟨rfl, by decide, fun _ => (gwc_8 (i := 129) rfl rfl), fun h => absurd h (by decide), rfl⟩, List.forall_mem_cons.mpr ⟨⟨rfl, by decide, fun _ => (gwc_8 (i := 117) rfl rfl), fun h => absurd h (by decide), rfl⟩, List.forall_mem_cons.mpr ⟨⟨rfl, by decide, fun _ => (gwc_8 (i := 125) rfl rfl), fun h => absurd h (by decide), rfl⟩, List.forall_mem_cons.mpr ⟨⟨rfl, by decide, fun _ => (gwc_8 (i := 109) rfl rfl), fun h => absurd h (by decide), rfl⟩, List.forall_mem_cons.mpr ⟨⟨rfl, by decide, fun _ => (gwc_8 (i := 113) rfl rfl), fun h => absurd h (by decide), rfl⟩, fun _ h => absurd h List.not_mem_nil⟩⟩⟩⟩⟩⟩⟩⟩⟩⟩⟩⟩⟩⟩⟩⟩⟩⟩⟩⟩
set_option maxRecDepth 100000 in
theorem inv_ok_12 : ∀ q ∈ pInvT_12, invP q := List.forall_mem_cons.mpr ⟨⟨rfl, by decide, fun _ => (gwc_8 (i := 145) rfl rfl), fun h => absurd h (by decide), rfl⟩, List.forall_mem_cons.mpr ⟨⟨rfl, by decide, fun _ => (gwc_8 (i := 149) rfl rfl), fun h => absurd h (by decide), rfl⟩, List.forall_mem_cons.mpr ⟨⟨rfl, by decide, fun _ => (gwc_8 (i := 141) rfl rfl), fun h => absurd h (by decide), rfl⟩, List.forall_mem_cons.mpr ⟨⟨rfl, by decide, fun _ => (gwc_8 (i := 161) rfl rfl), fun h => absurd h (by decide), rfl⟩, List.forall_mem_cons.mpr ⟨⟨rfl, by decide, fun _ => (gwc_8 (i := 157) rfl rfl), fun h => absurd h (by decide), rfl⟩, List.forall_mem_cons.mpr ⟨⟨rfl, by decide, fun _ => (gwc_8 (i := 193) rfl rfl), fun h => absurd h (by decide), rfl⟩, List.forall_mem_cons.mpr ⟨⟨rfl, by decide, fun _ => (gwc_8 (i := 201) rfl rfl), fun h => absurd h (by decide), rfl⟩, List.forall_mem_cons.mpr ⟨⟨rfl, by decide, fun _ => (gwc_1 (i := 25) rfl rfl), fun h => absurd h (by decide), rfl⟩, List.forall_mem_cons.mpr ⟨⟨rfl, by decide, fun _ => (gwc_6 (i := 37) rfl rfl), fun h => absurd h (by decide), rfl⟩, List.forall_mem_cons.mpr ⟨⟨rfl, by decide, fun _ => (gwc_3 (i := 93) rfl rfl), fun h => absurd h (by decide), rfl⟩, List.forall_mem_cons.mpr ⟨⟨rfl, by decide, fun _ => (gwc_7 (i := 45) rfl rfl), fun h => absurd h (by decide), rfl⟩, List.forall_mem_cons.mpr ⟨⟨rfl, by decide, fun _ => (gwc_3 (i := 101) rfl rfl), fun h => absurd h (by decide), rfl⟩, List.forall_mem_cons.mpr ⟨⟨rfl, by decide, fun _ => (gwc_7 (i := 53) rfl rfl), fun h => absurd h (by decide), rfl⟩, List.forall_mem_cons.mpr ⟨⟨rfl, by decide, fun _ => (gwc_3 (i := 105) rfl rfl), fun h => absurd h (by decide), rfl⟩, List.forall_mem_cons.mpr ⟨⟨rfl, by decide, fun _ => (gwc_7 (i := 57) rfl rfl), fun h => absurd h (by decide), rfl⟩, List.forall_mem_cons.mpr ⟨⟨rfl, by decide, fun _ => (gwc_4 (i := 139) rfl rfl), fun h => absurd h (by decide), rfl⟩, List.forall_mem_cons.mpr ⟨⟨rfl, by decide, fun _ => (gwc_7 (i := 171) rfl rfl), fun h => absurd h (by decide), rfl⟩, List.forall_mem_cons.mpr ⟨⟨rfl, by decide, fun _ => (gwc_4 (i := 143) rfl rfl), fun h => absurd h (by decide), rfl⟩, List.forall_mem_cons.mpr ⟨⟨rfl, by decide, fun _ => (gwc_7 (i := 175) rfl rfl), fun h => absurd h (by decide), rfl⟩, List.forall_mem_cons.mpr ⟨⟨rfl, by decide, fun _ => (gwc_4 (i := 196) rfl rfl), fun h => absurd h (by decide), rfl⟩, fun _ h => absurd h List.not_mem_nil⟩⟩⟩⟩⟩⟩⟩⟩⟩⟩⟩⟩⟩⟩⟩⟩⟩⟩⟩⟩
set_option maxRecDepth 100000 in
theorem inv_ok_13 : ∀ q ∈ pInvT_13, invP q := List.forall_mem_cons.mpr ⟨⟨rfl, by decide, fun _ => (gwc_7 (i := 219) rfl rfl), fun h => absurd h (by decide), rfl⟩, List.forall_mem_cons.mpr ⟨⟨rfl, by decide, fun _ => (gwc_4 (i := 214) rfl rfl), fun h => absurd h (by decide), rfl⟩, List.forall_mem_cons.mpr ⟨⟨rfl, by decide, fun _ => (gwc_8 (i := 2) rfl rfl), fun h => absurd h (by decide), rfl⟩, List.forall_mem_cons.mpr ⟨⟨rfl, by decide, fun _ => (gwc_4 (i := 223) rfl rfl), fun h => absurd h (by decide), rfl⟩, List.forall_mem_cons.mpr ⟨⟨rfl, by decide, fun _ => (gwc_8 (i := 10) rfl rfl), fun h => absurd h (by decide), rfl⟩, List.forall_mem_cons.mpr ⟨⟨rfl, by decide, fun _ => (gwc_4 (i := 239) rfl rfl), fun h => absurd h (by decide), rfl⟩, List.forall_mem_cons.mpr ⟨⟨rfl, by decide, fun _ => (gwc_8 (i := 18) rfl rfl), fun h => absurd h (by decide), rfl⟩, List.forall_mem_cons.mpr ⟨⟨rfl, by decide, fun _ => (gwc_5 (i := 35) rfl rfl), fun h => absurd h (by decide), rfl⟩, List.forall_mem_cons.mpr ⟨⟨rfl, by decide, fun _ => (gwc_8 (i := 50) rfl rfl), fun h => absurd h (by decide), rfl⟩, List.forall_mem_cons.mpr ⟨⟨rfl, by decide, fun _ => (gwc_5 (i := 57) rfl rfl), fun h => absurd h (by decide), rfl⟩, List.forall_mem_cons.mpr ⟨⟨rfl, by decide, fun _ => (gwc_8 (i := 70) rfl rfl), fun h => absurd h (by decide), rfl⟩, List.forall_mem_cons.mpr ⟨⟨rfl, by decide, fun _ => (gwc_5 (i := 65) rfl rfl), fun h => absurd h (by decide), rfl⟩, List.forall_mem_cons.mpr ⟨⟨rfl, by decide, fun _ => (gwc_8 (i := 78) rfl rfl), fun h => absurd h (by decide), rfl⟩, List.forall_mem_cons.mpr ⟨⟨rfl, by decide, fun _ => (gwc_5 (i := 77) rfl rfl), fun h => absurd h (by decide), rfl⟩, List.forall_mem_cons.mpr ⟨⟨rfl, by decide, fun _ => (gwc_8 (i := 82) rfl rfl), fun h => absurd h (by decide), rfl⟩, List.forall_mem_cons.mpr ⟨⟨rfl, by decide, fun _ => (gwc_5 (i := 85) rfl rfl), fun h => absurd h (by decide), rfl⟩, List.forall_mem_cons.mpr ⟨⟨rfl, by decide, fun _ => (gwc_8 (i := 86) rfl rfl), fun h => absurd h (by decide), rfl⟩, List.forall_mem_cons.mpr ⟨⟨rfl, by decide, fun _ => (gwc_5 (i := 92) rfl rfl), fun h => absurd h (by decide), rfl⟩, List.forall_mem_cons.mpr ⟨⟨rfl, by decide, fun _ => (gwc_8 (i := 90) rfl rfl), fun h => absurd h (by decide), rfl⟩, List.forall_mem_cons.mpr ⟨⟨rfl, by decide, fun _ => (gwc_5 (i := 103) rfl rfl), fun h => absurd h (by decide), rfl⟩, fun _ h => absurd h List.not_mem_nil⟩⟩⟩⟩⟩⟩⟩⟩⟩⟩⟩⟩⟩⟩⟩⟩⟩⟩⟩⟩
set_option maxRecDepth 100000 in
theorem inv_ok_14 : ∀ q ∈ pInvT_14, invP q := List.forall_mem_cons.mpr ⟨⟨rfl, by decide, fun _ => (gwc_8 (i := 101) rfl rfl), fun h => absurd h (by decide), rfl⟩, List.forall_mem_cons.mpr ⟨⟨rfl, by decide, fun _ => (gwc_5 (i := 107) rfl rfl), fun h => absurd h (by decide), rfl⟩, List.forall_mem_cons.mpr ⟨⟨rfl, by decide, fun _ => (gwc_8 (i := 105) rfl rfl), fun h => absurd h (by decide), rfl⟩, List.forall_mem_cons.mpr ⟨⟨rfl, by decide, fun _ => (gwc_5 (i := 146) rfl rfl), fun h => absurd h (by decide), rfl⟩, List.forall_mem_cons.mpr ⟨⟨rfl, by decide, fun _ => (gwc_8 (i := 133) rfl rfl), fun h => absurd h (by decide), rfl⟩, List.forall_mem_cons.mpr ⟨⟨rfl, by decide, fun _ => (gwc_5 (i := 154) rfl rfl), fun h => absurd h (by decide), rfl⟩, List.forall_mem_cons.mpr ⟨⟨rfl, by decide, fun _ => (gwc_8 (i := 137) rfl rfl), fun h => absurd h (by decide), rfl⟩, List.forall_mem_cons.mpr ⟨⟨rfl, by decide, fun _ => (gwc_5 (i := 178) rfl rfl), fun h => absurd h (by decide), rfl⟩, List.forall_mem_cons.mpr ⟨⟨rfl, by decide, fun _ => (gwc_8 (i := 153) rfl rfl), fun h => absurd h (by decide), rfl⟩, List.forall_mem_cons.mpr ⟨⟨rfl, by decide, fun _ => (gwc_5 (i := 194) rfl rfl), fun h => absurd h (by decide), rfl⟩, List.forall_mem_cons.mpr ⟨⟨rfl, by decide, fun _ => (gwc_8 (i := 165) rfl rfl), fun h => absurd h (by decide), rfl⟩, List.forall_mem_cons.mpr ⟨⟨rfl, by decide, fun _ => (gwc_5 (i := 206) rfl rfl), fun h => absurd h (by decide), rfl⟩, List.forall_mem_cons.mpr ⟨⟨rfl, by decide, fun _ => (gwc_8 (i := 169) rfl rfl), fun h => absurd h (by decide), rfl⟩, List.forall_mem_cons.mpr ⟨⟨rfl, by decide, fun _ => (gwc_5 (i := 210) rfl rfl), fun h => absurd h (by decide), rfl⟩, List.forall_mem_cons.mpr ⟨⟨rfl, by decide, fun _ => (gwc_8 (i := 173) rfl rfl), fun h => absurd h (by decide), rfl⟩, List.forall_mem_cons.mpr ⟨⟨rfl, by decide, fun _ => (gwc_5 (i := 214) rfl rfl), fun h => absurd h (by decide), rfl⟩, List.forall_mem_cons.mpr ⟨⟨rfl, by decide, fun _ => (gwc_8 (i := 177) rfl rfl), fun h => absurd h (by decide), rfl⟩, List.forall_mem_cons.mpr ⟨⟨rfl, by decide, fun _ => (gwc_5 (i := 219) rfl rfl), fun h => absurd h (by decide), rfl⟩, List.forall_mem_cons.mpr ⟨⟨rfl, by decide, fun _ => (gwc_8 (i := 181) rfl rfl), fun h => absurd h (by decide), rfl⟩, List.forall_mem_cons.mpr ⟨⟨rfl, by decide, fun _ => (gwc_5 (i := 223) rfl rfl), fun h => absurd h (by decide), rfl⟩, fun _ h => absurd h List.not_mem_nil⟩⟩⟩⟩⟩⟩⟩⟩⟩⟩⟩⟩⟩⟩⟩⟩⟩⟩⟩⟩
set_option maxRecDepth 100000 in
theorem inv_ok_15 : ∀ q ∈ pInvT_15, invP q := List.forall_mem_cons.mpr ⟨⟨rfl, by decide, fun _ => (gwc_8 (i := 185) rfl rfl), fun h => absurd h (by decide), rfl⟩, List.forall_mem_cons.mpr ⟨⟨rfl, by decide, fun _ => (gwc_5 (i := 227) rfl rfl), fun h => absurd h (by decide), rfl⟩, List.forall_mem_cons.mpr ⟨⟨rfl, by decide, fun _ => (gwc_8 (i := 189) rfl rfl), fun h => absurd h (by decide), rfl⟩, List.forall_mem_cons.mpr ⟨⟨rfl, by decide, fun _ => (gwc_6 (i := 6) rfl rfl), fun h => absurd h (by decide), rfl⟩, List.forall_mem_cons.mpr ⟨⟨rfl, by decide, fun _ => (gwc_8 (i := 197) rfl rfl), fun h => absurd h (by decide), rfl⟩, List.forall_mem_cons.mpr ⟨⟨rfl, by decide, fun _ => (gwc_6 (i := 14) rfl rfl), fun h => absurd h (by decide), rfl⟩, List.forall_mem_cons.mpr ⟨⟨rfl, by decide, fun _ => (gwc_8 (i := 205) rfl rfl), fun h => absurd h (by decide), rfl⟩, List.forall_mem_cons.mpr ⟨⟨rfl, by decide, fun _ => (gwc_6 (i := 18) rfl rfl), fun h => absurd h (by decide), rfl⟩, List.forall_mem_cons.mpr ⟨⟨rfl, by decide, fun _ => (gwc_8 (i := 209) rfl rfl), fun h => absurd h (by decide), rfl⟩, List.forall_mem_cons.mpr ⟨⟨rfl, by decide, fun _ => (gwc_6 (i := 23) rfl rfl), fun h => absurd h (by decide), rfl⟩, List.forall_mem_cons.mpr ⟨⟨rfl, by decide, fun _ => (gwc_8 (i := 213) rfl rfl), fun h => absurd h (by decide), rfl⟩, List.forall_mem_cons.mpr ⟨⟨rfl, by decide, fun _ => (gwc_6 (i := 27) rfl rfl), fun h => absurd h (by decide), rfl⟩, List.forall_mem_cons.mpr ⟨⟨rfl, by decide, fun _ => (gwc_8 (i := 217) rfl rfl), fun h => absurd h (by decide), rfl⟩, List.forall_mem_cons.mpr ⟨⟨rfl, by decide, fun _ => (gwc_1 (i := 42) rfl rfl), fun h => absurd h (by decide), rfl⟩, List.forall_mem_cons.mpr ⟨⟨rfl, by decide, fun _ => (gwc_1 (i := 52) rfl rfl), fun h => absurd h (by decide), rfl⟩, List.forall_mem_cons.mpr ⟨⟨rfl, by decide, fun _ => (gwc_1 (i := 56) rfl rfl), fun h => absurd h (by decide), rfl⟩, List.forall_mem_cons.mpr ⟨⟨rfl, by decide, fun _ => (gwc_3 (i := 147) rfl rfl), fun h => absurd h (by decide), rfl⟩, List.forall_mem_cons.mpr ⟨⟨rfl, by decide, fun _ => (gwc_3 (i := 143) rfl rfl), fun h => absurd h (by decide), rfl⟩, List.forall_mem_cons.mpr ⟨⟨rfl, by decide, fun _ => (gwc_3 (i := 148) rfl rfl), fun h => absurd h (by decide), rfl⟩, List.forall_mem_cons.mpr ⟨⟨rfl, by decide, fun _ => (gwc_1 (i := 64) rfl rfl), fun h => absurd h (by decide), rfl⟩, fun _ h => absurd h List.not_mem_nil⟩⟩⟩⟩⟩⟩⟩⟩⟩⟩⟩⟩⟩⟩⟩⟩⟩⟩⟩⟩
set_option maxRecDepth 100000 in
theorem inv_ok_16 : ∀ q ∈ pInvT_16, invP q := List.forall_mem_cons.mpr ⟨⟨rfl, by decide, fun _ => (gwc_1 (i := 59) rfl rfl), fun h => absurd h (by decide), rfl⟩, List.forall_mem_cons.mpr ⟨⟨rfl, by decide, fun _ => (gwc_3 (i := 151) rfl rfl), fun h => absurd h (by decide), rfl⟩, List.forall_mem_cons.mpr ⟨⟨rfl, by decide, fun _ => (gwc_3 (i := 160) rfl rfl), fun h => absurd h (by decide), rfl⟩, fun _ h => absurd h List.not_mem_nil⟩⟩⟩
theorem inv_ok : ∀ q ∈ pInvT, invP q := List.forall_mem_append.mpr ⟨inv_ok_0, List.forall_mem_append.mpr ⟨inv_ok_1, List.forall_mem_append.mpr ⟨inv_ok_2, List.forall_mem_append.mpr ⟨inv_ok_3, List.forall_mem_append.mpr ⟨inv_ok_4, List.forall_mem_append.mpr ⟨inv_ok_5, List.forall_mem_append.mpr ⟨inv_ok_6, List.forall_mem_append.mpr ⟨inv_ok_7, List.forall_mem_append.mpr ⟨inv_ok_8, List.forall_mem_append.mpr ⟨inv_ok_9, List.forall_mem_append.mpr ⟨inv_ok_10, List.forall_mem_append.mpr ⟨inv_ok_11, List.forall_mem_append.mpr ⟨inv_ok_12, List.forall_mem_append.mpr ⟨inv_ok_13, List.forall_mem_append.mpr ⟨inv_ok_14, List.forall_mem_append.mpr ⟨inv_ok_15, inv_ok_16⟩⟩⟩⟩⟩⟩⟩⟩⟩⟩⟩⟩⟩⟩⟩⟩
end
section
theorem clsn_0 : clsNP "DreamDuty$Border" := ⟨⟨by decide +kernel, by decide +kernel⟩, by decide +kernel⟩
theorem clsn_1 : clsNP "DreamDuty$Grammar" := ⟨⟨by decide +kernel, by decide +kernel⟩, by decide +kernel⟩
theorem clsn_2 : clsNP "DreamDuty$History" := ⟨⟨by decide +kernel, by decide +kernel⟩, by decide +kernel⟩
theorem clsn_3 : clsNP "DreamDuty$Law" := ⟨⟨by decide +kernel, by decide +kernel⟩, by decide +kernel⟩
theorem clsn_4 : clsNP "DreamDuty$Lodgings" := ⟨⟨by decide +kernel, by decide +kernel⟩, by decide +kernel⟩
theorem clsn_5 : clsNP "DreamDuty$Pairings" := ⟨⟨by decide +kernel, by decide +kernel⟩, by decide +kernel⟩
theorem clsn_6 : clsNP "DreamDuty$Rests" := ⟨⟨by decide +kernel, by decide +kernel⟩, by decide +kernel⟩
theorem clsn_7 : clsNP "DreamDuty$State" := ⟨⟨by decide +kernel, by decide +kernel⟩, by decide +kernel⟩
theorem clsn_8 : clsNP "DreamDuty$Teller" := ⟨⟨by decide +kernel, by decide +kernel⟩, by decide +kernel⟩
theorem clsn_9 : clsNP "DreamDuty$Text" := ⟨⟨by decide +kernel, by decide +kernel⟩, by decide +kernel⟩
theorem clsn_10 : clsNP "DreamDuty$Tokens" := ⟨⟨by decide +kernel, by decide +kernel⟩, by decide +kernel⟩
theorem clsn_11 : clsNP "DreamDuty" := ⟨⟨by decide +kernel, by decide +kernel⟩, by decide +kernel⟩
theorem clsn_12 : clsNP "DreamDutyModel" := ⟨⟨by decide +kernel, by decide +kernel⟩, by decide +kernel⟩
theorem clsn_13 : clsNP "java/lang/Integer" := ⟨⟨by decide +kernel, by decide +kernel⟩, by decide +kernel⟩
theorem clsn_14 : clsNP "java/util/Arrays" := ⟨⟨by decide +kernel, by decide +kernel⟩, by decide +kernel⟩
theorem clsn_15 : clsNP "java/lang/String" := ⟨⟨by decide +kernel, by decide +kernel⟩, by decide +kernel⟩
theorem clsn_16 : clsNP "java/lang/StringLatin1" := ⟨⟨by decide +kernel, by decide +kernel⟩, by decide +kernel⟩
theorem clsn_17 : clsNP "jdk/internal/util/Preconditions" := ⟨⟨by decide +kernel, by decide +kernel⟩, by decide +kernel⟩
set_option maxRecDepth 20000 in
theorem ini_0 : Cond.initialized "DreamDuty$Border" ∈ gw := (gwc_1 (i := 12) rfl rfl)
set_option maxRecDepth 20000 in
theorem ini_1 : Cond.initialized "DreamDuty$Grammar" ∈ gw := (gwc_1 (i := 7) rfl rfl)
set_option maxRecDepth 20000 in
theorem ini_2 : Cond.initialized "DreamDuty$History" ∈ gw := (gwc_1 (i := 14) rfl rfl)
set_option maxRecDepth 20000 in
theorem ini_3 : Cond.initialized "DreamDuty$Law" ∈ gw := (gwc_1 (i := 10) rfl rfl)
set_option maxRecDepth 20000 in
theorem ini_4 : Cond.initialized "DreamDuty$Lodgings" ∈ gw := (gwc_1 (i := 15) rfl rfl)
set_option maxRecDepth 20000 in
theorem ini_5 : Cond.initialized "DreamDuty$Pairings" ∈ gw := (gwc_1 (i := 16) rfl rfl)
set_option maxRecDepth 20000 in
theorem ini_6 : Cond.initialized "DreamDuty$Rests" ∈ gw := (gwc_1 (i := 17) rfl rfl)
set_option maxRecDepth 20000 in
theorem ini_7 : Cond.initialized "DreamDuty$State" ∈ gw := (gwc_1 (i := 13) rfl rfl)
set_option maxRecDepth 20000 in
theorem ini_8 : Cond.initialized "DreamDuty$Teller" ∈ gw := (gwc_1 (i := 8) rfl rfl)
set_option maxRecDepth 20000 in
theorem ini_9 : Cond.initialized "DreamDuty$Text" ∈ gw := (gwc_1 (i := 9) rfl rfl)
set_option maxRecDepth 20000 in
theorem ini_10 : Cond.initialized "DreamDuty$Tokens" ∈ gw := (gwc_1 (i := 2) rfl rfl)
set_option maxRecDepth 20000 in
theorem ini_11 : Cond.initialized "DreamDuty" ∈ gw := (gwc_1 (i := 1) rfl rfl)
set_option maxRecDepth 20000 in
theorem ini_12 : Cond.initialized "DreamDutyModel" ∈ gw := (gwc_1 (i := 18) rfl rfl)
set_option maxRecDepth 20000 in
theorem ini_13 : Cond.initialized "java/lang/Integer" ∈ gw := (gwc_1 (i := 21) rfl rfl)
set_option maxRecDepth 20000 in
theorem ini_14 : Cond.initialized "java/util/Arrays" ∈ gw := (gwc_1 (i := 11) rfl rfl)
set_option maxRecDepth 20000 in
theorem ini_15 : Cond.initialized "java/lang/String" ∈ gw := (gwc_1 (i := 3) rfl rfl)
set_option maxRecDepth 20000 in
theorem ini_16 : Cond.initialized "java/lang/StringLatin1" ∈ gw := (gwc_1 (i := 4) rfl rfl)
set_option maxRecDepth 20000 in
theorem ini_17 : Cond.initialized "jdk/internal/util/Preconditions" ∈ gw := (gwc_1 (i := 5) rfl rfl)
set_option maxRecDepth 100000 in
theorem key_0 : keyP 0 := ⟨(gwc_2 (i := 82) rfl rfl), ini_0, clsn_0, fun h => absurd h (by decide), fun h => absurd h (by decide), fun _ => ⟨(gwc_2 (i := 81) rfl rfl), rfl⟩, rfl, Or.inl ⟨by decide, rfl⟩, by decide +kernel⟩
set_option maxRecDepth 100000 in
theorem key_1 : keyP 1 := ⟨(gwc_3 (i := 27) rfl rfl), ini_0, clsn_0, fun _ => ⟨(gwc_3 (i := 25) rfl rfl), (gwc_3 (i := 26) rfl rfl)⟩, fun h => absurd h (by decide), fun h => absurd h (by decide), rfl, Or.inl ⟨by decide, rfl⟩, by decide +kernel⟩
set_option maxRecDepth 100000 in
theorem key_2 : keyP 2 := ⟨(gwc_5 (i := 161) rfl rfl), ini_0, clsn_0, fun _ => ⟨(gwc_5 (i := 159) rfl rfl), (gwc_5 (i := 160) rfl rfl)⟩, fun h => absurd h (by decide), fun h => absurd h (by decide), rfl, Or.inl ⟨by decide, rfl⟩, by decide +kernel⟩
set_option maxRecDepth 100000 in
theorem key_3 : keyP 3 := ⟨(gwc_4 (i := 207) rfl rfl), ini_0, clsn_0, fun _ => ⟨(gwc_4 (i := 205) rfl rfl), (gwc_4 (i := 206) rfl rfl)⟩, fun h => absurd h (by decide), fun h => absurd h (by decide), rfl, Or.inl ⟨by decide, rfl⟩, by decide +kernel⟩
set_option maxRecDepth 100000 in
theorem key_4 : keyP 4 := ⟨(gwc_5 (i := 201) rfl rfl), ini_0, clsn_0, fun _ => ⟨(gwc_5 (i := 199) rfl rfl), (gwc_5 (i := 200) rfl rfl)⟩, fun h => absurd h (by decide), fun h => absurd h (by decide), rfl, Or.inl ⟨by decide, rfl⟩, by decide +kernel⟩
set_option maxRecDepth 100000 in
theorem key_5 : keyP 5 := ⟨(gwc_5 (i := 42) rfl rfl), ini_0, clsn_0, fun _ => ⟨(gwc_5 (i := 40) rfl rfl), (gwc_5 (i := 41) rfl rfl)⟩, fun h => absurd h (by decide), fun h => absurd h (by decide), rfl, Or.inl ⟨by decide, rfl⟩, by decide +kernel⟩
set_option maxRecDepth 100000 in
theorem key_6 : keyP 6 := ⟨(gwc_5 (i := 6) rfl rfl), ini_0, clsn_0, fun _ => ⟨(gwc_5 (i := 4) rfl rfl), (gwc_5 (i := 5) rfl rfl)⟩, fun h => absurd h (by decide), fun h => absurd h (by decide), rfl, Or.inl ⟨by decide, rfl⟩, by decide +kernel⟩
set_option maxRecDepth 100000 in
theorem key_7 : keyP 7 := ⟨(gwc_5 (i := 10) rfl rfl), ini_0, clsn_0, fun _ => ⟨(gwc_5 (i := 9) rfl rfl), (gw_of (i := 37) (by decide +kernel) rfl)⟩, fun h => absurd h (by decide), fun h => absurd h (by decide), rfl, Or.inl ⟨by decide, rfl⟩, by decide +kernel⟩
set_option maxRecDepth 100000 in
theorem key_8 : keyP 8 := ⟨(gwc_5 (i := 14) rfl rfl), ini_0, clsn_0, fun _ => ⟨(gwc_5 (i := 13) rfl rfl), (gw_of (i := 38) (by decide +kernel) rfl)⟩, fun h => absurd h (by decide), fun h => absurd h (by decide), rfl, Or.inl ⟨by decide, rfl⟩, by decide +kernel⟩
set_option maxRecDepth 100000 in
theorem key_9 : keyP 9 := ⟨(gwc_5 (i := 18) rfl rfl), ini_0, clsn_0, fun _ => ⟨(gwc_5 (i := 17) rfl rfl), (gw_of (i := 39) (by decide +kernel) rfl)⟩, fun h => absurd h (by decide), fun h => absurd h (by decide), rfl, Or.inl ⟨by decide, rfl⟩, by decide +kernel⟩
set_option maxRecDepth 100000 in
theorem key_10 : keyP 10 := ⟨(gwc_5 (i := 21) rfl rfl), ini_0, clsn_0, fun h => absurd h (by decide), fun _ => (gwc_5 (i := 20) rfl rfl), fun h => absurd h (by decide), rfl, Or.inr (Or.inr rfl), by decide +kernel⟩
set_option maxRecDepth 100000 in
theorem key_11 : keyP 11 := ⟨(gwc_5 (i := 27) rfl rfl), ini_0, clsn_0, fun _ => ⟨(gwc_5 (i := 26) rfl rfl), (gw_of (i := 40) (by decide +kernel) rfl)⟩, fun h => absurd h (by decide), fun h => absurd h (by decide), rfl, Or.inl ⟨by decide, rfl⟩, by decide +kernel⟩
set_option maxRecDepth 100000 in
theorem key_12 : keyP 12 := ⟨(gwc_5 (i := 31) rfl rfl), ini_0, clsn_0, fun _ => ⟨(gwc_5 (i := 29) rfl rfl), (gwc_5 (i := 30) rfl rfl)⟩, fun h => absurd h (by decide), fun h => absurd h (by decide), rfl, Or.inl ⟨by decide, rfl⟩, by decide +kernel⟩
set_option maxRecDepth 100000 in
theorem key_13 : keyP 13 := ⟨(gwc_4 (i := 165) rfl rfl), ini_0, clsn_0, fun _ => ⟨(gwc_4 (i := 163) rfl rfl), (gwc_4 (i := 164) rfl rfl)⟩, fun h => absurd h (by decide), fun h => absurd h (by decide), rfl, Or.inl ⟨by decide, rfl⟩, by decide +kernel⟩
set_option maxRecDepth 100000 in
theorem key_14 : keyP 14 := ⟨(gwc_5 (i := 55) rfl rfl), ini_0, clsn_0, fun _ => ⟨(gwc_5 (i := 53) rfl rfl), (gwc_5 (i := 54) rfl rfl)⟩, fun h => absurd h (by decide), fun h => absurd h (by decide), rfl, Or.inl ⟨by decide, rfl⟩, by decide +kernel⟩
set_option maxRecDepth 100000 in
theorem key_15 : keyP 15 := ⟨(gwc_4 (i := 169) rfl rfl), ini_0, clsn_0, fun _ => ⟨(gwc_4 (i := 168) rfl rfl), (gw_of (i := 32) (by decide +kernel) rfl)⟩, fun h => absurd h (by decide), fun h => absurd h (by decide), rfl, Or.inl ⟨by decide, rfl⟩, by decide +kernel⟩
set_option maxRecDepth 100000 in
theorem key_16 : keyP 16 := ⟨(gwc_4 (i := 178) rfl rfl), ini_0, clsn_0, fun _ => ⟨(gwc_4 (i := 177) rfl rfl), (gw_of (i := 33) (by decide +kernel) rfl)⟩, fun h => absurd h (by decide), fun h => absurd h (by decide), rfl, Or.inl ⟨by decide, rfl⟩, by decide +kernel⟩
set_option maxRecDepth 100000 in
theorem key_17 : keyP 17 := ⟨(gwc_4 (i := 161) rfl rfl), ini_0, clsn_0, fun _ => ⟨(gwc_4 (i := 159) rfl rfl), (gwc_4 (i := 160) rfl rfl)⟩, fun h => absurd h (by decide), fun h => absurd h (by decide), rfl, Or.inl ⟨by decide, rfl⟩, by decide +kernel⟩
set_option maxRecDepth 100000 in
theorem key_18 : keyP 18 := ⟨(gwc_5 (i := 46) rfl rfl), ini_0, clsn_0, fun _ => ⟨(gwc_5 (i := 44) rfl rfl), (gwc_5 (i := 45) rfl rfl)⟩, fun h => absurd h (by decide), fun h => absurd h (by decide), rfl, Or.inl ⟨by decide, rfl⟩, by decide +kernel⟩
set_option maxRecDepth 100000 in
theorem key_19 : keyP 19 := ⟨(gwc_5 (i := 51) rfl rfl), ini_0, clsn_0, fun _ => ⟨(gwc_5 (i := 50) rfl rfl), (gw_of (i := 41) (by decide +kernel) rfl)⟩, fun h => absurd h (by decide), fun h => absurd h (by decide), rfl, Or.inl ⟨by decide, rfl⟩, by decide +kernel⟩
set_option maxRecDepth 100000 in
theorem key_20 : keyP 20 := ⟨(gwc_5 (i := 99) rfl rfl), ini_0, clsn_0, fun _ => ⟨(gwc_5 (i := 97) rfl rfl), (gwc_5 (i := 98) rfl rfl)⟩, fun h => absurd h (by decide), fun h => absurd h (by decide), rfl, Or.inl ⟨by decide, rfl⟩, by decide +kernel⟩
set_option maxRecDepth 100000 in
theorem key_21 : keyP 21 := ⟨(gwc_1 (i := 114) rfl rfl), ini_1, clsn_1, fun h => absurd h (by decide), fun h => absurd h (by decide), fun _ => ⟨(gwc_1 (i := 113) rfl rfl), rfl⟩, rfl, Or.inl ⟨by decide, rfl⟩, by decide +kernel⟩
set_option maxRecDepth 100000 in
theorem key_22 : keyP 22 := ⟨(gwc_3 (i := 202) rfl rfl), ini_1, clsn_1, fun _ => ⟨(gwc_3 (i := 200) rfl rfl), (gwc_3 (i := 201) rfl rfl)⟩, fun h => absurd h (by decide), fun h => absurd h (by decide), rfl, Or.inl ⟨by decide, rfl⟩, by decide +kernel⟩
set_option maxRecDepth 100000 in
theorem key_23 : keyP 23 := ⟨(gwc_4 (i := 59) rfl rfl), ini_1, clsn_1, fun _ => ⟨(gwc_4 (i := 57) rfl rfl), (gwc_4 (i := 58) rfl rfl)⟩, fun h => absurd h (by decide), fun h => absurd h (by decide), rfl, Or.inl ⟨by decide, rfl⟩, by decide +kernel⟩
set_option maxRecDepth 100000 in
theorem key_24 : keyP 24 := ⟨(gwc_3 (i := 211) rfl rfl), ini_1, clsn_1, fun _ => ⟨(gwc_3 (i := 210) rfl rfl), (gw_of (i := 5) (by decide +kernel) rfl)⟩, fun h => absurd h (by decide), fun h => absurd h (by decide), rfl, Or.inl ⟨by decide, rfl⟩, by decide +kernel⟩
set_option maxRecDepth 100000 in
theorem key_25 : keyP 25 := ⟨(gwc_3 (i := 214) rfl rfl), ini_1, clsn_1, fun h => absurd h (by decide), fun _ => (gwc_3 (i := 213) rfl rfl), fun h => absurd h (by decide), rfl, Or.inr (Or.inr rfl), by decide +kernel⟩
set_option maxRecDepth 100000 in
theorem key_26 : keyP 26 := ⟨(gwc_4 (i := 44) rfl rfl), ini_1, clsn_1, fun h => absurd h (by decide), fun _ => (gwc_4 (i := 43) rfl rfl), fun h => absurd h (by decide), rfl, Or.inr (Or.inr rfl), by decide +kernel⟩
set_option maxRecDepth 100000 in
theorem key_27 : keyP 27 := ⟨(gwc_4 (i := 53) rfl rfl), ini_1, clsn_1, fun _ => ⟨(gwc_4 (i := 52) rfl rfl), (gw_of (i := 16) (by decide +kernel) rfl)⟩, fun h => absurd h (by decide), fun h => absurd h (by decide), rfl, Or.inl ⟨by decide, rfl⟩, by decide +kernel⟩
set_option maxRecDepth 100000 in
theorem key_28 : keyP 28 := ⟨(gwc_3 (i := 222) rfl rfl), ini_1, clsn_1, fun _ => ⟨(gwc_3 (i := 221) rfl rfl), (gw_of (i := 7) (by decide +kernel) rfl)⟩, fun h => absurd h (by decide), fun h => absurd h (by decide), rfl, Or.inl ⟨by decide, rfl⟩, by decide +kernel⟩
set_option maxRecDepth 100000 in
theorem key_29 : keyP 29 := ⟨(gwc_3 (i := 234) rfl rfl), ini_1, clsn_1, fun _ => ⟨(gwc_3 (i := 233) rfl rfl), (gw_of (i := 9) (by decide +kernel) rfl)⟩, fun h => absurd h (by decide), fun h => absurd h (by decide), rfl, Or.inl ⟨by decide, rfl⟩, by decide +kernel⟩
set_option maxRecDepth 100000 in
theorem key_30 : keyP 30 := ⟨(gwc_3 (i := 239) rfl rfl), ini_1, clsn_1, fun _ => ⟨(gwc_3 (i := 238) rfl rfl), (gw_of (i := 10) (by decide +kernel) rfl)⟩, fun h => absurd h (by decide), fun h => absurd h (by decide), rfl, Or.inl ⟨by decide, rfl⟩, by decide +kernel⟩
set_option maxRecDepth 100000 in
theorem key_31 : keyP 31 := ⟨(gwc_4 (i := 3) rfl rfl), ini_1, clsn_1, fun _ => ⟨(gwc_4 (i := 2) rfl rfl), (gw_of (i := 11) (by decide +kernel) rfl)⟩, fun h => absurd h (by decide), fun h => absurd h (by decide), rfl, Or.inl ⟨by decide, rfl⟩, by decide +kernel⟩
set_option maxRecDepth 100000 in
theorem key_32 : keyP 32 := ⟨(gwc_4 (i := 7) rfl rfl), ini_1, clsn_1, fun _ => ⟨(gwc_4 (i := 6) rfl rfl), (gw_of (i := 12) (by decide +kernel) rfl)⟩, fun h => absurd h (by decide), fun h => absurd h (by decide), rfl, Or.inl ⟨by decide, rfl⟩, by decide +kernel⟩
set_option maxRecDepth 100000 in
theorem key_33 : keyP 33 := ⟨(gwc_4 (i := 31) rfl rfl), ini_1, clsn_1, fun _ => ⟨(gwc_4 (i := 30) rfl rfl), (gw_of (i := 15) (by decide +kernel) rfl)⟩, fun h => absurd h (by decide), fun h => absurd h (by decide), rfl, Or.inl ⟨by decide, rfl⟩, by decide +kernel⟩
set_option maxRecDepth 100000 in
theorem key_34 : keyP 34 := ⟨(gwc_4 (i := 11) rfl rfl), ini_1, clsn_1, fun _ => ⟨(gwc_4 (i := 10) rfl rfl), (gw_of (i := 13) (by decide +kernel) rfl)⟩, fun h => absurd h (by decide), fun h => absurd h (by decide), rfl, Or.inl ⟨by decide, rfl⟩, by decide +kernel⟩
set_option maxRecDepth 100000 in
theorem key_35 : keyP 35 := ⟨(gwc_4 (i := 21) rfl rfl), ini_1, clsn_1, fun _ => ⟨(gwc_4 (i := 20) rfl rfl), (gw_of (i := 14) (by decide +kernel) rfl)⟩, fun h => absurd h (by decide), fun h => absurd h (by decide), rfl, Or.inl ⟨by decide, rfl⟩, by decide +kernel⟩
set_option maxRecDepth 100000 in
theorem key_36 : keyP 36 := ⟨(gwc_4 (i := 24) rfl rfl), ini_1, clsn_1, fun h => absurd h (by decide), fun _ => (gwc_4 (i := 23) rfl rfl), fun h => absurd h (by decide), rfl, Or.inr (Or.inr rfl), by decide +kernel⟩
set_option maxRecDepth 100000 in
theorem key_37 : keyP 37 := ⟨(gwc_4 (i := 27) rfl rfl), ini_1, clsn_1, fun h => absurd h (by decide), fun _ => (gwc_4 (i := 26) rfl rfl), fun h => absurd h (by decide), rfl, Or.inr (Or.inr rfl), by decide +kernel⟩
set_option maxRecDepth 100000 in
theorem key_38 : keyP 38 := ⟨(gwc_3 (i := 226) rfl rfl), ini_1, clsn_1, fun _ => ⟨(gwc_3 (i := 225) rfl rfl), (gw_of (i := 8) (by decide +kernel) rfl)⟩, fun h => absurd h (by decide), fun h => absurd h (by decide), rfl, Or.inl ⟨by decide, rfl⟩, by decide +kernel⟩
set_option maxRecDepth 100000 in
theorem key_39 : keyP 39 := ⟨(gwc_3 (i := 218) rfl rfl), ini_1, clsn_1, fun _ => ⟨(gwc_3 (i := 217) rfl rfl), (gw_of (i := 6) (by decide +kernel) rfl)⟩, fun h => absurd h (by decide), fun h => absurd h (by decide), rfl, Or.inl ⟨by decide, rfl⟩, by decide +kernel⟩
set_option maxRecDepth 100000 in
theorem key_40 : keyP 40 := ⟨(gwc_2 (i := 176) rfl rfl), ini_2, clsn_2, fun h => absurd h (by decide), fun h => absurd h (by decide), fun _ => ⟨(gwc_2 (i := 175) rfl rfl), rfl⟩, rfl, Or.inl ⟨by decide, rfl⟩, by decide +kernel⟩
set_option maxRecDepth 100000 in
theorem key_41 : keyP 41 := ⟨(gwc_3 (i := 36) rfl rfl), ini_2, clsn_2, fun _ => ⟨(gwc_3 (i := 34) rfl rfl), (gwc_3 (i := 35) rfl rfl)⟩, fun h => absurd h (by decide), fun h => absurd h (by decide), rfl, Or.inl ⟨by decide, rfl⟩, by decide +kernel⟩
set_option maxRecDepth 100000 in
theorem key_42 : keyP 42 := ⟨(gwc_4 (i := 230) rfl rfl), ini_2, clsn_2, fun _ => ⟨(gwc_4 (i := 228) rfl rfl), (gwc_4 (i := 229) rfl rfl)⟩, fun h => absurd h (by decide), fun h => absurd h (by decide), rfl, Or.inl ⟨by decide, rfl⟩, by decide +kernel⟩
set_option maxRecDepth 100000 in
theorem key_43 : keyP 43 := ⟨(gwc_5 (i := 84) rfl rfl), ini_2, clsn_2, fun _ => ⟨(gwc_5 (i := 82) rfl rfl), (gwc_5 (i := 83) rfl rfl)⟩, fun h => absurd h (by decide), fun h => absurd h (by decide), rfl, Or.inl ⟨by decide, rfl⟩, by decide +kernel⟩
set_option maxRecDepth 100000 in
theorem key_44 : keyP 44 := ⟨(gwc_1 (i := 179) rfl rfl), ini_3, clsn_3, fun h => absurd h (by decide), fun h => absurd h (by decide), fun _ => ⟨(gwc_1 (i := 178) rfl rfl), rfl⟩, rfl, Or.inl ⟨by decide, rfl⟩, by decide +kernel⟩
set_option maxRecDepth 100000 in
theorem key_45 : keyP 45 := ⟨(gwc_1 (i := 201) rfl rfl), ini_3, clsn_3, fun _ => ⟨(gwc_1 (i := 199) rfl rfl), (gwc_1 (i := 200) rfl rfl)⟩, fun h => absurd h (by decide), fun h => absurd h (by decide), rfl, Or.inl ⟨by decide, rfl⟩, by decide +kernel⟩
set_option maxRecDepth 100000 in
theorem key_46 : keyP 46 := ⟨(gwc_1 (i := 205) rfl rfl), ini_3, clsn_3, fun _ => ⟨(gwc_1 (i := 203) rfl rfl), (gwc_1 (i := 204) rfl rfl)⟩, fun h => absurd h (by decide), fun h => absurd h (by decide), rfl, Or.inl ⟨by decide, rfl⟩, by decide +kernel⟩
set_option maxRecDepth 100000 in
theorem key_47 : keyP 47 := ⟨(gwc_4 (i := 36) rfl rfl), ini_3, clsn_3, fun _ => ⟨(gwc_4 (i := 34) rfl rfl), (gwc_4 (i := 35) rfl rfl)⟩, fun h => absurd h (by decide), fun h => absurd h (by decide), rfl, Or.inl ⟨by decide, rfl⟩, by decide +kernel⟩
set_option maxRecDepth 100000 in
theorem key_48 : keyP 48 := ⟨(gwc_4 (i := 41) rfl rfl), ini_3, clsn_3, fun _ => ⟨(gwc_4 (i := 39) rfl rfl), (gwc_4 (i := 40) rfl rfl)⟩, fun h => absurd h (by decide), fun h => absurd h (by decide), rfl, Or.inl ⟨by decide, rfl⟩, by decide +kernel⟩
set_option maxRecDepth 100000 in
theorem key_49 : keyP 49 := ⟨(gwc_4 (i := 182) rfl rfl), ini_3, clsn_3, fun _ => ⟨(gwc_4 (i := 180) rfl rfl), (gwc_4 (i := 181) rfl rfl)⟩, fun h => absurd h (by decide), fun h => absurd h (by decide), rfl, Or.inl ⟨by decide, rfl⟩, by decide +kernel⟩
set_option maxRecDepth 100000 in
theorem key_50 : keyP 50 := ⟨(gwc_4 (i := 186) rfl rfl), ini_3, clsn_3, fun _ => ⟨(gwc_4 (i := 185) rfl rfl), (gw_of (i := 34) (by decide +kernel) rfl)⟩, fun h => absurd h (by decide), fun h => absurd h (by decide), rfl, Or.inl ⟨by decide, rfl⟩, by decide +kernel⟩
set_option maxRecDepth 100000 in
theorem key_51 : keyP 51 := ⟨(gwc_4 (i := 190) rfl rfl), ini_3, clsn_3, fun h => absurd h (by decide), fun _ => (gwc_4 (i := 189) rfl rfl), fun h => absurd h (by decide), rfl, Or.inr (Or.inr rfl), by decide +kernel⟩
set_option maxRecDepth 100000 in
theorem key_52 : keyP 52 := ⟨(gwc_2 (i := 198) rfl rfl), ini_4, clsn_4, fun h => absurd h (by decide), fun h => absurd h (by decide), fun _ => ⟨(gwc_2 (i := 197) rfl rfl), rfl⟩, rfl, Or.inl ⟨by decide, rfl⟩, by decide +kernel⟩
set_option maxRecDepth 100000 in
theorem key_53 : keyP 53 := ⟨(gwc_5 (i := 118) rfl rfl), ini_4, clsn_4, fun _ => ⟨(gwc_5 (i := 116) rfl rfl), (gwc_5 (i := 117) rfl rfl)⟩, fun h => absurd h (by decide), fun h => absurd h (by decide), rfl, Or.inl ⟨by decide, rfl⟩, by decide +kernel⟩
set_option maxRecDepth 100000 in
theorem key_54 : keyP 54 := ⟨(gwc_5 (i := 145) rfl rfl), ini_4, clsn_4, fun _ => ⟨(gwc_5 (i := 143) rfl rfl), (gwc_5 (i := 144) rfl rfl)⟩, fun h => absurd h (by decide), fun h => absurd h (by decide), rfl, Or.inl ⟨by decide, rfl⟩, by decide +kernel⟩
set_option maxRecDepth 100000 in
theorem key_55 : keyP 55 := ⟨(gwc_5 (i := 153) rfl rfl), ini_4, clsn_4, fun _ => ⟨(gwc_5 (i := 151) rfl rfl), (gwc_5 (i := 152) rfl rfl)⟩, fun h => absurd h (by decide), fun h => absurd h (by decide), rfl, Or.inl ⟨by decide, rfl⟩, by decide +kernel⟩
set_option maxRecDepth 100000 in
theorem key_56 : keyP 56 := ⟨(gwc_5 (i := 122) rfl rfl), ini_4, clsn_4, fun _ => ⟨(gwc_5 (i := 121) rfl rfl), (gw_of (i := 43) (by decide +kernel) rfl)⟩, fun h => absurd h (by decide), fun h => absurd h (by decide), rfl, Or.inl ⟨by decide, rfl⟩, by decide +kernel⟩
set_option maxRecDepth 100000 in
theorem key_57 : keyP 57 := ⟨(gwc_5 (i := 132) rfl rfl), ini_4, clsn_4, fun _ => ⟨(gwc_5 (i := 131) rfl rfl), (gw_of (i := 44) (by decide +kernel) rfl)⟩, fun h => absurd h (by decide), fun h => absurd h (by decide), rfl, Or.inl ⟨by decide, rfl⟩, by decide +kernel⟩
set_option maxRecDepth 100000 in
theorem key_58 : keyP 58 := ⟨(gwc_5 (i := 136) rfl rfl), ini_4, clsn_4, fun _ => ⟨(gwc_5 (i := 135) rfl rfl), (gw_of (i := 45) (by decide +kernel) rfl)⟩, fun h => absurd h (by decide), fun h => absurd h (by decide), rfl, Or.inl ⟨by decide, rfl⟩, by decide +kernel⟩
set_option maxRecDepth 100000 in
theorem key_59 : keyP 59 := ⟨(gwc_5 (i := 140) rfl rfl), ini_4, clsn_4, fun _ => ⟨(gwc_5 (i := 139) rfl rfl), (gw_of (i := 46) (by decide +kernel) rfl)⟩, fun h => absurd h (by decide), fun h => absurd h (by decide), rfl, Or.inl ⟨by decide, rfl⟩, by decide +kernel⟩
set_option maxRecDepth 100000 in
theorem key_60 : keyP 60 := ⟨(gwc_2 (i := 229) rfl rfl), ini_5, clsn_5, fun h => absurd h (by decide), fun h => absurd h (by decide), fun _ => ⟨(gwc_2 (i := 228) rfl rfl), rfl⟩, rfl, Or.inl ⟨by decide, rfl⟩, by decide +kernel⟩
set_option maxRecDepth 100000 in
theorem key_61 : keyP 61 := ⟨(gwc_5 (i := 166) rfl rfl), ini_5, clsn_5, fun _ => ⟨(gwc_5 (i := 164) rfl rfl), (gwc_5 (i := 165) rfl rfl)⟩, fun h => absurd h (by decide), fun h => absurd h (by decide), rfl, Or.inl ⟨by decide, rfl⟩, by decide +kernel⟩
set_option maxRecDepth 100000 in
theorem key_62 : keyP 62 := ⟨(gwc_5 (i := 172) rfl rfl), ini_5, clsn_5, fun _ => ⟨(gwc_5 (i := 171) rfl rfl), (gw_of (i := 47) (by decide +kernel) rfl)⟩, fun h => absurd h (by decide), fun h => absurd h (by decide), rfl, Or.inl ⟨by decide, rfl⟩, by decide +kernel⟩
set_option maxRecDepth 100000 in
theorem key_63 : keyP 63 := ⟨(gwc_5 (i := 176) rfl rfl), ini_5, clsn_5, fun _ => ⟨(gwc_5 (i := 175) rfl rfl), (gw_of (i := 48) (by decide +kernel) rfl)⟩, fun h => absurd h (by decide), fun h => absurd h (by decide), rfl, Or.inl ⟨by decide, rfl⟩, by decide +kernel⟩
set_option maxRecDepth 100000 in
theorem key_64 : keyP 64 := ⟨(gwc_3 (i := 8) rfl rfl), ini_6, clsn_6, fun h => absurd h (by decide), fun h => absurd h (by decide), fun _ => ⟨(gwc_3 (i := 7) rfl rfl), rfl⟩, rfl, Or.inl ⟨by decide, rfl⟩, by decide +kernel⟩
set_option maxRecDepth 100000 in
theorem key_65 : keyP 65 := ⟨(gwc_5 (i := 185) rfl rfl), ini_6, clsn_6, fun _ => ⟨(gwc_5 (i := 183) rfl rfl), (gwc_5 (i := 184) rfl rfl)⟩, fun h => absurd h (by decide), fun h => absurd h (by decide), rfl, Or.inl ⟨by decide, rfl⟩, by decide +kernel⟩
set_option maxRecDepth 100000 in
theorem key_66 : keyP 66 := ⟨(gwc_5 (i := 192) rfl rfl), ini_6, clsn_6, fun _ => ⟨(gwc_5 (i := 190) rfl rfl), (gwc_5 (i := 191) rfl rfl)⟩, fun h => absurd h (by decide), fun h => absurd h (by decide), rfl, Or.inl ⟨by decide, rfl⟩, by decide +kernel⟩
set_option maxRecDepth 100000 in
theorem key_67 : keyP 67 := ⟨(gwc_2 (i := 88) rfl rfl), ini_7, clsn_7, fun h => absurd h (by decide), fun h => absurd h (by decide), fun _ => ⟨(gwc_2 (i := 87) rfl rfl), rfl⟩, rfl, Or.inl ⟨by decide, rfl⟩, by decide +kernel⟩
set_option maxRecDepth 100000 in
theorem key_68 : keyP 68 := ⟨(gwc_3 (i := 31) rfl rfl), ini_7, clsn_7, fun _ => ⟨(gwc_3 (i := 29) rfl rfl), (gwc_3 (i := 30) rfl rfl)⟩, fun h => absurd h (by decide), fun h => absurd h (by decide), rfl, Or.inl ⟨by decide, rfl⟩, by decide +kernel⟩
set_option maxRecDepth 100000 in
theorem key_69 : keyP 69 := ⟨(gwc_4 (i := 234) rfl rfl), ini_7, clsn_7, fun _ => ⟨(gwc_4 (i := 232) rfl rfl), (gwc_4 (i := 233) rfl rfl)⟩, fun h => absurd h (by decide), fun h => absurd h (by decide), rfl, Or.inl ⟨by decide, rfl⟩, by decide +kernel⟩
set_option maxRecDepth 100000 in
theorem key_70 : keyP 70 := ⟨(gwc_5 (i := 64) rfl rfl), ini_7, clsn_7, fun _ => ⟨(gwc_5 (i := 62) rfl rfl), (gwc_5 (i := 63) rfl rfl)⟩, fun h => absurd h (by decide), fun h => absurd h (by decide), rfl, Or.inl ⟨by decide, rfl⟩, by decide +kernel⟩
set_option maxRecDepth 100000 in
theorem key_71 : keyP 71 := ⟨(gwc_5 (i := 76) rfl rfl), ini_7, clsn_7, fun _ => ⟨(gwc_5 (i := 74) rfl rfl), (gwc_5 (i := 75) rfl rfl)⟩, fun h => absurd h (by decide), fun h => absurd h (by decide), rfl, Or.inl ⟨by decide, rfl⟩, by decide +kernel⟩
set_option maxRecDepth 100000 in
theorem key_72 : keyP 72 := ⟨(gwc_5 (i := 72) rfl rfl), ini_7, clsn_7, fun _ => ⟨(gwc_5 (i := 70) rfl rfl), (gwc_5 (i := 71) rfl rfl)⟩, fun h => absurd h (by decide), fun h => absurd h (by decide), rfl, Or.inl ⟨by decide, rfl⟩, by decide +kernel⟩
set_option maxRecDepth 100000 in
theorem key_73 : keyP 73 := ⟨(gwc_1 (i := 142) rfl rfl), ini_8, clsn_8, fun h => absurd h (by decide), fun h => absurd h (by decide), fun _ => ⟨(gwc_1 (i := 141) rfl rfl), rfl⟩, rfl, Or.inl ⟨by decide, rfl⟩, by decide +kernel⟩
set_option maxRecDepth 100000 in
theorem key_74 : keyP 74 := ⟨(gwc_4 (i := 67) rfl rfl), ini_8, clsn_8, fun _ => ⟨(gwc_4 (i := 65) rfl rfl), (gwc_4 (i := 66) rfl rfl)⟩, fun h => absurd h (by decide), fun h => absurd h (by decide), rfl, Or.inl ⟨by decide, rfl⟩, by decide +kernel⟩
set_option maxRecDepth 100000 in
theorem key_75 : keyP 75 := ⟨(gwc_4 (i := 137) rfl rfl), ini_8, clsn_8, fun _ => ⟨(gwc_4 (i := 135) rfl rfl), (gwc_4 (i := 136) rfl rfl)⟩, fun h => absurd h (by decide), fun h => absurd h (by decide), rfl, Or.inl ⟨by decide, rfl⟩, by decide +kernel⟩
set_option maxRecDepth 100000 in
theorem key_76 : keyP 76 := ⟨(gwc_4 (i := 72) rfl rfl), ini_8, clsn_8, fun _ => ⟨(gwc_4 (i := 71) rfl rfl), (gw_of (i := 17) (by decide +kernel) rfl)⟩, fun h => absurd h (by decide), fun h => absurd h (by decide), rfl, Or.inl ⟨by decide, rfl⟩, by decide +kernel⟩
set_option maxRecDepth 100000 in
theorem key_77 : keyP 77 := ⟨(gwc_4 (i := 76) rfl rfl), ini_8, clsn_8, fun _ => ⟨(gwc_4 (i := 75) rfl rfl), (gw_of (i := 18) (by decide +kernel) rfl)⟩, fun h => absurd h (by decide), fun h => absurd h (by decide), rfl, Or.inl ⟨by decide, rfl⟩, by decide +kernel⟩
set_option maxRecDepth 100000 in
theorem key_78 : keyP 78 := ⟨(gwc_4 (i := 97) rfl rfl), ini_8, clsn_8, fun _ => ⟨(gwc_4 (i := 96) rfl rfl), (gw_of (i := 23) (by decide +kernel) rfl)⟩, fun h => absurd h (by decide), fun h => absurd h (by decide), rfl, Or.inl ⟨by decide, rfl⟩, by decide +kernel⟩
set_option maxRecDepth 100000 in
theorem key_79 : keyP 79 := ⟨(gwc_4 (i := 109) rfl rfl), ini_8, clsn_8, fun _ => ⟨(gwc_4 (i := 108) rfl rfl), (gw_of (i := 26) (by decide +kernel) rfl)⟩, fun h => absurd h (by decide), fun h => absurd h (by decide), rfl, Or.inl ⟨by decide, rfl⟩, by decide +kernel⟩
set_option maxRecDepth 100000 in
theorem key_80 : keyP 80 := ⟨(gwc_4 (i := 101) rfl rfl), ini_8, clsn_8, fun _ => ⟨(gwc_4 (i := 100) rfl rfl), (gw_of (i := 24) (by decide +kernel) rfl)⟩, fun h => absurd h (by decide), fun h => absurd h (by decide), rfl, Or.inl ⟨by decide, rfl⟩, by decide +kernel⟩
set_option maxRecDepth 100000 in
theorem key_81 : keyP 81 := ⟨(gwc_4 (i := 113) rfl rfl), ini_8, clsn_8, fun _ => ⟨(gwc_4 (i := 112) rfl rfl), (gw_of (i := 27) (by decide +kernel) rfl)⟩, fun h => absurd h (by decide), fun h => absurd h (by decide), rfl, Or.inl ⟨by decide, rfl⟩, by decide +kernel⟩
set_option maxRecDepth 100000 in
theorem key_82 : keyP 82 := ⟨(gwc_4 (i := 117) rfl rfl), ini_8, clsn_8, fun _ => ⟨(gwc_4 (i := 116) rfl rfl), (gw_of (i := 28) (by decide +kernel) rfl)⟩, fun h => absurd h (by decide), fun h => absurd h (by decide), rfl, Or.inl ⟨by decide, rfl⟩, by decide +kernel⟩
set_option maxRecDepth 100000 in
theorem key_83 : keyP 83 := ⟨(gwc_4 (i := 121) rfl rfl), ini_8, clsn_8, fun _ => ⟨(gwc_4 (i := 120) rfl rfl), (gw_of (i := 29) (by decide +kernel) rfl)⟩, fun h => absurd h (by decide), fun h => absurd h (by decide), rfl, Or.inl ⟨by decide, rfl⟩, by decide +kernel⟩
set_option maxRecDepth 100000 in
theorem key_84 : keyP 84 := ⟨(gwc_4 (i := 80) rfl rfl), ini_8, clsn_8, fun _ => ⟨(gwc_4 (i := 79) rfl rfl), (gw_of (i := 19) (by decide +kernel) rfl)⟩, fun h => absurd h (by decide), fun h => absurd h (by decide), rfl, Or.inl ⟨by decide, rfl⟩, by decide +kernel⟩
set_option maxRecDepth 100000 in
theorem key_85 : keyP 85 := ⟨(gwc_4 (i := 105) rfl rfl), ini_8, clsn_8, fun _ => ⟨(gwc_4 (i := 104) rfl rfl), (gw_of (i := 25) (by decide +kernel) rfl)⟩, fun h => absurd h (by decide), fun h => absurd h (by decide), rfl, Or.inl ⟨by decide, rfl⟩, by decide +kernel⟩
set_option maxRecDepth 100000 in
theorem key_86 : keyP 86 := ⟨(gwc_4 (i := 85) rfl rfl), ini_8, clsn_8, fun _ => ⟨(gwc_4 (i := 84) rfl rfl), (gw_of (i := 20) (by decide +kernel) rfl)⟩, fun h => absurd h (by decide), fun h => absurd h (by decide), rfl, Or.inl ⟨by decide, rfl⟩, by decide +kernel⟩
set_option maxRecDepth 100000 in
theorem key_87 : keyP 87 := ⟨(gwc_4 (i := 93) rfl rfl), ini_8, clsn_8, fun _ => ⟨(gwc_4 (i := 92) rfl rfl), (gw_of (i := 22) (by decide +kernel) rfl)⟩, fun h => absurd h (by decide), fun h => absurd h (by decide), rfl, Or.inl ⟨by decide, rfl⟩, by decide +kernel⟩
set_option maxRecDepth 100000 in
theorem key_88 : keyP 88 := ⟨(gwc_4 (i := 125) rfl rfl), ini_8, clsn_8, fun _ => ⟨(gwc_4 (i := 124) rfl rfl), (gw_of (i := 30) (by decide +kernel) rfl)⟩, fun h => absurd h (by decide), fun h => absurd h (by decide), rfl, Or.inl ⟨by decide, rfl⟩, by decide +kernel⟩
set_option maxRecDepth 100000 in
theorem key_89 : keyP 89 := ⟨(gwc_4 (i := 89) rfl rfl), ini_8, clsn_8, fun _ => ⟨(gwc_4 (i := 88) rfl rfl), (gw_of (i := 21) (by decide +kernel) rfl)⟩, fun h => absurd h (by decide), fun h => absurd h (by decide), rfl, Or.inl ⟨by decide, rfl⟩, by decide +kernel⟩
set_option maxRecDepth 100000 in
theorem key_90 : keyP 90 := ⟨(gwc_1 (i := 173) rfl rfl), ini_9, clsn_9, fun h => absurd h (by decide), fun h => absurd h (by decide), fun _ => ⟨(gwc_1 (i := 172) rfl rfl), rfl⟩, rfl, Or.inl ⟨by decide, rfl⟩, by decide +kernel⟩
set_option maxRecDepth 100000 in
theorem key_91 : keyP 91 := ⟨(gwc_1 (i := 194) rfl rfl), ini_9, clsn_9, fun _ => ⟨(gwc_1 (i := 192) rfl rfl), (gwc_1 (i := 193) rfl rfl)⟩, fun h => absurd h (by decide), fun h => absurd h (by decide), rfl, Or.inl ⟨by decide, rfl⟩, by decide +kernel⟩
set_option maxRecDepth 100000 in
theorem key_92 : keyP 92 := ⟨(gwc_4 (i := 129) rfl rfl), ini_9, clsn_9, fun _ => ⟨(gwc_4 (i := 127) rfl rfl), (gwc_4 (i := 128) rfl rfl)⟩, fun h => absurd h (by decide), fun h => absurd h (by decide), rfl, Or.inl ⟨by decide, rfl⟩, by decide +kernel⟩
set_option maxRecDepth 100000 in
theorem key_93 : keyP 93 := ⟨(gwc_4 (i := 133) rfl rfl), ini_9, clsn_9, fun _ => ⟨(gwc_4 (i := 131) rfl rfl), (gwc_4 (i := 132) rfl rfl)⟩, fun h => absurd h (by decide), fun h => absurd h (by decide), rfl, Or.inl ⟨by decide, rfl⟩, by decide +kernel⟩
set_option maxRecDepth 100000 in
theorem key_94 : keyP 94 := ⟨(gwc_5 (i := 205) rfl rfl), ini_9, clsn_9, fun _ => ⟨(gwc_5 (i := 203) rfl rfl), (gwc_5 (i := 204) rfl rfl)⟩, fun h => absurd h (by decide), fun h => absurd h (by decide), rfl, Or.inl ⟨by decide, rfl⟩, by decide +kernel⟩
set_option maxRecDepth 100000 in
theorem key_95 : keyP 95 := ⟨(gwc_3 (i := 230) rfl rfl), ini_9, clsn_9, fun _ => ⟨(gwc_3 (i := 228) rfl rfl), (gwc_3 (i := 229) rfl rfl)⟩, fun h => absurd h (by decide), fun h => absurd h (by decide), rfl, Or.inl ⟨by decide, rfl⟩, by decide +kernel⟩
set_option maxRecDepth 100000 in
theorem key_96 : keyP 96 := ⟨(gwc_1 (i := 35) rfl rfl), ini_10, clsn_10, fun h => absurd h (by decide), fun h => absurd h (by decide), fun _ => ⟨(gwc_1 (i := 34) rfl rfl), rfl⟩, rfl, Or.inl ⟨by decide, rfl⟩, by decide +kernel⟩
set_option maxRecDepth 100000 in
theorem key_97 : keyP 97 := ⟨(gwc_3 (i := 112) rfl rfl), ini_10, clsn_10, fun _ => ⟨(gwc_3 (i := 110) rfl rfl), (gwc_3 (i := 111) rfl rfl)⟩, fun h => absurd h (by decide), fun h => absurd h (by decide), rfl, Or.inl ⟨by decide, rfl⟩, by decide +kernel⟩
set_option maxRecDepth 100000 in
theorem key_98 : keyP 98 := ⟨(gwc_3 (i := 207) rfl rfl), ini_10, clsn_10, fun _ => ⟨(gwc_3 (i := 205) rfl rfl), (gwc_3 (i := 206) rfl rfl)⟩, fun h => absurd h (by decide), fun h => absurd h (by decide), rfl, Or.inl ⟨by decide, rfl⟩, by decide +kernel⟩
set_option maxRecDepth 100000 in
theorem key_99 : keyP 99 := ⟨(gwc_4 (i := 63) rfl rfl), ini_10, clsn_10, fun _ => ⟨(gwc_4 (i := 61) rfl rfl), (gwc_4 (i := 62) rfl rfl)⟩, fun h => absurd h (by decide), fun h => absurd h (by decide), rfl, Or.inl ⟨by decide, rfl⟩, by decide +kernel⟩
end
section
set_option maxRecDepth 100000 in
theorem key_100 : keyP 100 := ⟨(gwc_4 (i := 15) rfl rfl), ini_10, clsn_10, fun _ => ⟨(gwc_4 (i := 13) rfl rfl), (gwc_4 (i := 14) rfl rfl)⟩, fun h => absurd h (by decide), fun h => absurd h (by decide), rfl, Or.inl ⟨by decide, rfl⟩, by decide +kernel⟩
set_option maxRecDepth 100000 in
theorem key_101 : keyP 101 := ⟨(gwc_1 (i := 208) rfl rfl), ini_10, clsn_10, fun h => absurd h (by decide), fun _ => (gwc_1 (i := 207) rfl rfl), fun h => absurd h (by decide), rfl, Or.inr (Or.inr rfl), by decide +kernel⟩
set_option maxRecDepth 100000 in
theorem key_102 : keyP 102 := ⟨(gwc_3 (i := 115) rfl rfl), ini_10, clsn_10, fun h => absurd h (by decide), fun _ => (gwc_3 (i := 114) rfl rfl), fun h => absurd h (by decide), rfl, Or.inr (Or.inr rfl), by decide +kernel⟩
set_option maxRecDepth 100000 in
theorem key_103 : keyP 103 := ⟨(gwc_3 (i := 121) rfl rfl), ini_10, clsn_10, fun h => absurd h (by decide), fun _ => (gwc_3 (i := 120) rfl rfl), fun h => absurd h (by decide), rfl, Or.inr (Or.inr rfl), by decide +kernel⟩
set_option maxRecDepth 100000 in
theorem key_104 : keyP 104 := ⟨(gwc_3 (i := 124) rfl rfl), ini_10, clsn_10, fun h => absurd h (by decide), fun _ => (gwc_3 (i := 123) rfl rfl), fun h => absurd h (by decide), rfl, Or.inr (Or.inr rfl), by decide +kernel⟩
set_option maxRecDepth 100000 in
theorem key_105 : keyP 105 := ⟨(gwc_3 (i := 118) rfl rfl), ini_10, clsn_10, fun h => absurd h (by decide), fun _ => (gwc_3 (i := 117) rfl rfl), fun h => absurd h (by decide), rfl, Or.inr (Or.inr rfl), by decide +kernel⟩
set_option maxRecDepth 100000 in
theorem key_106 : keyP 106 := ⟨(gwc_3 (i := 128) rfl rfl), ini_10, clsn_10, fun _ => ⟨(gwc_3 (i := 127) rfl rfl), (gw_of (i := 2) (by decide +kernel) rfl)⟩, fun h => absurd h (by decide), fun h => absurd h (by decide), rfl, Or.inl ⟨by decide, rfl⟩, by decide +kernel⟩
set_option maxRecDepth 100000 in
theorem key_107 : keyP 107 := ⟨(gwc_3 (i := 132) rfl rfl), ini_10, clsn_10, fun _ => ⟨(gwc_3 (i := 131) rfl rfl), (gw_of (i := 3) (by decide +kernel) rfl)⟩, fun h => absurd h (by decide), fun h => absurd h (by decide), rfl, Or.inl ⟨by decide, rfl⟩, by decide +kernel⟩
set_option maxRecDepth 100000 in
theorem key_108 : keyP 108 := ⟨(gwc_3 (i := 137) rfl rfl), ini_10, clsn_10, fun _ => ⟨(gwc_3 (i := 136) rfl rfl), (gw_of (i := 4) (by decide +kernel) rfl)⟩, fun h => absurd h (by decide), fun h => absurd h (by decide), rfl, Or.inl ⟨by decide, rfl⟩, by decide +kernel⟩
set_option maxRecDepth 100000 in
theorem key_109 : keyP 109 := ⟨(gwc_1 (i := 27) rfl rfl), ini_11, clsn_11, fun h => absurd h (by decide), fun h => absurd h (by decide), fun _ => ⟨(gwc_1 (i := 26) rfl rfl), rfl⟩, rfl, Or.inl ⟨by decide, rfl⟩, by decide +kernel⟩
set_option maxRecDepth 100000 in
theorem key_110 : keyP 110 := ⟨(gwc_3 (i := 96) rfl rfl), ini_11, clsn_11, fun _ => ⟨(gwc_3 (i := 94) rfl rfl), (gwc_3 (i := 95) rfl rfl)⟩, fun h => absurd h (by decide), fun h => absurd h (by decide), rfl, Or.inl ⟨by decide, rfl⟩, by decide +kernel⟩
set_option maxRecDepth 100000 in
theorem key_111 : keyP 111 := ⟨(gwc_3 (i := 104) rfl rfl), ini_11, clsn_11, fun _ => ⟨(gwc_3 (i := 102) rfl rfl), (gwc_3 (i := 103) rfl rfl)⟩, fun h => absurd h (by decide), fun h => absurd h (by decide), rfl, Or.inl ⟨by decide, rfl⟩, by decide +kernel⟩
set_option maxRecDepth 100000 in
theorem key_112 : keyP 112 := ⟨(gwc_3 (i := 108) rfl rfl), ini_11, clsn_11, fun _ => ⟨(gwc_3 (i := 106) rfl rfl), (gwc_3 (i := 107) rfl rfl)⟩, fun h => absurd h (by decide), fun h => absurd h (by decide), rfl, Or.inl ⟨by decide, rfl⟩, by decide +kernel⟩
set_option maxRecDepth 100000 in
theorem key_113 : keyP 113 := ⟨(gwc_4 (i := 142) rfl rfl), ini_11, clsn_11, fun _ => ⟨(gwc_4 (i := 140) rfl rfl), (gwc_4 (i := 141) rfl rfl)⟩, fun h => absurd h (by decide), fun h => absurd h (by decide), rfl, Or.inl ⟨by decide, rfl⟩, by decide +kernel⟩
set_option maxRecDepth 100000 in
theorem key_114 : keyP 114 := ⟨(gwc_4 (i := 146) rfl rfl), ini_11, clsn_11, fun _ => ⟨(gwc_4 (i := 144) rfl rfl), (gwc_4 (i := 145) rfl rfl)⟩, fun h => absurd h (by decide), fun h => absurd h (by decide), rfl, Or.inl ⟨by decide, rfl⟩, by decide +kernel⟩
set_option maxRecDepth 100000 in
theorem key_115 : keyP 115 := ⟨(gwc_4 (i := 199) rfl rfl), ini_11, clsn_11, fun _ => ⟨(gwc_4 (i := 197) rfl rfl), (gwc_4 (i := 198) rfl rfl)⟩, fun h => absurd h (by decide), fun h => absurd h (by decide), rfl, Or.inl ⟨by decide, rfl⟩, by decide +kernel⟩
set_option maxRecDepth 100000 in
theorem key_116 : keyP 116 := ⟨(gwc_4 (i := 217) rfl rfl), ini_11, clsn_11, fun _ => ⟨(gwc_4 (i := 215) rfl rfl), (gwc_4 (i := 216) rfl rfl)⟩, fun h => absurd h (by decide), fun h => absurd h (by decide), rfl, Or.inl ⟨by decide, rfl⟩, by decide +kernel⟩
set_option maxRecDepth 100000 in
theorem key_117 : keyP 117 := ⟨(gwc_4 (i := 226) rfl rfl), ini_11, clsn_11, fun _ => ⟨(gwc_4 (i := 224) rfl rfl), (gwc_4 (i := 225) rfl rfl)⟩, fun h => absurd h (by decide), fun h => absurd h (by decide), rfl, Or.inl ⟨by decide, rfl⟩, by decide +kernel⟩
set_option maxRecDepth 100000 in
theorem key_118 : keyP 118 := ⟨(gwc_5 (i := 2) rfl rfl), ini_11, clsn_11, fun _ => ⟨(gwc_5 (i := 0) rfl rfl), (gwc_5 (i := 1) rfl rfl)⟩, fun h => absurd h (by decide), fun h => absurd h (by decide), rfl, Or.inl ⟨by decide, rfl⟩, by decide +kernel⟩
set_option maxRecDepth 100000 in
theorem key_119 : keyP 119 := ⟨(gwc_5 (i := 38) rfl rfl), ini_11, clsn_11, fun _ => ⟨(gwc_5 (i := 36) rfl rfl), (gwc_5 (i := 37) rfl rfl)⟩, fun h => absurd h (by decide), fun h => absurd h (by decide), rfl, Or.inl ⟨by decide, rfl⟩, by decide +kernel⟩
set_option maxRecDepth 100000 in
theorem key_120 : keyP 120 := ⟨(gwc_5 (i := 60) rfl rfl), ini_11, clsn_11, fun _ => ⟨(gwc_5 (i := 58) rfl rfl), (gwc_5 (i := 59) rfl rfl)⟩, fun h => absurd h (by decide), fun h => absurd h (by decide), rfl, Or.inl ⟨by decide, rfl⟩, by decide +kernel⟩
set_option maxRecDepth 100000 in
theorem key_121 : keyP 121 := ⟨(gwc_5 (i := 68) rfl rfl), ini_11, clsn_11, fun _ => ⟨(gwc_5 (i := 66) rfl rfl), (gwc_5 (i := 67) rfl rfl)⟩, fun h => absurd h (by decide), fun h => absurd h (by decide), rfl, Or.inl ⟨by decide, rfl⟩, by decide +kernel⟩
set_option maxRecDepth 100000 in
theorem key_122 : keyP 122 := ⟨(gwc_5 (i := 80) rfl rfl), ini_11, clsn_11, fun _ => ⟨(gwc_5 (i := 78) rfl rfl), (gwc_5 (i := 79) rfl rfl)⟩, fun h => absurd h (by decide), fun h => absurd h (by decide), rfl, Or.inl ⟨by decide, rfl⟩, by decide +kernel⟩
set_option maxRecDepth 100000 in
theorem key_123 : keyP 123 := ⟨(gwc_5 (i := 88) rfl rfl), ini_11, clsn_11, fun _ => ⟨(gwc_5 (i := 86) rfl rfl), (gwc_5 (i := 87) rfl rfl)⟩, fun h => absurd h (by decide), fun h => absurd h (by decide), rfl, Or.inl ⟨by decide, rfl⟩, by decide +kernel⟩
set_option maxRecDepth 100000 in
theorem key_124 : keyP 124 := ⟨(gwc_5 (i := 95) rfl rfl), ini_11, clsn_11, fun _ => ⟨(gwc_5 (i := 93) rfl rfl), (gwc_5 (i := 94) rfl rfl)⟩, fun h => absurd h (by decide), fun h => absurd h (by decide), rfl, Or.inl ⟨by decide, rfl⟩, by decide +kernel⟩
set_option maxRecDepth 100000 in
theorem key_125 : keyP 125 := ⟨(gwc_5 (i := 106) rfl rfl), ini_11, clsn_11, fun _ => ⟨(gwc_5 (i := 104) rfl rfl), (gwc_5 (i := 105) rfl rfl)⟩, fun h => absurd h (by decide), fun h => absurd h (by decide), rfl, Or.inl ⟨by decide, rfl⟩, by decide +kernel⟩
set_option maxRecDepth 100000 in
theorem key_126 : keyP 126 := ⟨(gwc_5 (i := 110) rfl rfl), ini_11, clsn_11, fun _ => ⟨(gwc_5 (i := 108) rfl rfl), (gwc_5 (i := 109) rfl rfl)⟩, fun h => absurd h (by decide), fun h => absurd h (by decide), rfl, Or.inl ⟨by decide, rfl⟩, by decide +kernel⟩
set_option maxRecDepth 100000 in
theorem key_127 : keyP 127 := ⟨(gwc_5 (i := 149) rfl rfl), ini_11, clsn_11, fun _ => ⟨(gwc_5 (i := 147) rfl rfl), (gwc_5 (i := 148) rfl rfl)⟩, fun h => absurd h (by decide), fun h => absurd h (by decide), rfl, Or.inl ⟨by decide, rfl⟩, by decide +kernel⟩
set_option maxRecDepth 100000 in
theorem key_128 : keyP 128 := ⟨(gwc_5 (i := 157) rfl rfl), ini_11, clsn_11, fun _ => ⟨(gwc_5 (i := 155) rfl rfl), (gwc_5 (i := 156) rfl rfl)⟩, fun h => absurd h (by decide), fun h => absurd h (by decide), rfl, Or.inl ⟨by decide, rfl⟩, by decide +kernel⟩
set_option maxRecDepth 100000 in
theorem key_129 : keyP 129 := ⟨(gwc_5 (i := 181) rfl rfl), ini_11, clsn_11, fun _ => ⟨(gwc_5 (i := 179) rfl rfl), (gwc_5 (i := 180) rfl rfl)⟩, fun h => absurd h (by decide), fun h => absurd h (by decide), rfl, Or.inl ⟨by decide, rfl⟩, by decide +kernel⟩
set_option maxRecDepth 100000 in
theorem key_130 : keyP 130 := ⟨(gwc_5 (i := 197) rfl rfl), ini_11, clsn_11, fun _ => ⟨(gwc_5 (i := 195) rfl rfl), (gwc_5 (i := 196) rfl rfl)⟩, fun h => absurd h (by decide), fun h => absurd h (by decide), rfl, Or.inl ⟨by decide, rfl⟩, by decide +kernel⟩
set_option maxRecDepth 100000 in
theorem key_131 : keyP 131 := ⟨(gwc_5 (i := 209) rfl rfl), ini_11, clsn_11, fun _ => ⟨(gwc_5 (i := 207) rfl rfl), (gwc_5 (i := 208) rfl rfl)⟩, fun h => absurd h (by decide), fun h => absurd h (by decide), rfl, Or.inl ⟨by decide, rfl⟩, by decide +kernel⟩
set_option maxRecDepth 100000 in
theorem key_132 : keyP 132 := ⟨(gwc_5 (i := 213) rfl rfl), ini_11, clsn_11, fun _ => ⟨(gwc_5 (i := 211) rfl rfl), (gwc_5 (i := 212) rfl rfl)⟩, fun h => absurd h (by decide), fun h => absurd h (by decide), rfl, Or.inl ⟨by decide, rfl⟩, by decide +kernel⟩
set_option maxRecDepth 100000 in
theorem key_133 : keyP 133 := ⟨(gwc_5 (i := 217) rfl rfl), ini_11, clsn_11, fun _ => ⟨(gwc_5 (i := 215) rfl rfl), (gwc_5 (i := 216) rfl rfl)⟩, fun h => absurd h (by decide), fun h => absurd h (by decide), rfl, Or.inl ⟨by decide, rfl⟩, by decide +kernel⟩
set_option maxRecDepth 100000 in
theorem key_134 : keyP 134 := ⟨(gwc_5 (i := 222) rfl rfl), ini_11, clsn_11, fun _ => ⟨(gwc_5 (i := 220) rfl rfl), (gwc_5 (i := 221) rfl rfl)⟩, fun h => absurd h (by decide), fun h => absurd h (by decide), rfl, Or.inl ⟨by decide, rfl⟩, by decide +kernel⟩
set_option maxRecDepth 100000 in
theorem key_135 : keyP 135 := ⟨(gwc_5 (i := 226) rfl rfl), ini_11, clsn_11, fun _ => ⟨(gwc_5 (i := 224) rfl rfl), (gwc_5 (i := 225) rfl rfl)⟩, fun h => absurd h (by decide), fun h => absurd h (by decide), rfl, Or.inl ⟨by decide, rfl⟩, by decide +kernel⟩
set_option maxRecDepth 100000 in
theorem key_136 : keyP 136 := ⟨(gwc_5 (i := 230) rfl rfl), ini_11, clsn_11, fun _ => ⟨(gwc_5 (i := 228) rfl rfl), (gwc_5 (i := 229) rfl rfl)⟩, fun h => absurd h (by decide), fun h => absurd h (by decide), rfl, Or.inl ⟨by decide, rfl⟩, by decide +kernel⟩
set_option maxRecDepth 100000 in
theorem key_137 : keyP 137 := ⟨(gwc_6 (i := 9) rfl rfl), ini_11, clsn_11, fun _ => ⟨(gwc_6 (i := 7) rfl rfl), (gwc_6 (i := 8) rfl rfl)⟩, fun h => absurd h (by decide), fun h => absurd h (by decide), rfl, Or.inl ⟨by decide, rfl⟩, by decide +kernel⟩
set_option maxRecDepth 100000 in
theorem key_138 : keyP 138 := ⟨(gwc_6 (i := 17) rfl rfl), ini_11, clsn_11, fun _ => ⟨(gwc_6 (i := 15) rfl rfl), (gwc_6 (i := 16) rfl rfl)⟩, fun h => absurd h (by decide), fun h => absurd h (by decide), rfl, Or.inl ⟨by decide, rfl⟩, by decide +kernel⟩
set_option maxRecDepth 100000 in
theorem key_139 : keyP 139 := ⟨(gwc_6 (i := 21) rfl rfl), ini_11, clsn_11, fun _ => ⟨(gwc_6 (i := 19) rfl rfl), (gwc_6 (i := 20) rfl rfl)⟩, fun h => absurd h (by decide), fun h => absurd h (by decide), rfl, Or.inl ⟨by decide, rfl⟩, by decide +kernel⟩
set_option maxRecDepth 100000 in
theorem key_140 : keyP 140 := ⟨(gwc_6 (i := 26) rfl rfl), ini_11, clsn_11, fun _ => ⟨(gwc_6 (i := 24) rfl rfl), (gwc_6 (i := 25) rfl rfl)⟩, fun h => absurd h (by decide), fun h => absurd h (by decide), rfl, Or.inl ⟨by decide, rfl⟩, by decide +kernel⟩
set_option maxRecDepth 100000 in
theorem key_141 : keyP 141 := ⟨(gwc_6 (i := 30) rfl rfl), ini_11, clsn_11, fun _ => ⟨(gwc_6 (i := 28) rfl rfl), (gwc_6 (i := 29) rfl rfl)⟩, fun h => absurd h (by decide), fun h => absurd h (by decide), rfl, Or.inl ⟨by decide, rfl⟩, by decide +kernel⟩
set_option maxRecDepth 100000 in
theorem key_142 : keyP 142 := ⟨(gwc_3 (i := 23) rfl rfl), ini_11, clsn_11, fun _ => ⟨(gwc_3 (i := 22) rfl rfl), (gw_of (i := 0) (by decide +kernel) rfl)⟩, fun h => absurd h (by decide), fun h => absurd h (by decide), rfl, Or.inl ⟨by decide, rfl⟩, by decide +kernel⟩
set_option maxRecDepth 100000 in
theorem key_143 : keyP 143 := ⟨(gwc_3 (i := 100) rfl rfl), ini_11, clsn_11, fun _ => ⟨(gwc_3 (i := 99) rfl rfl), (gw_of (i := 1) (by decide +kernel) rfl)⟩, fun h => absurd h (by decide), fun h => absurd h (by decide), rfl, Or.inl ⟨by decide, rfl⟩, by decide +kernel⟩
set_option maxRecDepth 100000 in
theorem key_144 : keyP 144 := ⟨(gwc_4 (i := 221) rfl rfl), ini_11, clsn_11, fun _ => ⟨(gwc_4 (i := 220) rfl rfl), (gw_of (i := 36) (by decide +kernel) rfl)⟩, fun h => absurd h (by decide), fun h => absurd h (by decide), rfl, Or.inl ⟨by decide, rfl⟩, by decide +kernel⟩
set_option maxRecDepth 100000 in
theorem key_145 : keyP 145 := ⟨(gwc_4 (i := 203) rfl rfl), ini_11, clsn_11, fun _ => ⟨(gwc_4 (i := 202) rfl rfl), (gw_of (i := 35) (by decide +kernel) rfl)⟩, fun h => absurd h (by decide), fun h => absurd h (by decide), rfl, Or.inl ⟨by decide, rfl⟩, by decide +kernel⟩
set_option maxRecDepth 100000 in
theorem key_146 : keyP 146 := ⟨(gwc_4 (i := 150) rfl rfl), ini_11, clsn_11, fun _ => ⟨(gwc_4 (i := 149) rfl rfl), (gw_of (i := 31) (by decide +kernel) rfl)⟩, fun h => absurd h (by decide), fun h => absurd h (by decide), rfl, Or.inl ⟨by decide, rfl⟩, by decide +kernel⟩
set_option maxRecDepth 100000 in
theorem key_147 : keyP 147 := ⟨(gwc_5 (i := 114) rfl rfl), ini_11, clsn_11, fun _ => ⟨(gwc_5 (i := 113) rfl rfl), (gw_of (i := 42) (by decide +kernel) rfl)⟩, fun h => absurd h (by decide), fun h => absurd h (by decide), rfl, Or.inl ⟨by decide, rfl⟩, by decide +kernel⟩
set_option maxRecDepth 100000 in
theorem key_148 : keyP 148 := ⟨(gwc_5 (i := 234) rfl rfl), ini_11, clsn_11, fun _ => ⟨(gwc_5 (i := 233) rfl rfl), (gw_of (i := 49) (by decide +kernel) rfl)⟩, fun h => absurd h (by decide), fun h => absurd h (by decide), rfl, Or.inl ⟨by decide, rfl⟩, by decide +kernel⟩
set_option maxRecDepth 100000 in
theorem key_149 : keyP 149 := ⟨(gwc_6 (i := 34) rfl rfl), ini_11, clsn_11, fun _ => ⟨(gwc_6 (i := 33) rfl rfl), (gw_of (i := 53) (by decide +kernel) rfl)⟩, fun h => absurd h (by decide), fun h => absurd h (by decide), rfl, Or.inl ⟨by decide, rfl⟩, by decide +kernel⟩
set_option maxRecDepth 100000 in
theorem key_150 : keyP 150 := ⟨(gwc_5 (i := 238) rfl rfl), ini_11, clsn_11, fun _ => ⟨(gwc_5 (i := 237) rfl rfl), (gw_of (i := 50) (by decide +kernel) rfl)⟩, fun h => absurd h (by decide), fun h => absurd h (by decide), rfl, Or.inl ⟨by decide, rfl⟩, by decide +kernel⟩
set_option maxRecDepth 100000 in
theorem key_151 : keyP 151 := ⟨(gwc_6 (i := 2) rfl rfl), ini_11, clsn_11, fun _ => ⟨(gwc_6 (i := 1) rfl rfl), (gw_of (i := 51) (by decide +kernel) rfl)⟩, fun h => absurd h (by decide), fun h => absurd h (by decide), rfl, Or.inl ⟨by decide, rfl⟩, by decide +kernel⟩
set_option maxRecDepth 100000 in
theorem key_152 : keyP 152 := ⟨(gwc_6 (i := 13) rfl rfl), ini_11, clsn_11, fun _ => ⟨(gwc_6 (i := 12) rfl rfl), (gw_of (i := 52) (by decide +kernel) rfl)⟩, fun h => absurd h (by decide), fun h => absurd h (by decide), rfl, Or.inl ⟨by decide, rfl⟩, by decide +kernel⟩
set_option maxRecDepth 100000 in
theorem key_153 : keyP 153 := ⟨(gwc_5 (i := 34) rfl rfl), ini_11, clsn_11, fun h => absurd h (by decide), fun _ => (gwc_5 (i := 33) rfl rfl), fun h => absurd h (by decide), rfl, Or.inr (Or.inr rfl), by decide +kernel⟩
set_option maxRecDepth 100000 in
theorem key_154 : keyP 154 := ⟨(gwc_4 (i := 154) rfl rfl), ini_11, clsn_11, fun h => absurd h (by decide), fun _ => (gwc_4 (i := 153) rfl rfl), fun h => absurd h (by decide), rfl, Or.inr (Or.inr rfl), by decide +kernel⟩
set_option maxRecDepth 100000 in
theorem key_155 : keyP 155 := ⟨(gwc_4 (i := 157) rfl rfl), ini_11, clsn_11, fun h => absurd h (by decide), fun _ => (gwc_4 (i := 156) rfl rfl), fun h => absurd h (by decide), rfl, Or.inr (Or.inr rfl), by decide +kernel⟩
set_option maxRecDepth 100000 in
theorem key_156 : keyP 156 := ⟨(gwc_4 (i := 174) rfl rfl), ini_11, clsn_11, fun h => absurd h (by decide), fun _ => (gwc_4 (i := 173) rfl rfl), fun h => absurd h (by decide), rfl, Or.inr (Or.inr rfl), by decide +kernel⟩
set_option maxRecDepth 100000 in
theorem key_157 : keyP 157 := ⟨(gwc_4 (i := 193) rfl rfl), ini_11, clsn_11, fun h => absurd h (by decide), fun _ => (gwc_4 (i := 192) rfl rfl), fun h => absurd h (by decide), rfl, Or.inr (Or.inr rfl), by decide +kernel⟩
set_option maxRecDepth 100000 in
theorem key_158 : keyP 158 := ⟨(gwc_5 (i := 102) rfl rfl), ini_11, clsn_11, fun h => absurd h (by decide), fun _ => (gwc_5 (i := 101) rfl rfl), fun h => absurd h (by decide), rfl, Or.inr (Or.inr rfl), by decide +kernel⟩
set_option maxRecDepth 100000 in
theorem key_159 : keyP 159 := ⟨(gwc_6 (i := 39) rfl rfl), ini_12, clsn_12, fun h => absurd h (by decide), fun h => absurd h (by decide), fun _ => ⟨(gwc_6 (i := 38) rfl rfl), rfl⟩, rfl, Or.inl ⟨by decide, rfl⟩, by decide +kernel⟩
set_option maxRecDepth 100000 in
theorem key_160 : keyP 160 := ⟨(gwc_7 (i := 48) rfl rfl), ini_12, clsn_12, fun _ => ⟨(gwc_7 (i := 46) rfl rfl), (gwc_7 (i := 47) rfl rfl)⟩, fun h => absurd h (by decide), fun h => absurd h (by decide), rfl, Or.inl ⟨by decide, rfl⟩, by decide +kernel⟩
set_option maxRecDepth 100000 in
theorem key_161 : keyP 161 := ⟨(gwc_7 (i := 52) rfl rfl), ini_12, clsn_12, fun _ => ⟨(gwc_7 (i := 51) rfl rfl), (gw_of (i := 57) (by decide +kernel) rfl)⟩, fun h => absurd h (by decide), fun h => absurd h (by decide), rfl, Or.inl ⟨by decide, rfl⟩, by decide +kernel⟩
set_option maxRecDepth 100000 in
theorem key_162 : keyP 162 := ⟨(gwc_7 (i := 56) rfl rfl), ini_12, clsn_12, fun _ => ⟨(gwc_7 (i := 54) rfl rfl), (gwc_7 (i := 55) rfl rfl)⟩, fun h => absurd h (by decide), fun h => absurd h (by decide), rfl, Or.inl ⟨by decide, rfl⟩, by decide +kernel⟩
set_option maxRecDepth 100000 in
theorem key_163 : keyP 163 := ⟨(gwc_7 (i := 68) rfl rfl), ini_12, clsn_12, fun _ => ⟨(gwc_7 (i := 67) rfl rfl), (gw_of (i := 59) (by decide +kernel) rfl)⟩, fun h => absurd h (by decide), fun h => absurd h (by decide), rfl, Or.inl ⟨by decide, rfl⟩, by decide +kernel⟩
set_option maxRecDepth 100000 in
theorem key_164 : keyP 164 := ⟨(gwc_7 (i := 78) rfl rfl), ini_12, clsn_12, fun h => absurd h (by decide), fun _ => (gwc_7 (i := 77) rfl rfl), fun h => absurd h (by decide), rfl, Or.inr (Or.inr rfl), by decide +kernel⟩
set_option maxRecDepth 100000 in
theorem key_165 : keyP 165 := ⟨(gwc_7 (i := 75) rfl rfl), ini_12, clsn_12, fun h => absurd h (by decide), fun _ => (gwc_7 (i := 74) rfl rfl), fun h => absurd h (by decide), rfl, Or.inr (Or.inr rfl), by decide +kernel⟩
set_option maxRecDepth 100000 in
theorem key_166 : keyP 166 := ⟨(gwc_6 (i := 50) rfl rfl), ini_12, clsn_12, fun h => absurd h (by decide), fun _ => (gwc_6 (i := 49) rfl rfl), fun h => absurd h (by decide), rfl, Or.inr (Or.inr rfl), by decide +kernel⟩
set_option maxRecDepth 100000 in
theorem key_167 : keyP 167 := ⟨(gwc_6 (i := 47) rfl rfl), ini_12, clsn_12, fun h => absurd h (by decide), fun _ => (gwc_6 (i := 46) rfl rfl), fun h => absurd h (by decide), rfl, Or.inr (Or.inr rfl), by decide +kernel⟩
set_option maxRecDepth 100000 in
theorem key_168 : keyP 168 := ⟨(gwc_7 (i := 72) rfl rfl), ini_12, clsn_12, fun _ => ⟨(gwc_7 (i := 71) rfl rfl), (gw_of (i := 60) (by decide +kernel) rfl)⟩, fun h => absurd h (by decide), fun h => absurd h (by decide), rfl, Or.inl ⟨by decide, rfl⟩, by decide +kernel⟩
set_option maxRecDepth 100000 in
theorem key_169 : keyP 169 := ⟨(gwc_7 (i := 64) rfl rfl), ini_12, clsn_12, fun _ => ⟨(gwc_7 (i := 63) rfl rfl), (gw_of (i := 58) (by decide +kernel) rfl)⟩, fun h => absurd h (by decide), fun h => absurd h (by decide), rfl, Or.inl ⟨by decide, rfl⟩, by decide +kernel⟩
set_option maxRecDepth 100000 in
theorem key_170 : keyP 170 := ⟨(gwc_7 (i := 82) rfl rfl), ini_12, clsn_12, fun _ => ⟨(gwc_7 (i := 81) rfl rfl), (gw_of (i := 61) (by decide +kernel) rfl)⟩, fun h => absurd h (by decide), fun h => absurd h (by decide), rfl, Or.inl ⟨by decide, rfl⟩, by decide +kernel⟩
set_option maxRecDepth 100000 in
theorem key_171 : keyP 171 := ⟨(gwc_7 (i := 86) rfl rfl), ini_12, clsn_12, fun _ => ⟨(gwc_7 (i := 85) rfl rfl), (gw_of (i := 62) (by decide +kernel) rfl)⟩, fun h => absurd h (by decide), fun h => absurd h (by decide), rfl, Or.inl ⟨by decide, rfl⟩, by decide +kernel⟩
set_option maxRecDepth 100000 in
theorem key_172 : keyP 172 := ⟨(gwc_7 (i := 98) rfl rfl), ini_12, clsn_12, fun _ => ⟨(gwc_7 (i := 97) rfl rfl), (gw_of (i := 65) (by decide +kernel) rfl)⟩, fun h => absurd h (by decide), fun h => absurd h (by decide), rfl, Or.inl ⟨by decide, rfl⟩, by decide +kernel⟩
set_option maxRecDepth 100000 in
theorem key_173 : keyP 173 := ⟨(gwc_7 (i := 118) rfl rfl), ini_12, clsn_12, fun _ => ⟨(gwc_7 (i := 117) rfl rfl), (gw_of (i := 70) (by decide +kernel) rfl)⟩, fun h => absurd h (by decide), fun h => absurd h (by decide), rfl, Or.inl ⟨by decide, rfl⟩, by decide +kernel⟩
set_option maxRecDepth 100000 in
theorem key_174 : keyP 174 := ⟨(gwc_7 (i := 102) rfl rfl), ini_12, clsn_12, fun _ => ⟨(gwc_7 (i := 101) rfl rfl), (gw_of (i := 66) (by decide +kernel) rfl)⟩, fun h => absurd h (by decide), fun h => absurd h (by decide), rfl, Or.inl ⟨by decide, rfl⟩, by decide +kernel⟩
set_option maxRecDepth 100000 in
theorem key_175 : keyP 175 := ⟨(gwc_7 (i := 114) rfl rfl), ini_12, clsn_12, fun _ => ⟨(gwc_7 (i := 113) rfl rfl), (gw_of (i := 69) (by decide +kernel) rfl)⟩, fun h => absurd h (by decide), fun h => absurd h (by decide), rfl, Or.inl ⟨by decide, rfl⟩, by decide +kernel⟩
set_option maxRecDepth 100000 in
theorem key_176 : keyP 176 := ⟨(gwc_6 (i := 44) rfl rfl), ini_12, clsn_12, fun _ => ⟨(gwc_6 (i := 43) rfl rfl), (gw_of (i := 54) (by decide +kernel) rfl)⟩, fun h => absurd h (by decide), fun h => absurd h (by decide), rfl, Or.inl ⟨by decide, rfl⟩, by decide +kernel⟩
set_option maxRecDepth 100000 in
theorem key_177 : keyP 177 := ⟨(gwc_7 (i := 60) rfl rfl), ini_12, clsn_12, fun _ => ⟨(gwc_7 (i := 58) rfl rfl), (gwc_7 (i := 59) rfl rfl)⟩, fun h => absurd h (by decide), fun h => absurd h (by decide), rfl, Or.inl ⟨by decide, rfl⟩, by decide +kernel⟩
set_option maxRecDepth 100000 in
theorem key_178 : keyP 178 := ⟨(gwc_7 (i := 174) rfl rfl), ini_12, clsn_12, fun _ => ⟨(gwc_7 (i := 172) rfl rfl), (gwc_7 (i := 173) rfl rfl)⟩, fun h => absurd h (by decide), fun h => absurd h (by decide), rfl, Or.inl ⟨by decide, rfl⟩, by decide +kernel⟩
set_option maxRecDepth 100000 in
theorem key_179 : keyP 179 := ⟨(gwc_7 (i := 94) rfl rfl), ini_12, clsn_12, fun _ => ⟨(gwc_7 (i := 93) rfl rfl), (gw_of (i := 64) (by decide +kernel) rfl)⟩, fun h => absurd h (by decide), fun h => absurd h (by decide), rfl, Or.inl ⟨by decide, rfl⟩, by decide +kernel⟩
set_option maxRecDepth 100000 in
theorem key_180 : keyP 180 := ⟨(gwc_7 (i := 90) rfl rfl), ini_12, clsn_12, fun _ => ⟨(gwc_7 (i := 89) rfl rfl), (gw_of (i := 63) (by decide +kernel) rfl)⟩, fun h => absurd h (by decide), fun h => absurd h (by decide), rfl, Or.inl ⟨by decide, rfl⟩, by decide +kernel⟩
set_option maxRecDepth 100000 in
theorem key_181 : keyP 181 := ⟨(gwc_7 (i := 110) rfl rfl), ini_12, clsn_12, fun _ => ⟨(gwc_7 (i := 109) rfl rfl), (gw_of (i := 68) (by decide +kernel) rfl)⟩, fun h => absurd h (by decide), fun h => absurd h (by decide), rfl, Or.inl ⟨by decide, rfl⟩, by decide +kernel⟩
set_option maxRecDepth 100000 in
theorem key_182 : keyP 182 := ⟨(gwc_7 (i := 126) rfl rfl), ini_12, clsn_12, fun _ => ⟨(gwc_7 (i := 125) rfl rfl), (gw_of (i := 72) (by decide +kernel) rfl)⟩, fun h => absurd h (by decide), fun h => absurd h (by decide), rfl, Or.inl ⟨by decide, rfl⟩, by decide +kernel⟩
set_option maxRecDepth 100000 in
theorem key_183 : keyP 183 := ⟨(gwc_7 (i := 134) rfl rfl), ini_12, clsn_12, fun _ => ⟨(gwc_7 (i := 133) rfl rfl), (gw_of (i := 74) (by decide +kernel) rfl)⟩, fun h => absurd h (by decide), fun h => absurd h (by decide), rfl, Or.inl ⟨by decide, rfl⟩, by decide +kernel⟩
set_option maxRecDepth 100000 in
theorem key_184 : keyP 184 := ⟨(gwc_7 (i := 122) rfl rfl), ini_12, clsn_12, fun _ => ⟨(gwc_7 (i := 121) rfl rfl), (gw_of (i := 71) (by decide +kernel) rfl)⟩, fun h => absurd h (by decide), fun h => absurd h (by decide), rfl, Or.inl ⟨by decide, rfl⟩, by decide +kernel⟩
set_option maxRecDepth 100000 in
theorem key_185 : keyP 185 := ⟨(gwc_7 (i := 106) rfl rfl), ini_12, clsn_12, fun _ => ⟨(gwc_7 (i := 105) rfl rfl), (gw_of (i := 67) (by decide +kernel) rfl)⟩, fun h => absurd h (by decide), fun h => absurd h (by decide), rfl, Or.inl ⟨by decide, rfl⟩, by decide +kernel⟩
set_option maxRecDepth 100000 in
theorem key_186 : keyP 186 := ⟨(gwc_7 (i := 130) rfl rfl), ini_12, clsn_12, fun _ => ⟨(gwc_7 (i := 129) rfl rfl), (gw_of (i := 73) (by decide +kernel) rfl)⟩, fun h => absurd h (by decide), fun h => absurd h (by decide), rfl, Or.inl ⟨by decide, rfl⟩, by decide +kernel⟩
set_option maxRecDepth 100000 in
theorem key_187 : keyP 187 := ⟨(gwc_7 (i := 138) rfl rfl), ini_12, clsn_12, fun _ => ⟨(gwc_7 (i := 137) rfl rfl), (gw_of (i := 75) (by decide +kernel) rfl)⟩, fun h => absurd h (by decide), fun h => absurd h (by decide), rfl, Or.inl ⟨by decide, rfl⟩, by decide +kernel⟩
set_option maxRecDepth 100000 in
theorem key_188 : keyP 188 := ⟨(gwc_7 (i := 142) rfl rfl), ini_12, clsn_12, fun _ => ⟨(gwc_7 (i := 141) rfl rfl), (gw_of (i := 76) (by decide +kernel) rfl)⟩, fun h => absurd h (by decide), fun h => absurd h (by decide), rfl, Or.inl ⟨by decide, rfl⟩, by decide +kernel⟩
set_option maxRecDepth 100000 in
theorem key_189 : keyP 189 := ⟨(gwc_7 (i := 146) rfl rfl), ini_12, clsn_12, fun _ => ⟨(gwc_7 (i := 145) rfl rfl), (gw_of (i := 77) (by decide +kernel) rfl)⟩, fun h => absurd h (by decide), fun h => absurd h (by decide), rfl, Or.inl ⟨by decide, rfl⟩, by decide +kernel⟩
set_option maxRecDepth 100000 in
theorem key_190 : keyP 190 := ⟨(gwc_7 (i := 150) rfl rfl), ini_12, clsn_12, fun _ => ⟨(gwc_7 (i := 149) rfl rfl), (gw_of (i := 78) (by decide +kernel) rfl)⟩, fun h => absurd h (by decide), fun h => absurd h (by decide), rfl, Or.inl ⟨by decide, rfl⟩, by decide +kernel⟩
set_option maxRecDepth 100000 in
theorem key_191 : keyP 191 := ⟨(gwc_7 (i := 170) rfl rfl), ini_12, clsn_12, fun _ => ⟨(gwc_7 (i := 169) rfl rfl), (gw_of (i := 83) (by decide +kernel) rfl)⟩, fun h => absurd h (by decide), fun h => absurd h (by decide), rfl, Or.inl ⟨by decide, rfl⟩, by decide +kernel⟩
set_option maxRecDepth 100000 in
theorem key_192 : keyP 192 := ⟨(gwc_7 (i := 162) rfl rfl), ini_12, clsn_12, fun _ => ⟨(gwc_7 (i := 161) rfl rfl), (gw_of (i := 81) (by decide +kernel) rfl)⟩, fun h => absurd h (by decide), fun h => absurd h (by decide), rfl, Or.inl ⟨by decide, rfl⟩, by decide +kernel⟩
set_option maxRecDepth 100000 in
theorem key_193 : keyP 193 := ⟨(gwc_7 (i := 166) rfl rfl), ini_12, clsn_12, fun _ => ⟨(gwc_7 (i := 165) rfl rfl), (gw_of (i := 82) (by decide +kernel) rfl)⟩, fun h => absurd h (by decide), fun h => absurd h (by decide), rfl, Or.inl ⟨by decide, rfl⟩, by decide +kernel⟩
set_option maxRecDepth 100000 in
theorem key_194 : keyP 194 := ⟨(gwc_7 (i := 154) rfl rfl), ini_12, clsn_12, fun _ => ⟨(gwc_7 (i := 153) rfl rfl), (gw_of (i := 79) (by decide +kernel) rfl)⟩, fun h => absurd h (by decide), fun h => absurd h (by decide), rfl, Or.inl ⟨by decide, rfl⟩, by decide +kernel⟩
set_option maxRecDepth 100000 in
theorem key_195 : keyP 195 := ⟨(gwc_7 (i := 158) rfl rfl), ini_12, clsn_12, fun _ => ⟨(gwc_7 (i := 157) rfl rfl), (gw_of (i := 80) (by decide +kernel) rfl)⟩, fun h => absurd h (by decide), fun h => absurd h (by decide), rfl, Or.inl ⟨by decide, rfl⟩, by decide +kernel⟩
set_option maxRecDepth 100000 in
theorem key_196 : keyP 196 := ⟨(gwc_7 (i := 218) rfl rfl), ini_12, clsn_12, fun _ => ⟨(gwc_7 (i := 217) rfl rfl), (gw_of (i := 92) (by decide +kernel) rfl)⟩, fun h => absurd h (by decide), fun h => absurd h (by decide), rfl, Or.inl ⟨by decide, rfl⟩, by decide +kernel⟩
set_option maxRecDepth 100000 in
theorem key_197 : keyP 197 := ⟨(gwc_7 (i := 185) rfl rfl), ini_12, clsn_12, fun h => absurd h (by decide), fun _ => (gwc_7 (i := 184) rfl rfl), fun h => absurd h (by decide), rfl, Or.inr (Or.inr rfl), by decide +kernel⟩
set_option maxRecDepth 100000 in
theorem key_198 : keyP 198 := ⟨(gwc_7 (i := 233) rfl rfl), ini_12, clsn_12, fun h => absurd h (by decide), fun _ => (gwc_7 (i := 232) rfl rfl), fun h => absurd h (by decide), rfl, Or.inr (Or.inr rfl), by decide +kernel⟩
set_option maxRecDepth 100000 in
theorem key_199 : keyP 199 := ⟨(gwc_7 (i := 182) rfl rfl), ini_12, clsn_12, fun _ => ⟨(gwc_7 (i := 181) rfl rfl), (gw_of (i := 84) (by decide +kernel) rfl)⟩, fun h => absurd h (by decide), fun h => absurd h (by decide), rfl, Or.inl ⟨by decide, rfl⟩, by decide +kernel⟩
end
section
set_option maxRecDepth 100000 in
theorem key_200 : keyP 200 := ⟨(gwc_7 (i := 226) rfl rfl), ini_12, clsn_12, fun _ => ⟨(gwc_7 (i := 225) rfl rfl), (gw_of (i := 93) (by decide +kernel) rfl)⟩, fun h => absurd h (by decide), fun h => absurd h (by decide), rfl, Or.inl ⟨by decide, rfl⟩, by decide +kernel⟩
set_option maxRecDepth 100000 in
theorem key_201 : keyP 201 := ⟨(gwc_8 (i := 9) rfl rfl), ini_12, clsn_12, fun _ => ⟨(gwc_8 (i := 8) rfl rfl), (gw_of (i := 97) (by decide +kernel) rfl)⟩, fun h => absurd h (by decide), fun h => absurd h (by decide), rfl, Or.inl ⟨by decide, rfl⟩, by decide +kernel⟩
set_option maxRecDepth 100000 in
theorem key_202 : keyP 202 := ⟨(gwc_6 (i := 55) rfl rfl), ini_12, clsn_12, fun _ => ⟨(gwc_6 (i := 54) rfl rfl), (gw_of (i := 55) (by decide +kernel) rfl)⟩, fun h => absurd h (by decide), fun h => absurd h (by decide), rfl, Or.inl ⟨by decide, rfl⟩, by decide +kernel⟩
set_option maxRecDepth 100000 in
theorem key_203 : keyP 203 := ⟨(gwc_6 (i := 59) rfl rfl), ini_12, clsn_12, fun _ => ⟨(gwc_6 (i := 58) rfl rfl), (gw_of (i := 56) (by decide +kernel) rfl)⟩, fun h => absurd h (by decide), fun h => absurd h (by decide), rfl, Or.inl ⟨by decide, rfl⟩, by decide +kernel⟩
set_option maxRecDepth 100000 in
theorem key_204 : keyP 204 := ⟨(gwc_7 (i := 190) rfl rfl), ini_12, clsn_12, fun _ => ⟨(gwc_7 (i := 189) rfl rfl), (gw_of (i := 85) (by decide +kernel) rfl)⟩, fun h => absurd h (by decide), fun h => absurd h (by decide), rfl, Or.inl ⟨by decide, rfl⟩, by decide +kernel⟩
set_option maxRecDepth 100000 in
theorem key_205 : keyP 205 := ⟨(gwc_8 (i := 40) rfl rfl), ini_12, clsn_12, fun h => absurd h (by decide), fun _ => (gwc_8 (i := 39) rfl rfl), fun h => absurd h (by decide), rfl, Or.inr (Or.inr rfl), by decide +kernel⟩
set_option maxRecDepth 100000 in
theorem key_206 : keyP 206 := ⟨(gwc_8 (i := 37) rfl rfl), ini_12, clsn_12, fun _ => ⟨(gwc_8 (i := 36) rfl rfl), (gw_of (i := 102) (by decide +kernel) rfl)⟩, fun h => absurd h (by decide), fun h => absurd h (by decide), rfl, Or.inl ⟨by decide, rfl⟩, by decide +kernel⟩
set_option maxRecDepth 100000 in
theorem key_207 : keyP 207 := ⟨(gwc_8 (i := 1) rfl rfl), ini_12, clsn_12, fun _ => ⟨(gwc_8 (i := 0) rfl rfl), (gw_of (i := 96) (by decide +kernel) rfl)⟩, fun h => absurd h (by decide), fun h => absurd h (by decide), rfl, Or.inl ⟨by decide, rfl⟩, by decide +kernel⟩
set_option maxRecDepth 100000 in
theorem key_208 : keyP 208 := ⟨(gwc_7 (i := 237) rfl rfl), ini_12, clsn_12, fun _ => ⟨(gwc_7 (i := 236) rfl rfl), (gw_of (i := 95) (by decide +kernel) rfl)⟩, fun h => absurd h (by decide), fun h => absurd h (by decide), rfl, Or.inl ⟨by decide, rfl⟩, by decide +kernel⟩
set_option maxRecDepth 100000 in
theorem key_209 : keyP 209 := ⟨(gwc_7 (i := 210) rfl rfl), ini_12, clsn_12, fun _ => ⟨(gwc_7 (i := 209) rfl rfl), (gw_of (i := 90) (by decide +kernel) rfl)⟩, fun h => absurd h (by decide), fun h => absurd h (by decide), rfl, Or.inl ⟨by decide, rfl⟩, by decide +kernel⟩
set_option maxRecDepth 100000 in
theorem key_210 : keyP 210 := ⟨(gwc_8 (i := 45) rfl rfl), ini_12, clsn_12, fun _ => ⟨(gwc_8 (i := 44) rfl rfl), (gw_of (i := 103) (by decide +kernel) rfl)⟩, fun h => absurd h (by decide), fun h => absurd h (by decide), rfl, Or.inl ⟨by decide, rfl⟩, by decide +kernel⟩
set_option maxRecDepth 100000 in
theorem key_211 : keyP 211 := ⟨(gwc_7 (i := 206) rfl rfl), ini_12, clsn_12, fun _ => ⟨(gwc_7 (i := 205) rfl rfl), (gw_of (i := 89) (by decide +kernel) rfl)⟩, fun h => absurd h (by decide), fun h => absurd h (by decide), rfl, Or.inl ⟨by decide, rfl⟩, by decide +kernel⟩
set_option maxRecDepth 100000 in
theorem key_212 : keyP 212 := ⟨(gwc_7 (i := 214) rfl rfl), ini_12, clsn_12, fun _ => ⟨(gwc_7 (i := 213) rfl rfl), (gw_of (i := 91) (by decide +kernel) rfl)⟩, fun h => absurd h (by decide), fun h => absurd h (by decide), rfl, Or.inl ⟨by decide, rfl⟩, by decide +kernel⟩
set_option maxRecDepth 100000 in
theorem key_213 : keyP 213 := ⟨(gwc_8 (i := 49) rfl rfl), ini_12, clsn_12, fun _ => ⟨(gwc_8 (i := 48) rfl rfl), (gw_of (i := 104) (by decide +kernel) rfl)⟩, fun h => absurd h (by decide), fun h => absurd h (by decide), rfl, Or.inl ⟨by decide, rfl⟩, by decide +kernel⟩
set_option maxRecDepth 100000 in
theorem key_214 : keyP 214 := ⟨(gwc_7 (i := 202) rfl rfl), ini_12, clsn_12, fun _ => ⟨(gwc_7 (i := 201) rfl rfl), (gw_of (i := 88) (by decide +kernel) rfl)⟩, fun h => absurd h (by decide), fun h => absurd h (by decide), rfl, Or.inl ⟨by decide, rfl⟩, by decide +kernel⟩
set_option maxRecDepth 100000 in
theorem key_215 : keyP 215 := ⟨(gwc_7 (i := 198) rfl rfl), ini_12, clsn_12, fun _ => ⟨(gwc_7 (i := 197) rfl rfl), (gw_of (i := 87) (by decide +kernel) rfl)⟩, fun h => absurd h (by decide), fun h => absurd h (by decide), rfl, Or.inl ⟨by decide, rfl⟩, by decide +kernel⟩
set_option maxRecDepth 100000 in
theorem key_216 : keyP 216 := ⟨(gwc_7 (i := 194) rfl rfl), ini_12, clsn_12, fun _ => ⟨(gwc_7 (i := 193) rfl rfl), (gw_of (i := 86) (by decide +kernel) rfl)⟩, fun h => absurd h (by decide), fun h => absurd h (by decide), rfl, Or.inl ⟨by decide, rfl⟩, by decide +kernel⟩
set_option maxRecDepth 100000 in
theorem key_217 : keyP 217 := ⟨(gwc_8 (i := 69) rfl rfl), ini_12, clsn_12, fun _ => ⟨(gwc_8 (i := 68) rfl rfl), (gw_of (i := 108) (by decide +kernel) rfl)⟩, fun h => absurd h (by decide), fun h => absurd h (by decide), rfl, Or.inl ⟨by decide, rfl⟩, by decide +kernel⟩
set_option maxRecDepth 100000 in
theorem key_218 : keyP 218 := ⟨(gwc_8 (i := 33) rfl rfl), ini_12, clsn_12, fun _ => ⟨(gwc_8 (i := 32) rfl rfl), (gw_of (i := 101) (by decide +kernel) rfl)⟩, fun h => absurd h (by decide), fun h => absurd h (by decide), rfl, Or.inl ⟨by decide, rfl⟩, by decide +kernel⟩
set_option maxRecDepth 100000 in
theorem key_219 : keyP 219 := ⟨(gwc_8 (i := 29) rfl rfl), ini_12, clsn_12, fun _ => ⟨(gwc_8 (i := 28) rfl rfl), (gw_of (i := 100) (by decide +kernel) rfl)⟩, fun h => absurd h (by decide), fun h => absurd h (by decide), rfl, Or.inl ⟨by decide, rfl⟩, by decide +kernel⟩
set_option maxRecDepth 100000 in
theorem key_220 : keyP 220 := ⟨(gwc_8 (i := 25) rfl rfl), ini_12, clsn_12, fun _ => ⟨(gwc_8 (i := 24) rfl rfl), (gw_of (i := 99) (by decide +kernel) rfl)⟩, fun h => absurd h (by decide), fun h => absurd h (by decide), rfl, Or.inl ⟨by decide, rfl⟩, by decide +kernel⟩
set_option maxRecDepth 100000 in
theorem key_221 : keyP 221 := ⟨(gwc_8 (i := 65) rfl rfl), ini_12, clsn_12, fun _ => ⟨(gwc_8 (i := 64) rfl rfl), (gw_of (i := 107) (by decide +kernel) rfl)⟩, fun h => absurd h (by decide), fun h => absurd h (by decide), rfl, Or.inl ⟨by decide, rfl⟩, by decide +kernel⟩
set_option maxRecDepth 100000 in
theorem key_222 : keyP 222 := ⟨(gwc_8 (i := 61) rfl rfl), ini_12, clsn_12, fun _ => ⟨(gwc_8 (i := 60) rfl rfl), (gw_of (i := 106) (by decide +kernel) rfl)⟩, fun h => absurd h (by decide), fun h => absurd h (by decide), rfl, Or.inl ⟨by decide, rfl⟩, by decide +kernel⟩
set_option maxRecDepth 100000 in
theorem key_223 : keyP 223 := ⟨(gwc_8 (i := 57) rfl rfl), ini_12, clsn_12, fun _ => ⟨(gwc_8 (i := 56) rfl rfl), (gw_of (i := 105) (by decide +kernel) rfl)⟩, fun h => absurd h (by decide), fun h => absurd h (by decide), rfl, Or.inl ⟨by decide, rfl⟩, by decide +kernel⟩
set_option maxRecDepth 100000 in
theorem key_224 : keyP 224 := ⟨(gwc_7 (i := 230) rfl rfl), ini_12, clsn_12, fun _ => ⟨(gwc_7 (i := 229) rfl rfl), (gw_of (i := 94) (by decide +kernel) rfl)⟩, fun h => absurd h (by decide), fun h => absurd h (by decide), rfl, Or.inl ⟨by decide, rfl⟩, by decide +kernel⟩
set_option maxRecDepth 100000 in
theorem key_225 : keyP 225 := ⟨(gwc_7 (i := 178) rfl rfl), ini_12, clsn_12, fun _ => ⟨(gwc_7 (i := 176) rfl rfl), (gwc_7 (i := 177) rfl rfl)⟩, fun h => absurd h (by decide), fun h => absurd h (by decide), rfl, Or.inl ⟨by decide, rfl⟩, by decide +kernel⟩
set_option maxRecDepth 100000 in
theorem key_226 : keyP 226 := ⟨(gwc_7 (i := 222) rfl rfl), ini_12, clsn_12, fun _ => ⟨(gwc_7 (i := 220) rfl rfl), (gwc_7 (i := 221) rfl rfl)⟩, fun h => absurd h (by decide), fun h => absurd h (by decide), rfl, Or.inl ⟨by decide, rfl⟩, by decide +kernel⟩
set_option maxRecDepth 100000 in
theorem key_227 : keyP 227 := ⟨(gwc_8 (i := 5) rfl rfl), ini_12, clsn_12, fun _ => ⟨(gwc_8 (i := 3) rfl rfl), (gwc_8 (i := 4) rfl rfl)⟩, fun h => absurd h (by decide), fun h => absurd h (by decide), rfl, Or.inl ⟨by decide, rfl⟩, by decide +kernel⟩
set_option maxRecDepth 100000 in
theorem key_228 : keyP 228 := ⟨(gwc_8 (i := 17) rfl rfl), ini_12, clsn_12, fun _ => ⟨(gwc_8 (i := 16) rfl rfl), (gw_of (i := 98) (by decide +kernel) rfl)⟩, fun h => absurd h (by decide), fun h => absurd h (by decide), rfl, Or.inl ⟨by decide, rfl⟩, by decide +kernel⟩
set_option maxRecDepth 100000 in
theorem key_229 : keyP 229 := ⟨(gwc_8 (i := 13) rfl rfl), ini_12, clsn_12, fun _ => ⟨(gwc_8 (i := 11) rfl rfl), (gwc_8 (i := 12) rfl rfl)⟩, fun h => absurd h (by decide), fun h => absurd h (by decide), rfl, Or.inl ⟨by decide, rfl⟩, by decide +kernel⟩
set_option maxRecDepth 100000 in
theorem key_230 : keyP 230 := ⟨(gwc_8 (i := 21) rfl rfl), ini_12, clsn_12, fun _ => ⟨(gwc_8 (i := 19) rfl rfl), (gwc_8 (i := 20) rfl rfl)⟩, fun h => absurd h (by decide), fun h => absurd h (by decide), rfl, Or.inl ⟨by decide, rfl⟩, by decide +kernel⟩
set_option maxRecDepth 100000 in
theorem key_231 : keyP 231 := ⟨(gwc_8 (i := 53) rfl rfl), ini_12, clsn_12, fun _ => ⟨(gwc_8 (i := 51) rfl rfl), (gwc_8 (i := 52) rfl rfl)⟩, fun h => absurd h (by decide), fun h => absurd h (by decide), rfl, Or.inl ⟨by decide, rfl⟩, by decide +kernel⟩
set_option maxRecDepth 100000 in
theorem key_232 : keyP 232 := ⟨(gwc_8 (i := 77) rfl rfl), ini_12, clsn_12, fun _ => ⟨(gwc_8 (i := 76) rfl rfl), (gw_of (i := 109) (by decide +kernel) rfl)⟩, fun h => absurd h (by decide), fun h => absurd h (by decide), rfl, Or.inl ⟨by decide, rfl⟩, by decide +kernel⟩
set_option maxRecDepth 100000 in
theorem key_233 : keyP 233 := ⟨(gwc_8 (i := 73) rfl rfl), ini_12, clsn_12, fun _ => ⟨(gwc_8 (i := 71) rfl rfl), (gwc_8 (i := 72) rfl rfl)⟩, fun h => absurd h (by decide), fun h => absurd h (by decide), rfl, Or.inl ⟨by decide, rfl⟩, by decide +kernel⟩
set_option maxRecDepth 100000 in
theorem key_234 : keyP 234 := ⟨(gwc_8 (i := 81) rfl rfl), ini_12, clsn_12, fun _ => ⟨(gwc_8 (i := 79) rfl rfl), (gwc_8 (i := 80) rfl rfl)⟩, fun h => absurd h (by decide), fun h => absurd h (by decide), rfl, Or.inl ⟨by decide, rfl⟩, by decide +kernel⟩
set_option maxRecDepth 100000 in
theorem key_235 : keyP 235 := ⟨(gwc_8 (i := 85) rfl rfl), ini_12, clsn_12, fun _ => ⟨(gwc_8 (i := 83) rfl rfl), (gwc_8 (i := 84) rfl rfl)⟩, fun h => absurd h (by decide), fun h => absurd h (by decide), rfl, Or.inl ⟨by decide, rfl⟩, by decide +kernel⟩
set_option maxRecDepth 100000 in
theorem key_236 : keyP 236 := ⟨(gwc_8 (i := 89) rfl rfl), ini_12, clsn_12, fun _ => ⟨(gwc_8 (i := 87) rfl rfl), (gwc_8 (i := 88) rfl rfl)⟩, fun h => absurd h (by decide), fun h => absurd h (by decide), rfl, Or.inl ⟨by decide, rfl⟩, by decide +kernel⟩
set_option maxRecDepth 100000 in
theorem key_237 : keyP 237 := ⟨(gwc_8 (i := 100) rfl rfl), ini_12, clsn_12, fun h => absurd h (by decide), fun _ => (gwc_8 (i := 99) rfl rfl), fun h => absurd h (by decide), rfl, Or.inr (Or.inr rfl), by decide +kernel⟩
set_option maxRecDepth 100000 in
theorem key_238 : keyP 238 := ⟨(gwc_8 (i := 97) rfl rfl), ini_12, clsn_12, fun _ => ⟨(gwc_8 (i := 96) rfl rfl), (gw_of (i := 110) (by decide +kernel) rfl)⟩, fun h => absurd h (by decide), fun h => absurd h (by decide), rfl, Or.inl ⟨by decide, rfl⟩, by decide +kernel⟩
set_option maxRecDepth 100000 in
theorem key_239 : keyP 239 := ⟨(gwc_8 (i := 93) rfl rfl), ini_12, clsn_12, fun _ => ⟨(gwc_8 (i := 91) rfl rfl), (gwc_8 (i := 92) rfl rfl)⟩, fun h => absurd h (by decide), fun h => absurd h (by decide), rfl, Or.inl ⟨by decide, rfl⟩, by decide +kernel⟩
set_option maxRecDepth 100000 in
theorem key_240 : keyP 240 := ⟨(gwc_8 (i := 104) rfl rfl), ini_12, clsn_12, fun _ => ⟨(gwc_8 (i := 102) rfl rfl), (gwc_8 (i := 103) rfl rfl)⟩, fun h => absurd h (by decide), fun h => absurd h (by decide), rfl, Or.inl ⟨by decide, rfl⟩, by decide +kernel⟩
set_option maxRecDepth 100000 in
theorem key_241 : keyP 241 := ⟨(gwc_8 (i := 120) rfl rfl), ini_12, clsn_12, fun _ => ⟨(gwc_8 (i := 119) rfl rfl), (gw_of (i := 113) (by decide +kernel) rfl)⟩, fun h => absurd h (by decide), fun h => absurd h (by decide), rfl, Or.inl ⟨by decide, rfl⟩, by decide +kernel⟩
set_option maxRecDepth 100000 in
theorem key_242 : keyP 242 := ⟨(gwc_8 (i := 124) rfl rfl), ini_12, clsn_12, fun h => absurd h (by decide), fun _ => (gwc_8 (i := 123) rfl rfl), fun h => absurd h (by decide), rfl, Or.inr (Or.inr rfl), by decide +kernel⟩
set_option maxRecDepth 100000 in
theorem key_243 : keyP 243 := ⟨(gwc_8 (i := 132) rfl rfl), ini_12, clsn_12, fun _ => ⟨(gwc_8 (i := 131) rfl rfl), (gw_of (i := 115) (by decide +kernel) rfl)⟩, fun h => absurd h (by decide), fun h => absurd h (by decide), rfl, Or.inl ⟨by decide, rfl⟩, by decide +kernel⟩
set_option maxRecDepth 100000 in
theorem key_244 : keyP 244 := ⟨(gwc_8 (i := 128) rfl rfl), ini_12, clsn_12, fun _ => ⟨(gwc_8 (i := 127) rfl rfl), (gw_of (i := 114) (by decide +kernel) rfl)⟩, fun h => absurd h (by decide), fun h => absurd h (by decide), rfl, Or.inl ⟨by decide, rfl⟩, by decide +kernel⟩
set_option maxRecDepth 100000 in
theorem key_245 : keyP 245 := ⟨(gwc_8 (i := 116) rfl rfl), ini_12, clsn_12, fun _ => ⟨(gwc_8 (i := 115) rfl rfl), (gw_of (i := 112) (by decide +kernel) rfl)⟩, fun h => absurd h (by decide), fun h => absurd h (by decide), rfl, Or.inl ⟨by decide, rfl⟩, by decide +kernel⟩
set_option maxRecDepth 100000 in
theorem key_246 : keyP 246 := ⟨(gwc_8 (i := 112) rfl rfl), ini_12, clsn_12, fun _ => ⟨(gwc_8 (i := 111) rfl rfl), (gw_of (i := 111) (by decide +kernel) rfl)⟩, fun h => absurd h (by decide), fun h => absurd h (by decide), rfl, Or.inl ⟨by decide, rfl⟩, by decide +kernel⟩
set_option maxRecDepth 100000 in
theorem key_247 : keyP 247 := ⟨(gwc_8 (i := 108) rfl rfl), ini_12, clsn_12, fun _ => ⟨(gwc_8 (i := 106) rfl rfl), (gwc_8 (i := 107) rfl rfl)⟩, fun h => absurd h (by decide), fun h => absurd h (by decide), rfl, Or.inl ⟨by decide, rfl⟩, by decide +kernel⟩
set_option maxRecDepth 100000 in
theorem key_248 : keyP 248 := ⟨(gwc_8 (i := 136) rfl rfl), ini_12, clsn_12, fun _ => ⟨(gwc_8 (i := 134) rfl rfl), (gwc_8 (i := 135) rfl rfl)⟩, fun h => absurd h (by decide), fun h => absurd h (by decide), rfl, Or.inl ⟨by decide, rfl⟩, by decide +kernel⟩
set_option maxRecDepth 100000 in
theorem key_249 : keyP 249 := ⟨(gwc_8 (i := 148) rfl rfl), ini_12, clsn_12, fun _ => ⟨(gwc_8 (i := 147) rfl rfl), (gw_of (i := 117) (by decide +kernel) rfl)⟩, fun h => absurd h (by decide), fun h => absurd h (by decide), rfl, Or.inl ⟨by decide, rfl⟩, by decide +kernel⟩
set_option maxRecDepth 100000 in
theorem key_250 : keyP 250 := ⟨(gwc_8 (i := 152) rfl rfl), ini_12, clsn_12, fun _ => ⟨(gwc_8 (i := 151) rfl rfl), (gw_of (i := 118) (by decide +kernel) rfl)⟩, fun h => absurd h (by decide), fun h => absurd h (by decide), rfl, Or.inl ⟨by decide, rfl⟩, by decide +kernel⟩
set_option maxRecDepth 100000 in
theorem key_251 : keyP 251 := ⟨(gwc_8 (i := 144) rfl rfl), ini_12, clsn_12, fun _ => ⟨(gwc_8 (i := 143) rfl rfl), (gw_of (i := 116) (by decide +kernel) rfl)⟩, fun h => absurd h (by decide), fun h => absurd h (by decide), rfl, Or.inl ⟨by decide, rfl⟩, by decide +kernel⟩
set_option maxRecDepth 100000 in
theorem key_252 : keyP 252 := ⟨(gwc_8 (i := 140) rfl rfl), ini_12, clsn_12, fun _ => ⟨(gwc_8 (i := 138) rfl rfl), (gwc_8 (i := 139) rfl rfl)⟩, fun h => absurd h (by decide), fun h => absurd h (by decide), rfl, Or.inl ⟨by decide, rfl⟩, by decide +kernel⟩
set_option maxRecDepth 100000 in
theorem key_253 : keyP 253 := ⟨(gwc_8 (i := 164) rfl rfl), ini_12, clsn_12, fun _ => ⟨(gwc_8 (i := 163) rfl rfl), (gw_of (i := 120) (by decide +kernel) rfl)⟩, fun h => absurd h (by decide), fun h => absurd h (by decide), rfl, Or.inl ⟨by decide, rfl⟩, by decide +kernel⟩
set_option maxRecDepth 100000 in
theorem key_254 : keyP 254 := ⟨(gwc_8 (i := 160) rfl rfl), ini_12, clsn_12, fun _ => ⟨(gwc_8 (i := 159) rfl rfl), (gw_of (i := 119) (by decide +kernel) rfl)⟩, fun h => absurd h (by decide), fun h => absurd h (by decide), rfl, Or.inl ⟨by decide, rfl⟩, by decide +kernel⟩
set_option maxRecDepth 100000 in
theorem key_255 : keyP 255 := ⟨(gwc_8 (i := 156) rfl rfl), ini_12, clsn_12, fun _ => ⟨(gwc_8 (i := 154) rfl rfl), (gwc_8 (i := 155) rfl rfl)⟩, fun h => absurd h (by decide), fun h => absurd h (by decide), rfl, Or.inl ⟨by decide, rfl⟩, by decide +kernel⟩
set_option maxRecDepth 100000 in
theorem key_256 : keyP 256 := ⟨(gwc_8 (i := 168) rfl rfl), ini_12, clsn_12, fun _ => ⟨(gwc_8 (i := 166) rfl rfl), (gwc_8 (i := 167) rfl rfl)⟩, fun h => absurd h (by decide), fun h => absurd h (by decide), rfl, Or.inl ⟨by decide, rfl⟩, by decide +kernel⟩
set_option maxRecDepth 100000 in
theorem key_257 : keyP 257 := ⟨(gwc_8 (i := 172) rfl rfl), ini_12, clsn_12, fun _ => ⟨(gwc_8 (i := 170) rfl rfl), (gwc_8 (i := 171) rfl rfl)⟩, fun h => absurd h (by decide), fun h => absurd h (by decide), rfl, Or.inl ⟨by decide, rfl⟩, by decide +kernel⟩
set_option maxRecDepth 100000 in
theorem key_258 : keyP 258 := ⟨(gwc_8 (i := 176) rfl rfl), ini_12, clsn_12, fun _ => ⟨(gwc_8 (i := 174) rfl rfl), (gwc_8 (i := 175) rfl rfl)⟩, fun h => absurd h (by decide), fun h => absurd h (by decide), rfl, Or.inl ⟨by decide, rfl⟩, by decide +kernel⟩
set_option maxRecDepth 100000 in
theorem key_259 : keyP 259 := ⟨(gwc_8 (i := 180) rfl rfl), ini_12, clsn_12, fun _ => ⟨(gwc_8 (i := 178) rfl rfl), (gwc_8 (i := 179) rfl rfl)⟩, fun h => absurd h (by decide), fun h => absurd h (by decide), rfl, Or.inl ⟨by decide, rfl⟩, by decide +kernel⟩
set_option maxRecDepth 100000 in
theorem key_260 : keyP 260 := ⟨(gwc_8 (i := 184) rfl rfl), ini_12, clsn_12, fun _ => ⟨(gwc_8 (i := 182) rfl rfl), (gwc_8 (i := 183) rfl rfl)⟩, fun h => absurd h (by decide), fun h => absurd h (by decide), rfl, Or.inl ⟨by decide, rfl⟩, by decide +kernel⟩
set_option maxRecDepth 100000 in
theorem key_261 : keyP 261 := ⟨(gwc_8 (i := 188) rfl rfl), ini_12, clsn_12, fun _ => ⟨(gwc_8 (i := 186) rfl rfl), (gwc_8 (i := 187) rfl rfl)⟩, fun h => absurd h (by decide), fun h => absurd h (by decide), rfl, Or.inl ⟨by decide, rfl⟩, by decide +kernel⟩
set_option maxRecDepth 100000 in
theorem key_262 : keyP 262 := ⟨(gwc_8 (i := 196) rfl rfl), ini_12, clsn_12, fun _ => ⟨(gwc_8 (i := 195) rfl rfl), (gw_of (i := 121) (by decide +kernel) rfl)⟩, fun h => absurd h (by decide), fun h => absurd h (by decide), rfl, Or.inl ⟨by decide, rfl⟩, by decide +kernel⟩
set_option maxRecDepth 100000 in
theorem key_263 : keyP 263 := ⟨(gwc_8 (i := 192) rfl rfl), ini_12, clsn_12, fun _ => ⟨(gwc_8 (i := 190) rfl rfl), (gwc_8 (i := 191) rfl rfl)⟩, fun h => absurd h (by decide), fun h => absurd h (by decide), rfl, Or.inl ⟨by decide, rfl⟩, by decide +kernel⟩
set_option maxRecDepth 100000 in
theorem key_264 : keyP 264 := ⟨(gwc_8 (i := 204) rfl rfl), ini_12, clsn_12, fun _ => ⟨(gwc_8 (i := 203) rfl rfl), (gw_of (i := 122) (by decide +kernel) rfl)⟩, fun h => absurd h (by decide), fun h => absurd h (by decide), rfl, Or.inl ⟨by decide, rfl⟩, by decide +kernel⟩
set_option maxRecDepth 100000 in
theorem key_265 : keyP 265 := ⟨(gwc_8 (i := 200) rfl rfl), ini_12, clsn_12, fun _ => ⟨(gwc_8 (i := 198) rfl rfl), (gwc_8 (i := 199) rfl rfl)⟩, fun h => absurd h (by decide), fun h => absurd h (by decide), rfl, Or.inl ⟨by decide, rfl⟩, by decide +kernel⟩
set_option maxRecDepth 100000 in
theorem key_266 : keyP 266 := ⟨(gwc_8 (i := 208) rfl rfl), ini_12, clsn_12, fun _ => ⟨(gwc_8 (i := 206) rfl rfl), (gwc_8 (i := 207) rfl rfl)⟩, fun h => absurd h (by decide), fun h => absurd h (by decide), rfl, Or.inl ⟨by decide, rfl⟩, by decide +kernel⟩
set_option maxRecDepth 100000 in
theorem key_267 : keyP 267 := ⟨(gwc_8 (i := 212) rfl rfl), ini_12, clsn_12, fun _ => ⟨(gwc_8 (i := 210) rfl rfl), (gwc_8 (i := 211) rfl rfl)⟩, fun h => absurd h (by decide), fun h => absurd h (by decide), rfl, Or.inl ⟨by decide, rfl⟩, by decide +kernel⟩
set_option maxRecDepth 100000 in
theorem key_268 : keyP 268 := ⟨(gwc_8 (i := 216) rfl rfl), ini_12, clsn_12, fun _ => ⟨(gwc_8 (i := 214) rfl rfl), (gwc_8 (i := 215) rfl rfl)⟩, fun h => absurd h (by decide), fun h => absurd h (by decide), rfl, Or.inl ⟨by decide, rfl⟩, by decide +kernel⟩
set_option maxRecDepth 100000 in
theorem key_269 : keyP 269 := ⟨(gwc_8 (i := 220) rfl rfl), ini_12, clsn_12, fun _ => ⟨(gwc_8 (i := 218) rfl rfl), (gwc_8 (i := 219) rfl rfl)⟩, fun h => absurd h (by decide), fun h => absurd h (by decide), rfl, Or.inl ⟨by decide, rfl⟩, by decide +kernel⟩
set_option maxRecDepth 100000 in
theorem key_270 : keyP 270 := ⟨(gwc_4 (i := 210) rfl rfl), ini_13, clsn_13, fun h => absurd h (by decide), fun _ => (gwc_4 (i := 209) rfl rfl), fun h => absurd h (by decide), rfl, Or.inr (Or.inr rfl), by decide +kernel⟩
set_option maxRecDepth 100000 in
theorem key_271 : keyP 271 := ⟨(gwc_1 (i := 197) rfl rfl), ini_14, clsn_14, fun h => absurd h (by decide), fun _ => (gwc_1 (i := 196) rfl rfl), fun h => absurd h (by decide), rfl, Or.inr (Or.inr rfl), by decide +kernel⟩
set_option maxRecDepth 100000 in
theorem key_272 : keyP 272 := ⟨(gwc_1 (i := 41) rfl rfl), ini_15, clsn_15, fun _ => ⟨(gwc_1 (i := 39) rfl rfl), (gwc_1 (i := 40) rfl rfl)⟩, fun h => absurd h (by decide), fun h => absurd h (by decide), rfl, Or.inr (Or.inl ⟨rfl, rfl⟩), by decide +kernel⟩
set_option maxRecDepth 100000 in
theorem key_273 : keyP 273 := ⟨(gwc_1 (i := 45) rfl rfl), ini_15, clsn_15, fun _ => ⟨(gwc_1 (i := 43) rfl rfl), (gwc_1 (i := 44) rfl rfl)⟩, fun h => absurd h (by decide), fun h => absurd h (by decide), rfl, Or.inr (Or.inl ⟨rfl, rfl⟩), by decide +kernel⟩
set_option maxRecDepth 100000 in
theorem key_274 : keyP 274 := ⟨(gwc_1 (i := 51) rfl rfl), ini_15, clsn_15, fun _ => ⟨(gwc_1 (i := 49) rfl rfl), (gwc_1 (i := 50) rfl rfl)⟩, fun h => absurd h (by decide), fun h => absurd h (by decide), rfl, Or.inr (Or.inl ⟨rfl, rfl⟩), by decide +kernel⟩
set_option maxRecDepth 100000 in
theorem key_275 : keyP 275 := ⟨(gwc_1 (i := 55) rfl rfl), ini_15, clsn_15, fun _ => ⟨(gwc_1 (i := 53) rfl rfl), (gwc_1 (i := 54) rfl rfl)⟩, fun h => absurd h (by decide), fun h => absurd h (by decide), rfl, Or.inr (Or.inl ⟨rfl, rfl⟩), by decide +kernel⟩
set_option maxRecDepth 100000 in
theorem key_276 : keyP 276 := ⟨(gwc_1 (i := 58) rfl rfl), ini_16, clsn_16, fun h => absurd h (by decide), fun _ => (gwc_1 (i := 57) rfl rfl), fun h => absurd h (by decide), rfl, Or.inr (Or.inr rfl), by decide +kernel⟩
set_option maxRecDepth 100000 in
theorem key_277 : keyP 277 := ⟨(gwc_1 (i := 61) rfl rfl), ini_15, clsn_15, fun h => absurd h (by decide), fun _ => (gwc_1 (i := 60) rfl rfl), fun h => absurd h (by decide), rfl, Or.inr (Or.inr rfl), by decide +kernel⟩
set_option maxRecDepth 100000 in
theorem key_278 : keyP 278 := ⟨(gwc_1 (i := 66) rfl rfl), ini_17, clsn_17, fun h => absurd h (by decide), fun _ => (gwc_1 (i := 65) rfl rfl), fun h => absurd h (by decide), rfl, Or.inr (Or.inr rfl), by decide +kernel⟩
set_option maxRecDepth 100000 in
theorem key_279 : keyP 279 := ⟨(gwc_3 (i := 142) rfl rfl), ini_15, clsn_15, fun _ => ⟨(gwc_3 (i := 140) rfl rfl), (gwc_3 (i := 141) rfl rfl)⟩, fun h => absurd h (by decide), fun h => absurd h (by decide), rfl, Or.inr (Or.inl ⟨rfl, rfl⟩), by decide +kernel⟩
set_option maxRecDepth 100000 in
theorem key_280 : keyP 280 := ⟨(gwc_3 (i := 146) rfl rfl), ini_15, clsn_15, fun _ => ⟨(gwc_3 (i := 144) rfl rfl), (gwc_3 (i := 145) rfl rfl)⟩, fun h => absurd h (by decide), fun h => absurd h (by decide), rfl, Or.inr (Or.inl ⟨rfl, rfl⟩), by decide +kernel⟩
set_option maxRecDepth 100000 in
theorem key_281 : keyP 281 := ⟨(gwc_3 (i := 150) rfl rfl), ini_16, clsn_16, fun h => absurd h (by decide), fun _ => (gwc_3 (i := 149) rfl rfl), fun h => absurd h (by decide), rfl, Or.inr (Or.inr rfl), by decide +kernel⟩
set_option maxRecDepth 100000 in
theorem key_282 : keyP 282 := ⟨(gwc_3 (i := 153) rfl rfl), ini_16, clsn_16, fun h => absurd h (by decide), fun _ => (gwc_3 (i := 152) rfl rfl), fun h => absurd h (by decide), rfl, Or.inr (Or.inr rfl), by decide +kernel⟩
set_option maxRecDepth 100000 in
theorem key_283 : keyP 283 := ⟨(gwc_3 (i := 162) rfl rfl), ini_16, clsn_16, fun h => absurd h (by decide), fun _ => (gwc_3 (i := 161) rfl rfl), fun h => absurd h (by decide), rfl, Or.inr (Or.inr rfl), by decide +kernel⟩
theorem keys_0 : ∀ k ∈ [0, 1, 2, 3, 4, 5, 6, 7, 8, 9, 10, 11, 12, 13, 14, 15, 16, 17, 18, 19], keyP k := List.forall_mem_cons.mpr ⟨key_0, List.forall_mem_cons.mpr ⟨key_1, List.forall_mem_cons.mpr ⟨key_2, List.forall_mem_cons.mpr ⟨key_3, List.forall_mem_cons.mpr ⟨key_4, List.forall_mem_cons.mpr ⟨key_5, List.forall_mem_cons.mpr ⟨key_6, List.forall_mem_cons.mpr ⟨key_7, List.forall_mem_cons.mpr ⟨key_8, List.forall_mem_cons.mpr ⟨key_9, List.forall_mem_cons.mpr ⟨key_10, List.forall_mem_cons.mpr ⟨key_11, List.forall_mem_cons.mpr ⟨key_12, List.forall_mem_cons.mpr ⟨key_13, List.forall_mem_cons.mpr ⟨key_14, List.forall_mem_cons.mpr ⟨key_15, List.forall_mem_cons.mpr ⟨key_16, List.forall_mem_cons.mpr ⟨key_17, List.forall_mem_cons.mpr ⟨key_18, List.forall_mem_cons.mpr ⟨key_19, fun _ h => absurd h List.not_mem_nil⟩⟩⟩⟩⟩⟩⟩⟩⟩⟩⟩⟩⟩⟩⟩⟩⟩⟩⟩⟩
theorem keys_1 : ∀ k ∈ [20, 21, 22, 23, 24, 25, 26, 27, 28, 29, 30, 31, 32, 33, 34, 35, 36, 37, 38, 39], keyP k := List.forall_mem_cons.mpr ⟨key_20, List.forall_mem_cons.mpr ⟨key_21, List.forall_mem_cons.mpr ⟨key_22, List.forall_mem_cons.mpr ⟨key_23, List.forall_mem_cons.mpr ⟨key_24, List.forall_mem_cons.mpr ⟨key_25, List.forall_mem_cons.mpr ⟨key_26, List.forall_mem_cons.mpr ⟨key_27, List.forall_mem_cons.mpr ⟨key_28, List.forall_mem_cons.mpr ⟨key_29, List.forall_mem_cons.mpr ⟨key_30, List.forall_mem_cons.mpr ⟨key_31, List.forall_mem_cons.mpr ⟨key_32, List.forall_mem_cons.mpr ⟨key_33, List.forall_mem_cons.mpr ⟨key_34, List.forall_mem_cons.mpr ⟨key_35, List.forall_mem_cons.mpr ⟨key_36, List.forall_mem_cons.mpr ⟨key_37, List.forall_mem_cons.mpr ⟨key_38, List.forall_mem_cons.mpr ⟨key_39, fun _ h => absurd h List.not_mem_nil⟩⟩⟩⟩⟩⟩⟩⟩⟩⟩⟩⟩⟩⟩⟩⟩⟩⟩⟩⟩
theorem keys_2 : ∀ k ∈ [40, 41, 42, 43, 44, 45, 46, 47, 48, 49, 50, 51, 52, 53, 54, 55, 56, 57, 58, 59], keyP k := List.forall_mem_cons.mpr ⟨key_40, List.forall_mem_cons.mpr ⟨key_41, List.forall_mem_cons.mpr ⟨key_42, List.forall_mem_cons.mpr ⟨key_43, List.forall_mem_cons.mpr ⟨key_44, List.forall_mem_cons.mpr ⟨key_45, List.forall_mem_cons.mpr ⟨key_46, List.forall_mem_cons.mpr ⟨key_47, List.forall_mem_cons.mpr ⟨key_48, List.forall_mem_cons.mpr ⟨key_49, List.forall_mem_cons.mpr ⟨key_50, List.forall_mem_cons.mpr ⟨key_51, List.forall_mem_cons.mpr ⟨key_52, List.forall_mem_cons.mpr ⟨key_53, List.forall_mem_cons.mpr ⟨key_54, List.forall_mem_cons.mpr ⟨key_55, List.forall_mem_cons.mpr ⟨key_56, List.forall_mem_cons.mpr ⟨key_57, List.forall_mem_cons.mpr ⟨key_58, List.forall_mem_cons.mpr ⟨key_59, fun _ h => absurd h List.not_mem_nil⟩⟩⟩⟩⟩⟩⟩⟩⟩⟩⟩⟩⟩⟩⟩⟩⟩⟩⟩⟩
theorem keys_3 : ∀ k ∈ [60, 61, 62, 63, 64, 65, 66, 67, 68, 69, 70, 71, 72, 73, 74, 75, 76, 77, 78, 79], keyP k := List.forall_mem_cons.mpr ⟨key_60, List.forall_mem_cons.mpr ⟨key_61, List.forall_mem_cons.mpr ⟨key_62, List.forall_mem_cons.mpr ⟨key_63, List.forall_mem_cons.mpr ⟨key_64, List.forall_mem_cons.mpr ⟨key_65, List.forall_mem_cons.mpr ⟨key_66, List.forall_mem_cons.mpr ⟨key_67, List.forall_mem_cons.mpr ⟨key_68, List.forall_mem_cons.mpr ⟨key_69, List.forall_mem_cons.mpr ⟨key_70, List.forall_mem_cons.mpr ⟨key_71, List.forall_mem_cons.mpr ⟨key_72, List.forall_mem_cons.mpr ⟨key_73, List.forall_mem_cons.mpr ⟨key_74, List.forall_mem_cons.mpr ⟨key_75, List.forall_mem_cons.mpr ⟨key_76, List.forall_mem_cons.mpr ⟨key_77, List.forall_mem_cons.mpr ⟨key_78, List.forall_mem_cons.mpr ⟨key_79, fun _ h => absurd h List.not_mem_nil⟩⟩⟩⟩⟩⟩⟩⟩⟩⟩⟩⟩⟩⟩⟩⟩⟩⟩⟩⟩
theorem keys_4 : ∀ k ∈ [80, 81, 82, 83, 84, 85, 86, 87, 88, 89, 90, 91, 92, 93, 94, 95, 96, 97, 98, 99], keyP k := List.forall_mem_cons.mpr ⟨key_80, List.forall_mem_cons.mpr ⟨key_81, List.forall_mem_cons.mpr ⟨key_82, List.forall_mem_cons.mpr ⟨key_83, List.forall_mem_cons.mpr ⟨key_84, List.forall_mem_cons.mpr ⟨key_85, List.forall_mem_cons.mpr ⟨key_86, List.forall_mem_cons.mpr ⟨key_87, List.forall_mem_cons.mpr ⟨key_88, List.forall_mem_cons.mpr ⟨key_89, List.forall_mem_cons.mpr ⟨key_90, List.forall_mem_cons.mpr ⟨key_91, List.forall_mem_cons.mpr ⟨key_92, List.forall_mem_cons.mpr ⟨key_93, List.forall_mem_cons.mpr ⟨key_94, List.forall_mem_cons.mpr ⟨key_95, List.forall_mem_cons.mpr ⟨key_96, List.forall_mem_cons.mpr ⟨key_97, List.forall_mem_cons.mpr ⟨key_98, List.forall_mem_cons.mpr ⟨key_99, fun _ h => absurd h List.not_mem_nil⟩⟩⟩⟩⟩⟩⟩⟩⟩⟩⟩⟩⟩⟩⟩⟩⟩⟩⟩⟩
theorem keys_5 : ∀ k ∈ [100, 101, 102, 103, 104, 105, 106, 107, 108, 109, 110, 111, 112, 113, 114, 115, 116, 117, 118, 119], keyP k := List.forall_mem_cons.mpr ⟨key_100, List.forall_mem_cons.mpr ⟨key_101, List.forall_mem_cons.mpr ⟨key_102, List.forall_mem_cons.mpr ⟨key_103, List.forall_mem_cons.mpr ⟨key_104, List.forall_mem_cons.mpr ⟨key_105, List.forall_mem_cons.mpr ⟨key_106, List.forall_mem_cons.mpr ⟨key_107, List.forall_mem_cons.mpr ⟨key_108, List.forall_mem_cons.mpr ⟨key_109, List.forall_mem_cons.mpr ⟨key_110, List.forall_mem_cons.mpr ⟨key_111, List.forall_mem_cons.mpr ⟨key_112, List.forall_mem_cons.mpr ⟨key_113, List.forall_mem_cons.mpr ⟨key_114, List.forall_mem_cons.mpr ⟨key_115, List.forall_mem_cons.mpr ⟨key_116, List.forall_mem_cons.mpr ⟨key_117, List.forall_mem_cons.mpr ⟨key_118, List.forall_mem_cons.mpr ⟨key_119, fun _ h => absurd h List.not_mem_nil⟩⟩⟩⟩⟩⟩⟩⟩⟩⟩⟩⟩⟩⟩⟩⟩⟩⟩⟩⟩
theorem keys_6 : ∀ k ∈ [120, 121, 122, 123, 124, 125, 126, 127, 128, 129, 130, 131, 132, 133, 134, 135, 136, 137, 138, 139], keyP k := List.forall_mem_cons.mpr ⟨key_120, List.forall_mem_cons.mpr ⟨key_121, List.forall_mem_cons.mpr ⟨key_122, List.forall_mem_cons.mpr ⟨key_123, List.forall_mem_cons.mpr ⟨key_124, List.forall_mem_cons.mpr ⟨key_125, List.forall_mem_cons.mpr ⟨key_126, List.forall_mem_cons.mpr ⟨key_127, List.forall_mem_cons.mpr ⟨key_128, List.forall_mem_cons.mpr ⟨key_129, List.forall_mem_cons.mpr ⟨key_130, List.forall_mem_cons.mpr ⟨key_131, List.forall_mem_cons.mpr ⟨key_132, List.forall_mem_cons.mpr ⟨key_133, List.forall_mem_cons.mpr ⟨key_134, List.forall_mem_cons.mpr ⟨key_135, List.forall_mem_cons.mpr ⟨key_136, List.forall_mem_cons.mpr ⟨key_137, List.forall_mem_cons.mpr ⟨key_138, List.forall_mem_cons.mpr ⟨key_139, fun _ h => absurd h List.not_mem_nil⟩⟩⟩⟩⟩⟩⟩⟩⟩⟩⟩⟩⟩⟩⟩⟩⟩⟩⟩⟩
theorem keys_7 : ∀ k ∈ [140, 141, 142, 143, 144, 145, 146, 147, 148, 149, 150, 151, 152, 153, 154, 155, 156, 157, 158, 159], keyP k := List.forall_mem_cons.mpr ⟨key_140, List.forall_mem_cons.mpr ⟨key_141, List.forall_mem_cons.mpr ⟨key_142, List.forall_mem_cons.mpr ⟨key_143, List.forall_mem_cons.mpr ⟨key_144, List.forall_mem_cons.mpr ⟨key_145, List.forall_mem_cons.mpr ⟨key_146, List.forall_mem_cons.mpr ⟨key_147, List.forall_mem_cons.mpr ⟨key_148, List.forall_mem_cons.mpr ⟨key_149, List.forall_mem_cons.mpr ⟨key_150, List.forall_mem_cons.mpr ⟨key_151, List.forall_mem_cons.mpr ⟨key_152, List.forall_mem_cons.mpr ⟨key_153, List.forall_mem_cons.mpr ⟨key_154, List.forall_mem_cons.mpr ⟨key_155, List.forall_mem_cons.mpr ⟨key_156, List.forall_mem_cons.mpr ⟨key_157, List.forall_mem_cons.mpr ⟨key_158, List.forall_mem_cons.mpr ⟨key_159, fun _ h => absurd h List.not_mem_nil⟩⟩⟩⟩⟩⟩⟩⟩⟩⟩⟩⟩⟩⟩⟩⟩⟩⟩⟩⟩
theorem keys_8 : ∀ k ∈ [160, 161, 162, 163, 164, 165, 166, 167, 168, 169, 170, 171, 172, 173, 174, 175, 176, 177, 178, 179], keyP k := List.forall_mem_cons.mpr ⟨key_160, List.forall_mem_cons.mpr ⟨key_161, List.forall_mem_cons.mpr ⟨key_162, List.forall_mem_cons.mpr ⟨key_163, List.forall_mem_cons.mpr ⟨key_164, List.forall_mem_cons.mpr ⟨key_165, List.forall_mem_cons.mpr ⟨key_166, List.forall_mem_cons.mpr ⟨key_167, List.forall_mem_cons.mpr ⟨key_168, List.forall_mem_cons.mpr ⟨key_169, List.forall_mem_cons.mpr ⟨key_170, List.forall_mem_cons.mpr ⟨key_171, List.forall_mem_cons.mpr ⟨key_172, List.forall_mem_cons.mpr ⟨key_173, List.forall_mem_cons.mpr ⟨key_174, List.forall_mem_cons.mpr ⟨key_175, List.forall_mem_cons.mpr ⟨key_176, List.forall_mem_cons.mpr ⟨key_177, List.forall_mem_cons.mpr ⟨key_178, List.forall_mem_cons.mpr ⟨key_179, fun _ h => absurd h List.not_mem_nil⟩⟩⟩⟩⟩⟩⟩⟩⟩⟩⟩⟩⟩⟩⟩⟩⟩⟩⟩⟩
theorem keys_9 : ∀ k ∈ [180, 181, 182, 183, 184, 185, 186, 187, 188, 189, 190, 191, 192, 193, 194, 195, 196, 197, 198, 199], keyP k := List.forall_mem_cons.mpr ⟨key_180, List.forall_mem_cons.mpr ⟨key_181, List.forall_mem_cons.mpr ⟨key_182, List.forall_mem_cons.mpr ⟨key_183, List.forall_mem_cons.mpr ⟨key_184, List.forall_mem_cons.mpr ⟨key_185, List.forall_mem_cons.mpr ⟨key_186, List.forall_mem_cons.mpr ⟨key_187, List.forall_mem_cons.mpr ⟨key_188, List.forall_mem_cons.mpr ⟨key_189, List.forall_mem_cons.mpr ⟨key_190, List.forall_mem_cons.mpr ⟨key_191, List.forall_mem_cons.mpr ⟨key_192, List.forall_mem_cons.mpr ⟨key_193, List.forall_mem_cons.mpr ⟨key_194, List.forall_mem_cons.mpr ⟨key_195, List.forall_mem_cons.mpr ⟨key_196, List.forall_mem_cons.mpr ⟨key_197, List.forall_mem_cons.mpr ⟨key_198, List.forall_mem_cons.mpr ⟨key_199, fun _ h => absurd h List.not_mem_nil⟩⟩⟩⟩⟩⟩⟩⟩⟩⟩⟩⟩⟩⟩⟩⟩⟩⟩⟩⟩
theorem keys_10 : ∀ k ∈ [200, 201, 202, 203, 204, 205, 206, 207, 208, 209, 210, 211, 212, 213, 214, 215, 216, 217, 218, 219], keyP k := List.forall_mem_cons.mpr ⟨key_200, List.forall_mem_cons.mpr ⟨key_201, List.forall_mem_cons.mpr ⟨key_202, List.forall_mem_cons.mpr ⟨key_203, List.forall_mem_cons.mpr ⟨key_204, List.forall_mem_cons.mpr ⟨key_205, List.forall_mem_cons.mpr ⟨key_206, List.forall_mem_cons.mpr ⟨key_207, List.forall_mem_cons.mpr ⟨key_208, List.forall_mem_cons.mpr ⟨key_209, List.forall_mem_cons.mpr ⟨key_210, List.forall_mem_cons.mpr ⟨key_211, List.forall_mem_cons.mpr ⟨key_212, List.forall_mem_cons.mpr ⟨key_213, List.forall_mem_cons.mpr ⟨key_214, List.forall_mem_cons.mpr ⟨key_215, List.forall_mem_cons.mpr ⟨key_216, List.forall_mem_cons.mpr ⟨key_217, List.forall_mem_cons.mpr ⟨key_218, List.forall_mem_cons.mpr ⟨key_219, fun _ h => absurd h List.not_mem_nil⟩⟩⟩⟩⟩⟩⟩⟩⟩⟩⟩⟩⟩⟩⟩⟩⟩⟩⟩⟩
theorem keys_11 : ∀ k ∈ [220, 221, 222, 223, 224, 225, 226, 227, 228, 229, 230, 231, 232, 233, 234, 235, 236, 237, 238, 239], keyP k := List.forall_mem_cons.mpr ⟨key_220, List.forall_mem_cons.mpr ⟨key_221, List.forall_mem_cons.mpr ⟨key_222, List.forall_mem_cons.mpr ⟨key_223, List.forall_mem_cons.mpr ⟨key_224, List.forall_mem_cons.mpr ⟨key_225, List.forall_mem_cons.mpr ⟨key_226, List.forall_mem_cons.mpr ⟨key_227, List.forall_mem_cons.mpr ⟨key_228, List.forall_mem_cons.mpr ⟨key_229, List.forall_mem_cons.mpr ⟨key_230, List.forall_mem_cons.mpr ⟨key_231, List.forall_mem_cons.mpr ⟨key_232, List.forall_mem_cons.mpr ⟨key_233, List.forall_mem_cons.mpr ⟨key_234, List.forall_mem_cons.mpr ⟨key_235, List.forall_mem_cons.mpr ⟨key_236, List.forall_mem_cons.mpr ⟨key_237, List.forall_mem_cons.mpr ⟨key_238, List.forall_mem_cons.mpr ⟨key_239, fun _ h => absurd h List.not_mem_nil⟩⟩⟩⟩⟩⟩⟩⟩⟩⟩⟩⟩⟩⟩⟩⟩⟩⟩⟩⟩
theorem keys_12 : ∀ k ∈ [240, 241, 242, 243, 244, 245, 246, 247, 248, 249, 250, 251, 252, 253, 254, 255, 256, 257, 258, 259], keyP k := List.forall_mem_cons.mpr ⟨key_240, List.forall_mem_cons.mpr ⟨key_241, List.forall_mem_cons.mpr ⟨key_242, List.forall_mem_cons.mpr ⟨key_243, List.forall_mem_cons.mpr ⟨key_244, List.forall_mem_cons.mpr ⟨key_245, List.forall_mem_cons.mpr ⟨key_246, List.forall_mem_cons.mpr ⟨key_247, List.forall_mem_cons.mpr ⟨key_248, List.forall_mem_cons.mpr ⟨key_249, List.forall_mem_cons.mpr ⟨key_250, List.forall_mem_cons.mpr ⟨key_251, List.forall_mem_cons.mpr ⟨key_252, List.forall_mem_cons.mpr ⟨key_253, List.forall_mem_cons.mpr ⟨key_254, List.forall_mem_cons.mpr ⟨key_255, List.forall_mem_cons.mpr ⟨key_256, List.forall_mem_cons.mpr ⟨key_257, List.forall_mem_cons.mpr ⟨key_258, List.forall_mem_cons.mpr ⟨key_259, fun _ h => absurd h List.not_mem_nil⟩⟩⟩⟩⟩⟩⟩⟩⟩⟩⟩⟩⟩⟩⟩⟩⟩⟩⟩⟩
theorem keys_13 : ∀ k ∈ [260, 261, 262, 263, 264, 265, 266, 267, 268, 269, 270, 271, 272, 273, 274, 275, 276, 277, 278, 279], keyP k := List.forall_mem_cons.mpr ⟨key_260, List.forall_mem_cons.mpr ⟨key_261, List.forall_mem_cons.mpr ⟨key_262, List.forall_mem_cons.mpr ⟨key_263, List.forall_mem_cons.mpr ⟨key_264, List.forall_mem_cons.mpr ⟨key_265, List.forall_mem_cons.mpr ⟨key_266, List.forall_mem_cons.mpr ⟨key_267, List.forall_mem_cons.mpr ⟨key_268, List.forall_mem_cons.mpr ⟨key_269, List.forall_mem_cons.mpr ⟨key_270, List.forall_mem_cons.mpr ⟨key_271, List.forall_mem_cons.mpr ⟨key_272, List.forall_mem_cons.mpr ⟨key_273, List.forall_mem_cons.mpr ⟨key_274, List.forall_mem_cons.mpr ⟨key_275, List.forall_mem_cons.mpr ⟨key_276, List.forall_mem_cons.mpr ⟨key_277, List.forall_mem_cons.mpr ⟨key_278, List.forall_mem_cons.mpr ⟨key_279, fun _ h => absurd h List.not_mem_nil⟩⟩⟩⟩⟩⟩⟩⟩⟩⟩⟩⟩⟩⟩⟩⟩⟩⟩⟩⟩
theorem keys_14 : ∀ k ∈ [280, 281, 282, 283], keyP k := List.forall_mem_cons.mpr ⟨key_280, List.forall_mem_cons.mpr ⟨key_281, List.forall_mem_cons.mpr ⟨key_282, List.forall_mem_cons.mpr ⟨key_283, fun _ h => absurd h List.not_mem_nil⟩⟩⟩⟩
theorem keys_all : ∀ k ∈ [0, 1, 2, 3, 4, 5, 6, 7, 8, 9, 10, 11, 12, 13, 14, 15, 16, 17, 18, 19] ++ ([20, 21, 22, 23, 24, 25, 26, 27, 28, 29, 30, 31, 32, 33, 34, 35, 36, 37, 38, 39] ++ ([40, 41, 42, 43, 44, 45, 46, 47, 48, 49, 50, 51, 52, 53, 54, 55, 56, 57, 58, 59] ++ ([60, 61, 62, 63, 64, 65, 66, 67, 68, 69, 70, 71, 72, 73, 74, 75, 76, 77, 78, 79] ++ ([80, 81, 82, 83, 84, 85, 86, 87, 88, 89, 90, 91, 92, 93, 94, 95, 96, 97, 98, 99] ++ ([100, 101, 102, 103, 104, 105, 106, 107, 108, 109, 110, 111, 112, 113, 114, 115, 116, 117, 118, 119] ++ ([120, 121, 122, 123, 124, 125, 126, 127, 128, 129, 130, 131, 132, 133, 134, 135, 136, 137, 138, 139] ++ ([140, 141, 142, 143, 144, 145, 146, 147, 148, 149, 150, 151, 152, 153, 154, 155, 156, 157, 158, 159] ++ ([160, 161, 162, 163, 164, 165, 166, 167, 168, 169, 170, 171, 172, 173, 174, 175, 176, 177, 178, 179] ++ ([180, 181, 182, 183, 184, 185, 186, 187, 188, 189, 190, 191, 192, 193, 194, 195, 196, 197, 198, 199] ++ ([200, 201, 202, 203, 204, 205, 206, 207, 208, 209, 210, 211, 212, 213, 214, 215, 216, 217, 218, 219] ++ ([220, 221, 222, 223, 224, 225, 226, 227, 228, 229, 230, 231, 232, 233, 234, 235, 236, 237, 238, 239] ++ ([240, 241, 242, 243, 244, 245, 246, 247, 248, 249, 250, 251, 252, 253, 254, 255, 256, 257, 258, 259] ++ ([260, 261, 262, 263, 264, 265, 266, 267, 268, 269, 270, 271, 272, 273, 274, 275, 276, 277, 278, 279] ++ ([280, 281, 282, 283])))))))))))))), keyP k := List.forall_mem_append.mpr ⟨keys_0, List.forall_mem_append.mpr ⟨keys_1, List.forall_mem_append.mpr ⟨keys_2, List.forall_mem_append.mpr ⟨keys_3, List.forall_mem_append.mpr ⟨keys_4, List.forall_mem_append.mpr ⟨keys_5, List.forall_mem_append.mpr ⟨keys_6, List.forall_mem_append.mpr ⟨keys_7, List.forall_mem_append.mpr ⟨keys_8, List.forall_mem_append.mpr ⟨keys_9, List.forall_mem_append.mpr ⟨keys_10, List.forall_mem_append.mpr ⟨keys_11, List.forall_mem_append.mpr ⟨keys_12, List.forall_mem_append.mpr ⟨keys_13, keys_14⟩⟩⟩⟩⟩⟩⟩⟩⟩⟩⟩⟩⟩⟩
set_option maxRecDepth 100000 in
theorem key_ok (k : Nat) (h : k < 284) : keyP k := keys_all k ((by decide +kernel : ∀ k, k < 284 → k ∈ [0, 1, 2, 3, 4, 5, 6, 7, 8, 9, 10, 11, 12, 13, 14, 15, 16, 17, 18, 19] ++ ([20, 21, 22, 23, 24, 25, 26, 27, 28, 29, 30, 31, 32, 33, 34, 35, 36, 37, 38, 39] ++ ([40, 41, 42, 43, 44, 45, 46, 47, 48, 49, 50, 51, 52, 53, 54, 55, 56, 57, 58, 59] ++ ([60, 61, 62, 63, 64, 65, 66, 67, 68, 69, 70, 71, 72, 73, 74, 75, 76, 77, 78, 79] ++ ([80, 81, 82, 83, 84, 85, 86, 87, 88, 89, 90, 91, 92, 93, 94, 95, 96, 97, 98, 99] ++ ([100, 101, 102, 103, 104, 105, 106, 107, 108, 109, 110, 111, 112, 113, 114, 115, 116, 117, 118, 119] ++ ([120, 121, 122, 123, 124, 125, 126, 127, 128, 129, 130, 131, 132, 133, 134, 135, 136, 137, 138, 139] ++ ([140, 141, 142, 143, 144, 145, 146, 147, 148, 149, 150, 151, 152, 153, 154, 155, 156, 157, 158, 159] ++ ([160, 161, 162, 163, 164, 165, 166, 167, 168, 169, 170, 171, 172, 173, 174, 175, 176, 177, 178, 179] ++ ([180, 181, 182, 183, 184, 185, 186, 187, 188, 189, 190, 191, 192, 193, 194, 195, 196, 197, 198, 199] ++ ([200, 201, 202, 203, 204, 205, 206, 207, 208, 209, 210, 211, 212, 213, 214, 215, 216, 217, 218, 219] ++ ([220, 221, 222, 223, 224, 225, 226, 227, 228, 229, 230, 231, 232, 233, 234, 235, 236, 237, 238, 239] ++ ([240, 241, 242, 243, 244, 245, 246, 247, 248, 249, 250, 251, 252, 253, 254, 255, 256, 257, 258, 259] ++ ([260, 261, 262, 263, 264, 265, 266, 267, 268, 269, 270, 271, 272, 273, 274, 275, 276, 277, 278, 279] ++ ([280, 281, 282, 283]))))))))))))))) k h)
end
section
def chkFl (k : Nat) : Nat × pE → Bool := fun q => decide (decode (pBytes k) q.1 = .ok (q.2.1, q.2.2.1)) && (chkE k q.1 q.2 || (match q.2.1 with | .athrow => true | .invokestatic _ => Nat.beq q.2.2.2.1 9900 | _ => false))
theorem chkFl_eq (k : Nat) : chkM k = (pCode k).all (chkFl k) := rfl
theorem all_cut {α : Type} {f : α → Bool} {l : List α} (n : Nat) (h1 : (l.take n).all f = true) (h2 : (l.drop n).all f = true) : l.all f = true := by
  rw [← List.take_append_drop n l, List.all_append, h1, h2]; rfl
set_option maxRecDepth 100000 in
theorem chk_0 : chkM 0 = true := by decide +kernel
set_option maxRecDepth 100000 in
theorem chk_1 : chkM 1 = true := by decide +kernel
set_option maxRecDepth 100000 in
theorem chk_2 : chkM 2 = true := by decide +kernel
set_option maxRecDepth 100000 in
theorem chk_3 : chkM 3 = true := by decide +kernel
set_option maxRecDepth 100000 in
theorem chk_4 : chkM 4 = true := by decide +kernel
set_option maxRecDepth 100000 in
theorem chk_5 : chkM 5 = true := by decide +kernel
set_option maxRecDepth 100000 in
theorem chk_6 : chkM 6 = true := by decide +kernel
set_option maxRecDepth 100000 in
theorem chk_7 : chkM 7 = true := by decide +kernel
set_option maxRecDepth 100000 in
theorem chk_8 : chkM 8 = true := by decide +kernel
set_option maxRecDepth 100000 in
theorem chk_9 : chkM 9 = true := by decide +kernel
set_option maxRecDepth 100000 in
theorem chk_10 : chkM 10 = true := by decide +kernel
set_option maxRecDepth 100000 in
theorem chk_11 : chkM 11 = true := by decide +kernel
set_option maxRecDepth 100000 in
theorem chk_12 : chkM 12 = true := by decide +kernel
set_option maxRecDepth 100000 in
theorem chk_13 : chkM 13 = true := by decide +kernel
set_option maxRecDepth 100000 in
theorem chk_14 : chkM 14 = true := by decide +kernel
set_option maxRecDepth 100000 in
theorem chk_15 : chkM 15 = true := by decide +kernel
set_option maxRecDepth 100000 in
theorem chk_16 : chkM 16 = true := by decide +kernel
set_option maxRecDepth 100000 in
theorem chk_17 : chkM 17 = true := by decide +kernel
set_option maxRecDepth 100000 in
theorem chk_18 : chkM 18 = true := by decide +kernel
set_option maxRecDepth 100000 in
theorem chk_19 : chkM 19 = true := by decide +kernel
set_option maxRecDepth 100000 in
theorem chk_20 : chkM 20 = true := by decide +kernel
set_option maxRecDepth 100000 in
theorem chk_21 : chkM 21 = true := by decide +kernel
set_option maxRecDepth 100000 in
theorem chk_22 : chkM 22 = true := by decide +kernel
set_option maxRecDepth 100000 in
theorem chk_23 : chkM 23 = true := by decide +kernel
set_option maxRecDepth 100000 in
theorem chk_24 : chkM 24 = true := by decide +kernel
set_option maxRecDepth 100000 in
theorem chk_25 : chkM 25 = true := by decide +kernel
set_option maxRecDepth 100000 in
theorem chk_26 : chkM 26 = true := by decide +kernel
set_option maxRecDepth 100000 in
theorem chk_27 : chkM 27 = true := by decide +kernel
set_option maxRecDepth 100000 in
theorem chk_28 : chkM 28 = true := by decide +kernel
set_option maxRecDepth 100000 in
theorem chk_29 : chkM 29 = true := by decide +kernel
set_option maxRecDepth 100000 in
theorem chk_30 : chkM 30 = true := by decide +kernel
set_option maxRecDepth 100000 in
theorem chk_31 : chkM 31 = true := by decide +kernel
set_option maxRecDepth 100000 in
theorem chk_32 : chkM 32 = true := by decide +kernel
set_option maxRecDepth 100000 in
theorem chk_33 : chkM 33 = true := by decide +kernel
set_option maxRecDepth 100000 in
theorem chk_34 : chkM 34 = true := by decide +kernel
set_option maxRecDepth 100000 in
theorem chk_35 : chkM 35 = true := by decide +kernel
set_option maxRecDepth 100000 in
theorem chk_36 : chkM 36 = true := by decide +kernel
set_option maxRecDepth 100000 in
theorem chk_37 : chkM 37 = true := by decide +kernel
set_option maxRecDepth 100000 in
theorem chk_38 : chkM 38 = true := by decide +kernel
set_option maxRecDepth 100000 in
theorem chk_39 : chkM 39 = true := by decide +kernel
set_option maxRecDepth 100000 in
theorem chk_40 : chkM 40 = true := by decide +kernel
set_option maxRecDepth 100000 in
theorem chk_41 : chkM 41 = true := by decide +kernel
set_option maxRecDepth 100000 in
theorem chk_42 : chkM 42 = true := by decide +kernel
set_option maxRecDepth 100000 in
theorem chk_43 : chkM 43 = true := by decide +kernel
set_option maxRecDepth 100000 in
theorem chk_44 : chkM 44 = true := by decide +kernel
set_option maxRecDepth 100000 in
theorem chk_45 : chkM 45 = true := by decide +kernel
set_option maxRecDepth 100000 in
theorem chk_46 : chkM 46 = true := by decide +kernel
set_option maxRecDepth 100000 in
theorem chk_47 : chkM 47 = true := by decide +kernel
set_option maxRecDepth 100000 in
theorem chk_48 : chkM 48 = true := by decide +kernel
set_option maxRecDepth 100000 in
theorem chk_49 : chkM 49 = true := by decide +kernel
set_option maxRecDepth 100000 in
theorem chk_50 : chkM 50 = true := by decide +kernel
set_option maxRecDepth 100000 in
theorem chk_51 : chkM 51 = true := by decide +kernel
set_option maxRecDepth 100000 in
theorem chk_52 : chkM 52 = true := by decide +kernel
set_option maxRecDepth 100000 in
theorem chk_53 : chkM 53 = true := by decide +kernel
set_option maxRecDepth 100000 in
theorem chk_54 : chkM 54 = true := by decide +kernel
set_option maxRecDepth 100000 in
theorem chk_55 : chkM 55 = true := by decide +kernel
set_option maxRecDepth 100000 in
theorem chk_56 : chkM 56 = true := by decide +kernel
set_option maxRecDepth 100000 in
theorem chk_57 : chkM 57 = true := by decide +kernel
set_option maxRecDepth 100000 in
theorem chk_58 : chkM 58 = true := by decide +kernel
set_option maxRecDepth 100000 in
theorem chk_59 : chkM 59 = true := by decide +kernel
set_option maxRecDepth 100000 in
theorem chk_60 : chkM 60 = true := by decide +kernel
set_option maxRecDepth 100000 in
theorem chk_61 : chkM 61 = true := by decide +kernel
set_option maxRecDepth 100000 in
theorem chk_62 : chkM 62 = true := by decide +kernel
set_option maxRecDepth 100000 in
theorem chk_63 : chkM 63 = true := by decide +kernel
set_option maxRecDepth 100000 in
theorem chk_64 : chkM 64 = true := by decide +kernel
set_option maxRecDepth 100000 in
theorem chk_65 : chkM 65 = true := by decide +kernel
set_option maxRecDepth 100000 in
theorem chk_66 : chkM 66 = true := by decide +kernel
set_option maxRecDepth 100000 in
theorem chk_67 : chkM 67 = true := by decide +kernel
set_option maxRecDepth 100000 in
theorem chk_68 : chkM 68 = true := by decide +kernel
set_option maxRecDepth 100000 in
theorem chk_69 : chkM 69 = true := by decide +kernel
set_option maxRecDepth 100000 in
theorem chk_70 : chkM 70 = true := by decide +kernel
set_option maxRecDepth 100000 in
theorem chk_71 : chkM 71 = true := by decide +kernel
set_option maxRecDepth 100000 in
theorem chk_72 : chkM 72 = true := by decide +kernel
set_option maxRecDepth 100000 in
theorem chk_73 : chkM 73 = true := by decide +kernel
set_option maxRecDepth 100000 in
theorem chk_74 : chkM 74 = true := by decide +kernel
set_option maxRecDepth 100000 in
theorem chk_75 : chkM 75 = true := by decide +kernel
set_option maxRecDepth 100000 in
theorem chk_76 : chkM 76 = true := by decide +kernel
set_option maxRecDepth 100000 in
theorem chk_77 : chkM 77 = true := by decide +kernel
set_option maxRecDepth 100000 in
theorem chk_78 : chkM 78 = true := by decide +kernel
set_option maxRecDepth 100000 in
theorem chk_79 : chkM 79 = true := by decide +kernel
set_option maxRecDepth 100000 in
theorem chk_80 : chkM 80 = true := by decide +kernel
set_option maxRecDepth 100000 in
theorem chk_81 : chkM 81 = true := by decide +kernel
set_option maxRecDepth 100000 in
theorem chk_82 : chkM 82 = true := by decide +kernel
set_option maxRecDepth 100000 in
theorem chk_83 : chkM 83 = true := by decide +kernel
end
section
set_option maxRecDepth 100000 in
theorem chk_84 : chkM 84 = true := by decide +kernel
set_option maxRecDepth 100000 in
theorem chk_85 : chkM 85 = true := by decide +kernel
set_option maxRecDepth 100000 in
theorem chk_86 : chkM 86 = true := by decide +kernel
set_option maxRecDepth 100000 in
theorem chk_87 : chkM 87 = true := by decide +kernel
set_option maxRecDepth 100000 in
theorem chk_88 : chkM 88 = true := by decide +kernel
set_option maxRecDepth 100000 in
theorem chk_89 : chkM 89 = true := by decide +kernel
set_option maxRecDepth 100000 in
theorem chk_90 : chkM 90 = true := by decide +kernel
set_option maxRecDepth 100000 in
theorem chk_91 : chkM 91 = true := by decide +kernel
set_option maxRecDepth 100000 in
theorem chk_92 : chkM 92 = true := by decide +kernel
set_option maxRecDepth 100000 in
theorem chk_93 : chkM 93 = true := by decide +kernel
set_option maxRecDepth 100000 in
theorem chk_94 : chkM 94 = true := by decide +kernel
set_option maxRecDepth 100000 in
theorem chk_95 : chkM 95 = true := by decide +kernel
set_option maxRecDepth 100000 in
theorem chk_96 : chkM 96 = true := by decide +kernel
set_option maxRecDepth 100000 in
theorem chk_97 : chkM 97 = true := by decide +kernel
set_option maxRecDepth 100000 in
theorem chk_98 : chkM 98 = true := by decide +kernel
set_option maxRecDepth 100000 in
theorem chk_99 : chkM 99 = true := by decide +kernel
set_option maxRecDepth 100000 in
theorem chk_100 : chkM 100 = true := by decide +kernel
set_option maxRecDepth 100000 in
theorem chk_101 : chkM 101 = true := by decide +kernel
set_option maxRecDepth 100000 in
theorem chk_102 : chkM 102 = true := by decide +kernel
set_option maxRecDepth 100000 in
theorem chk_103 : chkM 103 = true := by decide +kernel
set_option maxRecDepth 100000 in
theorem chk_104 : chkM 104 = true := by decide +kernel
set_option maxRecDepth 100000 in
theorem chk_105 : chkM 105 = true := by decide +kernel
set_option maxRecDepth 100000 in
theorem chk_106 : chkM 106 = true := by decide +kernel
set_option maxRecDepth 100000 in
theorem chk_107 : chkM 107 = true := by decide +kernel
set_option maxRecDepth 100000 in
theorem chk_108 : chkM 108 = true := by decide +kernel
set_option maxRecDepth 100000 in
theorem chk_109 : chkM 109 = true := by decide +kernel
set_option maxRecDepth 100000 in
theorem chk_110 : chkM 110 = true := by decide +kernel
set_option maxRecDepth 100000 in
theorem chk_111 : chkM 111 = true := by decide +kernel
set_option maxRecDepth 100000 in
theorem chk_112 : chkM 112 = true := by decide +kernel
set_option maxRecDepth 100000 in
theorem chk_113 : chkM 113 = true := by decide +kernel
set_option maxRecDepth 100000 in
theorem chk_114 : chkM 114 = true := by decide +kernel
set_option maxRecDepth 100000 in
theorem chk_115 : chkM 115 = true := by decide +kernel
set_option maxRecDepth 100000 in
theorem chk_116 : chkM 116 = true := by decide +kernel
set_option maxRecDepth 100000 in
theorem chk_117 : chkM 117 = true := by decide +kernel
set_option maxRecDepth 100000 in
theorem chk_118 : chkM 118 = true := by decide +kernel
set_option maxRecDepth 100000 in
theorem chk_119 : chkM 119 = true := by decide +kernel
set_option maxRecDepth 100000 in
theorem chk_120 : chkM 120 = true := by decide +kernel
set_option maxRecDepth 100000 in
theorem chk_121 : chkM 121 = true := by decide +kernel
set_option maxRecDepth 100000 in
theorem chk_122 : chkM 122 = true := by decide +kernel
set_option maxRecDepth 100000 in
theorem chk_123 : chkM 123 = true := by decide +kernel
set_option maxRecDepth 100000 in
theorem chk_124 : chkM 124 = true := by decide +kernel
set_option maxRecDepth 100000 in
theorem chk_125 : chkM 125 = true := by decide +kernel
set_option maxRecDepth 100000 in
theorem chk_126 : chkM 126 = true := by decide +kernel
set_option maxRecDepth 100000 in
theorem chk_127 : chkM 127 = true := by decide +kernel
set_option maxRecDepth 100000 in
theorem chk_128 : chkM 128 = true := by decide +kernel
set_option maxRecDepth 100000 in
theorem chk_129 : chkM 129 = true := by decide +kernel
set_option maxRecDepth 100000 in
theorem chk_130 : chkM 130 = true := by decide +kernel
set_option maxRecDepth 100000 in
theorem chk_131 : chkM 131 = true := by decide +kernel
set_option maxRecDepth 100000 in
theorem chk_132 : chkM 132 = true := by decide +kernel
set_option maxRecDepth 100000 in
theorem chk_133 : chkM 133 = true := by decide +kernel
set_option maxRecDepth 100000 in
theorem chk_134 : chkM 134 = true := by decide +kernel
set_option maxRecDepth 100000 in
theorem chk_135 : chkM 135 = true := by decide +kernel
set_option maxRecDepth 100000 in
theorem chk_136 : chkM 136 = true := by decide +kernel
set_option maxRecDepth 100000 in
theorem chk_137 : chkM 137 = true := by decide +kernel
set_option maxRecDepth 100000 in
theorem chk_138 : chkM 138 = true := by decide +kernel
set_option maxRecDepth 100000 in
theorem chk_139 : chkM 139 = true := by decide +kernel
set_option maxRecDepth 100000 in
theorem chk_140 : chkM 140 = true := by decide +kernel
set_option maxRecDepth 100000 in
theorem chk_141 : chkM 141 = true := by decide +kernel
set_option maxRecDepth 100000 in
theorem chk_142 : chkM 142 = true := by decide +kernel
set_option maxRecDepth 100000 in
theorem chk_143 : chkM 143 = true := by decide +kernel
set_option maxRecDepth 100000 in
theorem chk_144 : chkM 144 = true := by decide +kernel
set_option maxRecDepth 100000 in
theorem chk_145 : chkM 145 = true := by decide +kernel
set_option maxRecDepth 100000 in
theorem chk_146 : chkM 146 = true := by decide +kernel
set_option maxRecDepth 100000 in
theorem chk_147 : chkM 147 = true := by decide +kernel
set_option maxRecDepth 100000 in
theorem chk_148 : chkM 148 = true := by decide +kernel
set_option maxRecDepth 100000 in
theorem chk_149 : chkM 149 = true := by decide +kernel
set_option maxRecDepth 100000 in
theorem chk_150 : chkM 150 = true := by decide +kernel
set_option maxRecDepth 100000 in
theorem chk_151 : chkM 151 = true := by decide +kernel
set_option maxRecDepth 100000 in
theorem chk_152 : chkM 152 = true := by decide +kernel
set_option maxRecDepth 100000 in
theorem chk_153 : chkM 153 = true := by decide +kernel
set_option maxRecDepth 100000 in
theorem chk_154 : chkM 154 = true := by decide +kernel
set_option maxRecDepth 100000 in
theorem chk_155 : chkM 155 = true := by decide +kernel
set_option maxRecDepth 100000 in
theorem chk_156 : chkM 156 = true := by decide +kernel
set_option maxRecDepth 100000 in
theorem chk_157 : chkM 157 = true := by decide +kernel
set_option maxRecDepth 100000 in
theorem chk_158 : chkM 158 = true := by decide +kernel
set_option maxRecDepth 100000 in
theorem chk_159_0 : ((pCode 159).take 40).all (chkFl 159) = true := by decide +kernel
set_option maxRecDepth 100000 in
theorem chk_159_1 : (((pCode 159).drop 40).take 40).all (chkFl 159) = true := by decide +kernel
set_option maxRecDepth 100000 in
theorem chk_159_2 : ((((pCode 159).drop 40).drop 40).take 40).all (chkFl 159) = true := by decide +kernel
set_option maxRecDepth 100000 in
theorem chk_159_3 : (((((pCode 159).drop 40).drop 40).drop 40).take 40).all (chkFl 159) = true := by decide +kernel
set_option maxRecDepth 100000 in
theorem chk_159_4 : ((((((pCode 159).drop 40).drop 40).drop 40).drop 40).take 40).all (chkFl 159) = true := by decide +kernel
set_option maxRecDepth 100000 in
theorem chk_159_5 : (((((((pCode 159).drop 40).drop 40).drop 40).drop 40).drop 40).take 40).all (chkFl 159) = true := by decide +kernel
end
section
set_option maxRecDepth 100000 in
theorem chk_159_6 : ((((((((pCode 159).drop 40).drop 40).drop 40).drop 40).drop 40).drop 40).take 40).all (chkFl 159) = true := by decide +kernel
set_option maxRecDepth 100000 in
theorem chk_159_7 : (((((((((pCode 159).drop 40).drop 40).drop 40).drop 40).drop 40).drop 40).drop 40).take 40).all (chkFl 159) = true := by decide +kernel
set_option maxRecDepth 100000 in
theorem chk_159_8 : ((((((((((pCode 159).drop 40).drop 40).drop 40).drop 40).drop 40).drop 40).drop 40).drop 40).take 40).all (chkFl 159) = true := by decide +kernel
set_option maxRecDepth 100000 in
theorem chk_159_9 : (((((((((((pCode 159).drop 40).drop 40).drop 40).drop 40).drop 40).drop 40).drop 40).drop 40).drop 40).take 40).all (chkFl 159) = true := by decide +kernel
set_option maxRecDepth 100000 in
theorem chk_159_10 : ((((((((((((pCode 159).drop 40).drop 40).drop 40).drop 40).drop 40).drop 40).drop 40).drop 40).drop 40).drop 40).take 40).all (chkFl 159) = true := by decide +kernel
set_option maxRecDepth 100000 in
theorem chk_159_11 : (((((((((((((pCode 159).drop 40).drop 40).drop 40).drop 40).drop 40).drop 40).drop 40).drop 40).drop 40).drop 40).drop 40).take 40).all (chkFl 159) = true := by decide +kernel
set_option maxRecDepth 100000 in
theorem chk_159_12 : (((((((((((((pCode 159).drop 40).drop 40).drop 40).drop 40).drop 40).drop 40).drop 40).drop 40).drop 40).drop 40).drop 40).drop 40).all (chkFl 159) = true := by decide +kernel
theorem chk_159 : chkM 159 = true := (all_cut 40 chk_159_0 (all_cut 40 chk_159_1 (all_cut 40 chk_159_2 (all_cut 40 chk_159_3 (all_cut 40 chk_159_4 (all_cut 40 chk_159_5 (all_cut 40 chk_159_6 (all_cut 40 chk_159_7 (all_cut 40 chk_159_8 (all_cut 40 chk_159_9 (all_cut 40 chk_159_10 (all_cut 40 chk_159_11 chk_159_12))))))))))))
set_option maxRecDepth 100000 in
theorem chk_160 : chkM 160 = true := by decide +kernel
set_option maxRecDepth 100000 in
theorem chk_161 : chkM 161 = true := by decide +kernel
set_option maxRecDepth 100000 in
theorem chk_162 : chkM 162 = true := by decide +kernel
set_option maxRecDepth 100000 in
theorem chk_163 : chkM 163 = true := by decide +kernel
set_option maxRecDepth 100000 in
theorem chk_164 : chkM 164 = true := by decide +kernel
set_option maxRecDepth 100000 in
theorem chk_165 : chkM 165 = true := by decide +kernel
set_option maxRecDepth 100000 in
theorem chk_166 : chkM 166 = true := by decide +kernel
set_option maxRecDepth 100000 in
theorem chk_167 : chkM 167 = true := by decide +kernel
set_option maxRecDepth 100000 in
theorem chk_168 : chkM 168 = true := by decide +kernel
set_option maxRecDepth 100000 in
theorem chk_169_0 : ((pCode 169).take 40).all (chkFl 169) = true := by decide +kernel
set_option maxRecDepth 100000 in
theorem chk_169_1 : (((pCode 169).drop 40).take 40).all (chkFl 169) = true := by decide +kernel
set_option maxRecDepth 100000 in
theorem chk_169_2 : ((((pCode 169).drop 40).drop 40).take 40).all (chkFl 169) = true := by decide +kernel
set_option maxRecDepth 100000 in
theorem chk_169_3 : (((((pCode 169).drop 40).drop 40).drop 40).take 40).all (chkFl 169) = true := by decide +kernel
set_option maxRecDepth 100000 in
theorem chk_169_4 : (((((pCode 169).drop 40).drop 40).drop 40).drop 40).all (chkFl 169) = true := by decide +kernel
theorem chk_169 : chkM 169 = true := (all_cut 40 chk_169_0 (all_cut 40 chk_169_1 (all_cut 40 chk_169_2 (all_cut 40 chk_169_3 chk_169_4))))
set_option maxRecDepth 100000 in
theorem chk_170 : chkM 170 = true := by decide +kernel
set_option maxRecDepth 100000 in
theorem chk_171 : chkM 171 = true := by decide +kernel
set_option maxRecDepth 100000 in
theorem chk_172 : chkM 172 = true := by decide +kernel
set_option maxRecDepth 100000 in
theorem chk_173 : chkM 173 = true := by decide +kernel
set_option maxRecDepth 100000 in
theorem chk_174 : chkM 174 = true := by decide +kernel
set_option maxRecDepth 100000 in
theorem chk_175 : chkM 175 = true := by decide +kernel
set_option maxRecDepth 100000 in
theorem chk_176 : chkM 176 = true := by decide +kernel
end
section
set_option maxRecDepth 100000 in
theorem chk_177 : chkM 177 = true := by decide +kernel
set_option maxRecDepth 100000 in
theorem chk_178 : chkM 178 = true := by decide +kernel
set_option maxRecDepth 100000 in
theorem chk_179 : chkM 179 = true := by decide +kernel
set_option maxRecDepth 100000 in
theorem chk_180_0 : ((pCode 180).take 40).all (chkFl 180) = true := by decide +kernel
set_option maxRecDepth 100000 in
theorem chk_180_1 : (((pCode 180).drop 40).take 40).all (chkFl 180) = true := by decide +kernel
set_option maxRecDepth 100000 in
theorem chk_180_2 : ((((pCode 180).drop 40).drop 40).take 40).all (chkFl 180) = true := by decide +kernel
set_option maxRecDepth 100000 in
theorem chk_180_3 : (((((pCode 180).drop 40).drop 40).drop 40).take 40).all (chkFl 180) = true := by decide +kernel
set_option maxRecDepth 100000 in
theorem chk_180_4 : (((((pCode 180).drop 40).drop 40).drop 40).drop 40).all (chkFl 180) = true := by decide +kernel
theorem chk_180 : chkM 180 = true := (all_cut 40 chk_180_0 (all_cut 40 chk_180_1 (all_cut 40 chk_180_2 (all_cut 40 chk_180_3 chk_180_4))))
set_option maxRecDepth 100000 in
theorem chk_181 : chkM 181 = true := by decide +kernel
set_option maxRecDepth 100000 in
theorem chk_182 : chkM 182 = true := by decide +kernel
set_option maxRecDepth 100000 in
theorem chk_183 : chkM 183 = true := by decide +kernel
set_option maxRecDepth 100000 in
theorem chk_184 : chkM 184 = true := by decide +kernel
set_option maxRecDepth 100000 in
theorem chk_185 : chkM 185 = true := by decide +kernel
set_option maxRecDepth 100000 in
theorem chk_186 : chkM 186 = true := by decide +kernel
set_option maxRecDepth 100000 in
theorem chk_187 : chkM 187 = true := by decide +kernel
set_option maxRecDepth 100000 in
theorem chk_188 : chkM 188 = true := by decide +kernel
set_option maxRecDepth 100000 in
theorem chk_189 : chkM 189 = true := by decide +kernel
set_option maxRecDepth 100000 in
theorem chk_190 : chkM 190 = true := by decide +kernel
set_option maxRecDepth 100000 in
theorem chk_191 : chkM 191 = true := by decide +kernel
set_option maxRecDepth 100000 in
theorem chk_192 : chkM 192 = true := by decide +kernel
set_option maxRecDepth 100000 in
theorem chk_193 : chkM 193 = true := by decide +kernel
set_option maxRecDepth 100000 in
theorem chk_194 : chkM 194 = true := by decide +kernel
set_option maxRecDepth 100000 in
theorem chk_195 : chkM 195 = true := by decide +kernel
set_option maxRecDepth 100000 in
theorem chk_196 : chkM 196 = true := by decide +kernel
set_option maxRecDepth 100000 in
theorem chk_197 : chkM 197 = true := by decide +kernel
set_option maxRecDepth 100000 in
theorem chk_198 : chkM 198 = true := by decide +kernel
set_option maxRecDepth 100000 in
theorem chk_199 : chkM 199 = true := by decide +kernel
set_option maxRecDepth 100000 in
theorem chk_200 : chkM 200 = true := by decide +kernel
set_option maxRecDepth 100000 in
theorem chk_201 : chkM 201 = true := by decide +kernel
set_option maxRecDepth 100000 in
theorem chk_202 : chkM 202 = true := by decide +kernel
set_option maxRecDepth 100000 in
theorem chk_203 : chkM 203 = true := by decide +kernel
set_option maxRecDepth 100000 in
theorem chk_204 : chkM 204 = true := by decide +kernel
set_option maxRecDepth 100000 in
theorem chk_205 : chkM 205 = true := by decide +kernel
set_option maxRecDepth 100000 in
theorem chk_206 : chkM 206 = true := by decide +kernel
set_option maxRecDepth 100000 in
theorem chk_207 : chkM 207 = true := by decide +kernel
set_option maxRecDepth 100000 in
theorem chk_208 : chkM 208 = true := by decide +kernel
set_option maxRecDepth 100000 in
theorem chk_209 : chkM 209 = true := by decide +kernel
set_option maxRecDepth 100000 in
theorem chk_210 : chkM 210 = true := by decide +kernel
set_option maxRecDepth 100000 in
theorem chk_211 : chkM 211 = true := by decide +kernel
set_option maxRecDepth 100000 in
theorem chk_212 : chkM 212 = true := by decide +kernel
set_option maxRecDepth 100000 in
theorem chk_213 : chkM 213 = true := by decide +kernel
set_option maxRecDepth 100000 in
theorem chk_214 : chkM 214 = true := by decide +kernel
set_option maxRecDepth 100000 in
theorem chk_215 : chkM 215 = true := by decide +kernel
set_option maxRecDepth 100000 in
theorem chk_216 : chkM 216 = true := by decide +kernel
set_option maxRecDepth 100000 in
theorem chk_217 : chkM 217 = true := by decide +kernel
set_option maxRecDepth 100000 in
theorem chk_218 : chkM 218 = true := by decide +kernel
set_option maxRecDepth 100000 in
theorem chk_219 : chkM 219 = true := by decide +kernel
end
section
set_option maxRecDepth 100000 in
theorem chk_220 : chkM 220 = true := by decide +kernel
set_option maxRecDepth 100000 in
theorem chk_221 : chkM 221 = true := by decide +kernel
set_option maxRecDepth 100000 in
theorem chk_222 : chkM 222 = true := by decide +kernel
set_option maxRecDepth 100000 in
theorem chk_223 : chkM 223 = true := by decide +kernel
set_option maxRecDepth 100000 in
theorem chk_224 : chkM 224 = true := by decide +kernel
set_option maxRecDepth 100000 in
theorem chk_225 : chkM 225 = true := by decide +kernel
set_option maxRecDepth 100000 in
theorem chk_226 : chkM 226 = true := by decide +kernel
set_option maxRecDepth 100000 in
theorem chk_227 : chkM 227 = true := by decide +kernel
set_option maxRecDepth 100000 in
theorem chk_228 : chkM 228 = true := by decide +kernel
set_option maxRecDepth 100000 in
theorem chk_229 : chkM 229 = true := by decide +kernel
set_option maxRecDepth 100000 in
theorem chk_230 : chkM 230 = true := by decide +kernel
set_option maxRecDepth 100000 in
theorem chk_231 : chkM 231 = true := by decide +kernel
set_option maxRecDepth 100000 in
theorem chk_232 : chkM 232 = true := by decide +kernel
set_option maxRecDepth 100000 in
theorem chk_233 : chkM 233 = true := by decide +kernel
set_option maxRecDepth 100000 in
theorem chk_234 : chkM 234 = true := by decide +kernel
set_option maxRecDepth 100000 in
theorem chk_235 : chkM 235 = true := by decide +kernel
set_option maxRecDepth 100000 in
theorem chk_236 : chkM 236 = true := by decide +kernel
set_option maxRecDepth 100000 in
theorem chk_237 : chkM 237 = true := by decide +kernel
set_option maxRecDepth 100000 in
theorem chk_238 : chkM 238 = true := by decide +kernel
set_option maxRecDepth 100000 in
theorem chk_239 : chkM 239 = true := by decide +kernel
set_option maxRecDepth 100000 in
theorem chk_240 : chkM 240 = true := by decide +kernel
set_option maxRecDepth 100000 in
theorem chk_241 : chkM 241 = true := by decide +kernel
set_option maxRecDepth 100000 in
theorem chk_242 : chkM 242 = true := by decide +kernel
set_option maxRecDepth 100000 in
theorem chk_243 : chkM 243 = true := by decide +kernel
set_option maxRecDepth 100000 in
theorem chk_244 : chkM 244 = true := by decide +kernel
set_option maxRecDepth 100000 in
theorem chk_245 : chkM 245 = true := by decide +kernel
set_option maxRecDepth 100000 in
theorem chk_246 : chkM 246 = true := by decide +kernel
set_option maxRecDepth 100000 in
theorem chk_247 : chkM 247 = true := by decide +kernel
set_option maxRecDepth 100000 in
theorem chk_248 : chkM 248 = true := by decide +kernel
set_option maxRecDepth 100000 in
theorem chk_249 : chkM 249 = true := by decide +kernel
set_option maxRecDepth 100000 in
theorem chk_250 : chkM 250 = true := by decide +kernel
set_option maxRecDepth 100000 in
theorem chk_251 : chkM 251 = true := by decide +kernel
set_option maxRecDepth 100000 in
theorem chk_252 : chkM 252 = true := by decide +kernel
set_option maxRecDepth 100000 in
theorem chk_253 : chkM 253 = true := by decide +kernel
set_option maxRecDepth 100000 in
theorem chk_254 : chkM 254 = true := by decide +kernel
set_option maxRecDepth 100000 in
theorem chk_255 : chkM 255 = true := by decide +kernel
set_option maxRecDepth 100000 in
theorem chk_256 : chkM 256 = true := by decide +kernel
set_option maxRecDepth 100000 in
theorem chk_257 : chkM 257 = true := by decide +kernel
set_option maxRecDepth 100000 in
theorem chk_258 : chkM 258 = true := by decide +kernel
set_option maxRecDepth 100000 in
theorem chk_259 : chkM 259 = true := by decide +kernel
set_option maxRecDepth 100000 in
theorem chk_260 : chkM 260 = true := by decide +kernel
set_option maxRecDepth 100000 in
theorem chk_261 : chkM 261 = true := by decide +kernel
set_option maxRecDepth 100000 in
theorem chk_262 : chkM 262 = true := by decide +kernel
set_option maxRecDepth 100000 in
theorem chk_263 : chkM 263 = true := by decide +kernel
set_option maxRecDepth 100000 in
theorem chk_264 : chkM 264 = true := by decide +kernel
set_option maxRecDepth 100000 in
theorem chk_265 : chkM 265 = true := by decide +kernel
set_option maxRecDepth 100000 in
theorem chk_266 : chkM 266 = true := by decide +kernel
set_option maxRecDepth 100000 in
theorem chk_267 : chkM 267 = true := by decide +kernel
set_option maxRecDepth 100000 in
theorem chk_268 : chkM 268 = true := by decide +kernel
set_option maxRecDepth 100000 in
theorem chk_269 : chkM 269 = true := by decide +kernel
set_option maxRecDepth 100000 in
theorem chk_270 : chkM 270 = true := by decide +kernel
set_option maxRecDepth 100000 in
theorem chk_271 : chkM 271 = true := by decide +kernel
set_option maxRecDepth 100000 in
theorem chk_272 : chkM 272 = true := by decide +kernel
set_option maxRecDepth 100000 in
theorem chk_273 : chkM 273 = true := by decide +kernel
set_option maxRecDepth 100000 in
theorem chk_274 : chkM 274 = true := by decide +kernel
set_option maxRecDepth 100000 in
theorem chk_275 : chkM 275 = true := by decide +kernel
set_option maxRecDepth 100000 in
theorem chk_276 : chkM 276 = true := by decide +kernel
set_option maxRecDepth 100000 in
theorem chk_277 : chkM 277 = true := by decide +kernel
set_option maxRecDepth 100000 in
theorem chk_278 : chkM 278 = true := by decide +kernel
set_option maxRecDepth 100000 in
theorem chk_279 : chkM 279 = true := by decide +kernel
set_option maxRecDepth 100000 in
theorem chk_280 : chkM 280 = true := by decide +kernel
set_option maxRecDepth 100000 in
theorem chk_281 : chkM 281 = true := by decide +kernel
set_option maxRecDepth 100000 in
theorem chk_282 : chkM 282 = true := by decide +kernel
set_option maxRecDepth 100000 in
theorem chk_283 : chkM 283 = true := by decide +kernel
set_option maxRecDepth 100000 in
theorem chk_284_0 : ((pCode 284).take 40).all (chkFl 284) = true := by decide +kernel
set_option maxRecDepth 100000 in
theorem chk_284_1 : (((pCode 284).drop 40).take 40).all (chkFl 284) = true := by decide +kernel
set_option maxRecDepth 100000 in
theorem chk_284_2 : ((((pCode 284).drop 40).drop 40).take 40).all (chkFl 284) = true := by decide +kernel
set_option maxRecDepth 100000 in
theorem chk_284_3 : (((((pCode 284).drop 40).drop 40).drop 40).take 40).all (chkFl 284) = true := by decide +kernel
end
section
set_option maxRecDepth 100000 in
theorem chk_284_4 : ((((((pCode 284).drop 40).drop 40).drop 40).drop 40).take 40).all (chkFl 284) = true := by decide +kernel
set_option maxRecDepth 100000 in
theorem chk_284_5 : (((((((pCode 284).drop 40).drop 40).drop 40).drop 40).drop 40).take 40).all (chkFl 284) = true := by decide +kernel
set_option maxRecDepth 100000 in
theorem chk_284_6 : ((((((((pCode 284).drop 40).drop 40).drop 40).drop 40).drop 40).drop 40).take 40).all (chkFl 284) = true := by decide +kernel
set_option maxRecDepth 100000 in
theorem chk_284_7 : (((((((((pCode 284).drop 40).drop 40).drop 40).drop 40).drop 40).drop 40).drop 40).take 40).all (chkFl 284) = true := by decide +kernel
set_option maxRecDepth 100000 in
theorem chk_284_8 : ((((((((((pCode 284).drop 40).drop 40).drop 40).drop 40).drop 40).drop 40).drop 40).drop 40).take 40).all (chkFl 284) = true := by decide +kernel
set_option maxRecDepth 100000 in
theorem chk_284_9 : (((((((((((pCode 284).drop 40).drop 40).drop 40).drop 40).drop 40).drop 40).drop 40).drop 40).drop 40).take 40).all (chkFl 284) = true := by decide +kernel
set_option maxRecDepth 100000 in
theorem chk_284_10 : ((((((((((((pCode 284).drop 40).drop 40).drop 40).drop 40).drop 40).drop 40).drop 40).drop 40).drop 40).drop 40).take 40).all (chkFl 284) = true := by decide +kernel
set_option maxRecDepth 100000 in
theorem chk_284_11 : (((((((((((((pCode 284).drop 40).drop 40).drop 40).drop 40).drop 40).drop 40).drop 40).drop 40).drop 40).drop 40).drop 40).take 40).all (chkFl 284) = true := by decide +kernel
set_option maxRecDepth 100000 in
theorem chk_284_12 : ((((((((((((((pCode 284).drop 40).drop 40).drop 40).drop 40).drop 40).drop 40).drop 40).drop 40).drop 40).drop 40).drop 40).drop 40).take 40).all (chkFl 284) = true := by decide +kernel
set_option maxRecDepth 100000 in
theorem chk_284_13 : (((((((((((((((pCode 284).drop 40).drop 40).drop 40).drop 40).drop 40).drop 40).drop 40).drop 40).drop 40).drop 40).drop 40).drop 40).drop 40).take 40).all (chkFl 284) = true := by decide +kernel
end
section
set_option maxRecDepth 100000 in
theorem chk_284_14 : ((((((((((((((((pCode 284).drop 40).drop 40).drop 40).drop 40).drop 40).drop 40).drop 40).drop 40).drop 40).drop 40).drop 40).drop 40).drop 40).drop 40).take 40).all (chkFl 284) = true := by decide +kernel
set_option maxRecDepth 100000 in
theorem chk_284_15 : (((((((((((((((((pCode 284).drop 40).drop 40).drop 40).drop 40).drop 40).drop 40).drop 40).drop 40).drop 40).drop 40).drop 40).drop 40).drop 40).drop 40).drop 40).take 40).all (chkFl 284) = true := by decide +kernel
set_option maxRecDepth 100000 in
theorem chk_284_16 : ((((((((((((((((((pCode 284).drop 40).drop 40).drop 40).drop 40).drop 40).drop 40).drop 40).drop 40).drop 40).drop 40).drop 40).drop 40).drop 40).drop 40).drop 40).drop 40).take 40).all (chkFl 284) = true := by decide +kernel
set_option maxRecDepth 100000 in
theorem chk_284_17 : ((((((((((((((((((pCode 284).drop 40).drop 40).drop 40).drop 40).drop 40).drop 40).drop 40).drop 40).drop 40).drop 40).drop 40).drop 40).drop 40).drop 40).drop 40).drop 40).drop 40).all (chkFl 284) = true := by decide +kernel
theorem chk_284 : chkM 284 = true := (all_cut 40 chk_284_0 (all_cut 40 chk_284_1 (all_cut 40 chk_284_2 (all_cut 40 chk_284_3 (all_cut 40 chk_284_4 (all_cut 40 chk_284_5 (all_cut 40 chk_284_6 (all_cut 40 chk_284_7 (all_cut 40 chk_284_8 (all_cut 40 chk_284_9 (all_cut 40 chk_284_10 (all_cut 40 chk_284_11 (all_cut 40 chk_284_12 (all_cut 40 chk_284_13 (all_cut 40 chk_284_14 (all_cut 40 chk_284_15 (all_cut 40 chk_284_16 chk_284_17)))))))))))))))))
theorem chks_0 : ∀ k ∈ [0, 1, 2, 3, 4, 5, 6, 7, 8, 9, 10, 11, 12, 13, 14, 15, 16, 17, 18, 19], chkM k = true := List.forall_mem_cons.mpr ⟨chk_0, List.forall_mem_cons.mpr ⟨chk_1, List.forall_mem_cons.mpr ⟨chk_2, List.forall_mem_cons.mpr ⟨chk_3, List.forall_mem_cons.mpr ⟨chk_4, List.forall_mem_cons.mpr ⟨chk_5, List.forall_mem_cons.mpr ⟨chk_6, List.forall_mem_cons.mpr ⟨chk_7, List.forall_mem_cons.mpr ⟨chk_8, List.forall_mem_cons.mpr ⟨chk_9, List.forall_mem_cons.mpr ⟨chk_10, List.forall_mem_cons.mpr ⟨chk_11, List.forall_mem_cons.mpr ⟨chk_12, List.forall_mem_cons.mpr ⟨chk_13, List.forall_mem_cons.mpr ⟨chk_14, List.forall_mem_cons.mpr ⟨chk_15, List.forall_mem_cons.mpr ⟨chk_16, List.forall_mem_cons.mpr ⟨chk_17, List.forall_mem_cons.mpr ⟨chk_18, List.forall_mem_cons.mpr ⟨chk_19, fun _ h => absurd h List.not_mem_nil⟩⟩⟩⟩⟩⟩⟩⟩⟩⟩⟩⟩⟩⟩⟩⟩⟩⟩⟩⟩
theorem chks_1 : ∀ k ∈ [20, 21, 22, 23, 24, 25, 26, 27, 28, 29, 30, 31, 32, 33, 34, 35, 36, 37, 38, 39], chkM k = true := List.forall_mem_cons.mpr ⟨chk_20, List.forall_mem_cons.mpr ⟨chk_21, List.forall_mem_cons.mpr ⟨chk_22, List.forall_mem_cons.mpr ⟨chk_23, List.forall_mem_cons.mpr ⟨chk_24, List.forall_mem_cons.mpr ⟨chk_25, List.forall_mem_cons.mpr ⟨chk_26, List.forall_mem_cons.mpr ⟨chk_27, List.forall_mem_cons.mpr ⟨chk_28, List.forall_mem_cons.mpr ⟨chk_29, List.forall_mem_cons.mpr ⟨chk_30, List.forall_mem_cons.mpr ⟨chk_31, List.forall_mem_cons.mpr ⟨chk_32, List.forall_mem_cons.mpr ⟨chk_33, List.forall_mem_cons.mpr ⟨chk_34, List.forall_mem_cons.mpr ⟨chk_35, List.forall_mem_cons.mpr ⟨chk_36, List.forall_mem_cons.mpr ⟨chk_37, List.forall_mem_cons.mpr ⟨chk_38, List.forall_mem_cons.mpr ⟨chk_39, fun _ h => absurd h List.not_mem_nil⟩⟩⟩⟩⟩⟩⟩⟩⟩⟩⟩⟩⟩⟩⟩⟩⟩⟩⟩⟩
theorem chks_2 : ∀ k ∈ [40, 41, 42, 43, 44, 45, 46, 47, 48, 49, 50, 51, 52, 53, 54, 55, 56, 57, 58, 59], chkM k = true := List.forall_mem_cons.mpr ⟨chk_40, List.forall_mem_cons.mpr ⟨chk_41, List.forall_mem_cons.mpr ⟨chk_42, List.forall_mem_cons.mpr ⟨chk_43, List.forall_mem_cons.mpr ⟨chk_44, List.forall_mem_cons.mpr ⟨chk_45, List.forall_mem_cons.mpr ⟨chk_46, List.forall_mem_cons.mpr ⟨chk_47, List.forall_mem_cons.mpr ⟨chk_48, List.forall_mem_cons.mpr ⟨chk_49, List.forall_mem_cons.mpr ⟨chk_50, List.forall_mem_cons.mpr ⟨chk_51, List.forall_mem_cons.mpr ⟨chk_52, List.forall_mem_cons.mpr ⟨chk_53, List.forall_mem_cons.mpr ⟨chk_54, List.forall_mem_cons.mpr ⟨chk_55, List.forall_mem_cons.mpr ⟨chk_56, List.forall_mem_cons.mpr ⟨chk_57, List.forall_mem_cons.mpr ⟨chk_58, List.forall_mem_cons.mpr ⟨chk_59, fun _ h => absurd h List.not_mem_nil⟩⟩⟩⟩⟩⟩⟩⟩⟩⟩⟩⟩⟩⟩⟩⟩⟩⟩⟩⟩
theorem chks_3 : ∀ k ∈ [60, 61, 62, 63, 64, 65, 66, 67, 68, 69, 70, 71, 72, 73, 74, 75, 76, 77, 78, 79], chkM k = true := List.forall_mem_cons.mpr ⟨chk_60, List.forall_mem_cons.mpr ⟨chk_61, List.forall_mem_cons.mpr ⟨chk_62, List.forall_mem_cons.mpr ⟨chk_63, List.forall_mem_cons.mpr ⟨chk_64, List.forall_mem_cons.mpr ⟨chk_65, List.forall_mem_cons.mpr ⟨chk_66, List.forall_mem_cons.mpr ⟨chk_67, List.forall_mem_cons.mpr ⟨chk_68, List.forall_mem_cons.mpr ⟨chk_69, List.forall_mem_cons.mpr ⟨chk_70, List.forall_mem_cons.mpr ⟨chk_71, List.forall_mem_cons.mpr ⟨chk_72, List.forall_mem_cons.mpr ⟨chk_73, List.forall_mem_cons.mpr ⟨chk_74, List.forall_mem_cons.mpr ⟨chk_75, List.forall_mem_cons.mpr ⟨chk_76, List.forall_mem_cons.mpr ⟨chk_77, List.forall_mem_cons.mpr ⟨chk_78, List.forall_mem_cons.mpr ⟨chk_79, fun _ h => absurd h List.not_mem_nil⟩⟩⟩⟩⟩⟩⟩⟩⟩⟩⟩⟩⟩⟩⟩⟩⟩⟩⟩⟩
theorem chks_4 : ∀ k ∈ [80, 81, 82, 83, 84, 85, 86, 87, 88, 89, 90, 91, 92, 93, 94, 95, 96, 97, 98, 99], chkM k = true := List.forall_mem_cons.mpr ⟨chk_80, List.forall_mem_cons.mpr ⟨chk_81, List.forall_mem_cons.mpr ⟨chk_82, List.forall_mem_cons.mpr ⟨chk_83, List.forall_mem_cons.mpr ⟨chk_84, List.forall_mem_cons.mpr ⟨chk_85, List.forall_mem_cons.mpr ⟨chk_86, List.forall_mem_cons.mpr ⟨chk_87, List.forall_mem_cons.mpr ⟨chk_88, List.forall_mem_cons.mpr ⟨chk_89, List.forall_mem_cons.mpr ⟨chk_90, List.forall_mem_cons.mpr ⟨chk_91, List.forall_mem_cons.mpr ⟨chk_92, List.forall_mem_cons.mpr ⟨chk_93, List.forall_mem_cons.mpr ⟨chk_94, List.forall_mem_cons.mpr ⟨chk_95, List.forall_mem_cons.mpr ⟨chk_96, List.forall_mem_cons.mpr ⟨chk_97, List.forall_mem_cons.mpr ⟨chk_98, List.forall_mem_cons.mpr ⟨chk_99, fun _ h => absurd h List.not_mem_nil⟩⟩⟩⟩⟩⟩⟩⟩⟩⟩⟩⟩⟩⟩⟩⟩⟩⟩⟩⟩
theorem chks_5 : ∀ k ∈ [100, 101, 102, 103, 104, 105, 106, 107, 108, 109, 110, 111, 112, 113, 114, 115, 116, 117, 118, 119], chkM k = true := List.forall_mem_cons.mpr ⟨chk_100, List.forall_mem_cons.mpr ⟨chk_101, List.forall_mem_cons.mpr ⟨chk_102, List.forall_mem_cons.mpr ⟨chk_103, List.forall_mem_cons.mpr ⟨chk_104, List.forall_mem_cons.mpr ⟨chk_105, List.forall_mem_cons.mpr ⟨chk_106, List.forall_mem_cons.mpr ⟨chk_107, List.forall_mem_cons.mpr ⟨chk_108, List.forall_mem_cons.mpr ⟨chk_109, List.forall_mem_cons.mpr ⟨chk_110, List.forall_mem_cons.mpr ⟨chk_111, List.forall_mem_cons.mpr ⟨chk_112, List.forall_mem_cons.mpr ⟨chk_113, List.forall_mem_cons.mpr ⟨chk_114, List.forall_mem_cons.mpr ⟨chk_115, List.forall_mem_cons.mpr ⟨chk_116, List.forall_mem_cons.mpr ⟨chk_117, List.forall_mem_cons.mpr ⟨chk_118, List.forall_mem_cons.mpr ⟨chk_119, fun _ h => absurd h List.not_mem_nil⟩⟩⟩⟩⟩⟩⟩⟩⟩⟩⟩⟩⟩⟩⟩⟩⟩⟩⟩⟩
theorem chks_6 : ∀ k ∈ [120, 121, 122, 123, 124, 125, 126, 127, 128, 129, 130, 131, 132, 133, 134, 135, 136, 137, 138, 139], chkM k = true := List.forall_mem_cons.mpr ⟨chk_120, List.forall_mem_cons.mpr ⟨chk_121, List.forall_mem_cons.mpr ⟨chk_122, List.forall_mem_cons.mpr ⟨chk_123, List.forall_mem_cons.mpr ⟨chk_124, List.forall_mem_cons.mpr ⟨chk_125, List.forall_mem_cons.mpr ⟨chk_126, List.forall_mem_cons.mpr ⟨chk_127, List.forall_mem_cons.mpr ⟨chk_128, List.forall_mem_cons.mpr ⟨chk_129, List.forall_mem_cons.mpr ⟨chk_130, List.forall_mem_cons.mpr ⟨chk_131, List.forall_mem_cons.mpr ⟨chk_132, List.forall_mem_cons.mpr ⟨chk_133, List.forall_mem_cons.mpr ⟨chk_134, List.forall_mem_cons.mpr ⟨chk_135, List.forall_mem_cons.mpr ⟨chk_136, List.forall_mem_cons.mpr ⟨chk_137, List.forall_mem_cons.mpr ⟨chk_138, List.forall_mem_cons.mpr ⟨chk_139, fun _ h => absurd h List.not_mem_nil⟩⟩⟩⟩⟩⟩⟩⟩⟩⟩⟩⟩⟩⟩⟩⟩⟩⟩⟩⟩
theorem chks_7 : ∀ k ∈ [140, 141, 142, 143, 144, 145, 146, 147, 148, 149, 150, 151, 152, 153, 154, 155, 156, 157, 158, 159], chkM k = true := List.forall_mem_cons.mpr ⟨chk_140, List.forall_mem_cons.mpr ⟨chk_141, List.forall_mem_cons.mpr ⟨chk_142, List.forall_mem_cons.mpr ⟨chk_143, List.forall_mem_cons.mpr ⟨chk_144, List.forall_mem_cons.mpr ⟨chk_145, List.forall_mem_cons.mpr ⟨chk_146, List.forall_mem_cons.mpr ⟨chk_147, List.forall_mem_cons.mpr ⟨chk_148, List.forall_mem_cons.mpr ⟨chk_149, List.forall_mem_cons.mpr ⟨chk_150, List.forall_mem_cons.mpr ⟨chk_151, List.forall_mem_cons.mpr ⟨chk_152, List.forall_mem_cons.mpr ⟨chk_153, List.forall_mem_cons.mpr ⟨chk_154, List.forall_mem_cons.mpr ⟨chk_155, List.forall_mem_cons.mpr ⟨chk_156, List.forall_mem_cons.mpr ⟨chk_157, List.forall_mem_cons.mpr ⟨chk_158, List.forall_mem_cons.mpr ⟨chk_159, fun _ h => absurd h List.not_mem_nil⟩⟩⟩⟩⟩⟩⟩⟩⟩⟩⟩⟩⟩⟩⟩⟩⟩⟩⟩⟩
theorem chks_8 : ∀ k ∈ [160, 161, 162, 163, 164, 165, 166, 167, 168, 169, 170, 171, 172, 173, 174, 175, 176, 177, 178, 179], chkM k = true := List.forall_mem_cons.mpr ⟨chk_160, List.forall_mem_cons.mpr ⟨chk_161, List.forall_mem_cons.mpr ⟨chk_162, List.forall_mem_cons.mpr ⟨chk_163, List.forall_mem_cons.mpr ⟨chk_164, List.forall_mem_cons.mpr ⟨chk_165, List.forall_mem_cons.mpr ⟨chk_166, List.forall_mem_cons.mpr ⟨chk_167, List.forall_mem_cons.mpr ⟨chk_168, List.forall_mem_cons.mpr ⟨chk_169, List.forall_mem_cons.mpr ⟨chk_170, List.forall_mem_cons.mpr ⟨chk_171, List.forall_mem_cons.mpr ⟨chk_172, List.forall_mem_cons.mpr ⟨chk_173, List.forall_mem_cons.mpr ⟨chk_174, List.forall_mem_cons.mpr ⟨chk_175, List.forall_mem_cons.mpr ⟨chk_176, List.forall_mem_cons.mpr ⟨chk_177, List.forall_mem_cons.mpr ⟨chk_178, List.forall_mem_cons.mpr ⟨chk_179, fun _ h => absurd h List.not_mem_nil⟩⟩⟩⟩⟩⟩⟩⟩⟩⟩⟩⟩⟩⟩⟩⟩⟩⟩⟩⟩
theorem chks_9 : ∀ k ∈ [180, 181, 182, 183, 184, 185, 186, 187, 188, 189, 190, 191, 192, 193, 194, 195, 196, 197, 198, 199], chkM k = true := List.forall_mem_cons.mpr ⟨chk_180, List.forall_mem_cons.mpr ⟨chk_181, List.forall_mem_cons.mpr ⟨chk_182, List.forall_mem_cons.mpr ⟨chk_183, List.forall_mem_cons.mpr ⟨chk_184, List.forall_mem_cons.mpr ⟨chk_185, List.forall_mem_cons.mpr ⟨chk_186, List.forall_mem_cons.mpr ⟨chk_187, List.forall_mem_cons.mpr ⟨chk_188, List.forall_mem_cons.mpr ⟨chk_189, List.forall_mem_cons.mpr ⟨chk_190, List.forall_mem_cons.mpr ⟨chk_191, List.forall_mem_cons.mpr ⟨chk_192, List.forall_mem_cons.mpr ⟨chk_193, List.forall_mem_cons.mpr ⟨chk_194, List.forall_mem_cons.mpr ⟨chk_195, List.forall_mem_cons.mpr ⟨chk_196, List.forall_mem_cons.mpr ⟨chk_197, List.forall_mem_cons.mpr ⟨chk_198, List.forall_mem_cons.mpr ⟨chk_199, fun _ h => absurd h List.not_mem_nil⟩⟩⟩⟩⟩⟩⟩⟩⟩⟩⟩⟩⟩⟩⟩⟩⟩⟩⟩⟩
theorem chks_10 : ∀ k ∈ [200, 201, 202, 203, 204, 205, 206, 207, 208, 209, 210, 211, 212, 213, 214, 215, 216, 217, 218, 219], chkM k = true := List.forall_mem_cons.mpr ⟨chk_200, List.forall_mem_cons.mpr ⟨chk_201, List.forall_mem_cons.mpr ⟨chk_202, List.forall_mem_cons.mpr ⟨chk_203, List.forall_mem_cons.mpr ⟨chk_204, List.forall_mem_cons.mpr ⟨chk_205, List.forall_mem_cons.mpr ⟨chk_206, List.forall_mem_cons.mpr ⟨chk_207, List.forall_mem_cons.mpr ⟨chk_208, List.forall_mem_cons.mpr ⟨chk_209, List.forall_mem_cons.mpr ⟨chk_210, List.forall_mem_cons.mpr ⟨chk_211, List.forall_mem_cons.mpr ⟨chk_212, List.forall_mem_cons.mpr ⟨chk_213, List.forall_mem_cons.mpr ⟨chk_214, List.forall_mem_cons.mpr ⟨chk_215, List.forall_mem_cons.mpr ⟨chk_216, List.forall_mem_cons.mpr ⟨chk_217, List.forall_mem_cons.mpr ⟨chk_218, List.forall_mem_cons.mpr ⟨chk_219, fun _ h => absurd h List.not_mem_nil⟩⟩⟩⟩⟩⟩⟩⟩⟩⟩⟩⟩⟩⟩⟩⟩⟩⟩⟩⟩
theorem chks_11 : ∀ k ∈ [220, 221, 222, 223, 224, 225, 226, 227, 228, 229, 230, 231, 232, 233, 234, 235, 236, 237, 238, 239], chkM k = true := List.forall_mem_cons.mpr ⟨chk_220, List.forall_mem_cons.mpr ⟨chk_221, List.forall_mem_cons.mpr ⟨chk_222, List.forall_mem_cons.mpr ⟨chk_223, List.forall_mem_cons.mpr ⟨chk_224, List.forall_mem_cons.mpr ⟨chk_225, List.forall_mem_cons.mpr ⟨chk_226, List.forall_mem_cons.mpr ⟨chk_227, List.forall_mem_cons.mpr ⟨chk_228, List.forall_mem_cons.mpr ⟨chk_229, List.forall_mem_cons.mpr ⟨chk_230, List.forall_mem_cons.mpr ⟨chk_231, List.forall_mem_cons.mpr ⟨chk_232, List.forall_mem_cons.mpr ⟨chk_233, List.forall_mem_cons.mpr ⟨chk_234, List.forall_mem_cons.mpr ⟨chk_235, List.forall_mem_cons.mpr ⟨chk_236, List.forall_mem_cons.mpr ⟨chk_237, List.forall_mem_cons.mpr ⟨chk_238, List.forall_mem_cons.mpr ⟨chk_239, fun _ h => absurd h List.not_mem_nil⟩⟩⟩⟩⟩⟩⟩⟩⟩⟩⟩⟩⟩⟩⟩⟩⟩⟩⟩⟩
theorem chks_12 : ∀ k ∈ [240, 241, 242, 243, 244, 245, 246, 247, 248, 249, 250, 251, 252, 253, 254, 255, 256, 257, 258, 259], chkM k = true := List.forall_mem_cons.mpr ⟨chk_240, List.forall_mem_cons.mpr ⟨chk_241, List.forall_mem_cons.mpr ⟨chk_242, List.forall_mem_cons.mpr ⟨chk_243, List.forall_mem_cons.mpr ⟨chk_244, List.forall_mem_cons.mpr ⟨chk_245, List.forall_mem_cons.mpr ⟨chk_246, List.forall_mem_cons.mpr ⟨chk_247, List.forall_mem_cons.mpr ⟨chk_248, List.forall_mem_cons.mpr ⟨chk_249, List.forall_mem_cons.mpr ⟨chk_250, List.forall_mem_cons.mpr ⟨chk_251, List.forall_mem_cons.mpr ⟨chk_252, List.forall_mem_cons.mpr ⟨chk_253, List.forall_mem_cons.mpr ⟨chk_254, List.forall_mem_cons.mpr ⟨chk_255, List.forall_mem_cons.mpr ⟨chk_256, List.forall_mem_cons.mpr ⟨chk_257, List.forall_mem_cons.mpr ⟨chk_258, List.forall_mem_cons.mpr ⟨chk_259, fun _ h => absurd h List.not_mem_nil⟩⟩⟩⟩⟩⟩⟩⟩⟩⟩⟩⟩⟩⟩⟩⟩⟩⟩⟩⟩
theorem chks_13 : ∀ k ∈ [260, 261, 262, 263, 264, 265, 266, 267, 268, 269, 270, 271, 272, 273, 274, 275, 276, 277, 278, 279], chkM k = true := List.forall_mem_cons.mpr ⟨chk_260, List.forall_mem_cons.mpr ⟨chk_261, List.forall_mem_cons.mpr ⟨chk_262, List.forall_mem_cons.mpr ⟨chk_263, List.forall_mem_cons.mpr ⟨chk_264, List.forall_mem_cons.mpr ⟨chk_265, List.forall_mem_cons.mpr ⟨chk_266, List.forall_mem_cons.mpr ⟨chk_267, List.forall_mem_cons.mpr ⟨chk_268, List.forall_mem_cons.mpr ⟨chk_269, List.forall_mem_cons.mpr ⟨chk_270, List.forall_mem_cons.mpr ⟨chk_271, List.forall_mem_cons.mpr ⟨chk_272, List.forall_mem_cons.mpr ⟨chk_273, List.forall_mem_cons.mpr ⟨chk_274, List.forall_mem_cons.mpr ⟨chk_275, List.forall_mem_cons.mpr ⟨chk_276, List.forall_mem_cons.mpr ⟨chk_277, List.forall_mem_cons.mpr ⟨chk_278, List.forall_mem_cons.mpr ⟨chk_279, fun _ h => absurd h List.not_mem_nil⟩⟩⟩⟩⟩⟩⟩⟩⟩⟩⟩⟩⟩⟩⟩⟩⟩⟩⟩⟩
theorem chks_14 : ∀ k ∈ [280, 281, 282, 283, 284], chkM k = true := List.forall_mem_cons.mpr ⟨chk_280, List.forall_mem_cons.mpr ⟨chk_281, List.forall_mem_cons.mpr ⟨chk_282, List.forall_mem_cons.mpr ⟨chk_283, List.forall_mem_cons.mpr ⟨chk_284, fun _ h => absurd h List.not_mem_nil⟩⟩⟩⟩⟩
theorem chks_all : ∀ k ∈ [0, 1, 2, 3, 4, 5, 6, 7, 8, 9, 10, 11, 12, 13, 14, 15, 16, 17, 18, 19] ++ ([20, 21, 22, 23, 24, 25, 26, 27, 28, 29, 30, 31, 32, 33, 34, 35, 36, 37, 38, 39] ++ ([40, 41, 42, 43, 44, 45, 46, 47, 48, 49, 50, 51, 52, 53, 54, 55, 56, 57, 58, 59] ++ ([60, 61, 62, 63, 64, 65, 66, 67, 68, 69, 70, 71, 72, 73, 74, 75, 76, 77, 78, 79] ++ ([80, 81, 82, 83, 84, 85, 86, 87, 88, 89, 90, 91, 92, 93, 94, 95, 96, 97, 98, 99] ++ ([100, 101, 102, 103, 104, 105, 106, 107, 108, 109, 110, 111, 112, 113, 114, 115, 116, 117, 118, 119] ++ ([120, 121, 122, 123, 124, 125, 126, 127, 128, 129, 130, 131, 132, 133, 134, 135, 136, 137, 138, 139] ++ ([140, 141, 142, 143, 144, 145, 146, 147, 148, 149, 150, 151, 152, 153, 154, 155, 156, 157, 158, 159] ++ ([160, 161, 162, 163, 164, 165, 166, 167, 168, 169, 170, 171, 172, 173, 174, 175, 176, 177, 178, 179] ++ ([180, 181, 182, 183, 184, 185, 186, 187, 188, 189, 190, 191, 192, 193, 194, 195, 196, 197, 198, 199] ++ ([200, 201, 202, 203, 204, 205, 206, 207, 208, 209, 210, 211, 212, 213, 214, 215, 216, 217, 218, 219] ++ ([220, 221, 222, 223, 224, 225, 226, 227, 228, 229, 230, 231, 232, 233, 234, 235, 236, 237, 238, 239] ++ ([240, 241, 242, 243, 244, 245, 246, 247, 248, 249, 250, 251, 252, 253, 254, 255, 256, 257, 258, 259] ++ ([260, 261, 262, 263, 264, 265, 266, 267, 268, 269, 270, 271, 272, 273, 274, 275, 276, 277, 278, 279] ++ ([280, 281, 282, 283, 284])))))))))))))), chkM k = true := List.forall_mem_append.mpr ⟨chks_0, List.forall_mem_append.mpr ⟨chks_1, List.forall_mem_append.mpr ⟨chks_2, List.forall_mem_append.mpr ⟨chks_3, List.forall_mem_append.mpr ⟨chks_4, List.forall_mem_append.mpr ⟨chks_5, List.forall_mem_append.mpr ⟨chks_6, List.forall_mem_append.mpr ⟨chks_7, List.forall_mem_append.mpr ⟨chks_8, List.forall_mem_append.mpr ⟨chks_9, List.forall_mem_append.mpr ⟨chks_10, List.forall_mem_append.mpr ⟨chks_11, List.forall_mem_append.mpr ⟨chks_12, List.forall_mem_append.mpr ⟨chks_13, chks_14⟩⟩⟩⟩⟩⟩⟩⟩⟩⟩⟩⟩⟩⟩
set_option maxRecDepth 100000 in
theorem chk_ok (k : Nat) (h : k < 285) : chkM k = true := chks_all k ((by decide +kernel : ∀ k, k < 285 → k ∈ [0, 1, 2, 3, 4, 5, 6, 7, 8, 9, 10, 11, 12, 13, 14, 15, 16, 17, 18, 19] ++ ([20, 21, 22, 23, 24, 25, 26, 27, 28, 29, 30, 31, 32, 33, 34, 35, 36, 37, 38, 39] ++ ([40, 41, 42, 43, 44, 45, 46, 47, 48, 49, 50, 51, 52, 53, 54, 55, 56, 57, 58, 59] ++ ([60, 61, 62, 63, 64, 65, 66, 67, 68, 69, 70, 71, 72, 73, 74, 75, 76, 77, 78, 79] ++ ([80, 81, 82, 83, 84, 85, 86, 87, 88, 89, 90, 91, 92, 93, 94, 95, 96, 97, 98, 99] ++ ([100, 101, 102, 103, 104, 105, 106, 107, 108, 109, 110, 111, 112, 113, 114, 115, 116, 117, 118, 119] ++ ([120, 121, 122, 123, 124, 125, 126, 127, 128, 129, 130, 131, 132, 133, 134, 135, 136, 137, 138, 139] ++ ([140, 141, 142, 143, 144, 145, 146, 147, 148, 149, 150, 151, 152, 153, 154, 155, 156, 157, 158, 159] ++ ([160, 161, 162, 163, 164, 165, 166, 167, 168, 169, 170, 171, 172, 173, 174, 175, 176, 177, 178, 179] ++ ([180, 181, 182, 183, 184, 185, 186, 187, 188, 189, 190, 191, 192, 193, 194, 195, 196, 197, 198, 199] ++ ([200, 201, 202, 203, 204, 205, 206, 207, 208, 209, 210, 211, 212, 213, 214, 215, 216, 217, 218, 219] ++ ([220, 221, 222, 223, 224, 225, 226, 227, 228, 229, 230, 231, 232, 233, 234, 235, 236, 237, 238, 239] ++ ([240, 241, 242, 243, 244, 245, 246, 247, 248, 249, 250, 251, 252, 253, 254, 255, 256, 257, 258, 259] ++ ([260, 261, 262, 263, 264, 265, 266, 267, 268, 269, 270, 271, 272, 273, 274, 275, 276, 277, 278, 279] ++ ([280, 281, 282, 283, 284]))))))))))))))) k h)
end
section
/-! THE PURE MACHINE AND THE REAL ONE: what a state of the real one is, when the pure one's heap is h -/
def pAd (base : Nat) (roA : Nat → Nat) (i : Nat) : Nat := bif Nat.blt i 100000 then base + i else roA (i - 100000)
def pTv (base : Nat) (roA : Nat → Nat) (w0 : Value) : Value → Value
  | .ref i => .ref (pAd base roA i)
  | .float _ => w0
  | v => v
def pSlots (h : pHeap) : Nat := (h.map (fun q => q.2.length)).sum
def pLens : List Nat := pSigns.map List.length
def pByts : List (List Int32) := pSigns.map (fun l => l.map Int32.ofNat)
def wCellP (D : va_G) (tv : Value → Value) (U : State) (H : Heap) (a : Nat) (q : pCell) : Prop :=
  (q.1 < 13 ∧ (pC q.1).2.2 = q.2.length ∧ t_OB a (D.1 q.1) (pC q.1).2.2 (D.2 q.1) H (fun j => tv (q.2.getD j .null))) ∨
  (100 ≤ q.1 ∧ ∃ cA, H[a]? = some (arrV cA q.2.length (fun j => tv (q.2.getD j .null))) ∧ ArrOfT U cA (pTy q.1) ∧ va_RA U cA (pTy q.1))
def wHeap (D : va_G) (base : Nat) (tv : Value → Value) (U : State) (h : pHeap) (H : Heap) : Prop :=
  H.size = base + h.length ∧ h.length ≤ 100000 ∧ ∀ i q, h[i]? = some q → wCellP D tv U H (base + i) q
def wA (base : Nat) : Nat → Prop := fun q => base ≤ q
def wFix (D : va_G) (base : Nat) (roA : Nat → Nat) (w0 : Value) (X : List Int32) (U : State) (H : Heap) : Prop :=
  (∀ w ∈ pNest, va_Nw w U) ∧ va_AO "DreamDuty$State" U ∧ va_K D vwCl [] U ∧ va_T .int (roA 0) X.length (fun j => .int (X.getD j 0)) (wA base) U H ∧
  vk_S 7 pLens pByts (fun i => roA (1 + i)) (fun i => roA (8 + i)) (wA base) U H ∧ (∀ q ∈ pStrT, vk_R (pOwnN q.1) q.2.1 (pTexts.getD q.2.2 "") (roA (1 + q.2.2)) U) ∧
  va_Z "java/lang/String" "COMPACT_STRINGS" "Z" (.int 1) (wA base) U H ∧ va_Z "jdk/internal/util/Preconditions" "SIOOBE_FORMATTER" "Ljava/util/function/BiFunction;" w0 (wA base) U H ∧
  (w0 = .null ∨ ∃ a, w0 = .ref a)
theorem pNest_form : ∀ w ∈ pNest, ∃ a i x h, w = Cond.methodLinkNest a i x h := by
  intro w hw
  simp only [pNest, List.mem_cons, List.not_mem_nil, or_false] at hw
  rcases hw with h | h | h | h | h | h | h | h | h | h | h | h | h | h <;> exact ⟨_, _, _, _, h⟩
theorem wFix.warm {D : va_G} {base : Nat} {roA : Nat → Nat} {w0 : Value} {X : List Int32} {s U : State} {H : Heap} (h : wFix D base roA w0 X s H) (hW : s.WarmedH U.vm) : wFix D base roA w0 X U H := by
  obtain ⟨h1, h2, h3, h4, h5, h6, h7, h8, h9⟩ := h
  refine ⟨fun w hw => ?_, va_AO.moved hW.alike h2, va_K.moved hW.alike h3, va_T.moved hW.alike h4, vk_S.moved hW.alike h5, fun q hq => vk_R.warm hW (h6 q hq), va_Z.moved hW.alike h7, va_Z.moved hW.alike h8, h9⟩
  obtain ⟨a, i, x, g, rfl⟩ := pNest_form w hw
  exact va_Nw.warmM hW (h1 _ hw)
theorem wFix.same {D : va_G} {base : Nat} {roA : Nat → Nat} {w0 : Value} {X : List Int32} {s U : State} {H : Heap} (h : wFix D base roA w0 X s H) (hv : s.vm = U.vm) : wFix D base roA w0 X U H := by
  obtain ⟨h1, h2, h3, h4, h5, h6, h7, h8, h9⟩ := h
  have al : s.vm.Alike U.vm := by rw [hv]; exact Vm.Alike.refl U.vm
  refine ⟨fun w hw => ?_, va_AO.moved al h2, va_K.moved al h3, va_T.moved al h4, vk_S.moved al h5, fun q hq => vk_R.same hv.symm (h6 q hq), va_Z.moved al h7, va_Z.moved al h8, h9⟩
  obtain ⟨a, i, x, g, rfl⟩ := pNest_form w hw
  exact va_Nw.same rfl hv (h1 _ hw)
theorem wFix.kept {D : va_G} {base : Nat} {roA : Nat → Nat} {w0 : Value} {X : List Int32} {s : State} {H H1 : Heap} (h : wFix D base roA w0 X s H) (hq : ∀ a : Nat, a < H.size → ¬ wA base a → H1[a]? = H[a]?) : wFix D base roA w0 X s H1 := by
  obtain ⟨h1, h2, h3, h4, h5, h6, h7, h8, h9⟩ := h
  exact ⟨h1, h2, h3, h4.kept hq, h5.kept hq, h6, h7.kept hq, h8.kept hq, h9⟩
theorem wCellP.moved {D : va_G} {tv : Value → Value} {s U : State} {H : Heap} {a : Nat} {q : pCell} (hvm : s.vm.Alike U.vm) (h : wCellP D tv s H a q) : wCellP D tv U H a q := by
  rcases h with h | ⟨h1, cA, h2, h3, h4⟩
  · exact Or.inl h
  · exact Or.inr ⟨h1, cA, h2, arrOfT_moved hvm h3, h4.moved hvm⟩
theorem wHeap.moved {D : va_G} {base : Nat} {tv : Value → Value} {s U : State} {h : pHeap} {H : Heap} (hvm : s.vm.Alike U.vm) (hh : wHeap D base tv s h H) : wHeap D base tv U h H :=
  ⟨hh.1, hh.2.1, fun i q hq => (hh.2.2 i q hq).moved hvm⟩
theorem wCellP.kept {D : va_G} {tv : Value → Value} {s : State} {H H1 : Heap} {a : Nat} {q : pCell} (h : wCellP D tv s H a q) (e : H1[a]? = H[a]?) : wCellP D tv s H1 a q := by
  rcases h with ⟨h1, h2, h3⟩ | ⟨h1, cA, h2, h3, h4⟩
  · exact Or.inl ⟨h1, h2, h3.kept e⟩
  · exact Or.inr ⟨h1, cA, by rw [e]; exact h2, h3, h4⟩
theorem wHeap.set {D : va_G} {base : Nat} {tv : Value → Value} {s : State} {h : pHeap} {H H1 : Heap} {o : Nat} {q0 q : pCell} (hh : wHeap D base tv s h H) (ho : h[o]? = some q0) (e2 : H1.size = H.size) (e3 : ∀ x, x ≠ base + o → H1[x]? = H[x]?) (hc : wCellP D tv s H1 (base + o) q) : wHeap D base tv s (h.set o q) H1 := by
  have hlt : o < h.length := (List.getElem?_eq_some_iff.mp ho).1
  refine ⟨by rw [e2, hh.1, List.length_set], by rw [List.length_set]; exact hh.2.1, fun i r hr => ?_⟩
  rw [List.getElem?_set] at hr
  by_cases hi : o = i
  · subst hi
    rw [if_pos rfl, if_pos hlt] at hr
    cases hr
    exact hc
  · rw [if_neg hi] at hr
    exact (hh.2.2 i r hr).kept (e3 _ (by omega))
theorem wHeap.push {D : va_G} {base : Nat} {tv : Value → Value} {s : State} {h : pHeap} {H H1 : Heap} {q : pCell} (hh : wHeap D base tv s h H) (hl : h.length < 99999) (e2 : H1.size = H.size + 1) (e3 : ∀ x, x < H.size → H1[x]? = H[x]?) (hc : wCellP D tv s H1 H.size q) : wHeap D base tv s (h ++ [q]) H1 := by
  refine ⟨by rw [e2, hh.1, List.length_append, List.length_singleton]; omega, by rw [List.length_append, List.length_singleton]; omega, fun i r hr => ?_⟩
  rcases Nat.lt_or_ge i h.length with hi | hi
  · rw [List.getElem?_append_left hi] at hr
    exact (hh.2.2 i r hr).kept (e3 _ (by rw [hh.1]; omega))
  · rw [List.getElem?_append_right hi] at hr
    have hz : i - h.length < 1 := (List.getElem?_eq_some_iff.mp hr).1
    rw [show i - h.length = 0 by omega] at hr
    cases hr
    rw [hh.1] at hc
    rwa [show i = h.length by omega]
theorem pTv_cat {base : Nat} {roA : Nat → Nat} {w0 : Value} (hw : w0 = .null ∨ ∃ a, w0 = .ref a) (v : Value) : (pTv base roA w0 v).category = pCatV v := by
  rcases hw with rfl | ⟨a, rfl⟩ <;> cases v <;> rfl
-- locals
def pHid : Value → Bool
  | .retAddr _ => true
  | _ => false
def wLoc (tv : Value → Value) (ls : Array Slot) (L : List Value) : Prop := ls.size = L.length ∧ lv_wf ls ∧ ∀ i, pHid (pNth L i) = false → ls[i]? = some (.val (tv (pNth L i)))
def pVis (tv : Value → Value) : Nat → List Value → List (Nat × Value)
  | _, [] => []
  | n, v :: r => if pHid v = true then pVis tv (n + 1) r else (n, tv v) :: pVis tv (n + 1) r
theorem pVis_mem (tv : Value → Value) : ∀ (L : List Value) (n : Nat) (q : Nat × Value), q ∈ pVis tv n L ↔ ∃ i, q = (n + i, tv (pNth L i)) ∧ pHid (pNth L i) = false
  | [], n, q => by simp [pVis, pNth, pHid]
  | v :: r, n, q => by
    have ih := pVis_mem tv r (n + 1) q
    unfold pVis
    constructor
    · intro hq
      split at hq
      · obtain ⟨i, h1, h2⟩ := ih.mp hq
        exact ⟨i + 1, by rw [h1]; show (n + 1 + i, _) = (n + (i + 1), _); rw [show n + 1 + i = n + (i + 1) by omega]; rfl, h2⟩
      · rcases List.mem_cons.mp hq with rfl | hq
        · exact ⟨0, rfl, show pHid v = false from by simpa using ‹¬ pHid v = true›⟩
        · obtain ⟨i, h1, h2⟩ := ih.mp hq
          exact ⟨i + 1, by rw [h1]; show (n + 1 + i, _) = (n + (i + 1), _); rw [show n + 1 + i = n + (i + 1) by omega]; rfl, h2⟩
    · rintro ⟨i, rfl, h2⟩
      cases i with
      | zero =>
        have h2 : pHid v = false := h2
        rw [if_neg (by rw [h2]; decide)]
        exact List.mem_cons_self
      | succ i =>
        have h3 : (n + 1 + i, tv (pNth r i)) ∈ pVis tv (n + 1) r := (pVis_mem tv r (n + 1) _).mpr ⟨i, rfl, h2⟩
        have h4 : (n + (i + 1), tv (pNth (v :: r) (i + 1))) ∈ pVis tv (n + 1) r := by rw [show n + (i + 1) = n + 1 + i by omega]; exact h3
        split
        · exact h4
        · exact List.mem_cons_of_mem _ h4
theorem wLoc.has {tv : Value → Value} {ls : Array Slot} {L : List Value} (h : wLoc tv ls L) : lv_has ls L.length (pVis tv 0 L) := by
  refine ⟨h.1, h.2.1, fun q hq => ?_⟩
  obtain ⟨i, rfl, h2⟩ := (pVis_mem tv L 0 q).mp hq
  rw [Nat.zero_add]
  exact h.2.2 i h2
theorem pSet_len : ∀ (L : List Value) (i : Nat) (v : Value), (pSet L i v).length = L.length
  | [], _, _ => rfl
  | _ :: l, 0, _ => rfl
  | _ :: l, n + 1, v => by simp [pSet, pSet_len l n v]
theorem pBlot_len : ∀ l : List Value, (pBlot l).length = l.length
  | [] => rfl
  | _ :: _ => rfl
theorem pSetJ_len : ∀ (L : List Value) (i : Nat) (v : Value), (pSetJ L i v).length = L.length
  | [], _, _ => rfl
  | _ :: l, 0, _ => by simp [pSetJ, pBlot_len]
  | _ :: l, n + 1, v => by simp [pSetJ, pSetJ_len l n v]
theorem pNth_pSet : ∀ (L : List Value) (i j : Nat) (v : Value), i < L.length → pNth (pSet L i v) j = if j = i then v else if j + 1 = i then pKill (pNth L j) else pNth L j
  | [], i, j, v, h => absurd h (Nat.not_lt_zero i)
  | a :: l, 0, 0, v, h => rfl
  | a :: l, 0, j + 1, v, h => by simp [pSet, pNth]
  | a :: l, i + 1, 0, v, h => by
    cases i with
    | zero => simp [pSet, pNth]
    | succ i => simp [pSet, pNth]
  | a :: l, i + 1, j + 1, v, h => by
    have ih := pNth_pSet l i j v (by simpa using h)
    show pNth (pSet l i v) j = _
    rw [ih]
    simp [pNth]
theorem pNth_pBlot : ∀ (l : List Value) (j : Nat), 0 < l.length → pNth (pBlot l) j = if j = 0 then .retAddr 0 else pNth l j
  | [], j, h => absurd h (Nat.lt_irrefl 0)
  | a :: l, 0, h => rfl
  | a :: l, j + 1, h => by simp [pBlot, pNth]
theorem pNth_pSetJ : ∀ (L : List Value) (i j : Nat) (v : Value), i + 1 < L.length → pNth (pSetJ L i v) j = if j = i then v else if j = i + 1 then .retAddr 0 else if j + 1 = i then pKill (pNth L j) else pNth L j
  | [], i, j, v, h => absurd h (Nat.not_lt_zero _)
  | a :: l, 0, 0, v, h => rfl
  | a :: l, 0, j + 1, v, h => by
    have h0 : 0 < l.length := by simpa using h
    show pNth (pBlot l) j = _
    rw [pNth_pBlot l j h0]
    simp [pNth]
  | a :: l, i + 1, 0, v, h => by
    cases i with
    | zero => simp [pSetJ, pNth]
    | succ i => simp [pSetJ, pNth]
  | a :: l, i + 1, j + 1, v, h => by
    have ih := pNth_pSetJ l i j v (by simpa using h)
    show pNth (pSetJ l i v) j = _
    rw [ih]
    simp [pNth]
theorem pKill_vis {v : Value} (h : pHid (pKill v) = false) : pKill v = v ∧ pCatV v = 1 := by
  cases v <;> first | exact ⟨rfl, rfl⟩ | (simp [pKill, pHid] at h)
theorem wLoc.st {tv : Value → Value} (hc : ∀ v, (tv v).category = pCatV v) {ls ls' : Array Slot} {L : List Value} {i : Nat} {v : Value} (h : wLoc tv ls L) (hi : i < L.length)
    (g : lv_has ls' L.length ((i, tv v) :: (pVis tv 0 L).filter (fun q => !(q.1 == i) && !(q.1 + 1 == i && q.2.category == 2)))) : wLoc tv ls' (pSet L i v) := by
  refine ⟨by rw [pSet_len]; exact g.1, g.2.1, fun j hj => ?_⟩
  rw [pNth_pSet L i j v hi] at hj ⊢
  by_cases hji : j = i
  · subst hji
    rw [if_pos rfl]
    exact g.2.2 (j, tv v) List.mem_cons_self
  · rw [if_neg hji] at hj ⊢
    by_cases h1 : j + 1 = i
    · rw [if_pos h1] at hj ⊢
      obtain ⟨e1, e2⟩ := pKill_vis hj
      rw [e1] at hj ⊢
      refine g.2.2 (j, tv (pNth L j)) (List.mem_cons_of_mem _ (List.mem_filter.mpr ⟨(pVis_mem tv L 0 _).mpr ⟨j, by rw [Nat.zero_add], hj⟩, ?_⟩))
      simp [hji, hc, e2]
    · rw [if_neg h1] at hj ⊢
      refine g.2.2 (j, tv (pNth L j)) (List.mem_cons_of_mem _ (List.mem_filter.mpr ⟨(pVis_mem tv L 0 _).mpr ⟨j, by rw [Nat.zero_add], hj⟩, ?_⟩))
      simp [hji, h1]
theorem wLoc.stJ {tv : Value → Value} (hc : ∀ v, (tv v).category = pCatV v) {ls ls' : Array Slot} {L : List Value} {i : Nat} {v : Value} (h : wLoc tv ls L) (hi : i + 1 < L.length)
    (g : lv_has ls' L.length ((i, tv v) :: (pVis tv 0 L).filter (fun q => !(q.1 == i) && (!(q.1 == i + 1) && !(q.1 + 1 == i && q.2.category == 2))))) : wLoc tv ls' (pSetJ L i v) := by
  refine ⟨by rw [pSetJ_len]; exact g.1, g.2.1, fun j hj => ?_⟩
  rw [pNth_pSetJ L i j v hi] at hj ⊢
  by_cases hji : j = i
  · subst hji
    rw [if_pos rfl]
    exact g.2.2 (j, tv v) List.mem_cons_self
  · rw [if_neg hji] at hj ⊢
    by_cases h2 : j = i + 1
    · rw [if_pos h2] at hj
      simp [pHid] at hj
    · rw [if_neg h2] at hj ⊢
      by_cases h1 : j + 1 = i
      · rw [if_pos h1] at hj ⊢
        obtain ⟨e1, e2⟩ := pKill_vis hj
        rw [e1] at hj ⊢
        refine g.2.2 (j, tv (pNth L j)) (List.mem_cons_of_mem _ (List.mem_filter.mpr ⟨(pVis_mem tv L 0 _).mpr ⟨j, by rw [Nat.zero_add], hj⟩, ?_⟩))
        simp [hji, h2, hc, e2]
      · rw [if_neg h1] at hj ⊢
        refine g.2.2 (j, tv (pNth L j)) (List.mem_cons_of_mem _ (List.mem_filter.mpr ⟨(pVis_mem tv L 0 _).mpr ⟨j, by rw [Nat.zero_add], hj⟩, ?_⟩))
        simp [hji, h2, h1]
-- classes' tables, by number
theorem vwCl_get {c : Nat} (h : c < 13) : vwCl[c]? = some (pC c) := by
  match c, h with
  | 0, _ => rfl
  | 1, _ => rfl
  | 2, _ => rfl
  | 3, _ => rfl
  | 4, _ => rfl
  | 5, _ => rfl
  | 6, _ => rfl
  | 7, _ => rfl
  | 8, _ => rfl
  | 9, _ => rfl
  | 10, _ => rfl
  | 11, _ => rfl
  | 12, _ => rfl
  | n + 13, h => exact absurd h (by omega)
theorem lays_all {c : Nat} (h : c < 13) : ∀ w ∈ u_ws (pC c).1 (pC c).2.1 (pC c).2.2, w ∈ gw := by
  match c, h with
  | 0, _ => exact lays_0
  | 1, _ => exact lays_1
  | 2, _ => exact lays_2
  | 3, _ => exact lays_3
  | 4, _ => exact lays_4
  | 5, _ => exact lays_5
  | 6, _ => exact lays_6
  | 7, _ => exact lays_7
  | 8, _ => exact lays_8
  | 9, _ => exact lays_9
  | 10, _ => exact lays_10
  | 11, _ => exact lays_11
  | 12, _ => exact lays_12
  | n + 13, h => exact absurd h (by omega)
theorem tys_all {c : Nat} (h : c < 13) : ∀ k, k < (pC c).2.2 → parseFieldDescriptor ((pC c).2.1 k).2.2.1 = some (pTyF c k) := by
  match c, h with
  | 0, _ => exact tyX0_ok
  | 1, _ => exact tyX1_ok
  | 2, _ => exact tyX2_ok
  | 3, _ => exact tyX3_ok
  | 4, _ => exact tyX4_ok
  | 5, _ => exact tyX5_ok
  | 6, _ => exact tyX6_ok
  | 7, _ => exact tyX7_ok
  | 8, _ => exact tyX8_ok
  | 9, _ => exact tyX9_ok
  | 10, _ => exact tyX10_ok
  | 11, _ => exact tyX11_ok
  | 12, _ => exact tyX12_ok
  | n + 13, h => exact absurd h (by omega)
theorem nms_all {c : Nat} (h : c < 13) : ∀ a, a < (pC c).2.2 → ∀ b, b < (pC c).2.2 → a ≠ b → ((pC c).2.1 a).2.1 ≠ ((pC c).2.1 b).2.1 := by
  match c, h with
  | 0, _ => exact nmX0
  | 1, _ => exact nmX1
  | 2, _ => exact nmX2
  | 3, _ => exact nmX3
  | 4, _ => exact nmX4
  | 5, _ => exact nmX5
  | 6, _ => exact nmX6
  | 7, _ => exact nmX7
  | 8, _ => exact nmX8
  | 9, _ => exact nmX9
  | 10, _ => exact nmX10
  | 11, _ => exact nmX11
  | 12, _ => exact nmX12
  | n + 13, h => exact absurd h (by omega)
theorem defs_all {c : Nat} (h : c < 13) : (pDefs.getD c []).length = (pC c).2.2 ∧ ∀ j, j < (pC c).2.2 → defaultValue (pTyF c j) = (pDefs.getD c []).getD j .null := by
  match c, h with
  | 0, _ => exact ⟨rfl, by decide +kernel⟩
  | 1, _ => exact ⟨rfl, by decide +kernel⟩
  | 2, _ => exact ⟨rfl, by decide +kernel⟩
  | 3, _ => exact ⟨rfl, by decide +kernel⟩
  | 4, _ => exact ⟨rfl, by decide +kernel⟩
  | 5, _ => exact ⟨rfl, by decide +kernel⟩
  | 6, _ => exact ⟨rfl, by decide +kernel⟩
  | 7, _ => exact ⟨rfl, by decide +kernel⟩
  | 8, _ => exact ⟨rfl, by decide +kernel⟩
  | 9, _ => exact ⟨rfl, by decide +kernel⟩
  | 10, _ => exact ⟨rfl, by decide +kernel⟩
  | 11, _ => exact ⟨rfl, by decide +kernel⟩
  | 12, _ => exact ⟨rfl, by decide +kernel⟩
  | n + 13, h => exact absurd h (by omega)
end
section
def cxOK (D : va_G) (base : Nat) (roA : Nat → Nat) (w0 : Value) (X : List Int32) (k : Nat) (p : Program) (s : State) (m : MethodId) (args : Array Value) (meth : Method) (c : Code) : Prop :=
  p.tables.exec = Jvm.exec ∧ c.code = pBytes k ∧ c.maxLocals = pMaxL k ∧ s.vm.findClass (pOwnN (pOwn k)) = some m.cls ∧ (∀ w ∈ gw, w.before args s = true) ∧ wFix D base roA w0 X s s.heap ∧ base ≤ s.heap.size ∧ (k ∈ pInits → meth.name = "<init>")
theorem pIn_iff {i : Int32} {n : Nat} : pIn i n = true ↔ vp_in i n := by
  unfold pIn vp_in
  simp only [Bool.and_eq_true, Bool.not_eq_true', decide_eq_false_iff_not, Nat.blt_eq]
  constructor
  · rintro ⟨h1, h2⟩ (h | h)
    · exact h1 h
    · omega
  · intro h
    exact ⟨fun q => h (Or.inl q), Nat.not_le.mp fun q => h (Or.inr q)⟩
theorem arrV_ext {cA : ClassId} {N : Nat} {f g : Nat → Value} (h : ∀ j, j < N → f j = g j) : arrV cA N f = arrV cA N g := by
  unfold arrV
  congr 2
  funext j
  exact h j.val j.isLt
theorem w_arrset {tv : Value → Value} {vs : List Value} {i : Nat} {v : Value} (hi : i < vs.length) : updV (fun j => tv (vs.getD j .null)) i (tv v) = fun j => tv ((vs.set i v).getD j .null) := by
  funext j
  unfold updV
  by_cases h : j = i
  · subst h
    simp [hi]
  · rw [if_neg h]
    simp [List.getD_eq_getElem?_getD, List.getElem?_set_ne (fun q => h q.symm)]
def pPlain : Value → Bool
  | .int _ => true
  | .long _ => true
  | .null => true
  | _ => false
theorem def_plain (ci base : Nat) (roA : Nat → Nat) (w0 : Value) : ∀ v ∈ pDefs.getD ci [], pTv base roA w0 v = v := by
  intro v hv
  have h : pDefs.all (fun l => l.all pPlain) = true := by decide +kernel
  have hp : pPlain v = true := by
    rw [List.getD_eq_getElem?_getD] at hv
    cases hg : pDefs[ci]? with
    | none => rw [hg] at hv; exact absurd hv List.not_mem_nil
    | some l =>
      rw [hg] at hv
      exact List.all_eq_true.mp (List.all_eq_true.mp h l (List.mem_of_getElem? hg)) v hv
  cases v <;> first | rfl | (simp [pPlain] at hp)
section
variable {p : Program} {l : Launch} {e : Env} {R : Room} {s : State} {m : MethodId} {args : Array Value} {below : List Frame} {meth : Method} {c : Code} {Q : State → Prop} {H : Heap} {locs : List Loc} {cells slots : Nat}
variable {D : va_G} {base : Nat} {roA : Nat → Nat} {w0 : Value} {X : List Int32} {k pc : Nat} {ls : Array Slot} {rest : List Value} {h : pHeap} {tv : Value → Value} {o : Nat}
theorem w_get {ci j index : Nat} {fs : List Value} {v : Value} (Cx : cxOK D base roA w0 X k p s m args meth c) (hq : (pOwn k, index, ci, j) ∈ pFld) (hH : wHeap D base tv s h H) (hh : h[o]? = some (ci, fs)) (hv : fs[j]? = some v) (hd : decode (pBytes k) pc = .ok (.getfield index, 3))
    (kk : W p l e R s m args below meth c H locs cells slots Q (F0 m (pc + 3) ls (tv v :: rest))) : W p l e R s m args below meth c H locs cells slots Q (F0 m pc ls (.ref (base + o) :: rest)) := by
  obtain ⟨hx, hb, hml, hown, hts, hF, hbs, hin⟩ := Cx
  obtain ⟨f1, f2, f3, f4⟩ := fld_ok _ hq
  have hcl := vwCl_get f2
  rcases hH.2.2 o _ hh with ⟨c1, c2, c3⟩ | ⟨c1, -⟩
  · refine va_get (D := D) (cl := vwCl) (tys := []) (ws := [(base + o, .inr (ci, fs.map tv))]) (ci := ci) (C := (pC ci).1) (T := (pC ci).2.1) (N := (pC ci).2.2) hx hb hts (lays_all f2) hown hF.2.2.1 ?_ 0 rfl hcl j f3 (hts _ f1) (fun x hx => by rw [f4] at hx; exact hx) (v := tv v) (by simp [hv]) hd kk
    intro k q hk
    cases k with
    | zero =>
      cases hk
      refine ⟨pC ci, hcl, c3.to fun j hj => ?_⟩
      have c2 : (pC ci).2.2 = fs.length := c2
      rw [c2] at hj
      simp [vp_V, hj]
    | succ k => simp at hk
  · exact absurd (show 100 ≤ ci from c1) (by have f2' : ci < 13 := f2; omega)
theorem w_put {ci j index : Nat} {fs : List Value} {v mk : Value} (Cx : cxOK D base roA w0 X k p s m args meth c) (hq : (pOwn k, index, ci, j) ∈ pFld) (hmk : pPutT mk (pTyF ci j) = true) (hok : pPutOK mk v = true) (hfin : ((pC ci).2.1 j).2.2.2 = true → k ∈ pInits ∧ pOwn k = ci)
    (htv : tv = pTv base roA w0) (hH : wHeap D base tv s h H) (hh : h[o]? = some (ci, fs)) (hj : j < fs.length) (hS : va_S (wA base) s.heap H locs) (hd : decode (pBytes k) pc = .ok (.putfield index, 3))
    (kk : ∀ (H1 : Heap) (locs1 : List Loc), wHeap D base tv s (h.set o (ci, fs.set j v)) H1 → va_S (wA base) s.heap H1 locs1 → W p l e R s m args below meth c H1 locs1 cells slots Q (F0 m (pc + 3) ls rest)) : W p l e R s m args below meth c H locs cells slots Q (F0 m pc ls (tv v :: .ref (base + o) :: rest)) := by
  obtain ⟨hx, hb, hml, hown, hts, hF, hbs, hin⟩ := Cx
  obtain ⟨f1, f2, f3, f4⟩ := fld_ok _ hq
  have hcl := vwCl_get f2
  have hK := hF.2.2.1
  rcases hH.2.2 o _ hh with ⟨c1, c2, c3⟩ | ⟨c1, -⟩
  · have hap := va_apart (own := pOwnN (pOwn k)) hts (lays_all f2) (pTyF ci) (tys_all f2) (nms_all f2) hK hcl
    obtain ⟨cell, q1, q2, q3, q4⟩ := c3
    obtain ⟨hSl, hfc, kC, hkC, hkind⟩ := hK.1 ci _ hcl
    obtain ⟨cf, kf, fi, f, hi, hsl⟩ := hSl j f3
    have hlay := hts _ (lays_all f2 _ (u_in_lay f3))
    unfold u_lay at hlay
    have hst := (u_facts hfc hkC (u_lays hts (lays_all f2) f3) hi).1
    have hty := tys_all f2 j f3
    have hnf : narrow (pTyF ci j) (tv v) = tv v ∧ fits (pTyF ci j) (tv v) = true := by
      subst htv
      revert hmk hok
      cases mk <;> cases v <;> cases pTyF ci j <;> intro hmk hok <;> first | exact ⟨rfl, rfl⟩ | (simp [pPutT, pPutOK] at hmk hok; done) | skip
      rename_i x
      have hx : x = 0 ∨ x = 1 := by simpa [pPutOK] using hok
      rcases hx with rfl | rfl <;> exact ⟨rfl, rfl⟩
    have hnew : ∀ H1 : Heap, H1[base + o]? = some (cell.setSlot (D.2 ci j) (tv v)) → H1.size = H.size → (∀ q, q ≠ base + o → H1[q]? = H[q]?) → wHeap D base tv s (h.set o (ci, fs.set j v)) H1 := by
      intro H1 e1 e2 e3
      refine hH.set hh e2 e3 (Or.inl ⟨c1, by simpa using c2, ?_⟩)
      refine t_OB.to (V := updV (fun j => tv (fs.getD j .null)) j (tv v)) ⟨_, e1, q2, q3, t_set q4 hap f3 (tv v)⟩ (fun i _ => ?_)
      rw [w_arrset hj]
    cases hfi : ((pC ci).2.1 j).2.2.2
    · rw [hfi] at hlay
      have h6 := u_store hfc hkC hkind hlay hi hty hnf.1 hnf.2
      refine W.putK hx hb (f := f) ⟨hown, hts _ f1, ⟨_, _, _, by rw [f4] at hi; exact hi⟩, hst⟩ (by rw [q2]; exact h6) q1 q3 (by rw [hsl]; exact k2_hasslot (q4 j f3)) rfl rfl hd fun H' e1 e2 e3 => ?_
      rw [hsl] at e1 ⊢
      exact kk H' _ (hnew H' e1 e2 e3) (hS.put e2 e3 (Nat.le_add_right _ _))
    · rw [hfi] at hlay
      rw [if_pos rfl] at hlay
      obtain ⟨g1, g2⟩ := hfin hfi
      have hdecl : ((pC ci).2.1 j).1 = pOwnN (pOwn k) := by
        rw [f4, g2]
        match ci, f2 with
        | 0, _ => rfl
        | 1, _ => rfl
        | 2, _ => rfl
        | 3, _ => rfl
        | 4, _ => rfl
        | 5, _ => rfl
        | 6, _ => rfl
        | 7, _ => rfl
        | 8, _ => rfl
        | 9, _ => rfl
        | 10, _ => rfl
        | 11, _ => rfl
        | 12, _ => rfl
        | n + 13, h => exact absurd h (by omega)
      have hcf : m.cls = cf := by
        obtain ⟨_, _, c', _, _, _, -, -, hf', -, -, -, hown2, -⟩ := Cond.laysFinal_spec hlay
        have e1 : c' = cf := by have := hi.symm.trans hf'; simp at this; exact this.1.symm
        rw [hdecl] at hown2
        rw [← e1]; exact Option.some.inj (hown.symm.trans hown2)
      have h6 := u_fits hfc hkC hkind (Or.inr hlay) hi hty hnf.1 hnf.2
      refine W.putFinK hx hb hown (hts _ f1) (by rw [f4] at hi; exact hi) hst hcf (hin g1) (by rw [q2]; exact h6) q1 q3 (by rw [hsl]; exact k2_hasslot (q4 j f3)) rfl rfl hd fun H' e1 e2 e3 => ?_
      rw [hsl] at e1 ⊢
      exact kk H' _ (hnew H' e1 e2 e3) (hS.put e2 e3 (Nat.le_add_right _ _))
  · exact absurd (show 100 ≤ ci from c1) (by have f2' : ci < 13 := f2; omega)
theorem w_arr {t : Nat} {vs : List Value} (hH : wHeap D base tv s h H) (hh : h[o]? = some (t, vs)) (ht : 100 ≤ t) : ∃ cA, H[base + o]? = some (arrV cA vs.length (fun j => tv (vs.getD j .null))) ∧ ArrOfT s cA (pTy t) ∧ va_RA s cA (pTy t) := by
  rcases hH.2.2 o _ hh with ⟨c1, -⟩ | ⟨-, c2⟩
  · exact absurd (show t < 13 from c1) (by omega)
  · exact c2
theorem w_iald {vs : List Value} {i : Int32} (Cx : cxOK D base roA w0 X k p s m args meth c) (hH : wHeap D base tv s h H) (hh : h[o]? = some (100, vs)) (hi : vp_in i vs.length) (hd : decode (pBytes k) pc = .ok (.iaload, 1))
    (kk : W p l e R s m args below meth c H locs cells slots Q (F0 m (pc + 1) ls (tv (vs.getD i.toNatClampNeg .null) :: rest))) : W p l e R s m args below meth c H locs cells slots Q (F0 m pc ls (.int i :: .ref (base + o) :: rest)) := by
  obtain ⟨cA, c1, c2, c3⟩ := w_arr hH hh (Nat.le_refl _)
  have hlt : i.toNatClampNeg < vs.length := Nat.not_le.mp fun q => hi (Or.inr q)
  exact W.iald (v := tv (vs.getD i.toNatClampNeg .null)) Cx.1 Cx.2.1 c1 (c2 vs.length _) (fun q => by cases q) (by show ¬ (i < 0 ∨ (arrV _ _ _).slots.size ≤ _); rw [arrV_size]; exact hi) (by show (arrV _ _ _).slots[_]? = _; rw [arrV_read _ _ hlt]) rfl rfl hd kk
theorem w_bald {vs : List Value} {i : Int32} (Cx : cxOK D base roA w0 X k p s m args meth c) (hH : wHeap D base tv s h H) (hh : h[o]? = some (101, vs)) (hi : vp_in i vs.length) (hd : decode (pBytes k) pc = .ok (.baload, 1))
    (kk : W p l e R s m args below meth c H locs cells slots Q (F0 m (pc + 1) ls (tv (vs.getD i.toNatClampNeg .null) :: rest))) : W p l e R s m args below meth c H locs cells slots Q (F0 m pc ls (.int i :: .ref (base + o) :: rest)) := by
  obtain ⟨cA, c1, c2, c3⟩ := w_arr hH hh (by omega)
  have hlt : i.toNatClampNeg < vs.length := Nat.not_le.mp fun q => hi (Or.inr q)
  exact W.bald (v := tv (vs.getD i.toNatClampNeg .null)) Cx.1 Cx.2.1 c1 (c2 vs.length _) (fun q => by cases q) (by show ¬ (i < 0 ∨ (arrV _ _ _).slots.size ≤ _); rw [arrV_size]; exact hi) (by show (arrV _ _ _).slots[_]? = _; rw [arrV_read _ _ hlt]) rfl rfl hd kk
theorem w_zald {vs : List Value} {i : Int32} (Cx : cxOK D base roA w0 X k p s m args meth c) (hH : wHeap D base tv s h H) (hh : h[o]? = some (102, vs)) (hi : vp_in i vs.length) (hd : decode (pBytes k) pc = .ok (.baload, 1))
    (kk : W p l e R s m args below meth c H locs cells slots Q (F0 m (pc + 1) ls (tv (vs.getD i.toNatClampNeg .null) :: rest))) : W p l e R s m args below meth c H locs cells slots Q (F0 m pc ls (.int i :: .ref (base + o) :: rest)) := by
  obtain ⟨cA, c1, c2, c3⟩ := w_arr hH hh (by omega)
  have hlt : i.toNatClampNeg < vs.length := Nat.not_le.mp fun q => hi (Or.inr q)
  exact W.zald (v := tv (vs.getD i.toNatClampNeg .null)) Cx.1 Cx.2.1 c1 (c2 vs.length _) (fun q => by cases q) (by show ¬ (i < 0 ∨ (arrV _ _ _).slots.size ≤ _); rw [arrV_size]; exact hi) (by show (arrV _ _ _).slots[_]? = _; rw [arrV_read _ _ hlt]) rfl rfl hd kk
theorem w_lald {vs : List Value} {i : Int32} (Cx : cxOK D base roA w0 X k p s m args meth c) (hH : wHeap D base tv s h H) (hh : h[o]? = some (103, vs)) (hi : vp_in i vs.length) (hd : decode (pBytes k) pc = .ok (.laload, 1))
    (kk : W p l e R s m args below meth c H locs cells slots Q (F0 m (pc + 1) ls (tv (vs.getD i.toNatClampNeg .null) :: rest))) : W p l e R s m args below meth c H locs cells slots Q (F0 m pc ls (.int i :: .ref (base + o) :: rest)) := by
  obtain ⟨cA, c1, c2, c3⟩ := w_arr hH hh (by omega)
  have hlt : i.toNatClampNeg < vs.length := Nat.not_le.mp fun q => hi (Or.inr q)
  exact W.lald (v := tv (vs.getD i.toNatClampNeg .null)) Cx.1 Cx.2.1 c1 (c2 vs.length _) (fun q => by cases q) (by show ¬ (i < 0 ∨ (arrV _ _ _).slots.size ≤ _); rw [arrV_size]; exact hi) (by show (arrV _ _ _).slots[_]? = _; rw [arrV_read _ _ hlt]) rfl rfl hd kk
theorem w_aald {vs : List Value} {i : Int32} (Cx : cxOK D base roA w0 X k p s m args meth c) (hH : wHeap D base tv s h H) (hh : h[o]? = some (104, vs)) (hi : vp_in i vs.length) (hd : decode (pBytes k) pc = .ok (.aaload, 1))
    (kk : W p l e R s m args below meth c H locs cells slots Q (F0 m (pc + 1) ls (tv (vs.getD i.toNatClampNeg .null) :: rest))) : W p l e R s m args below meth c H locs cells slots Q (F0 m pc ls (.int i :: .ref (base + o) :: rest)) := by
  obtain ⟨cA, c1, c2, c3⟩ := w_arr hH hh (by omega)
  have hlt : i.toNatClampNeg < vs.length := Nat.not_le.mp fun q => hi (Or.inr q)
  exact W.aald (v := tv (vs.getD i.toNatClampNeg .null)) Cx.1 Cx.2.1 c1 (c2 vs.length _) rfl (fun q => by cases q) (by show ¬ (i < 0 ∨ (arrV _ _ _).slots.size ≤ _); rw [arrV_size]; exact hi) (by show (arrV _ _ _).slots[_]? = _; rw [arrV_read _ _ hlt]) rfl rfl hd kk
theorem w_stored {t i : Nat} {vs : List Value} {v : Value} {cA : ClassId} {H1 : Heap} (hH : wHeap D base tv s h H) (hh : h[o]? = some (t, vs)) (ht : 100 ≤ t) (hi : i < vs.length) (c2 : ArrOfT s cA (pTy t)) (c3 : va_RA s cA (pTy t)) (e1 : H1[base + o]? = some ((arrV cA vs.length (fun j => tv (vs.getD j .null))).setSlot i (tv v))) (e2 : H1.size = H.size) (e3 : ∀ q, q ≠ base + o → H1[q]? = H[q]?) : wHeap D base tv s (h.set o (t, vs.set i v)) H1 := by
  refine hH.set hh e2 e3 (Or.inr ⟨ht, cA, ?_, c2, c3⟩)
  rw [e1, arrV_store, w_arrset hi]
  simp
theorem w_iast {vs : List Value} {i x : Int32} (Cx : cxOK D base roA w0 X k p s m args meth c) (htv : tv = pTv base roA w0) (hH : wHeap D base tv s h H) (hh : h[o]? = some (100, vs)) (hi : vp_in i vs.length) (hS : va_S (wA base) s.heap H locs) (hd : decode (pBytes k) pc = .ok (.iastore, 1))
    (kk : ∀ (H1 : Heap) (locs1 : List Loc), wHeap D base tv s (h.set o (100, vs.set i.toNatClampNeg (.int x))) H1 → va_S (wA base) s.heap H1 locs1 → W p l e R s m args below meth c H1 locs1 cells slots Q (F0 m (pc + 1) ls rest)) : W p l e R s m args below meth c H locs cells slots Q (F0 m pc ls (.int x :: .int i :: .ref (base + o) :: rest)) := by
  obtain ⟨cA, c1, c2, c3⟩ := w_arr hH hh (Nat.le_refl _)
  have hlt : i.toNatClampNeg < vs.length := Nat.not_le.mp fun q => hi (Or.inr q)
  refine W.iast Cx.1 Cx.2.1 c1 (c2 vs.length _) (fun q => by cases q) (by show ¬ (i < 0 ∨ (arrV _ _ _).slots.size ≤ _); rw [arrV_size]; exact hi) rfl rfl hd fun H1 e z oq => ?_
  exact kk H1 _ (w_stored hH hh (Nat.le_refl _) hlt c2 c3 (by subst htv; exact e) z oq) (hS.put z oq (Nat.le_add_right _ _))
theorem w_bast {vs : List Value} {i x : Int32} (Cx : cxOK D base roA w0 X k p s m args meth c) (htv : tv = pTv base roA w0) (hH : wHeap D base tv s h H) (hh : h[o]? = some (101, vs)) (hi : vp_in i vs.length) (hS : va_S (wA base) s.heap H locs) (hd : decode (pBytes k) pc = .ok (.bastore, 1))
    (kk : ∀ (H1 : Heap) (locs1 : List Loc), wHeap D base tv s (h.set o (101, vs.set i.toNatClampNeg (.int x.toInt8.toInt32))) H1 → va_S (wA base) s.heap H1 locs1 → W p l e R s m args below meth c H1 locs1 cells slots Q (F0 m (pc + 1) ls rest)) : W p l e R s m args below meth c H locs cells slots Q (F0 m pc ls (.int x :: .int i :: .ref (base + o) :: rest)) := by
  obtain ⟨cA, c1, c2, c3⟩ := w_arr hH hh (by omega)
  have hlt : i.toNatClampNeg < vs.length := Nat.not_le.mp fun q => hi (Or.inr q)
  refine W.bast Cx.1 Cx.2.1 c1 (c2 vs.length _) (fun q => by cases q) (by show ¬ (i < 0 ∨ (arrV _ _ _).slots.size ≤ _); rw [arrV_size]; exact hi) rfl rfl hd fun H1 e z oq => ?_
  exact kk H1 _ (w_stored hH hh (by omega) hlt c2 c3 (by subst htv; exact e) z oq) (hS.put z oq (Nat.le_add_right _ _))
theorem w_zast {vs : List Value} {i x : Int32} (Cx : cxOK D base roA w0 X k p s m args meth c) (htv : tv = pTv base roA w0) (hH : wHeap D base tv s h H) (hh : h[o]? = some (102, vs)) (hi : vp_in i vs.length) (hS : va_S (wA base) s.heap H locs) (hd : decode (pBytes k) pc = .ok (.bastore, 1))
    (kk : ∀ (H1 : Heap) (locs1 : List Loc), wHeap D base tv s (h.set o (102, vs.set i.toNatClampNeg (.int (x &&& 1)))) H1 → va_S (wA base) s.heap H1 locs1 → W p l e R s m args below meth c H1 locs1 cells slots Q (F0 m (pc + 1) ls rest)) : W p l e R s m args below meth c H locs cells slots Q (F0 m pc ls (.int x :: .int i :: .ref (base + o) :: rest)) := by
  obtain ⟨cA, c1, c2, c3⟩ := w_arr hH hh (by omega)
  have hlt : i.toNatClampNeg < vs.length := Nat.not_le.mp fun q => hi (Or.inr q)
  refine W.zast Cx.1 Cx.2.1 c1 (c2 vs.length _) (fun q => by cases q) (by show ¬ (i < 0 ∨ (arrV _ _ _).slots.size ≤ _); rw [arrV_size]; exact hi) rfl rfl hd fun H1 e z oq => ?_
  exact kk H1 _ (w_stored hH hh (by omega) hlt c2 c3 (by subst htv; exact e) z oq) (hS.put z oq (Nat.le_add_right _ _))
theorem w_last {vs : List Value} {i : Int32} {x : Int64} (Cx : cxOK D base roA w0 X k p s m args meth c) (htv : tv = pTv base roA w0) (hH : wHeap D base tv s h H) (hh : h[o]? = some (103, vs)) (hi : vp_in i vs.length) (hS : va_S (wA base) s.heap H locs) (hd : decode (pBytes k) pc = .ok (.lastore, 1))
    (kk : ∀ (H1 : Heap) (locs1 : List Loc), wHeap D base tv s (h.set o (103, vs.set i.toNatClampNeg (.long x))) H1 → va_S (wA base) s.heap H1 locs1 → W p l e R s m args below meth c H1 locs1 cells slots Q (F0 m (pc + 1) ls rest)) : W p l e R s m args below meth c H locs cells slots Q (F0 m pc ls (.long x :: .int i :: .ref (base + o) :: rest)) := by
  obtain ⟨cA, c1, c2, c3⟩ := w_arr hH hh (by omega)
  have hlt : i.toNatClampNeg < vs.length := Nat.not_le.mp fun q => hi (Or.inr q)
  refine W.last Cx.1 Cx.2.1 c1 (c2 vs.length _) (fun q => by cases q) (by show ¬ (i < 0 ∨ (arrV _ _ _).slots.size ≤ _); rw [arrV_size]; exact hi) rfl rfl hd fun H1 e z oq => ?_
  exact kk H1 _ (w_stored hH hh (by omega) hlt c2 c3 (by subst htv; exact e) z oq) (hS.put z oq (Nat.le_add_right _ _))
theorem w_aast {vs fs : List Value} {i : Int32} {x : Nat} (Cx : cxOK D base roA w0 X k p s m args meth c) (htv : tv = pTv base roA w0) (hH : wHeap D base tv s h H) (hh : h[o]? = some (104, vs)) (hx : h[x]? = some (7, fs)) (hxl : x < 100000) (hi : vp_in i vs.length) (hS : va_S (wA base) s.heap H locs) (hd : decode (pBytes k) pc = .ok (.aastore, 1))
    (kk : ∀ (H1 : Heap) (locs1 : List Loc), wHeap D base tv s (h.set o (104, vs.set i.toNatClampNeg (.ref x))) H1 → va_S (wA base) s.heap H1 locs1 → W p l e R s m args below meth c H1 locs1 cells slots Q (F0 m (pc + 1) ls rest)) : W p l e R s m args below meth c H locs cells slots Q (F0 m pc ls (.ref (base + x) :: .int i :: .ref (base + o) :: rest)) := by
  obtain ⟨cA, c1, c2, c3⟩ := w_arr hH hh (by omega)
  have hlt : i.toNatClampNeg < vs.length := Nat.not_le.mp fun q => hi (Or.inr q)
  have h0 : ¬ i < 0 := fun q => hi (Or.inl q)
  have hK := Cx.2.2.2.2.2.1.2.2.1
  rcases hH.2.2 x _ hx with ⟨d1, d2, cellV, g1, g2, g3, g4⟩ | ⟨d1, -⟩
  · have hcls := (hK.1 7 _ (vwCl_get (by omega))).2
    have c3' := c3
    obtain ⟨kA, comp, k1, k2, k3, -⟩ := c3
    have hcomp : comp = D.1 7 := Option.some.inj (k3.symm.trans hcls.1)
    subst hcomp
    obtain ⟨kC, hkC, -⟩ := hcls.2
    refine W.aast Cx.1 Cx.2.1 c1 (fun q h => by cases h) (fun h => by cases h) k1 k2 rfl hkC ⟨h0, by show _ < (arrV _ _ _).slots.size; rw [arrV_size]; exact hlt⟩ g1 (fun q h => by rw [g3] at h; cases h) (by rw [g2]; exact hkC) (by rw [g2]; exact va_assign hcls) rfl rfl hd fun H1 e z oq => ?_
    refine kk H1 _ (w_stored hH hh (by omega) hlt c2 c3' ?_ z oq) (hS.put z oq (Nat.le_add_right _ _))
    rw [e]
    subst htv
    show _ = some (Cell.setSlot _ _ (Value.ref (pAd base roA x)))
    rw [show pAd base roA x = base + x by unfold pAd; rw [show Nat.blt x 100000 = true from by rw [Nat.blt_eq]; exact hxl]; rfl]
  · exact absurd (show 100 ≤ 7 from d1) (by omega)
theorem w_alen {t : Nat} {vs : List Value} (Cx : cxOK D base roA w0 X k p s m args meth c) (hH : wHeap D base tv s h H) (hh : h[o]? = some (t, vs)) (ht : 100 ≤ t) (hd : decode (pBytes k) pc = .ok (.arraylength, 1))
    (kk : W p l e R s m args below meth c H locs cells slots Q (F0 m (pc + 1) ls (.int (Int32.ofNat vs.length) :: rest))) : W p l e R s m args below meth c H locs cells slots Q (F0 m pc ls (.ref (base + o) :: rest)) := by
  obtain ⟨cA, c1, c2, c3⟩ := w_arr hH hh ht
  exact W.alen Cx.1 Cx.2.1 c1 (c2 vs.length _) (by rw [arrV_size]) rfl rfl hd kk
theorem w_pushS {H1 : Heap} (hS : va_S (wA base) s.heap H locs) (e2 : H1.size = H.size + 1) (e3 : ∀ x, x < H.size → H1[x]? = H[x]?) : va_S (wA base) s.heap H1 locs :=
  ⟨Nat.le_trans hS.1 (by omega), fun q h1 h2 => (e3 q (Nat.lt_of_lt_of_le h1 hS.1)).trans (hS.2.1 q h1 h2), hS.2.2⟩
theorem w_newa {t : Nat} {at' : ArrayType} {dv : Value} {n : Int32} (Cx : cxOK D base roA w0 X k p s m args meth c) (hat : pArrT at' = (t, dv)) (ht : 100 ≤ t) (htv : tv = pTv base roA w0) (hH : wHeap D base tv s h H) (hS : va_S (wA base) s.heap H locs) (hn : ¬ n < 0) (hn2 : n.toNatClampNeg < 100000) (hl : h.length < 99999) (hc : cells + 1 ≤ R.cells) (hs : slots + n.toNatClampNeg ≤ R.slots) (hd : decode (pBytes k) pc = .ok (.newarray at', 2))
    (kk : ∀ (H1 : Heap), wHeap D base tv s (h ++ [(t, List.replicate n.toNatClampNeg dv)]) H1 → va_S (wA base) s.heap H1 locs → W p l e R s m args below meth c H1 locs (cells + 1) (slots + n.toNatClampNeg) Q (F0 m (pc + 2) ls (.ref (base + h.length) :: rest))) : W p l e R s m args below meth c H locs cells slots Q (F0 m pc ls (.int n :: rest)) := by
  have hts := Cx.2.2.2.2.1
  have key : ∀ ty, newarray.typeOf at' = ty → (Cond.arrayClass ty) ∈ gw → pTy t = ty → defaultValue ty = tv dv → tv dv = dv → (ty = .int ∨ ty = .byte ∨ ty = .boolean ∨ ty = .long) → W p l e R s m args below meth c H locs cells slots Q (F0 m pc ls (.int n :: rest)) := by
    intro ty hty hw hpt hdv hdd hk4
    subst hty
    have hb4 : n.toNatClampNeg * componentBytes (newarray.typeOf at') ≤ 536870912 := by
      have : componentBytes (newarray.typeOf at') ≤ 8 := by rcases hk4 with q | q | q | q <;> rw [q] <;> decide
      exact Nat.le_trans (Nat.mul_le_mul (Nat.le_of_lt hn2) this) (by omega)
    refine va_newaK Cx.1 Cx.2.1 (hts _ hw) (g := F0 m pc ls (.int n :: rest)) rfl hd rfl hn rfl hb4 hc hs rfl fun H1 cA e1 z1 o1 hAr hNm => ?_
    rw [hH.1]
    refine kk H1 (hH.push hl z1 o1 (Or.inr ⟨ht, cA, ?_, by rw [hpt]; exact hAr, ?_⟩)) (w_pushS hS z1 o1)
    · rw [e1]
      congr 1
      simp only [List.length_replicate]
      refine arrV_ext fun j hj => ?_
      rw [hdv]
      simp [hj]
    · show va_RA s cA (pTy t)
      rw [hpt]
      rcases hk4 with q | q | q | q <;> rw [q] at hNm ⊢ <;> exact hNm
  cases at' <;> simp only [pArrT, Prod.mk.injEq] at hat <;> obtain ⟨rfl, rfl⟩ := hat <;> subst htv
  case int => exact key .int rfl w_arr_int rfl rfl rfl (Or.inl rfl)
  case byte => exact key .byte rfl w_arr_byte rfl rfl rfl (Or.inr (Or.inl rfl))
  case boolean => exact key .boolean rfl w_arr_boolean rfl rfl rfl (Or.inr (Or.inr (Or.inl rfl)))
  case long => exact key .long rfl w_arr_long rfl rfl rfl (Or.inr (Or.inr (Or.inr rfl)))
  all_goals exact absurd ht (by omega)
theorem w_newq {index : Nat} {n : Int32} (Cx : cxOK D base roA w0 X k p s m args meth c) (hq : (pOwn k, index) ∈ pAcl) (htv : tv = pTv base roA w0) (hH : wHeap D base tv s h H) (hS : va_S (wA base) s.heap H locs) (hn : ¬ n < 0) (hn2 : n.toNatClampNeg < 100000) (hl : h.length < 99999) (hc : cells + 1 ≤ R.cells) (hs : slots + n.toNatClampNeg ≤ R.slots) (hd : decode (pBytes k) pc = .ok (.anewarray index, 3))
    (kk : ∀ (H1 : Heap), wHeap D base tv s (h ++ [(104, List.replicate n.toNatClampNeg .null)]) H1 → va_S (wA base) s.heap H1 locs → W p l e R s m args below meth c H1 locs (cells + 1) (slots + n.toNatClampNeg) Q (F0 m (pc + 3) ls (.ref (base + h.length) :: rest))) : W p l e R s m args below meth c H locs cells slots Q (F0 m pc ls (.int n :: rest)) := by
  obtain ⟨hx, hb, hml, hown, hts, hF, hbs, hin⟩ := Cx
  refine W.anew hx hb hown (hts _ (acl_ok _ hq)) (va_AO.use hF.2.1) rfl hd rfl hn (by omega) hc hs fun cA kA comp f1 f2 f3 f4 => ?_
  generalize hH1 : H.push ({ cls := cA, slots := Array.replicate n.toNatClampNeg .null, vm := .none } : Cell) = H1
  have z1 : H1.size = H.size + 1 := by rw [← hH1, Array.size_push]
  have e1 : H1[H.size]? = some (arrV cA n.toNatClampNeg (fun _ => .null)) := by rw [← hH1, Array.getElem?_push_size, ← arrV_new]
  have o1 : ∀ q : Nat, q < H.size → H1[q]? = H[q]? := fun q hq => by rw [← hH1, Array.getElem?_push, if_neg (Nat.ne_of_lt hq)]
  have hAr : ArrOfT s cA (.object "DreamDuty$State") := fun N z => ⟨(fun k h => by cases h), kA, f2, comp, f3⟩
  rw [hH.1]
  refine kk H1 (hH.push hl z1 o1 (Or.inr ⟨by show 100 ≤ 104; omega, cA, ?_, hAr, kA, comp, f2, f3, f4, f1⟩)) (w_pushS hS z1 o1)
  rw [e1]
  congr 1
  simp only [List.length_replicate]
  refine arrV_ext fun j hj => ?_
  subst htv
  simp [hj, pTv]
theorem w_new {index ci : Nat} (Cx : cxOK D base roA w0 X k p s m args meth c) (hq : (pOwn k, index, ci) ∈ pCls) (htv : tv = pTv base roA w0) (hH : wHeap D base tv s h H) (hS : va_S (wA base) s.heap H locs) (hl : h.length < 99999) (hc : cells + 1 ≤ R.cells) (hs : slots + (pDefs.getD ci []).length ≤ R.slots) (hd : decode (pBytes k) pc = .ok (.new index, 3))
    (kk : ∀ (H1 : Heap), wHeap D base tv s (h ++ [(ci, pDefs.getD ci [])]) H1 → va_S (wA base) s.heap H1 locs → W p l e R s m args below meth c H1 locs (cells + 1) (slots + (pDefs.getD ci []).length) Q (F0 m (pc + 3) ls (.ref (base + h.length) :: rest))) : W p l e R s m args below meth c H locs cells slots Q (F0 m pc ls rest) := by
  obtain ⟨hx, hb, hml, hown, hts, hF, hbs, hin⟩ := Cx
  obtain ⟨f1, f2, f3, f4⟩ := cls_ok _ hq
  have f4 : ci < 13 := f4
  have hcl := vwCl_get f4
  have hKn := hF.2.2.1.1 ci _ hcl
  obtain ⟨d1, d2⟩ := defs_all f4
  rw [d1] at hs kk
  refine W.newcK hx hb hown (hts _ f1) (hts _ f2) (hts _ f3) (g := F0 m pc ls rest) rfl hd hc hs hKn.2.1 rfl fun H1 kC hkC e1 z1 o1 => ?_
  rw [hH.1]
  refine kk H1 (hH.push hl z1 o1 (Or.inl ⟨f4, d1.symm, ?_⟩)) (w_pushS hS z1 o1)
  refine (u_born (pTyF ci) hts (lays_all f4) hKn hkC e1 (tys_all f4)).to fun j hj => ?_
  rw [d2 j hj]
  subst htv
  have := def_plain ci base roA w0
  rw [List.getD_eq_getElem?_getD]
  cases hg : (pDefs.getD ci [])[j]? with
  | none => rfl
  | some v => exact (this v (List.mem_of_getElem? hg)).symm
end
end
section
theorem wLoc.get {tv : Value → Value} {ls : Array Slot} {L : List Value} {i : Nat} {v : Value} (h : wLoc tv ls L) (e : pNth L i = v) (hv : pHid v = false) : ls[i]? = some (.val (tv v)) := by
  have := h.2.2 i (by rw [e]; exact hv)
  rwa [e] at this
theorem hcat {tv : Value → Value} {base : Nat} {roA : Nat → Nat} {w0 : Value} (htv : tv = pTv base roA w0) (hw : w0 = .null ∨ ∃ a, w0 = .ref a) : ∀ v, (tv v).category = pCatV v := by subst htv; exact pTv_cat hw
theorem pAd_lt {base : Nat} {roA : Nat → Nat} {o : Nat} (h : o < 100000) : pAd base roA o = base + o := by
  unfold pAd
  rw [show Nat.blt o 100000 = true from by rw [Nat.blt_eq]; exact h]
  rfl
theorem pAd_ge {base : Nat} {roA : Nat → Nat} {o : Nat} (h : 100000 ≤ o) : pAd base roA o = roA (o - 100000) := by
  unfold pAd
  rw [show Nat.blt o 100000 = false from by rw [Bool.eq_false_iff]; intro q; rw [Nat.blt_eq] at q; omega]
  rfl
theorem pAd_by {base : Nat} {roA : Nat → Nat} (i : Nat) : pAd base roA (100008 + i) = roA (8 + i) := by
  rw [pAd_ge (Nat.le_trans (by decide) (Nat.le_add_right 100008 i))]
  exact congrArg roA (by rw [Nat.add_comm, Nat.add_comm 8]; exact Nat.add_sub_assoc (by decide) i)
theorem pAd_st {base : Nat} {roA : Nat → Nat} {r : Nat} (h : 100001 ≤ r) : pAd base roA r = roA (1 + (r - 100001)) := by
  rw [pAd_ge (by omega)]
  exact congrArg roA (by omega)
theorem pCellAt_lt {X : pG} {h : pHeap} {o : Nat} (ho : o < 100000) : pCellAt X h o = h[o]? := by
  unfold pCellAt
  rw [show Nat.blt o 100000 = true from by rw [Nat.blt_eq]; exact ho]
  rfl
theorem pCellAt_ge {X : pG} {h : pHeap} {o : Nat} (ho : 100000 ≤ o) : pCellAt X h o = X (o - 100000) := by
  unfold pCellAt
  rw [show Nat.blt o 100000 = false from by rw [Bool.eq_false_iff]; intro q; rw [Nat.blt_eq] at q; omega]
  rfl
theorem pGet_some {X : pG} {h : pHeap} {o c k : Nat} {v : Value} (H : pGet X h o c k = some v) : ∃ fs, pCellAt X h o = some (c, fs) ∧ c < 100 ∧ fs[k]? = some v := by
  obtain ⟨q, h1, h2⟩ := Option.bind_eq_some_iff.mp H
  rw [pm_cond_some, Bool.and_eq_true, Nat.blt_eq] at h2
  exact ⟨q.2, by rw [h1, ← Nat.eq_of_beq_eq_true h2.1.1], h2.1.2, h2.2⟩
theorem pGetI_get {X : pG} {h : pHeap} {o c k : Nat} {x : Int32} (H : pGetI X h o c k = some x) : pGet X h o c k = some (.int x) := by
  obtain ⟨v, h1, h2⟩ := Option.bind_eq_some_iff.mp H
  split at h2
  · cases h2; exact h1
  · cases h2
theorem pGetJ_get {X : pG} {h : pHeap} {o c k : Nat} {x : Int64} (H : pGetJ X h o c k = some x) : pGet X h o c k = some (.long x) := by
  obtain ⟨v, h1, h2⟩ := Option.bind_eq_some_iff.mp H
  split at h2
  · cases h2; exact h1
  · cases h2
theorem pGetR_get {X : pG} {h : pHeap} {o c k : Nat} {x : Nat} (H : pGetR X h o c k = some x) : pGet X h o c k = some (.ref x) := by
  obtain ⟨v, h1, h2⟩ := Option.bind_eq_some_iff.mp H
  split at h2
  · cases h2; exact h1
  · cases h2
theorem pAld_some {X : pG} {h : pHeap} {o t : Nat} {i : Int32} {v : Value} (H : pAld X h o t i = some v) : ∃ vs, pCellAt X h o = some (t, vs) ∧ 100 ≤ t ∧ vp_in i vs.length ∧ vs.getD i.toNatClampNeg .null = v := by
  obtain ⟨q, h1, h2⟩ := Option.bind_eq_some_iff.mp H
  rw [pm_cond_some, Bool.and_eq_true, Bool.and_eq_true] at h2
  exact ⟨q.2, by rw [h1, ← Nat.eq_of_beq_eq_true h2.1.1], Nat.le_of_ble_eq_true h2.1.2.1, pIn_iff.mp h2.1.2.2, by rw [List.getD_eq_getElem?_getD, h2.2]; rfl⟩
theorem pAldI_get {X : pG} {h : pHeap} {o t : Nat} {i x : Int32} (H : pAldI X h o t i = some x) : pAld X h o t i = some (.int x) := by
  obtain ⟨v, h1, h2⟩ := Option.bind_eq_some_iff.mp H
  split at h2
  · cases h2; exact h1
  · cases h2
theorem pAldJ_get {X : pG} {h : pHeap} {o t : Nat} {i : Int32} {x : Int64} (H : pAldJ X h o t i = some x) : pAld X h o t i = some (.long x) := by
  obtain ⟨v, h1, h2⟩ := Option.bind_eq_some_iff.mp H
  split at h2
  · cases h2; exact h1
  · cases h2
theorem pAldR_get {X : pG} {h : pHeap} {o t : Nat} {i : Int32} {x : Nat} (H : pAldR X h o t i = some x) : pAld X h o t i = some (.ref x) := by
  obtain ⟨v, h1, h2⟩ := Option.bind_eq_some_iff.mp H
  split at h2
  · cases h2; exact h1
  · cases h2
theorem pPut_some {h h' : pHeap} {o c k : Nat} {v : Value} (H : pPut h o c k v = some h') : ∃ fs, h[o]? = some (c, fs) ∧ k < fs.length ∧ o < 100000 ∧ h' = h.set o (c, fs.set k v) := by
  obtain ⟨q, h1, h2⟩ := Option.bind_eq_some_iff.mp H
  rw [pm_cond_some] at h2
  simp only [Bool.and_eq_true, Nat.blt_eq] at h2
  obtain ⟨⟨a1, a2, a3, a4⟩, a5⟩ := h2
  have a1 := Nat.eq_of_beq_eq_true a1
  cases a5
  exact ⟨q.2, by rw [h1, ← a1], a3, a4, by rw [a1]⟩
theorem pAst_some {h h' : pHeap} {o t : Nat} {i : Int32} {v : Value} (H : pAst h o t i v = some h') : ∃ vs, h[o]? = some (t, vs) ∧ pIn i vs.length = true ∧ o < 100000 ∧ h' = h.set o (t, vs.set i.toNatClampNeg v) := by
  obtain ⟨q, h1, h2⟩ := Option.bind_eq_some_iff.mp H
  rw [pm_cond_some] at h2
  simp only [Bool.and_eq_true, Nat.blt_eq] at h2
  obtain ⟨⟨a1, a2, a3, a4⟩, a5⟩ := h2
  have a1 := Nat.eq_of_beq_eq_true a1
  cases a5
  exact ⟨q.2, by rw [h1, ← a1], a3, a4, by rw [a1]⟩
theorem pSlots_push (h : pHeap) (q : pCell) : pSlots (h ++ [q]) = pSlots h + q.2.length := by simp [pSlots]
theorem pSlots_set : ∀ {h : pHeap} {o : Nat} {q0 q : pCell}, h[o]? = some q0 → q.2.length = q0.2.length → pSlots (h.set o q) = pSlots h
  | [], o, q0, q, h, _ => by cases h
  | a :: h, 0, q0, q, e, e2 => by
    cases e
    simp [pSlots, e2]
  | a :: h, o + 1, q0, q, e, e2 => by
    have := pSlots_set (h := h) (o := o) (q := q) (by simpa using e) e2
    simp only [pSlots, List.set_cons_succ, List.map_cons, List.sum_cons] at this ⊢
    rw [this]
theorem pRO_form {X : List Int32} {j t : Nat} {vs : List Value} (H : pRO X j = some (t, vs)) : (j = 0 ∧ t = 100 ∧ vs = X.map .int) ∨ (∃ i, i < 7 ∧ j = 1 + i ∧ t = 50 ∧ vs = [.ref (100008 + i), .int 0]) ∨ (∃ i, i < 7 ∧ j = 8 + i ∧ t = 101 ∧ vs = (pByts.getD i []).map .int) := by
  match j, H with
  | 0, H => cases H; exact Or.inl ⟨rfl, rfl, rfl⟩
  | 1, H => cases H; exact Or.inr (Or.inl ⟨0, by omega, rfl, rfl, rfl⟩)
  | 2, H => cases H; exact Or.inr (Or.inl ⟨1, by omega, rfl, rfl, rfl⟩)
  | 3, H => cases H; exact Or.inr (Or.inl ⟨2, by omega, rfl, rfl, rfl⟩)
  | 4, H => cases H; exact Or.inr (Or.inl ⟨3, by omega, rfl, rfl, rfl⟩)
  | 5, H => cases H; exact Or.inr (Or.inl ⟨4, by omega, rfl, rfl, rfl⟩)
  | 6, H => cases H; exact Or.inr (Or.inl ⟨5, by omega, rfl, rfl, rfl⟩)
  | 7, H => cases H; exact Or.inr (Or.inl ⟨6, by omega, rfl, rfl, rfl⟩)
  | 8, H => cases H; exact Or.inr (Or.inr ⟨0, by omega, rfl, rfl, by decide +kernel⟩)
  | 9, H => cases H; exact Or.inr (Or.inr ⟨1, by omega, rfl, rfl, by decide +kernel⟩)
  | 10, H => cases H; exact Or.inr (Or.inr ⟨2, by omega, rfl, rfl, by decide +kernel⟩)
  | 11, H => cases H; exact Or.inr (Or.inr ⟨3, by omega, rfl, rfl, by decide +kernel⟩)
  | 12, H => cases H; exact Or.inr (Or.inr ⟨4, by omega, rfl, rfl, by decide +kernel⟩)
  | 13, H => cases H; exact Or.inr (Or.inr ⟨5, by omega, rfl, rfl, by decide +kernel⟩)
  | 14, H => cases H; exact Or.inr (Or.inr ⟨6, by omega, rfl, rfl, by decide +kernel⟩)
  | n + 15, H => cases H
section
variable {p : Program} {l : Launch} {e : Env} {R : Room} {s : State} {m : MethodId} {args : Array Value} {below : List Frame} {meth : Method} {c : Code} {Q : State → Prop} {H : Heap} {locs : List Loc} {cells slots : Nat}
variable {D : va_G} {base : Nat} {roA : Nat → Nat} {w0 : Value} {X : List Int32} {k pc : Nat} {ls : Array Slot} {rest : List Value} {h : pHeap} {tv : Value → Value} {o : Nat}
theorem w_getX {ci j index : Nat} {v : Value} (Cx : cxOK D base roA w0 X k p s m args meth c) (htv : tv = pTv base roA w0) (hq : (pOwn k, index, ci, j) ∈ pFld ∨ (pOwn k, index, ci, j) ∈ pFldS) (hg : pGet (pRO X) h o ci j = some v) (hH : wHeap D base tv s h H) (hS : va_S (wA base) s.heap H locs) (hd : decode (pBytes k) pc = .ok (.getfield index, 3))
    (kk : W p l e R s m args below meth c H locs cells slots Q (F0 m (pc + 3) ls (tv v :: rest))) : W p l e R s m args below meth c H locs cells slots Q (F0 m pc ls (.ref (pAd base roA o) :: rest)) := by
  obtain ⟨fs, g1, g2, g3⟩ := pGet_some hg
  rcases Nat.lt_or_ge o 100000 with ho | ho
  · rw [pCellAt_lt ho] at g1
    rw [pAd_lt ho]
    rcases hq with hq | hq
    · exact w_get Cx hq hH g1 g3 hd kk
    · have e50 := (fldS_ok _ hq).1
      have e50 : ci = 50 := e50
      rcases hH.2.2 o _ g1 with ⟨c1, -⟩ | ⟨c1, -⟩
      · exact absurd (show ci < 13 from c1) (by omega)
      · exact absurd (show 100 ≤ ci from c1) (show ¬ (100 ≤ ci) by omega)
  · rw [pCellAt_ge ho] at g1
    rw [pAd_ge ho]
    obtain ⟨hx, hb, hml, hown, hts, hF, hbs, hin⟩ := Cx
    rcases pRO_form g1 with ⟨-, e2, -⟩ | ⟨i, hi, e1, e2, e3⟩ | ⟨i, -, -, e2, -⟩
    · omega
    · rcases hq with hq | hq
      · have := (fld_ok _ hq).2.1
        exact absurd (show ci < 13 from this) (by omega)
      · obtain ⟨-, hf⟩ := fldS_ok _ hq
        have hE := hF.2.2.2.2.1.1 i hi
        rw [e1]
        subst e3
        rcases hf with ⟨ej, hf⟩ | ⟨ej, hf⟩
        · have ej : j = 0 := ej
          subst ej
          cases g3
          refine vk_getf hx hb hE.2.2.1 hS hown (hts _ hf) (fun _ h => h) hd ?_
          have e4 : tv (.ref (100008 + i)) = .ref (roA (8 + i)) := by
            subst htv
            show Value.ref (pAd base roA _) = _
            rw [pAd_by]
          rw [← e4]
          exact kk
        · have ej : j = 1 := ej
          subst ej
          cases g3
          refine vk_getf hx hb hE.2.1 hS hown (hts _ hf) (fun _ h => h) hd ?_
          subst htv
          exact kk
    · omega
theorem w_ialdX {i : Int32} {v : Value} (Cx : cxOK D base roA w0 X k p s m args meth c) (htv : tv = pTv base roA w0) (hg : pAld (pRO X) h o 100 i = some v) (hH : wHeap D base tv s h H) (hS : va_S (wA base) s.heap H locs) (hd : decode (pBytes k) pc = .ok (.iaload, 1))
    (kk : W p l e R s m args below meth c H locs cells slots Q (F0 m (pc + 1) ls (tv v :: rest))) : W p l e R s m args below meth c H locs cells slots Q (F0 m pc ls (.int i :: .ref (pAd base roA o) :: rest)) := by
  obtain ⟨vs, g1, g2, g3, g4⟩ := pAld_some hg
  rcases Nat.lt_or_ge o 100000 with ho | ho
  · rw [pCellAt_lt ho] at g1
    rw [pAd_lt ho]
    exact w_iald Cx hH g1 g3 hd (by rw [g4]; exact kk)
  · rw [pCellAt_ge ho] at g1
    rw [pAd_ge ho]
    rcases pRO_form g1 with ⟨e1, -, e3⟩ | ⟨i, hi, e1, e2, e3⟩ | ⟨i, -, -, e2, -⟩
    · rw [e1]
      rw [e3] at g3 g4
      have g3 : vp_in i X.length := by simpa using g3
      have hlt : i.toNatClampNeg < X.length := Nat.not_le.mp fun q => g3 (Or.inr q)
      refine va_ti Cx.1 Cx.2.1 Cx.2.2.2.2.2.1.2.2.2.1 hS g3 ?_ hd kk
      rw [← g4]
      subst htv
      simp [hlt, pTv]
    · omega
    · omega
theorem w_baldX {i : Int32} {v : Value} (Cx : cxOK D base roA w0 X k p s m args meth c) (htv : tv = pTv base roA w0) (hg : pAld (pRO X) h o 101 i = some v) (hH : wHeap D base tv s h H) (hS : va_S (wA base) s.heap H locs) (hd : decode (pBytes k) pc = .ok (.baload, 1))
    (kk : W p l e R s m args below meth c H locs cells slots Q (F0 m (pc + 1) ls (tv v :: rest))) : W p l e R s m args below meth c H locs cells slots Q (F0 m pc ls (.int i :: .ref (pAd base roA o) :: rest)) := by
  obtain ⟨vs, g1, g2, g3, g4⟩ := pAld_some hg
  rcases Nat.lt_or_ge o 100000 with ho | ho
  · rw [pCellAt_lt ho] at g1
    rw [pAd_lt ho]
    exact w_bald Cx hH g1 g3 hd (by rw [g4]; exact kk)
  · rw [pCellAt_ge ho] at g1
    rw [pAd_ge ho]
    rcases pRO_form g1 with ⟨e1, e2, -⟩ | ⟨i, hi, e1, e2, e3⟩ | ⟨i7, hi7, e1, e2, e3⟩
    · omega
    · omega
    · rw [e1]
      rw [e3] at g3 g4
      have hE := (Cx.2.2.2.2.2.1.2.2.2.2.1.1 i7 hi7).2.2.2
      have hlen : pLens.getD i7 0 = (pByts.getD i7 []).length := by
        match i7, hi7 with
        | 0, _ => decide +kernel
        | 1, _ => decide +kernel
        | 2, _ => decide +kernel
        | 3, _ => decide +kernel
        | 4, _ => decide +kernel
        | 5, _ => decide +kernel
        | 6, _ => decide +kernel
        | n + 7, h => exact absurd h (by omega)
      have g3 : vp_in i (pLens.getD i7 0) := by rw [hlen]; simpa using g3
      have hlt : i.toNatClampNeg < (pByts.getD i7 []).length := by rw [← hlen]; exact Nat.not_le.mp fun q => g3 (Or.inr q)
      refine va_tb Cx.1 Cx.2.1 hE hS g3 ?_ hd kk
      rw [← g4]
      subst htv
      simp only [List.getD_eq_getElem?_getD] at hlt ⊢
      simp [hlt, pTv]
theorem w_zaldX {i : Int32} {v : Value} (Cx : cxOK D base roA w0 X k p s m args meth c) (htv : tv = pTv base roA w0) (hg : pAld (pRO X) h o 102 i = some v) (hH : wHeap D base tv s h H) (hS : va_S (wA base) s.heap H locs) (hd : decode (pBytes k) pc = .ok (.baload, 1))
    (kk : W p l e R s m args below meth c H locs cells slots Q (F0 m (pc + 1) ls (tv v :: rest))) : W p l e R s m args below meth c H locs cells slots Q (F0 m pc ls (.int i :: .ref (pAd base roA o) :: rest)) := by
  obtain ⟨vs, g1, g2, g3, g4⟩ := pAld_some hg
  rcases Nat.lt_or_ge o 100000 with ho | ho
  · rw [pCellAt_lt ho] at g1
    rw [pAd_lt ho]
    exact w_zald Cx hH g1 g3 hd (by rw [g4]; exact kk)
  · rw [pCellAt_ge ho] at g1
    rcases pRO_form g1 with ⟨e1, e2, -⟩ | ⟨i, hi, e1, e2, e3⟩ | ⟨i7, hi7, e1, e2, e3⟩ <;> omega
theorem w_laldX {i : Int32} {v : Value} (Cx : cxOK D base roA w0 X k p s m args meth c) (htv : tv = pTv base roA w0) (hg : pAld (pRO X) h o 103 i = some v) (hH : wHeap D base tv s h H) (hS : va_S (wA base) s.heap H locs) (hd : decode (pBytes k) pc = .ok (.laload, 1))
    (kk : W p l e R s m args below meth c H locs cells slots Q (F0 m (pc + 1) ls (tv v :: rest))) : W p l e R s m args below meth c H locs cells slots Q (F0 m pc ls (.int i :: .ref (pAd base roA o) :: rest)) := by
  obtain ⟨vs, g1, g2, g3, g4⟩ := pAld_some hg
  rcases Nat.lt_or_ge o 100000 with ho | ho
  · rw [pCellAt_lt ho] at g1
    rw [pAd_lt ho]
    exact w_lald Cx hH g1 g3 hd (by rw [g4]; exact kk)
  · rw [pCellAt_ge ho] at g1
    rcases pRO_form g1 with ⟨e1, e2, -⟩ | ⟨i, hi, e1, e2, e3⟩ | ⟨i7, hi7, e1, e2, e3⟩ <;> omega
theorem w_aaldX {i : Int32} {v : Value} (Cx : cxOK D base roA w0 X k p s m args meth c) (htv : tv = pTv base roA w0) (hg : pAld (pRO X) h o 104 i = some v) (hH : wHeap D base tv s h H) (hS : va_S (wA base) s.heap H locs) (hd : decode (pBytes k) pc = .ok (.aaload, 1))
    (kk : W p l e R s m args below meth c H locs cells slots Q (F0 m (pc + 1) ls (tv v :: rest))) : W p l e R s m args below meth c H locs cells slots Q (F0 m pc ls (.int i :: .ref (pAd base roA o) :: rest)) := by
  obtain ⟨vs, g1, g2, g3, g4⟩ := pAld_some hg
  rcases Nat.lt_or_ge o 100000 with ho | ho
  · rw [pCellAt_lt ho] at g1
    rw [pAd_lt ho]
    exact w_aald Cx hH g1 g3 hd (by rw [g4]; exact kk)
  · rw [pCellAt_ge ho] at g1
    rcases pRO_form g1 with ⟨e1, e2, -⟩ | ⟨i, hi, e1, e2, e3⟩ | ⟨i7, hi7, e1, e2, e3⟩ <;> omega
theorem w_alenX {x : Int32} (Cx : cxOK D base roA w0 X k p s m args meth c) (htv : tv = pTv base roA w0) (hg : pAlen (pRO X) h o = some x) (hH : wHeap D base tv s h H) (hS : va_S (wA base) s.heap H locs) (hd : decode (pBytes k) pc = .ok (.arraylength, 1))
    (kk : W p l e R s m args below meth c H locs cells slots Q (F0 m (pc + 1) ls (.int x :: rest))) : W p l e R s m args below meth c H locs cells slots Q (F0 m pc ls (.ref (pAd base roA o) :: rest)) := by
  obtain ⟨q, g1, g2⟩ := Option.bind_eq_some_iff.mp hg
  rw [pm_cond_some] at g2
  obtain ⟨g2, g3⟩ := g2
  have g2 := Nat.le_of_ble_eq_true g2
  cases g3
  rcases Nat.lt_or_ge o 100000 with ho | ho
  · rw [pCellAt_lt ho] at g1
    rw [pAd_lt ho]
    exact w_alen (t := q.1) (vs := q.2) Cx hH g1 g2 hd kk
  · rw [pCellAt_ge ho] at g1
    rw [pAd_ge ho]
    rcases pRO_form (t := q.1) (vs := q.2) g1 with ⟨e1, e2, e3⟩ | ⟨i, hi, e1, e2, e3⟩ | ⟨i7, hi7, e1, e2, e3⟩
    · rw [e1]
      exact va_tlen Cx.1 Cx.2.1 Cx.2.2.2.2.2.1.2.2.2.1 hS (by rw [e3]; simp) hd kk
    · omega
    · rw [e1]
      have hlen : pLens.getD i7 0 = (pByts.getD i7 []).length := by
        match i7, hi7 with
        | 0, _ => decide +kernel
        | 1, _ => decide +kernel
        | 2, _ => decide +kernel
        | 3, _ => decide +kernel
        | 4, _ => decide +kernel
        | 5, _ => decide +kernel
        | 6, _ => decide +kernel
        | n + 7, h => exact absurd h (by omega)
      exact va_tlen Cx.1 Cx.2.1 (Cx.2.2.2.2.2.1.2.2.2.2.1.1 i7 hi7).2.2.2 hS (by rw [e3, hlen]; simp) hd kk
set_option maxHeartbeats 4000000 in
theorem pmI_sound {en : pE} {L S L' S' : List Value} {h' : pHeap} {n0 s0 : Nat} (Cx : cxOK D base roA w0 X k p s m args meth c) (hw : w0 = .null ∨ ∃ a, w0 = .ref a) (htv : tv = pTv base roA w0) (hdec : decode (pBytes k) pc = .ok (en.1, en.2.1)) (hck : chkE k pc en = true)
    (hm : pmI (pRO X) en L S h (fun L S h => some (L, S, h)) = some (L', S', h')) (hn0 : n0 ≤ h.length) (hs0 : s0 ≤ pSlots h) (hcap : h'.length - n0 ≤ R.cells ∧ pSlots h' - s0 ≤ R.slots) (hLn : L.length = pMaxL k)
    (hL : wLoc tv ls L) (hH : wHeap D base tv s h H) (hS : va_S (wA base) s.heap H locs)
    (kk : ∀ (H1 : Heap) (locs1 : List Loc) (ls1 : Array Slot), wLoc tv ls1 L' → wHeap D base tv s h' H1 → va_S (wA base) s.heap H1 locs1 → W p l e R s m args below meth c H1 locs1 (h'.length - n0) (pSlots h' - s0) Q (F0 m (pc + en.2.1) ls1 (S'.map tv))) :
    W p l e R s m args below meth c H locs (h.length - n0) (pSlots h - s0) Q (F0 m pc ls (S.map tv)) := by
  obtain ⟨hx, hb, hml, hown, hts, hF, hbs, hin⟩ := id Cx
  unfold pmI at hm
  split at hm
  · rename_i n heq
    rw [heq] at hdec
    simp only [chkE, heq, Bool.and_eq_true, decide_eq_true_eq] at hck
    obtain ⟨c1, c2⟩ := hck
    rw [c1] at hdec kk
    cases hm
    rw [c2] at kk
    subst htv
    exact lv_iconst hx hb hdec rfl (kk H locs ls hL hH hS)
  · rename_i n heq
    rw [heq] at hdec
    simp only [chkE, heq, Bool.and_eq_true, decide_eq_true_eq] at hck
    obtain ⟨c1, c2⟩ := hck
    rw [c1] at hdec kk
    cases hm
    rw [c2] at kk
    subst htv
    exact lv_bipush hx hb hdec rfl (kk H locs ls hL hH hS)
  · rename_i n heq
    rw [heq] at hdec
    simp only [chkE, heq, Bool.and_eq_true, decide_eq_true_eq] at hck
    obtain ⟨c1, c2⟩ := hck
    rw [c1] at hdec kk
    cases hm
    rw [c2] at kk
    subst htv
    exact lv_sipush hx hb hdec rfl (kk H locs ls hL hH hS)
  · rename_i n heq
    rw [heq] at hdec
    simp only [chkE, heq, Bool.and_eq_true, decide_eq_true_eq] at hck
    obtain ⟨c1, c2⟩ := hck
    rw [c1] at hdec kk
    cases hm
    rw [c2] at kk
    subst htv
    exact lv_lconst hx hb hdec rfl (kk H locs ls hL hH hS)
  · rename_i n heq
    rw [heq] at hdec
    simp only [chkE, heq, Bool.and_eq_true, decide_eq_true_eq] at hck
    obtain ⟨c1, c2⟩ := hck
    rw [c1] at hdec kk
    cases hm
    split at c2
    · rename_i x hv
      rw [hv] at kk
      subst htv
      exact lv_ldc hx hb hown (hts _ (cst_ok _ (of_decide_eq_true c2))) hdec (kk H locs ls hL hH hS)
    · rename_i r hv
      simp only [Bool.and_eq_true, decide_eq_true_eq] at c2
      rw [hv] at kk
      have hz := hF.2.2.2.2.2.1 _ c2.2
      have e1 : pTv base roA w0 (.ref r) = .ref (roA (1 + (r - 100001))) := by
        show Value.ref (pAd base roA r) = _
        rw [pAd_st c2.1]
      subst htv
      refine va_ldcS hx hb hown hz hdec ?_
      have kk := kk H locs ls hL hH hS
      rw [List.map_cons, e1] at kk
      exact kk
    · cases c2
  · rename_i n heq
    rw [heq] at hdec
    simp only [chkE, heq, Bool.and_eq_true, decide_eq_true_eq] at hck
    obtain ⟨c1, c2⟩ := hck
    rw [c1] at hdec kk
    cases hm
    split at c2
    · rename_i x hv
      rw [hv] at kk
      subst htv
      exact lv_ldcw hx hb hown (hts _ (cst_ok _ (of_decide_eq_true c2))) hdec (kk H locs ls hL hH hS)
    · cases c2
  · rename_i n heq
    rw [heq] at hdec
    simp only [chkE, heq, Bool.and_eq_true, decide_eq_true_eq] at hck
    obtain ⟨c1, c2⟩ := hck
    rw [c1] at hdec kk
    cases hm
    split at c2
    · rename_i x hv
      rw [hv] at kk
      subst htv
      exact lv_ldc2 hx hb hown (hts _ (cstL_ok _ (of_decide_eq_true c2))) hdec (kk H locs ls hL hH hS)
    · cases c2
  · rename_i n heq
    rw [heq] at hdec
    simp only [chkE, heq, Bool.and_eq_true, decide_eq_true_eq] at hck
    obtain ⟨c1, c2⟩ := hck
    rw [c1] at hdec kk
    cases hm
    split at c2
    · rename_i x hv
      simp only [Bool.and_eq_true, decide_eq_true_eq] at c2
      rw [hv, c2.1] at kk
      subst htv
      exact va_gets hx hb hF.2.2.2.2.2.2.1 hS hown (hts _ ((stat_ok _ c2.2).1 rfl)) (fun _ h => h) hdec (kk H locs ls hL hH hS)
    · rename_i b hv
      rw [hv] at kk
      subst htv
      exact va_gets hx hb hF.2.2.2.2.2.2.2.1 hS hown (hts _ ((stat_ok _ (of_decide_eq_true c2)).2 rfl)) (fun _ h => h) hdec (kk H locs ls hL hH hS)
    · cases c2
  · rename_i i heq
    rw [heq] at hdec
    simp only [chkE, heq, Bool.and_eq_true, decide_eq_true_eq] at hck
    rw [hck] at hdec kk
    split at hm
    · rename_i x hv
      cases hm
      have hl := hL.get hv rfl
      subst htv
      exact lv_iload_n hx hb hdec rfl hl (kk H locs ls hL hH hS)
    · cases hm
  · rename_i i heq
    rw [heq] at hdec
    simp only [chkE, heq, Bool.and_eq_true, decide_eq_true_eq] at hck
    rw [hck] at hdec kk
    split at hm
    · rename_i x hv
      cases hm
      have hl := hL.get hv rfl
      subst htv
      exact lv_iload hx hb hdec hl (kk H locs ls hL hH hS)
    · cases hm
  · rename_i i heq
    rw [heq] at hdec
    simp only [chkE, heq, Bool.and_eq_true, decide_eq_true_eq] at hck
    rw [hck] at hdec kk
    split at hm
    · rename_i x hv
      cases hm
      have hl := hL.get hv rfl
      subst htv
      exact lv_lload_n hx hb hdec rfl hl (kk H locs ls hL hH hS)
    · cases hm
  · rename_i i heq
    rw [heq] at hdec
    simp only [chkE, heq, Bool.and_eq_true, decide_eq_true_eq] at hck
    rw [hck] at hdec kk
    split at hm
    · rename_i x hv
      cases hm
      have hl := hL.get hv rfl
      subst htv
      exact lv_lload hx hb hdec hl (kk H locs ls hL hH hS)
    · cases hm
  · rename_i i heq
    rw [heq] at hdec
    simp only [chkE, heq, Bool.and_eq_true, decide_eq_true_eq] at hck
    rw [hck] at hdec kk
    split at hm
    · rename_i x hv
      cases hm
      have hl := hL.get hv rfl
      subst htv
      exact lv_aload_n hx hb hdec rfl hl (kk H locs ls hL hH hS)
    · rename_i x hv
      cases hm
      have hl := hL.get hv rfl
      subst htv
      have kk := kk H locs ls hL hH hS
      rcases hw with rfl | ⟨a, rfl⟩
      · exact lv_aload_nN hx hb hdec rfl hl kk
      · exact lv_aload_n hx hb hdec rfl hl kk
    · cases hm
  · rename_i i heq
    rw [heq] at hdec
    simp only [chkE, heq, Bool.and_eq_true, decide_eq_true_eq] at hck
    rw [hck] at hdec kk
    split at hm
    · rename_i x hv
      cases hm
      have hl := hL.get hv rfl
      subst htv
      exact lv_aload hx hb hdec hl (kk H locs ls hL hH hS)
    · rename_i x hv
      cases hm
      have hl := hL.get hv rfl
      subst htv
      have kk := kk H locs ls hL hH hS
      rcases hw with rfl | ⟨a, rfl⟩
      · exact lv_aloadN hx hb hdec hl kk
      · exact lv_aload hx hb hdec hl kk
    · cases hm
  · rename_i i heq
    rw [heq] at hdec
    simp only [chkE, heq, Bool.and_eq_true, decide_eq_true_eq] at hck
    obtain ⟨c1, c2⟩ := hck
    rw [c1] at hdec kk
    split at hm
    · rename_i x S1
      cases hm
      rw [← hLn] at c2
      have hh := hL.has
      have hst := fun ls1 g => hL.st (ls' := ls1) (v := .int x) (hcat htv hw) c2 g
      subst htv
      exact lv_istore_n hx hb hdec rfl hh c2 rfl (fun ls1 g => kk H locs ls1 (hst ls1 g) hH hS)
    · cases hm
  · rename_i i heq
    rw [heq] at hdec
    simp only [chkE, heq, Bool.and_eq_true, decide_eq_true_eq] at hck
    obtain ⟨c1, c2⟩ := hck
    rw [c1] at hdec kk
    split at hm
    · rename_i x S1
      cases hm
      rw [← hLn] at c2
      have hh := hL.has
      have hst := fun ls1 g => hL.st (ls' := ls1) (v := .int x) (hcat htv hw) c2 g
      subst htv
      exact lv_istore hx hb hdec hh c2 rfl (fun ls1 g => kk H locs ls1 (hst ls1 g) hH hS)
    · cases hm
  · rename_i i heq
    rw [heq] at hdec
    simp only [chkE, heq, Bool.and_eq_true, decide_eq_true_eq] at hck
    obtain ⟨c1, c2⟩ := hck
    rw [c1] at hdec kk
    split at hm
    · rename_i x S1
      cases hm
      rw [← hLn] at c2
      have hh := hL.has
      have hst := fun ls1 g => hL.stJ (ls' := ls1) (v := .long x) (hcat htv hw) c2 g
      subst htv
      exact lv_lstore_n hx hb hdec rfl hh c2 rfl (fun ls1 g => kk H locs ls1 (hst ls1 g) hH hS)
    · cases hm
  · rename_i i heq
    rw [heq] at hdec
    simp only [chkE, heq, Bool.and_eq_true, decide_eq_true_eq] at hck
    obtain ⟨c1, c2⟩ := hck
    rw [c1] at hdec kk
    split at hm
    · rename_i x S1
      cases hm
      rw [← hLn] at c2
      have hh := hL.has
      have hst := fun ls1 g => hL.stJ (ls' := ls1) (v := .long x) (hcat htv hw) c2 g
      subst htv
      exact lv_lstore hx hb hdec hh c2 rfl (fun ls1 g => kk H locs ls1 (hst ls1 g) hH hS)
    · cases hm
  · rename_i i heq
    rw [heq] at hdec
    simp only [chkE, heq, Bool.and_eq_true, decide_eq_true_eq] at hck
    obtain ⟨c1, c2⟩ := hck
    rw [c1] at hdec kk
    split at hm
    · rename_i x S1
      cases hm
      rw [← hLn] at c2
      have hh := hL.has
      have hst := fun ls1 g => hL.st (ls' := ls1) (v := .ref x) (hcat htv hw) c2 g
      subst htv
      exact lv_astore_n hx hb hdec rfl hh c2 rfl (fun ls1 g => kk H locs ls1 (hst ls1 g) hH hS)
    · cases hm
  · rename_i i heq
    rw [heq] at hdec
    simp only [chkE, heq, Bool.and_eq_true, decide_eq_true_eq] at hck
    obtain ⟨c1, c2⟩ := hck
    rw [c1] at hdec kk
    split at hm
    · rename_i x S1
      cases hm
      rw [← hLn] at c2
      have hh := hL.has
      have hst := fun ls1 g => hL.st (ls' := ls1) (v := .ref x) (hcat htv hw) c2 g
      subst htv
      exact lv_astore hx hb hdec hh c2 rfl (fun ls1 g => kk H locs ls1 (hst ls1 g) hH hS)
    · cases hm
  · rename_i i n heq
    rw [heq] at hdec
    simp only [chkE, heq, Bool.and_eq_true, decide_eq_true_eq] at hck
    obtain ⟨c1, c2, c3⟩ := hck
    rw [c1] at hdec kk
    split at hm
    · rename_i x y hv hy
      cases hm
      rw [← hLn] at c2
      have hy2 : y = Int32.ofInt n := by rw [c3] at hy; cases hy; rfl
      have hh := hL.has
      have hst := fun ls1 g => hL.st (ls' := ls1) (v := .int (x + y)) (hcat htv hw) c2 g
      subst htv
      have hmem : (i, Value.int x) ∈ pVis (pTv base roA w0) 0 L := (pVis_mem _ L 0 _).mpr ⟨i, by rw [hv, Nat.zero_add]; rfl, by rw [hv]; rfl⟩
      obtain ⟨k9, hk9⟩ := List.getElem?_of_mem hmem
      exact lv_iinc hx hb hdec hh (k := k9) hk9 (by rw [hy2]) c2 rfl (fun ls1 g => kk H locs ls1 (hst ls1 g) hH hS)
    · cases hm
  · rename_i heq
    rw [heq] at hdec
    simp only [chkE, heq, Bool.and_eq_true, decide_eq_true_eq] at hck
    rw [hck] at hdec kk
    split at hm
    · cases hm
      subst htv
      exact lv_iadd hx hb hdec (kk H locs ls hL hH hS)
    · cases hm
  · rename_i heq
    rw [heq] at hdec
    simp only [chkE, heq, Bool.and_eq_true, decide_eq_true_eq] at hck
    rw [hck] at hdec kk
    split at hm
    · cases hm
      subst htv
      exact lv_isub hx hb hdec (kk H locs ls hL hH hS)
    · cases hm
  · rename_i heq
    rw [heq] at hdec
    simp only [chkE, heq, Bool.and_eq_true, decide_eq_true_eq] at hck
    rw [hck] at hdec kk
    split at hm
    · cases hm
      subst htv
      exact lv_imul hx hb hdec (kk H locs ls hL hH hS)
    · cases hm
  · rename_i heq
    rw [heq] at hdec
    simp only [chkE, heq, Bool.and_eq_true, decide_eq_true_eq] at hck
    rw [hck] at hdec kk
    split at hm
    · cases hm
      subst htv
      exact lv_iand hx hb hdec (kk H locs ls hL hH hS)
    · cases hm
  · rename_i heq
    rw [heq] at hdec
    simp only [chkE, heq, Bool.and_eq_true, decide_eq_true_eq] at hck
    rw [hck] at hdec kk
    split at hm
    · cases hm
      subst htv
      exact lv_ior hx hb hdec (kk H locs ls hL hH hS)
    · cases hm
  · rename_i heq
    rw [heq] at hdec
    simp only [chkE, heq, Bool.and_eq_true, decide_eq_true_eq] at hck
    rw [hck] at hdec kk
    split at hm
    · cases hm
      subst htv
      exact lv_ixor hx hb hdec (kk H locs ls hL hH hS)
    · cases hm
  · rename_i heq
    rw [heq] at hdec
    simp only [chkE, heq, Bool.and_eq_true, decide_eq_true_eq] at hck
    rw [hck] at hdec kk
    split at hm
    · split at hm
      · cases hm
      · rename_i hne
        cases hm
        subst htv
        exact lv_idiv hx hb hdec hne (kk H locs ls hL hH hS)
    · cases hm
  · rename_i heq
    rw [heq] at hdec
    simp only [chkE, heq, Bool.and_eq_true, decide_eq_true_eq] at hck
    rw [hck] at hdec kk
    split at hm
    · split at hm
      · cases hm
      · rename_i hne
        cases hm
        subst htv
        exact lv_irem hx hb hdec hne (kk H locs ls hL hH hS)
    · cases hm
  · rename_i heq
    rw [heq] at hdec
    simp only [chkE, heq, Bool.and_eq_true, decide_eq_true_eq] at hck
    rw [hck] at hdec kk
    split at hm
    · cases hm
      subst htv
      exact lv_ishl hx hb hdec (kk H locs ls hL hH hS)
    · cases hm
  · rename_i heq
    rw [heq] at hdec
    simp only [chkE, heq, Bool.and_eq_true, decide_eq_true_eq] at hck
    rw [hck] at hdec kk
    split at hm
    · cases hm
      subst htv
      exact lv_ishr hx hb hdec (kk H locs ls hL hH hS)
    · cases hm
  · rename_i heq
    rw [heq] at hdec
    simp only [chkE, heq, Bool.and_eq_true, decide_eq_true_eq] at hck
    rw [hck] at hdec kk
    split at hm
    · cases hm
      subst htv
      exact lv_iushr hx hb hdec rfl (kk H locs ls hL hH hS)
    · cases hm
  · rename_i heq
    rw [heq] at hdec
    simp only [chkE, heq, Bool.and_eq_true, decide_eq_true_eq] at hck
    rw [hck] at hdec kk
    split at hm
    · cases hm
      subst htv
      exact lv_ladd hx hb hdec (kk H locs ls hL hH hS)
    · cases hm
  · rename_i heq
    rw [heq] at hdec
    simp only [chkE, heq, Bool.and_eq_true, decide_eq_true_eq] at hck
    rw [hck] at hdec kk
    split at hm
    · cases hm
      subst htv
      exact lv_lmul hx hb hdec (kk H locs ls hL hH hS)
    · cases hm
  · rename_i heq
    rw [heq] at hdec
    simp only [chkE, heq, Bool.and_eq_true, decide_eq_true_eq] at hck
    rw [hck] at hdec kk
    split at hm
    · split at hm
      · cases hm
      · rename_i hne
        cases hm
        subst htv
        exact lv_ldiv hx hb hdec hne (kk H locs ls hL hH hS)
    · cases hm
  · rename_i heq
    rw [heq] at hdec
    simp only [chkE, heq, Bool.and_eq_true, decide_eq_true_eq] at hck
    rw [hck] at hdec kk
    split at hm
    · split at hm
      · cases hm
      · rename_i hne
        cases hm
        subst htv
        exact lv_lrem hx hb hdec hne (kk H locs ls hL hH hS)
    · cases hm
  · rename_i heq
    rw [heq] at hdec
    simp only [chkE, heq, Bool.and_eq_true, decide_eq_true_eq] at hck
    rw [hck] at hdec kk
    split at hm
    · cases hm
      subst htv
      exact W.lcmp hx hb hdec (kk H locs ls hL hH hS)
    · cases hm
  · rename_i heq
    rw [heq] at hdec
    simp only [chkE, heq, Bool.and_eq_true, decide_eq_true_eq] at hck
    rw [hck] at hdec kk
    split at hm
    · cases hm
      subst htv
      exact lv_i2l hx hb hdec rfl (kk H locs ls hL hH hS)
    · cases hm
  · rename_i heq
    rw [heq] at hdec
    simp only [chkE, heq, Bool.and_eq_true, decide_eq_true_eq] at hck
    rw [hck] at hdec kk
    split at hm
    · cases hm
      subst htv
      exact lv_l2i hx hb hdec rfl (kk H locs ls hL hH hS)
    · cases hm
  · rename_i heq
    rw [heq] at hdec
    simp only [chkE, heq, Bool.and_eq_true, decide_eq_true_eq] at hck
    rw [hck] at hdec kk
    split at hm
    · cases hm
      subst htv
      exact lv_i2b hx hb hdec rfl (kk H locs ls hL hH hS)
    · cases hm
  · rename_i heq
    rw [heq] at hdec
    simp only [chkE, heq, Bool.and_eq_true, decide_eq_true_eq] at hck
    rw [hck] at hdec kk
    split at hm
    · cases hm
      subst htv
      exact lv_i2c hx hb hdec rfl (kk H locs ls hL hH hS)
    · cases hm
  · rename_i heq
    rw [heq] at hdec
    simp only [chkE, heq, Bool.and_eq_true, decide_eq_true_eq] at hck
    rw [hck] at hdec kk
    split at hm
    · cases hm
      subst htv
      exact lv_dup hx hb hdec rfl (kk H locs ls hL hH hS)
    · cases hm
      subst htv
      exact lv_dup hx hb hdec rfl (kk H locs ls hL hH hS)
    · cases hm
  · rename_i heq
    rw [heq] at hdec
    simp only [chkE, heq, Bool.and_eq_true, decide_eq_true_eq] at hck
    rw [hck] at hdec kk
    split at hm
    · cases hm
      subst htv
      exact lv_dup2_11 hx hb hdec rfl rfl (kk H locs ls hL hH hS)
    · cases hm
  · rename_i heq
    rw [heq] at hdec
    simp only [chkE, heq, Bool.and_eq_true, decide_eq_true_eq] at hck
    rw [hck] at hdec kk
    split at hm
    · cases hm
      subst htv
      exact lv_pop hx hb hdec rfl (kk H locs ls hL hH hS)
    · cases hm
      subst htv
      exact lv_pop hx hb hdec rfl (kk H locs ls hL hH hS)
    · cases hm
  · rename_i n heq
    rw [heq] at hdec
    simp only [chkE, heq, Bool.and_eq_true, Bool.or_eq_true, decide_eq_true_eq] at hck
    obtain ⟨c1, c2⟩ := hck
    rw [c1] at hdec kk
    split at hm
    · obtain ⟨x, hg, hr⟩ := Option.bind_eq_some_iff.mp hm
      cases hr
      have kk := kk H locs ls hL hH hS
      subst htv
      exact w_getX Cx rfl c2 (pGetI_get hg) hH hS hdec kk
    · obtain ⟨x, hg, hr⟩ := Option.bind_eq_some_iff.mp hm
      cases hr
      have kk := kk H locs ls hL hH hS
      subst htv
      exact w_getX Cx rfl c2 (pGetI_get hg) hH hS hdec kk
    · obtain ⟨x, hg, hr⟩ := Option.bind_eq_some_iff.mp hm
      cases hr
      have kk := kk H locs ls hL hH hS
      subst htv
      exact w_getX Cx rfl c2 (pGetJ_get hg) hH hS hdec kk
    · obtain ⟨x, hg, hr⟩ := Option.bind_eq_some_iff.mp hm
      cases hr
      have kk := kk H locs ls hL hH hS
      subst htv
      exact w_getX Cx rfl c2 (pGetR_get hg) hH hS hdec kk
    · cases hm
  · rename_i n heq
    rw [heq] at hdec
    simp only [chkE, heq, Bool.and_eq_true, decide_eq_true_eq] at hck
    obtain ⟨c1, c2, c3, c4⟩ := hck
    rw [c1] at hdec kk
    split at hm
    · rename_i v o S1
      rw [pm_cond_some] at hm
      obtain ⟨hok, hm⟩ := hm
      obtain ⟨h1, hp, hr⟩ := Option.bind_eq_some_iff.mp hm
      cases hr
      obtain ⟨fs, g1, g2, g3, rfl⟩ := pPut_some hp
      have e1 := pSlots_set g1 (q := (en.2.2.1, fs.set en.2.2.2.1 v)) (by simp)
      subst htv
      rw [List.map_cons, List.map_cons, show pTv base roA w0 (.ref o) = .ref (base + o) from by show Value.ref (pAd base roA o) = _; rw [pAd_lt g3]]
      refine w_put Cx c2 c3 hok (fun hf => ?_) rfl hH g1 g2 hS hdec fun H1 locs1 a1 a2 => ?_
      · rw [hf] at c4
        simpa using c4
      · have kk := kk H1 locs1 ls hL a1 a2
        rw [List.length_set, e1] at kk
        exact kk
    · cases hm
  · rename_i heq
    rw [heq] at hdec
    simp only [chkE, heq, Bool.and_eq_true, decide_eq_true_eq] at hck
    rw [hck] at hdec kk
    split at hm
    · rename_i i o S1
      obtain ⟨x, hg, hr⟩ := Option.bind_eq_some_iff.mp hm
      cases hr
      have kk := kk H locs ls hL hH hS
      subst htv
      exact w_ialdX Cx rfl (pAldI_get hg) hH hS hdec kk
    · cases hm
  · rename_i heq
    rw [heq] at hdec
    simp only [chkE, heq, Bool.and_eq_true, Bool.or_eq_true, decide_eq_true_eq] at hck
    obtain ⟨c1, c2⟩ := hck
    rw [c1] at hdec kk
    split at hm
    · rename_i i o S1
      obtain ⟨x, hg, hr⟩ := Option.bind_eq_some_iff.mp hm
      cases hr
      have kk := kk H locs ls hL hH hS
      subst htv
      rcases c2 with c2 | c2
      · rw [c2] at hg
        exact w_baldX Cx rfl (pAldI_get hg) hH hS hdec kk
      · rw [c2] at hg
        exact w_zaldX Cx rfl (pAldI_get hg) hH hS hdec kk
    · cases hm
  · rename_i heq
    rw [heq] at hdec
    simp only [chkE, heq, Bool.and_eq_true, decide_eq_true_eq] at hck
    rw [hck] at hdec kk
    split at hm
    · rename_i i o S1
      obtain ⟨x, hg, hr⟩ := Option.bind_eq_some_iff.mp hm
      cases hr
      have kk := kk H locs ls hL hH hS
      subst htv
      exact w_laldX Cx rfl (pAldJ_get hg) hH hS hdec kk
    · cases hm
  · rename_i heq
    rw [heq] at hdec
    simp only [chkE, heq, Bool.and_eq_true, decide_eq_true_eq] at hck
    rw [hck] at hdec kk
    split at hm
    · rename_i i o S1
      obtain ⟨x, hg, hr⟩ := Option.bind_eq_some_iff.mp hm
      cases hr
      have kk := kk H locs ls hL hH hS
      subst htv
      exact w_aaldX Cx rfl (pAldR_get hg) hH hS hdec kk
    · cases hm
  · rename_i heq
    rw [heq] at hdec
    simp only [chkE, heq, Bool.and_eq_true, decide_eq_true_eq] at hck
    rw [hck] at hdec kk
    split at hm
    · rename_i x i o S1
      obtain ⟨h1, hp, hr⟩ := Option.bind_eq_some_iff.mp hm
      cases hr
      obtain ⟨vs, g1, g2, g3, rfl⟩ := pAst_some hp
      have e1 := pSlots_set g1 (q := (100, vs.set i.toNatClampNeg (.int x))) (by simp)
      subst htv
      rw [List.map_cons, List.map_cons, List.map_cons, show pTv base roA w0 (.ref o) = .ref (base + o) from by show Value.ref (pAd base roA o) = _; rw [pAd_lt g3]]
      refine w_iast Cx rfl hH g1 (pIn_iff.mp g2) hS hdec fun H1 locs1 a1 a2 => ?_
      have kk := kk H1 locs1 ls hL a1 a2
      rw [List.length_set, e1] at kk
      exact kk
    · cases hm
  · rename_i heq
    rw [heq] at hdec
    simp only [chkE, heq, Bool.and_eq_true, Bool.or_eq_true, decide_eq_true_eq] at hck
    obtain ⟨c1, c2⟩ := hck
    rw [c1] at hdec kk
    split at hm
    · rename_i x i o S1
      obtain ⟨h1, hp, hr⟩ := Option.bind_eq_some_iff.mp hm
      cases hr
      obtain ⟨vs, g1, g2, g3, rfl⟩ := pAst_some hp
      have e1 := pSlots_set g1 (q := (en.2.2.1, vs.set i.toNatClampNeg (.int (bif Nat.beq en.2.2.1 101 then x.toInt8.toInt32 else x &&& 1)))) (by simp)
      subst htv
      rw [List.map_cons, List.map_cons, List.map_cons, show pTv base roA w0 (.ref o) = .ref (base + o) from by show Value.ref (pAd base roA o) = _; rw [pAd_lt g3]]
      rcases c2 with c2 | c2
      · rw [c2] at g1 kk e1
        refine w_bast Cx rfl hH g1 (pIn_iff.mp g2) hS hdec fun H1 locs1 a1 a2 => ?_
        have kk := kk H1 locs1 ls hL a1 a2
        rw [List.length_set, e1] at kk
        exact kk
      · rw [c2] at g1 kk e1
        refine w_zast Cx rfl hH g1 (pIn_iff.mp g2) hS hdec fun H1 locs1 a1 a2 => ?_
        have kk := kk H1 locs1 ls hL a1 a2
        rw [List.length_set, e1] at kk
        exact kk
    · cases hm
  · rename_i heq
    rw [heq] at hdec
    simp only [chkE, heq, Bool.and_eq_true, decide_eq_true_eq] at hck
    rw [hck] at hdec kk
    split at hm
    · rename_i x i o S1
      obtain ⟨h1, hp, hr⟩ := Option.bind_eq_some_iff.mp hm
      cases hr
      obtain ⟨vs, g1, g2, g3, rfl⟩ := pAst_some hp
      have e1 := pSlots_set g1 (q := (103, vs.set i.toNatClampNeg (.long x))) (by simp)
      subst htv
      rw [List.map_cons, List.map_cons, List.map_cons, show pTv base roA w0 (.ref o) = .ref (base + o) from by show Value.ref (pAd base roA o) = _; rw [pAd_lt g3]]
      refine w_last Cx rfl hH g1 (pIn_iff.mp g2) hS hdec fun H1 locs1 a1 a2 => ?_
      have kk := kk H1 locs1 ls hL a1 a2
      rw [List.length_set, e1] at kk
      exact kk
    · cases hm
  · rename_i heq
    rw [heq] at hdec
    simp only [chkE, heq, Bool.and_eq_true, decide_eq_true_eq] at hck
    rw [hck] at hdec kk
    split at hm
    · rename_i x i o S1
      obtain ⟨h1, hp, hr⟩ := Option.bind_eq_some_iff.mp hm
      rw [pm_cond_some] at hr
      obtain ⟨hr0, hr⟩ := hr
      cases hr
      obtain ⟨vs, g1, g2, g3, rfl⟩ := pAst_some hp
      have e1 := pSlots_set g1 (q := (104, vs.set i.toNatClampNeg (.ref x))) (by simp)
      rw [Bool.and_eq_true, Nat.blt_eq] at hr0
      obtain ⟨hr1, hxl⟩ := hr0
      have hcx : ∃ fs, h[x]? = some (7, fs) := by
        rw [pCellAt_lt hxl] at hr1
        cases hc : h[x]? with
        | none => rw [hc] at hr1; cases hr1
        | some q =>
          rw [hc] at hr1
          have h7 : Nat.beq q.1 7 = true := hr1
          exact ⟨q.2, by rw [← Nat.eq_of_beq_eq_true h7]⟩
      obtain ⟨fs, hcx⟩ := hcx
      subst htv
      rw [List.map_cons, List.map_cons, List.map_cons, show pTv base roA w0 (.ref o) = .ref (base + o) from by show Value.ref (pAd base roA o) = _; rw [pAd_lt g3], show pTv base roA w0 (.ref x) = .ref (base + x) from by show Value.ref (pAd base roA x) = _; rw [pAd_lt hxl]]
      refine w_aast Cx rfl hH g1 hcx hxl (pIn_iff.mp g2) hS hdec fun H1 locs1 a1 a2 => ?_
      have kk := kk H1 locs1 ls hL a1 a2
      rw [List.length_set, e1] at kk
      exact kk
    · cases hm
  · rename_i heq
    rw [heq] at hdec
    simp only [chkE, heq, Bool.and_eq_true, decide_eq_true_eq] at hck
    rw [hck] at hdec kk
    split at hm
    · rename_i o S1
      obtain ⟨x, hg, hr⟩ := Option.bind_eq_some_iff.mp hm
      cases hr
      have kk := kk H locs ls hL hH hS
      subst htv
      exact w_alenX Cx rfl hg hH hS hdec kk
    · cases hm
  · rename_i t heq
    rw [heq] at hdec
    simp only [chkE, heq, Bool.and_eq_true, decide_eq_true_eq] at hck
    obtain ⟨c1, c2, c3, c4⟩ := hck
    rw [c1] at hdec kk
    split at hm
    · rename_i n S1
      rw [pm_cond_some] at hm
      obtain ⟨hg, hm⟩ := hm
      cases hm
      simp only [Bool.and_eq_true, Bool.not_eq_true', decide_eq_false_iff_not, Nat.blt_eq] at hg
      obtain ⟨g1, g2, g3⟩ := hg
      simp only [List.length_append, List.length_singleton, pSlots_push, List.length_replicate] at hcap
      subst htv
      rw [List.map_cons]
      refine w_newa (cells := h.length - n0) (slots := pSlots h - s0) (R := R) (at' := t) (t := en.2.2.1) (dv := en.2.2.2.2.1) Cx (by rw [c2, c3]) (by rw [c2]; exact c4) rfl hH hS g1 g2 g3 (by omega) (by omega) hdec fun H1 a1 a2 => ?_
      have kk := kk H1 locs ls hL a1 a2
      simp only [List.length_append, List.length_singleton, pSlots_push, List.length_replicate] at kk
      rw [show h.length + 1 - n0 = h.length - n0 + 1 by omega, show pSlots h + n.toNatClampNeg - s0 = pSlots h - s0 + n.toNatClampNeg by omega] at kk
      rw [List.map_cons, show pTv base roA w0 (.ref h.length) = .ref (base + h.length) from by show Value.ref (pAd base roA _) = _; rw [pAd_lt (by omega)]] at kk
      exact kk
    · cases hm
  · rename_i n heq
    rw [heq] at hdec
    simp only [chkE, heq, Bool.and_eq_true, decide_eq_true_eq] at hck
    obtain ⟨c1, c2⟩ := hck
    rw [c1] at hdec kk
    rw [pm_cond_some] at hm
    obtain ⟨g3, hm⟩ := hm
    cases hm
    rw [Nat.blt_eq] at g3
    simp only [List.length_append, List.length_singleton, pSlots_push] at hcap
    refine w_new Cx c2 htv hH hS g3 (by omega) (by omega) hdec fun H1 a1 a2 => ?_
    have kk := kk H1 locs ls hL a1 a2
    simp only [List.length_append, List.length_singleton, pSlots_push] at kk
    rw [show h.length + 1 - n0 = h.length - n0 + 1 by omega, show pSlots h + (pDefs.getD en.2.2.1 []).length - s0 = pSlots h - s0 + (pDefs.getD en.2.2.1 []).length by omega] at kk
    subst htv
    rw [List.map_cons, show pTv base roA w0 (.ref h.length) = .ref (base + h.length) from by show Value.ref (pAd base roA _) = _; rw [pAd_lt (by omega)]] at kk
    exact kk
  · rename_i i heq
    rw [heq] at hdec
    simp only [chkE, heq, Bool.and_eq_true, decide_eq_true_eq] at hck
    obtain ⟨c1, c2⟩ := hck
    rw [c1] at hdec kk
    split at hm
    · rename_i n S1
      rw [pm_cond_some] at hm
      obtain ⟨hg, hm⟩ := hm
      cases hm
      simp only [Bool.and_eq_true, Bool.not_eq_true', decide_eq_false_iff_not, Nat.blt_eq] at hg
      obtain ⟨g1, g2, g3⟩ := hg
      simp only [List.length_append, List.length_singleton, pSlots_push, List.length_replicate] at hcap
      subst htv
      rw [List.map_cons]
      refine w_newq (cells := h.length - n0) (slots := pSlots h - s0) (R := R) Cx c2 rfl hH hS g1 g2 g3 (by omega) (by omega) hdec fun H1 a1 a2 => ?_
      have kk := kk H1 locs ls hL a1 a2
      simp only [List.length_append, List.length_singleton, pSlots_push, List.length_replicate] at kk
      rw [show h.length + 1 - n0 = h.length - n0 + 1 by omega, show pSlots h + n.toNatClampNeg - s0 = pSlots h - s0 + n.toNatClampNeg by omega] at kk
      rw [List.map_cons, show pTv base roA w0 (.ref h.length) = .ref (base + h.length) from by show Value.ref (pAd base roA _) = _; rw [pAd_lt (by omega)]] at kk
      exact kk
    · cases hm
  · cases hm
end
end
section
def pRetV (tv : Value → Value) (k : Nat) (r : Value) : Option Value := bif pVoid k then none else some (tv r)
def wAll (D : va_G) (base : Nat) (roA : Nat → Nat) (w0 : Value) (X : List Int32) (h : pHeap) (U : State) (H : Heap) : Prop := wFix D base roA w0 X U H ∧ wHeap D base (pTv base roA w0) U h H
def pQ (D : va_G) (base : Nat) (roA : Nat → Nat) (w0 : Value) (X : List Int32) (k : Nat) (r : Value) (h' : pHeap) : Array Value → State → Outcome → State → Prop := fun _ st o t => (o = .returned (pRetV (pTv base roA w0) k r) ∧ wAll D base roA w0 X h' t t.heap) ∧ va_F (wA base) st t
def pP (D : va_G) (base : Nat) (roA : Nat → Nat) (w0 : Value) (X : List Int32) (a : List Value) (h : pHeap) : Array Value → State → Prop := va_Pc (a.map (pTv base roA w0)) (fun U => wAll D base roA w0 X h U U.heap)
def pRoom (rk mc ms : Nat) : Room := { frames := rk, cells := mc, slots := ms, locals := 60 * rk }
def pWs (k : Nat) : List Cond := Cond.code (pY k) (pBytes k) (pMaxL k) (pRet k) :: gw
def pMet (l : Launch) (D : va_G) (base : Nat) (roA : Nat → Nat) (w0 : Value) (X : List Int32) (k : Nat) (a : List Value) (h : pHeap) (r : Value) (h' : pHeap) : Prop :=
  Met l (pY k) (pWs k) (pRoom (pRank k a) (h'.length - h.length) (pSlots h' - pSlots h)) (pP D base roA w0 X a h) (pQ D base roA w0 X k r h') (h'.length - h.length) (pSlots h' - pSlots h) (wA base)
theorem gw_good : ∀ w ∈ gw, w ∈ gw ∧ ((w.onTables && w.keeps) = true ∨ ∃ ty, w = .arrayClass ty) := fun w h => ⟨h, good_of_word (List.mem_filter.mp h).2⟩
theorem pWs_good {k : Nat} (h : keyP k) : GoodIn gw (pWs k) := fun w hw => by
  rcases List.mem_cons.mp hw with rfl | hw
  · exact gw_good _ h.1
  · exact gw_good _ hw
theorem maxL_le {k : Nat} (h : k < 285) : pMaxL k ≤ 41 := by
  have : ∀ k, k < 285 → pMaxL k ≤ 41 := by decide +kernel
  exact this k h
theorem rcs_inst {k : Nat} (h : pKind k = 0) (hk : k < 284) : pRcs.getD k 98 ≠ 99 := by
  have : ∀ k, k < 284 → pKind k = 0 → pRcs.getD k 98 ≠ 99 := by decide +kernel
  exact this k hk h
theorem rcs_init {k : Nat} (h : pKind k = 2) (hk : k < 284) : pRcs.getD k 98 ≠ 99 := by
  have : ∀ k, k < 284 → pKind k = 2 → pRcs.getD k 98 ≠ 99 := by decide +kernel
  exact this k hk h
theorem init_void {k : Nat} (h : pKind k = 2) (hk : k < 284) : pRet k = none := by
  have : ∀ k, k < 284 → pKind k = 2 → pRet k = none := by decide +kernel
  exact this k hk h
theorem inits_kind {k : Nat} (h : k ∈ pInits) : pKind k = 2 ∧ k < 284 := by
  have : ∀ k ∈ pInits, pKind k = 2 ∧ k < 284 := by decide +kernel
  exact this k h
theorem nargs_par {k : Nat} (hk : k < 284) : pNargs.getD k 99 = pPar k + (if pKind k = 1 then 0 else 1) := by
  have : ∀ k, k < 284 → pNargs.getD k 99 = pPar k + (if pKind k = 1 then 0 else 1) := by decide +kernel
  exact this k hk
theorem recv_len {X : pG} {k : Nat} {a : List Value} {h : pHeap} (H : pRecv X k a h = true) : a.length = pNargs.getD k 99 ∧ (pArgs a).length ≤ pMaxL k := by
  unfold pRecv at H
  cases hb : (Nat.ble (pArgs a).length (pMaxL k) && Nat.beq a.length (pNargs.getD k 99))
  · rw [hb] at H; cases H
  · rw [Bool.and_eq_true] at hb
    exact ⟨Nat.eq_of_beq_eq_true hb.2, Nat.le_of_ble_eq_true hb.1⟩
theorem mth_key : ∀ q ∈ pMth, q.2.2 = 9996 ∨ q.2.2 = 9995 ∨ q.2.2 = 9994 := by decide +kernel
theorem pSlots_le : ∀ (h : pHeap) (q : pCell), pSlots h ≤ pSlots (h ++ [q]) := fun h q => by rw [pSlots_push]; omega
/-- lengths never shrink -/
theorem pmI_len {X : pG} {en : pE} {L S L' S' : List Value} {h h' : pHeap} (hm : pmI X en L S h (fun L S h => some (L, S, h)) = some (L', S', h')) : L'.length = L.length ∧ h.length ≤ h'.length ∧ pSlots h ≤ pSlots h' := by
  have hput : ∀ {h h1 : pHeap} {o c k : Nat} {v : Value}, pPut h o c k v = some h1 → h.length ≤ h1.length ∧ pSlots h ≤ pSlots h1 := by
    intro h h1 o c k v hp
    obtain ⟨fs, g1, -, -, rfl⟩ := pPut_some hp
    exact ⟨by simp, by rw [pSlots_set g1 (by simp)]; exact Nat.le_refl _⟩
  have hast : ∀ {h h1 : pHeap} {o c : Nat} {k : Int32} {v : Value}, pAst h o c k v = some h1 → h.length ≤ h1.length ∧ pSlots h ≤ pSlots h1 := by
    intro h h1 o c k v hp
    obtain ⟨fs, g1, -, -, rfl⟩ := pAst_some hp
    exact ⟨by simp, by rw [pSlots_set g1 (by simp)]; exact Nat.le_refl _⟩
  unfold pmI at hm
  split at hm <;> (repeat' split at hm) <;> first
    | (cases hm; done)
    | (cases hm; exact ⟨rfl, Nat.le_refl _, Nat.le_refl _⟩)
    | (cases hm; exact ⟨pSet_len _ _ _, Nat.le_refl _, Nat.le_refl _⟩)
    | (cases hm; exact ⟨pSetJ_len _ _ _, Nat.le_refl _, Nat.le_refl _⟩)
    | (obtain ⟨x, hg, hr⟩ := Option.bind_eq_some_iff.mp hm; cases hr; first | exact ⟨rfl, Nat.le_refl _, Nat.le_refl _⟩ | exact ⟨rfl, hast hg⟩)
    | (obtain ⟨x, hg, hr⟩ := Option.bind_eq_some_iff.mp hm; rw [pm_cond_some] at hr; obtain ⟨-, hr⟩ := hr; cases hr; exact ⟨rfl, hast hg⟩)
    | (rw [pm_cond_some] at hm; obtain ⟨-, hm⟩ := hm; obtain ⟨x, hg, hr⟩ := Option.bind_eq_some_iff.mp hm; cases hr; exact ⟨rfl, hput hg⟩)
    | (rw [pm_cond_some] at hm; obtain ⟨-, hm⟩ := hm; cases hm; exact ⟨rfl, by simp, pSlots_le _ _⟩)
theorem pCopy_some {h h' : pHeap} {o1 o2 : Nat} {sp dp n : Int32} (H : pCopy h o1 sp o2 dp n = some h') : ∃ us vs, h[o1]? = some (100, us) ∧ h[o2]? = some (100, vs) ∧ o1 < 100000 ∧ o2 < 100000 ∧ ¬ sp < 0 ∧ ¬ dp < 0 ∧ ¬ n < 0 ∧ sp.toNatClampNeg + n.toNatClampNeg ≤ us.length ∧ dp.toNatClampNeg + n.toNatClampNeg ≤ vs.length ∧ us.all pIsI = true ∧ vs.all pIsI = true ∧
    h' = h.set o2 (100, (List.range vs.length).map (fun j => if dp.toNatClampNeg ≤ j ∧ j < dp.toNatClampNeg + n.toNatClampNeg then us.getD (sp.toNatClampNeg + (j - dp.toNatClampNeg)) .null else vs.getD j .null)) := by
  obtain ⟨p, h1, H⟩ := Option.bind_eq_some_iff.mp H
  obtain ⟨q, h2, H⟩ := Option.bind_eq_some_iff.mp H
  rw [pm_cond_some] at H
  simp only [Bool.and_eq_true, Nat.blt_eq, Bool.not_eq_true', decide_eq_false_iff_not] at H
  obtain ⟨⟨a1, a2, a3, a4, a5, a6, a7, a8, a9, a10, a11⟩, a12⟩ := H
  have a1 := Nat.eq_of_beq_eq_true a1
  have a2 := Nat.eq_of_beq_eq_true a2
  cases a12
  exact ⟨p.2, q.2, by rw [h1, ← a1], by rw [h2, ← a2], a3, a4, a5, a6, a7, Nat.le_of_ble_eq_true a8, Nat.le_of_ble_eq_true a9, a10, a11, rfl⟩
theorem pSpK_len {rk key : Nat} {S S' : List Value} {h h' : pHeap} (H : pSpK rk key S h (fun S h => some (S, h)) = some (S', h')) : h.length ≤ h'.length ∧ pSlots h ≤ pSlots h' := by
  unfold pSpK at H
  cases b1 : Nat.beq key 9999 <;> simp only [b1, cond_false, cond_true] at H
  · cases b2 : Nat.beq key 9998 <;> simp only [b2, cond_false, cond_true] at H
    · cases b3 : Nat.beq key 9996 <;> simp only [b3, cond_false, cond_true] at H
      · cases b4 : Nat.beq key 9995 <;> simp only [b4, cond_false, cond_true] at H
        · cases b5 : Nat.beq key 9994 <;> simp only [b5, cond_false, cond_true] at H
          · cases H
          · split at H
            · rw [pm_cond_some] at H; obtain ⟨-, H⟩ := H; cases H; exact ⟨Nat.le_refl _, Nat.le_refl _⟩
            · cases H
        · split at H
          · rw [pm_cond_some] at H; obtain ⟨-, H⟩ := H; cases H; exact ⟨Nat.le_refl _, Nat.le_refl _⟩
          · cases H
      · split at H
        · rw [pm_cond_some] at H; obtain ⟨-, H⟩ := H; cases H; exact ⟨Nat.le_refl _, Nat.le_refl _⟩
        · cases H
    · split at H
      · rw [pm_cond_some] at H
        obtain ⟨-, H⟩ := H
        obtain ⟨x, hg, hr⟩ := Option.bind_eq_some_iff.mp H
        cases hr
        obtain ⟨us, vs, -, g2, -, -, -, -, -, -, -, -, -, rfl⟩ := pCopy_some hg
        exact ⟨by simp, by rw [pSlots_set g2 (by simp)]; exact Nat.le_refl _⟩
      · cases H
  · split at H
    · rw [pm_cond_some] at H; obtain ⟨-, H⟩ := H; cases H; exact ⟨Nat.le_refl _, Nat.le_refl _⟩
    · cases H
/-- a call's answer: what was pushed, by the callee's own type -/
theorem pInv_call {C : Nat → List Value → pHeap → pRes} {rk : Nat} {en : pE} {S S' : List Value} {h h' : pHeap} (hb : Nat.ble 9990 en.2.2.1 = false) (H : pInv pRank C rk en S h (fun S h => some (S, h)) = some (S', h')) :
    pRank en.2.2.1 (pRev (pTake en.2.2.2.1 S) []) < rk ∧ pCat (pDrop en.2.2.2.1 S) ≤ 8 ∧ ∃ r, C en.2.2.1 (pRev (pTake en.2.2.2.1 S) []) h = some (r, h') ∧ ((en.2.2.2.2.1 = .retAddr 0 ∧ S' = pDrop en.2.2.2.1 S) ∨ (en.2.2.2.2.1 ≠ .retAddr 0 ∧ S' = r :: pDrop en.2.2.2.1 S) ∨ (en.2.2.2.2.1 ≠ .retAddr 0 ∧ (∀ x, en.2.2.2.2.1 ≠ .int x) ∧ (∀ x, en.2.2.2.2.1 ≠ .long x) ∧ en.2.2.2.2.1 ≠ .null ∧ S' = pDrop en.2.2.2.1 S)) := by
  unfold pInv at H
  rw [hb] at H
  simp only [cond_false] at H
  rw [pm_cond_some, Bool.and_eq_true, Nat.blt_eq] at H
  obtain ⟨⟨g1, g2⟩, H⟩ := H
  refine ⟨g1, Nat.le_of_ble_eq_true g2, ?_⟩
  split at H
  · rename_i x hv
    simp only [pAI, Option.bind_eq_some_iff] at H
    obtain ⟨q, ⟨w, hw, hq⟩, hr⟩ := H
    split at hq
    · rename_i y hy
      cases hq
      cases hr
      exact ⟨w.1, hw, Or.inr (Or.inl ⟨(by rw [hv]; exact fun h => (by cases h)), by rw [hy]⟩)⟩
    · cases hq
  · rename_i x hv
    simp only [pAJ, Option.bind_eq_some_iff] at H
    obtain ⟨q, ⟨w, hw, hq⟩, hr⟩ := H
    split at hq
    · rename_i y hy
      cases hq
      cases hr
      exact ⟨w.1, hw, Or.inr (Or.inl ⟨(by rw [hv]; exact fun h => (by cases h)), by rw [hy]⟩)⟩
    · cases hq
  · rename_i hv
    simp only [pAR, Option.bind_eq_some_iff] at H
    obtain ⟨q, ⟨w, hw, hq⟩, hr⟩ := H
    split at hq
    · rename_i y hy
      cases hq
      cases hr
      exact ⟨w.1, hw, Or.inr (Or.inl ⟨(by rw [hv]; exact fun h => (by cases h)), by rw [hy]⟩)⟩
    · cases hq
  · rename_i n1 n2 n3
    simp only [pAV, Option.bind_eq_some_iff] at H
    obtain ⟨q, ⟨w, hw, hq⟩, hr⟩ := H
    cases hq
    cases hr
    refine ⟨w.1, hw, ?_⟩
    by_cases hv : en.2.2.2.2.1 = .retAddr 0
    · exact Or.inl ⟨hv, rfl⟩
    · exact Or.inr (Or.inr ⟨hv, n1, n2, n3, rfl⟩)
theorem pEv_len0 {X : pG} {f : Nat} (ihs : ∀ (k rk pc : Nat) (L S : List Value) (h : pHeap) (r : Value) (h' : pHeap), sem X f k rk pc L S h = some (r, h') → h.length ≤ h'.length ∧ pSlots h ≤ pSlots h') {k rk : Nat} {r : Value} {h' : pHeap} : ∀ (n : Nat) (st : Bool) (pc : Nat) (L S : List Value) (h : pHeap), pEv X pRank (semC X f) (fun pc L S h => sem X f k rk pc L S h) (pCuts k) (pCode k) rk n st pc L S h = some (r, h') → h.length ≤ h'.length ∧ pSlots h ≤ pSlots h' := by
  have ihC : ∀ (k : Nat) (a : List Value) (h : pHeap) (r : Value) (h' : pHeap), semC X f k a h = some (r, h') → h.length ≤ h'.length ∧ pSlots h ≤ pSlots h' := by
    intro k a h r h' H
    unfold semC at H
    rw [pm_cond_some] at H
    exact ihs _ _ _ _ _ _ _ _ H.2
  intro n
  induction n with
  | zero => intro st pc L S h H; cases H
  | succ n ihn =>
    intro st pc L S h H
    unfold pEv at H
    cases hb : (!st && pMem (pCuts k) pc)
    · simp only [hb, cond_false] at H
      cases hat : pAt (pCode k) pc with
      | none => simp only [hat] at H; cases H
      | some en =>
        simp only [hat] at H
        have hinv : ∀ (k1 : List Value → pHeap → pRes), (∀ S1 h1, k1 S1 h1 = some (r, h') → h1.length ≤ h'.length ∧ pSlots h1 ≤ pSlots h') → pInv pRank (semC X f) rk en S h k1 = some (r, h') → h.length ≤ h'.length ∧ pSlots h ≤ pSlots h' := by
          intro k1 hk1 H
          have e1 := pInv_bind (rank := pRank) (C := semC X f) (rk := rk) (e := en) (S := S) (h := h) (k := fun S h => some (S, h)) (g := fun t : List Value × pHeap => k1 t.1 t.2)
          simp only [Option.bind_some] at e1
          rw [← e1] at H
          obtain ⟨⟨S1, h1⟩, hq, hr⟩ := Option.bind_eq_some_iff.mp H
          have h2 := hk1 _ _ hr
          cases hbb : Nat.ble 9990 en.2.2.1
          · obtain ⟨-, -, r1, hc, -⟩ := pInv_call hbb hq
            have h3 := ihC _ _ _ _ _ hc
            exact ⟨Nat.le_trans h3.1 h2.1, Nat.le_trans h3.2 h2.2⟩
          · unfold pInv at hq
            rw [hbb] at hq
            simp only [cond_true] at hq
            have h3 := pSpK_len hq
            exact ⟨Nat.le_trans h3.1 h2.1, Nat.le_trans h3.2 h2.2⟩
        split at H
        · exact ihn _ _ _ _ _ H
        · split at H
          · unfold pIf at H
            split at H <;> split at H <;> exact ihn _ _ _ _ _ H
          · cases H
        · split at H
          · unfold pIf at H
            split at H <;> split at H <;> exact ihn _ _ _ _ _ H
          · cases H
        · split at H
          · obtain ⟨t, h1, h2⟩ := pSw_ex (P := fun t => h.length ≤ h'.length ∧ pSlots h ≤ pSlots h') (fun t => ihn _ _ _ _ _) _ H
            exact h1
          · cases H
        · split at H
          · rw [pm_cond_some] at H; cases H.2; exact ⟨Nat.le_refl _, Nat.le_refl _⟩
          · cases H
        · split at H
          · cases H; exact ⟨Nat.le_refl _, Nat.le_refl _⟩
          · cases H
        · split at H
          · cases H; exact ⟨Nat.le_refl _, Nat.le_refl _⟩
          · cases H
        · split at H
          · cases H; exact ⟨Nat.le_refl _, Nat.le_refl _⟩
          · cases H
        · exact hinv _ (fun S1 h1 => ihn _ _ _ _ _) H
        · exact hinv _ (fun S1 h1 => ihn _ _ _ _ _) H
        · exact hinv _ (fun S1 h1 => ihn _ _ _ _ _) H
        · have h1 := pmI_bind X en L S h (fun L S h => some (L, S, h)) (fun t => pEv X pRank (semC X f) (fun pc L S h => sem X f k rk pc L S h) (pCuts k) (pCode k) rk n false (pc + en.2.1) t.1 t.2.1 t.2.2)
          simp only [Option.bind_some] at h1
          have H : pmI X en L S h (fun L S h => pEv X pRank (semC X f) (fun pc L S h => sem X f k rk pc L S h) (pCuts k) (pCode k) rk n false (pc + en.2.1) L S h) = some (r, h') := H
          rw [← h1] at H
          obtain ⟨⟨L1, S1, h1⟩, hq, hr⟩ := Option.bind_eq_some_iff.mp H
          have h2 := ihn _ _ _ _ _ hr
          have h3 := pmI_len hq
          exact ⟨Nat.le_trans h3.2.1 h2.1, Nat.le_trans h3.2.2 h2.2⟩
    · simp only [hb, cond_true] at H
      exact ihs _ _ _ _ _ _ _ _ H
theorem sem_len (X : pG) : ∀ (f : Nat) (k rk pc : Nat) (L S : List Value) (h : pHeap) (r : Value) (h' : pHeap), sem X f k rk pc L S h = some (r, h') → h.length ≤ h'.length ∧ pSlots h ≤ pSlots h' := by
  intro f
  induction f with
  | zero => intro k rk pc L S h r h' H; cases H
  | succ f ih =>
    intro k rk pc L S h r h' H
    unfold sem at H
    exact pEv_len0 ih _ _ _ _ _ _ H
theorem pEv_len {X : pG} {f k rk : Nat} {r : Value} {h' : pHeap} {n : Nat} {st : Bool} {pc : Nat} {L S : List Value} {h : pHeap} (H : pEv X pRank (semC X f) (fun pc L S h => sem X f k rk pc L S h) (pCuts k) (pCode k) rk n st pc L S h = some (r, h')) : h.length ≤ h'.length ∧ pSlots h ≤ pSlots h' := pEv_len0 (sem_len X f) _ _ _ _ _ _ H
theorem semC_len {X : pG} {f k : Nat} {a : List Value} {h h' : pHeap} {r : Value} (H : semC X f k a h = some (r, h')) : h.length ≤ h'.length ∧ pSlots h ≤ pSlots h' := by
  unfold semC at H
  rw [pm_cond_some] at H
  exact sem_len X _ _ _ _ _ _ _ _ _ H.2
theorem pRev_eq : ∀ (l a : List Value), pRev l a = l.reverse ++ a
  | [], a => rfl
  | v :: r, a => by rw [pRev, pRev_eq r (v :: a)]; simp
theorem pTake_drop : ∀ (n : Nat) (S : List Value), pTake n S ++ pDrop n S = S
  | 0, S => rfl
  | n + 1, [] => rfl
  | n + 1, v :: r => by simp [pTake, pDrop, pTake_drop n r]
theorem pCat_eq {tv : Value → Value} (hc : ∀ v, (tv v).category = pCatV v) : ∀ S : List Value, ((S.map tv).map fun v => v.category).sum = pCat S
  | [] => rfl
  | v :: r => by
    show (tv v).category + ((r.map tv).map fun v => v.category).sum = pCatV v + pCat r
    rw [hc, pCat_eq hc r]
section
variable {p : Program} {l : Launch} {e : Env} {R : Room} {s : State} {m : MethodId} {args : Array Value} {below : List Frame} {meth : Method} {c : Code} {Q : State → Prop} {H : Heap} {locs : List Loc} {cells slots : Nat}
variable {D : va_G} {base : Nat} {roA : Nat → Nat} {w0 : Value} {X : List Int32} {k pc : Nat} {ls : Array Slot} {rest : List Value} {h : pHeap} {tv : Value → Value} {o : Nat}
theorem w_run {mc ms : Nat} {Qa : State → Outcome → State → Prop} {free : Addr → Prop} {st0 : List Value} (hr : va_Run p l e R s m args below meth c H locs cells slots mc ms (F0 m pc ls st0) rest Qa free)
    (kk : ∀ (v : Option Value) (st1 t T' : State) (L : List Loc), st1.heap = H → Qa st1 (.returned v) t → T'.heap = t.heap → T'.vm = t.vm → s.WarmedH T'.vm → (∀ q ∈ L, free q.base) → W p l e R s m args below meth c T'.heap (locs ++ L) (cells + mc) (slots + ms) Q (F0 m (pc + 3) ls (v.toList ++ rest))) : W p l e R s m args below meth c H locs cells slots Q (F0 m pc ls st0) := by
  intro T hT X
  obtain ⟨v, st₀, t, T', L, h0, X', hL, e1, e2, hq, st⟩ := hr T hT X
  obtain ⟨t2, a1, b1⟩ := kk v st₀ t T' L h0 hq e1 e2 X'.warmed hL T' rfl X'
  exact ⟨t2, st t2 a1, b1⟩
theorem pP_blind {a : List Value} {h : pHeap} : FrameBlind (pP D base roA w0 X a h) := by
  intro v U g mk q
  exact ⟨q.1, wFix.same q.2.1 rfl, wHeap.moved (s := U) (Vm.Alike.refl U.vm) q.2.2⟩
theorem pP_at {a : List Value} (hF : wFix D base roA w0 X s s.heap) (hH : wHeap D base (pTv base roA w0) s h H) (hS : va_S (wA base) s.heap H locs) : ∀ U : State, U.heap = H → s.WarmedH U.vm → pP D base roA w0 X a h (a.map (pTv base roA w0)).toArray U := by
  intro U hU hW
  refine ⟨rfl, (wFix.kept hF (H1 := U.heap) fun q h1 h2 => ?_).warm hW, ?_⟩
  · rw [hU]; exact hS.2.1 q h1 h2
  · rw [hU]; exact hH.moved hW.alike
theorem w_call {k' kind index : Nat} {a S2 : List Value} {r : Value} {h' : pHeap} {n0 s0 rk : Nat} {ins : Instr} (Cx : cxOK D base roA w0 X k p s m args meth c) (hw : w0 = .null ∨ ∃ a, w0 = .ref a) (htv : tv = pTv base roA w0)
    (hq : (pOwn k, index, k', a.length, kind) ∈ pInvT) (hins : (kind % 10 = 0 ∧ ins = .invokevirtual index) ∨ (kind % 10 = 1 ∧ ins = .invokestatic index) ∨ (kind % 10 = 2 ∧ ins = .invokespecial index)) (hdec : decode (pBytes k) pc = .ok (ins, 3))
    (hM : pMet l D base roA w0 X k' a h r h') (hlen : h.length ≤ h'.length ∧ pSlots h ≤ pSlots h') (hrec : pRecv (pRO X) k' a h = true) (hrk : pRank k' a < rk) (hcat : pCat S2 ≤ 8) (hR : rk ≤ R.frames ∧ 60 * rk ≤ R.locals)
    (hn0 : n0 ≤ h.length) (hs0 : s0 ≤ pSlots h) (hcap : h'.length - n0 ≤ R.cells ∧ pSlots h' - s0 ≤ R.slots) (hsz : ls.size = pMaxL k) (hH : wHeap D base tv s h H) (hS : va_S (wA base) s.heap H locs)
    (kk : ∀ (H1 : Heap) (locs1 : List Loc), wHeap D base tv s h' H1 → va_S (wA base) s.heap H1 locs1 → W p l e R s m args below meth c H1 locs1 (h'.length - n0) (pSlots h' - s0) Q (F0 m (pc + 3) ls ((pRetV tv k' r).toList ++ S2.map tv))) :
    W p l e R s m args below meth c H locs (h.length - n0) (pSlots h - s0) Q (F0 m pc ls ((a.reverse ++ S2).map tv)) := by
  obtain ⟨hx, hb, hml, hown, hts, hF, hbs, hin⟩ := id Cx
  obtain ⟨i1, i2, i3, i4, i5⟩ := inv_ok _ hq
  have hkey := key_ok k' i2
  obtain ⟨k1, k2, ⟨k3, k4⟩, k6, k7, k8i, k8, k9, k10⟩ := id hkey
  have hmaxL : pMaxL k' ≤ 41 := maxL_le (Nat.lt_succ_of_lt i2)
  subst htv
  have hcats := pCat_eq (pTv_cat (base := base) (roA := roA) hw) S2
  have hcont : ∀ (hr : va_Run p l e R s m args below meth c H locs (h.length - n0) (pSlots h - s0) (h'.length - h.length) (pSlots h' - pSlots h) (F0 m pc ls ((a.reverse ++ S2).map (pTv base roA w0))) (S2.map (pTv base roA w0)) (pQ D base roA w0 X k' r h' (a.map (pTv base roA w0)).toArray) (wA base)), W p l e R s m args below meth c H locs (h.length - n0) (pSlots h - s0) Q (F0 m pc ls ((a.reverse ++ S2).map (pTv base roA w0))) := by
    intro hr
    refine w_run hr fun v st1 t T' L e0 hQ e1 e2 hW hL => ?_
    obtain ⟨⟨q1, q2, q3⟩, q4, q5⟩ := hQ
    have q1 : v = pRetV (pTv base roA w0) k' r := by injection q1
    rw [q1, show h.length - n0 + (h'.length - h.length) = h'.length - n0 by omega, show pSlots h - s0 + (pSlots h' - pSlots h) = pSlots h' - s0 by omega]
    refine kk T'.heap _ ?_ ?_
    · rw [e1]
      exact q3.moved (by rw [← e2]; exact hW.alike.symm)
    · refine ⟨?_, fun q h1 h2 => ?_, fun q hq => ?_⟩
      · rw [e1]; exact Nat.le_trans hS.1 (by rw [← e0]; exact q4)
      · rw [e1, q5 q (by rw [e0]; exact Nat.lt_of_lt_of_le h1 hS.1) h2, e0]
        exact hS.2.1 q h1 h2
      · rcases List.mem_append.mp hq with g | g
        · exact hS.2.2 q g
        · exact hL q g
  have hfr : (pRoom (pRank k' a) (h'.length - h.length) (pSlots h' - pSlots h)).frames + 1 ≤ R.frames := by
    show pRank k' a + 1 ≤ R.frames
    omega
  have hlo : 8 + (pMaxL k' + 11) + (pRoom (pRank k' a) (h'.length - h.length) (pSlots h' - pSlots h)).locals ≤ R.locals := by
    show 8 + (pMaxL k' + 11) + 60 * pRank k' a ≤ R.locals
    omega
  have hws := pay_in hts (pWs_good hkey)
  have hmem : Cond.code (pY k') (pBytes k') (pMaxL k') (pRet k') ∈ pWs k' := List.mem_cons_self
  have hpar : ∀ sig, parseMethodDescriptor (pY k').desc = some sig → pPar k' = sig.parameters.length := by
    intro sig hs
    rw [hs] at k10
    exact (Option.some.inj k10).symm
  have hcapR : h.length - n0 + (h'.length - h.length) ≤ R.cells ∧ pSlots h - s0 + (pSlots h' - pSlots h) ≤ R.slots := ⟨by omega, by omega⟩
  have hrm : 2 * (F0 m pc ls ((a.reverse ++ S2).map (pTv base roA w0))).monitorRoom + ((S2.map (pTv base roA w0)).map fun v => v.category).sum ≤ 8 := by
    rw [hcats]
    show 2 * 0 + _ ≤ 8
    omega
  have hall := pP_at (a := a) hF hH hS
  have hinit := hts _ k2
  have hcode := hts _ k1
  have hstk : (a.reverse ++ S2).map (pTv base roA w0) = (a.map (pTv base roA w0)).reverse ++ S2.map (pTv base roA w0) := by rw [List.map_append, List.map_reverse]
  have hCB : kind < 10 → CallB R s args (pOwnN (pOwn k)) index (pY k') (pBytes k') (pMaxL k') (pRet k') (pWs k') (pRoom (pRank k' a) (h'.length - h.length) (pSlots h' - pSlots h)) (h'.length - h.length) (pSlots h' - pSlots h) (pPar k') :=
    fun hk => ⟨rfl, rfl, hfr, hlo, hws, hmem, hcode, hinit, k3, hpar, hts _ (i3 hk)⟩
  have hCN : 10 ≤ kind → va_CN R s args (pOwnN (pOwn k)) index (pY k') "DreamDuty" (pBytes k') (pMaxL k') (pRet k') (pWs k') (pRoom (pRank k' a) (h'.length - h.length) (pSlots h' - pSlots h)) (h'.length - h.length) (pSlots h' - pSlots h) (pPar k') :=
    fun hk => ⟨⟨rfl, rfl, hfr, hlo, hws, hmem⟩, hcode, hinit, k3, hpar, va_Nw.use rfl (hF.1 _ (i4 hk))⟩
  refine hcont ?_
  rcases hins with ⟨hk0, rfl⟩ | ⟨hk0, rfl⟩ | ⟨hk0, rfl⟩
  · -- an instance's
    have hkk : pKind k' = 0 := by rw [← i1]; exact hk0
    obtain ⟨w1, w2⟩ := k6 hkk
    rw [hkk] at i5
    have i5 : a.length = pPar k' + 1 := i5
    cases a with
    | nil => simp at i5
    | cons v As =>
      have hAs : (As.map (pTv base roA w0)).length = pPar k' := by simp at i5 ⊢; exact i5
      -- the receiver
      have hrcv : ∃ o cellB, v = .ref o ∧ H[pAd base roA o]? = some cellB ∧ cellB.vm.isStatics = false ∧ s.vm.findClass (pY k').cls = some cellB.cls := by
        unfold pRecv at hrec
        cases hb1 : (Nat.ble (pArgs (v :: As)).length (pMaxL k') && Nat.beq (v :: As).length (pNargs.getD k' 99))
        · rw [hb1] at hrec; cases hrec
        · rw [hb1] at hrec
          simp only [Bool.not_true, cond_false] at hrec
          cases hb2 : Nat.beq (pRcs.getD k' 98) 99
          · rw [hb2] at hrec
            simp only [cond_false] at hrec
            split at hrec
            · rename_i o As2 he
              injection he with he1 he2
              subst he1
              split at hrec
              · rename_i q hq
                have hq9 := Nat.eq_of_beq_eq_true hrec
                rcases k9 with ⟨g1, g2⟩ | ⟨g1, g2⟩ | g1
                · rcases Nat.lt_or_ge o 100000 with ho | ho
                  · rw [pCellAt_lt ho] at hq
                    rcases hH.2.2 o _ hq with ⟨d1, d2, cellV, x1, x2, x3, x4⟩ | ⟨d1, -⟩
                    · have hcls := (hF.2.2.1.1 q.1 _ (vwCl_get d1)).2
                      refine ⟨o, cellV, rfl, by rw [pAd_lt ho]; exact x1, by rw [x3]; rfl, ?_⟩
                      rw [← g2, ← hq9, x2]
                      exact hcls.1
                    · exact absurd (show 100 ≤ q.1 from d1) (by omega)
                  · rw [pCellAt_ge ho] at hq
                    rcases pRO_form (t := q.1) (vs := q.2) hq with ⟨e1, e2, -⟩ | ⟨i, hi, e1, e2, e3⟩ | ⟨i7, hi7, e1, e2, e3⟩ <;> omega
                · rcases Nat.lt_or_ge o 100000 with ho | ho
                  · rw [pCellAt_lt ho] at hq
                    rcases hH.2.2 o _ hq with ⟨d1, -⟩ | ⟨d1, -⟩ <;> omega
                  · rw [pCellAt_ge ho] at hq
                    rcases pRO_form (t := q.1) (vs := q.2) hq with ⟨e1, e2, -⟩ | ⟨i, hi, e1, e2, e3⟩ | ⟨i7, hi7, e1, e2, e3⟩
                    · omega
                    · obtain ⟨cellK, x1, x2, x3⟩ := vk_recv (A := wA base) hF.2.2.2.2.1 hi hS
                      refine ⟨o, cellK, rfl, by rw [pAd_ge ho, e1]; exact x1, x2, ?_⟩
                      rw [g2]
                      exact x3
                    · omega
                · rw [g1] at hb2
                  cases hb2
              · cases hrec
            · cases hrec
          · exfalso
            have := Nat.eq_of_beq_eq_true hb2
            rcases k9 with ⟨g1, -⟩ | ⟨g1, -⟩ | g1
            · omega
            · omega
            · exact absurd g1 (rcs_inst hkk i2)
      obtain ⟨o, cellB, rfl, r1, r2, r3⟩ := hrcv
      rw [hstk]
      have hstk2 : (List.map (pTv base roA w0) (.ref o :: As)).reverse ++ S2.map (pTv base roA w0) = (As.map (pTv base roA w0)).reverse ++ Value.ref (pAd base roA o) :: S2.map (pTv base roA w0) := by simp [pTv]
      have hpre : PreV s H (pY k').cls (pAd base roA o) (pP D base roA w0 X (.ref o :: As) h) (As.map (pTv base roA w0)) := ⟨pP_blind, ⟨cellB, r1, r2, r3⟩, hall⟩
      rcases Nat.lt_or_ge kind 10 with hk10 | hk10
      · exact va_runV (b := pAd base roA o) (As := As.map (pTv base roA w0)) ⟨hx, hb, hml, hown, hts⟩ hM ⟨hCB hk10, hts _ w1, hts _ w2⟩ hpre rfl hAs hsz hstk2 hrm hdec hcapR
      · exact va_runVN (b := pAd base roA o) (As := As.map (pTv base roA w0)) ⟨hx, hb, hml, hown, hts⟩ hM ⟨hCN hk10, hts _ w1, hts _ w2⟩ hpre rfl hAs hsz hstk2 hrm hdec hcapR
  · have hkk : pKind k' = 1 := by rw [← i1]; exact hk0
    have w1 := k7 hkk
    rw [hkk] at i5
    have hAs : (a.map (pTv base roA w0)).length = pPar k' := by simp at i5 ⊢; exact i5
    have hpre : PreS s H (pP D base roA w0 X a h) (a.map (pTv base roA w0)) := ⟨pP_blind, hall⟩
    rcases Nat.lt_or_ge kind 10 with hk10 | hk10
    · exact va_runS (As := a.map (pTv base roA w0)) ⟨hx, hb, hml, hown, hts⟩ hM ⟨hCB hk10, hts _ w1⟩ hpre rfl hAs hsz hstk hrm hdec hcapR
    · exact va_runSN (As := a.map (pTv base roA w0)) ⟨hx, hb, hml, hown, hts⟩ hM ⟨hCN hk10, hts _ w1, trivial⟩ hpre rfl hAs hsz hstk hrm hdec hcapR
  · have hkk : pKind k' = 2 := by rw [← i1]; exact hk0
    obtain ⟨w1, w2⟩ := k8i hkk
    rw [hkk] at i5
    have i5 : a.length = pPar k' + 1 := i5
    have hv0 := init_void hkk i2
    cases a with
    | nil => simp at i5
    | cons v As =>
      have hAs : (As.map (pTv base roA w0)).length = pPar k' := by simp at i5 ⊢; exact i5
      have hvo : ∃ o, v = .ref o := by
        unfold pRecv at hrec
        cases hb1 : (Nat.ble (pArgs (v :: As)).length (pMaxL k') && Nat.beq (v :: As).length (pNargs.getD k' 99))
        · rw [hb1] at hrec; cases hrec
        · rw [hb1] at hrec
          simp only [Bool.not_true, cond_false] at hrec
          cases hb2 : Nat.beq (pRcs.getD k' 98) 99
          · rw [hb2] at hrec
            simp only [cond_false] at hrec
            split at hrec
            · rename_i o As2 he
              injection he with he1 he2
              exact ⟨o, he1⟩
            · cases hrec
          · exact absurd (Nat.eq_of_beq_eq_true hb2) (rcs_init hkk i2)
      obtain ⟨o, rfl⟩ := hvo
      rw [hstk]
      have hstk2 : (List.map (pTv base roA w0) (.ref o :: As)).reverse ++ S2.map (pTv base roA w0) = (As.map (pTv base roA w0)).reverse ++ Value.ref (pAd base roA o) :: S2.map (pTv base roA w0) := by simp [pTv]
      have hpre : PreS s H (pP D base roA w0 X (.ref o :: As) h) (.ref (pAd base roA o) :: As.map (pTv base roA w0)) := ⟨pP_blind, hall⟩
      rw [hv0] at hCB hCN
      rcases Nat.lt_or_ge kind 10 with hk10 | hk10
      · exact va_runI (b := pAd base roA o) (As := As.map (pTv base roA w0)) ⟨hx, hb, hml, hown, hts⟩ hM ⟨hCB hk10, w2, hts _ w1⟩ hpre rfl hAs hsz hstk2 hrm hdec hcapR
      · exact va_runIN (b := pAd base roA o) (As := As.map (pTv base roA w0)) ⟨hx, hb, hml, hown, hts⟩ hM ⟨hCN hk10, w2, hts _ w1⟩ hpre rfl hAs hsz hstk2 hrm hdec hcapR
end
end
section
theorem zz_trivial : True := trivial
end
