section
-- ===== PART A: goes FIRST, ahead of the names: the tables' words, and 'selects' of the private methods out of them =====
/-- a private method of a class that the tables say can be made, by its rows of tables_1 -/
def lw_okq (q : MethodName × Nat) : Prop := (q.1.cls ≠ "java/lang/invoke/MethodHandle" ∧ q.1.cls ≠ "java/lang/invoke/VarHandle") ∧ Cond.instantiable q.1.cls q.2 ∈ tables_1 ∧ Cond.privateMethod q.1 ∈ tables_1 ∧ Cond.instanceMethod q.1 ∈ tables_1
theorem lw_p0 : lw_okq (⟨"ParcelLine$LineReader", "readLineByte", "(I)Z"⟩, 7) := ⟨⟨by decide +kernel, by decide +kernel⟩, List.mem_of_getElem? (i := 147) (by decide +kernel), List.mem_of_getElem? (i := 367) (by decide +kernel), List.mem_of_getElem? (i := 368) (by decide +kernel)⟩
theorem lw_p1 : lw_okq (⟨"ParcelLine$LineReader", "keep", "(I)V"⟩, 7) := ⟨⟨by decide +kernel, by decide +kernel⟩, List.mem_of_getElem? (i := 147) (by decide +kernel), List.mem_of_getElem? (i := 371) (by decide +kernel), List.mem_of_getElem? (i := 372) (by decide +kernel)⟩
theorem lw_p2 : lw_okq (⟨"ParcelLine$LineReader", "answerOrder", "(II)V"⟩, 7) := ⟨⟨by decide +kernel, by decide +kernel⟩, List.mem_of_getElem? (i := 147) (by decide +kernel), List.mem_of_getElem? (i := 375) (by decide +kernel), List.mem_of_getElem? (i := 376) (by decide +kernel)⟩
theorem lw_p3 : lw_okq (⟨"ParcelLine$Replies", "keepDraft", "()V"⟩, 5) := ⟨⟨by decide +kernel, by decide +kernel⟩, List.mem_of_getElem? (i := 124) (by decide +kernel), List.mem_of_getElem? (i := 387) (by decide +kernel), List.mem_of_getElem? (i := 388) (by decide +kernel)⟩
theorem lw_p4 : lw_okq (⟨"ParcelLine$Path", "addStep", "(I)V"⟩, 4) := ⟨⟨by decide +kernel, by decide +kernel⟩, List.mem_of_getElem? (i := 179) (by decide +kernel), List.mem_of_getElem? (i := 405) (by decide +kernel), List.mem_of_getElem? (i := 406) (by decide +kernel)⟩
theorem lw_p5 : lw_okq (⟨"ParcelLine$Session", "recognise", "()LParcelLine$Command;"⟩, 17) := ⟨⟨by decide +kernel, by decide +kernel⟩, List.mem_of_getElem? (i := 118) (by decide +kernel), List.mem_of_getElem? (i := 409) (by decide +kernel), List.mem_of_getElem? (i := 410) (by decide +kernel)⟩
theorem lw_p6 : lw_okq (⟨"ParcelLine$Session", "refusal", "(LParcelLine$Command;)I"⟩, 17) := ⟨⟨by decide +kernel, by decide +kernel⟩, List.mem_of_getElem? (i := 118) (by decide +kernel), List.mem_of_getElem? (i := 467) (by decide +kernel), List.mem_of_getElem? (i := 468) (by decide +kernel)⟩
theorem lw_p7 : lw_okq (⟨"ParcelLine$Session", "argumentFits", "(I)Z"⟩, 17) := ⟨⟨by decide +kernel, by decide +kernel⟩, List.mem_of_getElem? (i := 118) (by decide +kernel), List.mem_of_getElem? (i := 471) (by decide +kernel), List.mem_of_getElem? (i := 472) (by decide +kernel)⟩
theorem lw_p8 : lw_okq (⟨"ParcelLine$Session", "locate", "()V"⟩, 17) := ⟨⟨by decide +kernel, by decide +kernel⟩, List.mem_of_getElem? (i := 118) (by decide +kernel), List.mem_of_getElem? (i := 489) (by decide +kernel), List.mem_of_getElem? (i := 490) (by decide +kernel)⟩
theorem lw_p9 : lw_okq (⟨"ParcelLine$Session", "obeyPath", "(LParcelLine$Command;)I"⟩, 17) := ⟨⟨by decide +kernel, by decide +kernel⟩, List.mem_of_getElem? (i := 118) (by decide +kernel), List.mem_of_getElem? (i := 514) (by decide +kernel), List.mem_of_getElem? (i := 515) (by decide +kernel)⟩
theorem lw_p10 : lw_okq (⟨"ParcelLine$Session", "changeDirectory", "()I"⟩, 17) := ⟨⟨by decide +kernel, by decide +kernel⟩, List.mem_of_getElem? (i := 118) (by decide +kernel), List.mem_of_getElem? (i := 526) (by decide +kernel), List.mem_of_getElem? (i := 527) (by decide +kernel)⟩
theorem lw_p11 : lw_okq (⟨"ParcelLine$Session", "tellSize", "()I"⟩, 17) := ⟨⟨by decide +kernel, by decide +kernel⟩, List.mem_of_getElem? (i := 118) (by decide +kernel), List.mem_of_getElem? (i := 530) (by decide +kernel), List.mem_of_getElem? (i := 531) (by decide +kernel)⟩
theorem lw_p12 : lw_okq (⟨"ParcelLine$Session", "sendFile", "()I"⟩, 17) := ⟨⟨by decide +kernel, by decide +kernel⟩, List.mem_of_getElem? (i := 118) (by decide +kernel), List.mem_of_getElem? (i := 538) (by decide +kernel), List.mem_of_getElem? (i := 539) (by decide +kernel)⟩
theorem lw_p13 : lw_okq (⟨"ParcelLine$DataWay", "load", "(I)V"⟩, 8) := ⟨⟨by decide +kernel, by decide +kernel⟩, List.mem_of_getElem? (i := 203) (by decide +kernel), List.mem_of_getElem? (i := 550) (by decide +kernel), List.mem_of_getElem? (i := 551) (by decide +kernel)⟩
theorem lw_p14 : lw_okq (⟨"ParcelLine$Session", "receiveFile", "(I)I"⟩, 17) := ⟨⟨by decide +kernel, by decide +kernel⟩, List.mem_of_getElem? (i := 118) (by decide +kernel), List.mem_of_getElem? (i := 554) (by decide +kernel), List.mem_of_getElem? (i := 555) (by decide +kernel)⟩
theorem lw_p15 : lw_okq (⟨"ParcelLine$Session", "targetSize", "()I"⟩, 17) := ⟨⟨by decide +kernel, by decide +kernel⟩, List.mem_of_getElem? (i := 118) (by decide +kernel), List.mem_of_getElem? (i := 562) (by decide +kernel), List.mem_of_getElem? (i := 563) (by decide +kernel)⟩
def lw_privs_1 : List (MethodName × Nat) := [(⟨"ParcelLine$LineReader", "readLineByte", "(I)Z"⟩, 7), (⟨"ParcelLine$LineReader", "keep", "(I)V"⟩, 7), (⟨"ParcelLine$LineReader", "answerOrder", "(II)V"⟩, 7), (⟨"ParcelLine$Replies", "keepDraft", "()V"⟩, 5), (⟨"ParcelLine$Path", "addStep", "(I)V"⟩, 4), (⟨"ParcelLine$Session", "recognise", "()LParcelLine$Command;"⟩, 17), (⟨"ParcelLine$Session", "refusal", "(LParcelLine$Command;)I"⟩, 17), (⟨"ParcelLine$Session", "argumentFits", "(I)Z"⟩, 17), (⟨"ParcelLine$Session", "locate", "()V"⟩, 17), (⟨"ParcelLine$Session", "obeyPath", "(LParcelLine$Command;)I"⟩, 17), (⟨"ParcelLine$Session", "changeDirectory", "()I"⟩, 17), (⟨"ParcelLine$Session", "tellSize", "()I"⟩, 17), (⟨"ParcelLine$Session", "sendFile", "()I"⟩, 17), (⟨"ParcelLine$DataWay", "load", "(I)V"⟩, 8), (⟨"ParcelLine$Session", "receiveFile", "(I)I"⟩, 17), (⟨"ParcelLine$Session", "targetSize", "()I"⟩, 17)]
theorem lw_r1 : ∀ q ∈ lw_privs_1, lw_okq q := List.forall_mem_cons.mpr ⟨lw_p0, List.forall_mem_cons.mpr ⟨lw_p1, List.forall_mem_cons.mpr ⟨lw_p2, List.forall_mem_cons.mpr ⟨lw_p3, List.forall_mem_cons.mpr ⟨lw_p4, List.forall_mem_cons.mpr ⟨lw_p5, List.forall_mem_cons.mpr ⟨lw_p6, List.forall_mem_cons.mpr ⟨lw_p7, List.forall_mem_cons.mpr ⟨lw_p8, List.forall_mem_cons.mpr ⟨lw_p9, List.forall_mem_cons.mpr ⟨lw_p10, List.forall_mem_cons.mpr ⟨lw_p11, List.forall_mem_cons.mpr ⟨lw_p12, List.forall_mem_cons.mpr ⟨lw_p13, List.forall_mem_cons.mpr ⟨lw_p14, List.forall_mem_cons.mpr ⟨lw_p15, fun _ h => absurd h List.not_mem_nil⟩⟩⟩⟩⟩⟩⟩⟩⟩⟩⟩⟩⟩⟩⟩⟩
theorem lw_p16 : lw_okq (⟨"ParcelLine$Session", "removeFile", "()I"⟩, 17) := ⟨⟨by decide +kernel, by decide +kernel⟩, List.mem_of_getElem? (i := 118) (by decide +kernel), List.mem_of_getElem? (i := 574) (by decide +kernel), List.mem_of_getElem? (i := 575) (by decide +kernel)⟩
theorem lw_p17 : lw_okq (⟨"ParcelLine$Session", "makeDirectory", "()I"⟩, 17) := ⟨⟨by decide +kernel, by decide +kernel⟩, List.mem_of_getElem? (i := 118) (by decide +kernel), List.mem_of_getElem? (i := 578) (by decide +kernel), List.mem_of_getElem? (i := 579) (by decide +kernel)⟩
theorem lw_p18 : lw_okq (⟨"ParcelLine$Session", "removeDirectory", "()I"⟩, 17) := ⟨⟨by decide +kernel, by decide +kernel⟩, List.mem_of_getElem? (i := 118) (by decide +kernel), List.mem_of_getElem? (i := 582) (by decide +kernel), List.mem_of_getElem? (i := 583) (by decide +kernel)⟩
theorem lw_p19 : lw_okq (⟨"ParcelLine$Session", "chooseForRename", "()I"⟩, 17) := ⟨⟨by decide +kernel, by decide +kernel⟩, List.mem_of_getElem? (i := 118) (by decide +kernel), List.mem_of_getElem? (i := 594) (by decide +kernel), List.mem_of_getElem? (i := 595) (by decide +kernel)⟩
theorem lw_p20 : lw_okq (⟨"ParcelLine$Session", "rename", "()I"⟩, 17) := ⟨⟨by decide +kernel, by decide +kernel⟩, List.mem_of_getElem? (i := 118) (by decide +kernel), List.mem_of_getElem? (i := 598) (by decide +kernel), List.mem_of_getElem? (i := 599) (by decide +kernel)⟩
theorem lw_p21 : lw_okq (⟨"ParcelLine$Session", "obeyPlain", "(LParcelLine$Command;)I"⟩, 17) := ⟨⟨by decide +kernel, by decide +kernel⟩, List.mem_of_getElem? (i := 118) (by decide +kernel), List.mem_of_getElem? (i := 610) (by decide +kernel), List.mem_of_getElem? (i := 611) (by decide +kernel)⟩
theorem lw_p22 : lw_okq (⟨"ParcelLine$Session", "nameUser", "()I"⟩, 17) := ⟨⟨by decide +kernel, by decide +kernel⟩, List.mem_of_getElem? (i := 118) (by decide +kernel), List.mem_of_getElem? (i := 614) (by decide +kernel), List.mem_of_getElem? (i := 615) (by decide +kernel)⟩
theorem lw_p23 : lw_okq (⟨"ParcelLine$Session", "logOut", "()V"⟩, 17) := ⟨⟨by decide +kernel, by decide +kernel⟩, List.mem_of_getElem? (i := 118) (by decide +kernel), List.mem_of_getElem? (i := 618) (by decide +kernel), List.mem_of_getElem? (i := 619) (by decide +kernel)⟩
theorem lw_p24 : lw_okq (⟨"ParcelLine$Session", "logIn", "()I"⟩, 17) := ⟨⟨by decide +kernel, by decide +kernel⟩, List.mem_of_getElem? (i := 118) (by decide +kernel), List.mem_of_getElem? (i := 624) (by decide +kernel), List.mem_of_getElem? (i := 625) (by decide +kernel)⟩
theorem lw_p25 : lw_okq (⟨"ParcelLine$Session", "startOver", "()V"⟩, 17) := ⟨⟨by decide +kernel, by decide +kernel⟩, List.mem_of_getElem? (i := 118) (by decide +kernel), List.mem_of_getElem? (i := 629) (by decide +kernel), List.mem_of_getElem? (i := 630) (by decide +kernel)⟩
theorem lw_p26 : lw_okq (⟨"ParcelLine$Session", "sendNames", "()I"⟩, 17) := ⟨⟨by decide +kernel, by decide +kernel⟩, List.mem_of_getElem? (i := 118) (by decide +kernel), List.mem_of_getElem? (i := 654) (by decide +kernel), List.mem_of_getElem? (i := 655) (by decide +kernel)⟩
theorem lw_p27 : lw_okq (⟨"ParcelLine$Session", "abort", "()I"⟩, 17) := ⟨⟨by decide +kernel, by decide +kernel⟩, List.mem_of_getElem? (i := 118) (by decide +kernel), List.mem_of_getElem? (i := 667) (by decide +kernel), List.mem_of_getElem? (i := 668) (by decide +kernel)⟩
theorem lw_p28 : lw_okq (⟨"ParcelLine$Session", "forget", "(LParcelLine$Command;)V"⟩, 17) := ⟨⟨by decide +kernel, by decide +kernel⟩, List.mem_of_getElem? (i := 118) (by decide +kernel), List.mem_of_getElem? (i := 671) (by decide +kernel), List.mem_of_getElem? (i := 672) (by decide +kernel)⟩
theorem lw_p29 : lw_okq (⟨"ParcelLine$Session", "answer", "(I)V"⟩, 17) := ⟨⟨by decide +kernel, by decide +kernel⟩, List.mem_of_getElem? (i := 118) (by decide +kernel), List.mem_of_getElem? (i := 680) (by decide +kernel), List.mem_of_getElem? (i := 681) (by decide +kernel)⟩
theorem lw_p30 : lw_okq (⟨"ParcelLine$Session", "endIfSpent", "()V"⟩, 17) := ⟨⟨by decide +kernel, by decide +kernel⟩, List.mem_of_getElem? (i := 118) (by decide +kernel), List.mem_of_getElem? (i := 705) (by decide +kernel), List.mem_of_getElem? (i := 706) (by decide +kernel)⟩
theorem lw_p31 : lw_okq (⟨"java/lang/Throwable", "fillInStackTrace", "(I)Ljava/lang/Throwable;"⟩, 6) := ⟨⟨by decide +kernel, by decide +kernel⟩, List.mem_of_getElem? (i := 829) (by decide +kernel), List.mem_of_getElem? (i := 827) (by decide +kernel), List.mem_of_getElem? (i := 828) (by decide +kernel)⟩
def lw_privs_2 : List (MethodName × Nat) := [(⟨"ParcelLine$Session", "removeFile", "()I"⟩, 17), (⟨"ParcelLine$Session", "makeDirectory", "()I"⟩, 17), (⟨"ParcelLine$Session", "removeDirectory", "()I"⟩, 17), (⟨"ParcelLine$Session", "chooseForRename", "()I"⟩, 17), (⟨"ParcelLine$Session", "rename", "()I"⟩, 17), (⟨"ParcelLine$Session", "obeyPlain", "(LParcelLine$Command;)I"⟩, 17), (⟨"ParcelLine$Session", "nameUser", "()I"⟩, 17), (⟨"ParcelLine$Session", "logOut", "()V"⟩, 17), (⟨"ParcelLine$Session", "logIn", "()I"⟩, 17), (⟨"ParcelLine$Session", "startOver", "()V"⟩, 17), (⟨"ParcelLine$Session", "sendNames", "()I"⟩, 17), (⟨"ParcelLine$Session", "abort", "()I"⟩, 17), (⟨"ParcelLine$Session", "forget", "(LParcelLine$Command;)V"⟩, 17), (⟨"ParcelLine$Session", "answer", "(I)V"⟩, 17), (⟨"ParcelLine$Session", "endIfSpent", "()V"⟩, 17), (⟨"java/lang/Throwable", "fillInStackTrace", "(I)Ljava/lang/Throwable;"⟩, 6)]
theorem lw_r2 : ∀ q ∈ lw_privs_2, lw_okq q := List.forall_mem_cons.mpr ⟨lw_p16, List.forall_mem_cons.mpr ⟨lw_p17, List.forall_mem_cons.mpr ⟨lw_p18, List.forall_mem_cons.mpr ⟨lw_p19, List.forall_mem_cons.mpr ⟨lw_p20, List.forall_mem_cons.mpr ⟨lw_p21, List.forall_mem_cons.mpr ⟨lw_p22, List.forall_mem_cons.mpr ⟨lw_p23, List.forall_mem_cons.mpr ⟨lw_p24, List.forall_mem_cons.mpr ⟨lw_p25, List.forall_mem_cons.mpr ⟨lw_p26, List.forall_mem_cons.mpr ⟨lw_p27, List.forall_mem_cons.mpr ⟨lw_p28, List.forall_mem_cons.mpr ⟨lw_p29, List.forall_mem_cons.mpr ⟨lw_p30, List.forall_mem_cons.mpr ⟨lw_p31, fun _ h => absurd h List.not_mem_nil⟩⟩⟩⟩⟩⟩⟩⟩⟩⟩⟩⟩⟩⟩⟩⟩
theorem lw_p32 : lw_okq (⟨"ParcelLine$Copier", "say", "(Ljava/lang/String;I)V"⟩, 9) := ⟨⟨by decide +kernel, by decide +kernel⟩, List.mem_of_getElem? (i := 301) (by decide +kernel), List.mem_of_getElem? (i := 958) (by decide +kernel), List.mem_of_getElem? (i := 959) (by decide +kernel)⟩
theorem lw_p33 : lw_okq (⟨"ParcelLine$Copier", "goTo", "(I)I"⟩, 9) := ⟨⟨by decide +kernel, by decide +kernel⟩, List.mem_of_getElem? (i := 301) (by decide +kernel), List.mem_of_getElem? (i := 968) (by decide +kernel), List.mem_of_getElem? (i := 969) (by decide +kernel)⟩
theorem lw_p34 : lw_okq (⟨"ParcelLineModel", "beginSession", "(I)V"⟩, 45) := ⟨⟨by decide +kernel, by decide +kernel⟩, List.mem_of_getElem? (i := 1009) (by decide +kernel), List.mem_of_getElem? (i := 1036) (by decide +kernel), List.mem_of_getElem? (i := 1037) (by decide +kernel)⟩
theorem lw_p35 : lw_okq (⟨"ParcelLineModel", "endTransfer", "(I)V"⟩, 45) := ⟨⟨by decide +kernel, by decide +kernel⟩, List.mem_of_getElem? (i := 1009) (by decide +kernel), List.mem_of_getElem? (i := 1040) (by decide +kernel), List.mem_of_getElem? (i := 1041) (by decide +kernel)⟩
theorem lw_p36 : lw_okq (⟨"ParcelLineModel", "keep", "(II)V"⟩, 45) := ⟨⟨by decide +kernel, by decide +kernel⟩, List.mem_of_getElem? (i := 1009) (by decide +kernel), List.mem_of_getElem? (i := 1044) (by decide +kernel), List.mem_of_getElem? (i := 1045) (by decide +kernel)⟩
theorem lw_p37 : lw_okq (⟨"ParcelLineModel", "take1", "(II)V"⟩, 45) := ⟨⟨by decide +kernel, by decide +kernel⟩, List.mem_of_getElem? (i := 1009) (by decide +kernel), List.mem_of_getElem? (i := 1196) (by decide +kernel), List.mem_of_getElem? (i := 1197) (by decide +kernel)⟩
theorem lw_p38 : lw_okq (⟨"ParcelLineModel", "hasRoom", "(II)Z"⟩, 45) := ⟨⟨by decide +kernel, by decide +kernel⟩, List.mem_of_getElem? (i := 1009) (by decide +kernel), List.mem_of_getElem? (i := 1200) (by decide +kernel), List.mem_of_getElem? (i := 1201) (by decide +kernel)⟩
theorem lw_p39 : lw_okq (⟨"ParcelLineModel", "put", "(II)V"⟩, 45) := ⟨⟨by decide +kernel, by decide +kernel⟩, List.mem_of_getElem? (i := 1009) (by decide +kernel), List.mem_of_getElem? (i := 1204) (by decide +kernel), List.mem_of_getElem? (i := 1205) (by decide +kernel)⟩
theorem lw_p40 : lw_okq (⟨"ParcelLineModel", "plain", "(II)V"⟩, 45) := ⟨⟨by decide +kernel, by decide +kernel⟩, List.mem_of_getElem? (i := 1009) (by decide +kernel), List.mem_of_getElem? (i := 1208) (by decide +kernel), List.mem_of_getElem? (i := 1209) (by decide +kernel)⟩
theorem lw_p41 : lw_okq (⟨"ParcelLineModel", "doLine", "()V"⟩, 45) := ⟨⟨by decide +kernel, by decide +kernel⟩, List.mem_of_getElem? (i := 1009) (by decide +kernel), List.mem_of_getElem? (i := 1212) (by decide +kernel), List.mem_of_getElem? (i := 1213) (by decide +kernel)⟩
theorem lw_p42 : lw_okq (⟨"ParcelLineModel", "command", "()I"⟩, 45) := ⟨⟨by decide +kernel, by decide +kernel⟩, List.mem_of_getElem? (i := 1009) (by decide +kernel), List.mem_of_getElem? (i := 1216) (by decide +kernel), List.mem_of_getElem? (i := 1217) (by decide +kernel)⟩
theorem lw_p43 : lw_okq (⟨"ParcelLineModel", "ch", "(I)I"⟩, 45) := ⟨⟨by decide +kernel, by decide +kernel⟩, List.mem_of_getElem? (i := 1009) (by decide +kernel), List.mem_of_getElem? (i := 1220) (by decide +kernel), List.mem_of_getElem? (i := 1221) (by decide +kernel)⟩
theorem lw_p44 : lw_okq (⟨"ParcelLineModel", "answer", "(I)V"⟩, 45) := ⟨⟨by decide +kernel, by decide +kernel⟩, List.mem_of_getElem? (i := 1009) (by decide +kernel), List.mem_of_getElem? (i := 1224) (by decide +kernel), List.mem_of_getElem? (i := 1225) (by decide +kernel)⟩
theorem lw_p45 : lw_okq (⟨"ParcelLineModel", "answered", "(I)V"⟩, 45) := ⟨⟨by decide +kernel, by decide +kernel⟩, List.mem_of_getElem? (i := 1009) (by decide +kernel), List.mem_of_getElem? (i := 1228) (by decide +kernel), List.mem_of_getElem? (i := 1229) (by decide +kernel)⟩
theorem lw_p46 : lw_okq (⟨"ParcelLineModel", "putCode", "(I)V"⟩, 45) := ⟨⟨by decide +kernel, by decide +kernel⟩, List.mem_of_getElem? (i := 1009) (by decide +kernel), List.mem_of_getElem? (i := 1232) (by decide +kernel), List.mem_of_getElem? (i := 1233) (by decide +kernel)⟩
theorem lw_p47 : lw_okq (⟨"ParcelLineModel", "putEnd", "()V"⟩, 45) := ⟨⟨by decide +kernel, by decide +kernel⟩, List.mem_of_getElem? (i := 1009) (by decide +kernel), List.mem_of_getElem? (i := 1236) (by decide +kernel), List.mem_of_getElem? (i := 1237) (by decide +kernel)⟩
def lw_privs_3 : List (MethodName × Nat) := [(⟨"ParcelLine$Copier", "say", "(Ljava/lang/String;I)V"⟩, 9), (⟨"ParcelLine$Copier", "goTo", "(I)I"⟩, 9), (⟨"ParcelLineModel", "beginSession", "(I)V"⟩, 45), (⟨"ParcelLineModel", "endTransfer", "(I)V"⟩, 45), (⟨"ParcelLineModel", "keep", "(II)V"⟩, 45), (⟨"ParcelLineModel", "take1", "(II)V"⟩, 45), (⟨"ParcelLineModel", "hasRoom", "(II)Z"⟩, 45), (⟨"ParcelLineModel", "put", "(II)V"⟩, 45), (⟨"ParcelLineModel", "plain", "(II)V"⟩, 45), (⟨"ParcelLineModel", "doLine", "()V"⟩, 45), (⟨"ParcelLineModel", "command", "()I"⟩, 45), (⟨"ParcelLineModel", "ch", "(I)I"⟩, 45), (⟨"ParcelLineModel", "answer", "(I)V"⟩, 45), (⟨"ParcelLineModel", "answered", "(I)V"⟩, 45), (⟨"ParcelLineModel", "putCode", "(I)V"⟩, 45), (⟨"ParcelLineModel", "putEnd", "()V"⟩, 45)]
theorem lw_r3 : ∀ q ∈ lw_privs_3, lw_okq q := List.forall_mem_cons.mpr ⟨lw_p32, List.forall_mem_cons.mpr ⟨lw_p33, List.forall_mem_cons.mpr ⟨lw_p34, List.forall_mem_cons.mpr ⟨lw_p35, List.forall_mem_cons.mpr ⟨lw_p36, List.forall_mem_cons.mpr ⟨lw_p37, List.forall_mem_cons.mpr ⟨lw_p38, List.forall_mem_cons.mpr ⟨lw_p39, List.forall_mem_cons.mpr ⟨lw_p40, List.forall_mem_cons.mpr ⟨lw_p41, List.forall_mem_cons.mpr ⟨lw_p42, List.forall_mem_cons.mpr ⟨lw_p43, List.forall_mem_cons.mpr ⟨lw_p44, List.forall_mem_cons.mpr ⟨lw_p45, List.forall_mem_cons.mpr ⟨lw_p46, List.forall_mem_cons.mpr ⟨lw_p47, fun _ h => absurd h List.not_mem_nil⟩⟩⟩⟩⟩⟩⟩⟩⟩⟩⟩⟩⟩⟩⟩⟩
theorem lw_p48 : lw_okq (⟨"ParcelLineModel", "argumentGood", "(I)Z"⟩, 45) := ⟨⟨by decide +kernel, by decide +kernel⟩, List.mem_of_getElem? (i := 1009) (by decide +kernel), List.mem_of_getElem? (i := 1240) (by decide +kernel), List.mem_of_getElem? (i := 1241) (by decide +kernel)⟩
theorem lw_p49 : lw_okq (⟨"ParcelLineModel", "hasArgument", "()Z"⟩, 45) := ⟨⟨by decide +kernel, by decide +kernel⟩, List.mem_of_getElem? (i := 1009) (by decide +kernel), List.mem_of_getElem? (i := 1244) (by decide +kernel), List.mem_of_getElem? (i := 1245) (by decide +kernel)⟩
theorem lw_p50 : lw_okq (⟨"ParcelLineModel", "number", "()I"⟩, 45) := ⟨⟨by decide +kernel, by decide +kernel⟩, List.mem_of_getElem? (i := 1009) (by decide +kernel), List.mem_of_getElem? (i := 1248) (by decide +kernel), List.mem_of_getElem? (i := 1249) (by decide +kernel)⟩
theorem lw_p51 : lw_okq (⟨"ParcelLineModel", "isPathCommand", "(I)Z"⟩, 45) := ⟨⟨by decide +kernel, by decide +kernel⟩, List.mem_of_getElem? (i := 1009) (by decide +kernel), List.mem_of_getElem? (i := 1252) (by decide +kernel), List.mem_of_getElem? (i := 1253) (by decide +kernel)⟩
theorem lw_p52 : lw_okq (⟨"ParcelLineModel", "isPath", "()Z"⟩, 45) := ⟨⟨by decide +kernel, by decide +kernel⟩, List.mem_of_getElem? (i := 1009) (by decide +kernel), List.mem_of_getElem? (i := 1256) (by decide +kernel), List.mem_of_getElem? (i := 1257) (by decide +kernel)⟩
theorem lw_p53 : lw_okq (⟨"ParcelLineModel", "stepEnd", "(I)I"⟩, 45) := ⟨⟨by decide +kernel, by decide +kernel⟩, List.mem_of_getElem? (i := 1009) (by decide +kernel), List.mem_of_getElem? (i := 1260) (by decide +kernel), List.mem_of_getElem? (i := 1261) (by decide +kernel)⟩
theorem lw_p54 : lw_okq (⟨"ParcelLineModel", "doEarly", "(II)V"⟩, 45) := ⟨⟨by decide +kernel, by decide +kernel⟩, List.mem_of_getElem? (i := 1009) (by decide +kernel), List.mem_of_getElem? (i := 1267) (by decide +kernel), List.mem_of_getElem? (i := 1268) (by decide +kernel)⟩
theorem lw_p55 : lw_okq (⟨"ParcelLineModel", "says", "(III)Z"⟩, 45) := ⟨⟨by decide +kernel, by decide +kernel⟩, List.mem_of_getElem? (i := 1009) (by decide +kernel), List.mem_of_getElem? (i := 1271) (by decide +kernel), List.mem_of_getElem? (i := 1272) (by decide +kernel)⟩
theorem lw_p56 : lw_okq (⟨"ParcelLineModel", "follow", "()V"⟩, 45) := ⟨⟨by decide +kernel, by decide +kernel⟩, List.mem_of_getElem? (i := 1009) (by decide +kernel), List.mem_of_getElem? (i := 1275) (by decide +kernel), List.mem_of_getElem? (i := 1276) (by decide +kernel)⟩
theorem lw_p57 : lw_okq (⟨"ParcelLineModel", "nameAt", "(II)I"⟩, 45) := ⟨⟨by decide +kernel, by decide +kernel⟩, List.mem_of_getElem? (i := 1009) (by decide +kernel), List.mem_of_getElem? (i := 1279) (by decide +kernel), List.mem_of_getElem? (i := 1280) (by decide +kernel)⟩
theorem lw_p58 : lw_okq (⟨"ParcelLineModel", "child", "(II)I"⟩, 45) := ⟨⟨by decide +kernel, by decide +kernel⟩, List.mem_of_getElem? (i := 1009) (by decide +kernel), List.mem_of_getElem? (i := 1283) (by decide +kernel), List.mem_of_getElem? (i := 1284) (by decide +kernel)⟩
theorem lw_p59 : lw_okq (⟨"ParcelLineModel", "doTransfer", "(II)V"⟩, 45) := ⟨⟨by decide +kernel, by decide +kernel⟩, List.mem_of_getElem? (i := 1009) (by decide +kernel), List.mem_of_getElem? (i := 1287) (by decide +kernel), List.mem_of_getElem? (i := 1288) (by decide +kernel)⟩
theorem lw_p60 : lw_okq (⟨"ParcelLineModel", "retrieve", "(I)V"⟩, 45) := ⟨⟨by decide +kernel, by decide +kernel⟩, List.mem_of_getElem? (i := 1009) (by decide +kernel), List.mem_of_getElem? (i := 1291) (by decide +kernel), List.mem_of_getElem? (i := 1292) (by decide +kernel)⟩
theorem lw_p61 : lw_okq (⟨"ParcelLineModel", "written", "(I)Z"⟩, 45) := ⟨⟨by decide +kernel, by decide +kernel⟩, List.mem_of_getElem? (i := 1009) (by decide +kernel), List.mem_of_getElem? (i := 1295) (by decide +kernel), List.mem_of_getElem? (i := 1296) (by decide +kernel)⟩
theorem lw_p62 : lw_okq (⟨"ParcelLineModel", "addOut", "(I)V"⟩, 45) := ⟨⟨by decide +kernel, by decide +kernel⟩, List.mem_of_getElem? (i := 1009) (by decide +kernel), List.mem_of_getElem? (i := 1299) (by decide +kernel), List.mem_of_getElem? (i := 1300) (by decide +kernel)⟩
theorem lw_p63 : lw_okq (⟨"ParcelLineModel", "beginSending", "(I)V"⟩, 45) := ⟨⟨by decide +kernel, by decide +kernel⟩, List.mem_of_getElem? (i := 1009) (by decide +kernel), List.mem_of_getElem? (i := 1303) (by decide +kernel), List.mem_of_getElem? (i := 1304) (by decide +kernel)⟩
def lw_privs_4 : List (MethodName × Nat) := [(⟨"ParcelLineModel", "argumentGood", "(I)Z"⟩, 45), (⟨"ParcelLineModel", "hasArgument", "()Z"⟩, 45), (⟨"ParcelLineModel", "number", "()I"⟩, 45), (⟨"ParcelLineModel", "isPathCommand", "(I)Z"⟩, 45), (⟨"ParcelLineModel", "isPath", "()Z"⟩, 45), (⟨"ParcelLineModel", "stepEnd", "(I)I"⟩, 45), (⟨"ParcelLineModel", "doEarly", "(II)V"⟩, 45), (⟨"ParcelLineModel", "says", "(III)Z"⟩, 45), (⟨"ParcelLineModel", "follow", "()V"⟩, 45), (⟨"ParcelLineModel", "nameAt", "(II)I"⟩, 45), (⟨"ParcelLineModel", "child", "(II)I"⟩, 45), (⟨"ParcelLineModel", "doTransfer", "(II)V"⟩, 45), (⟨"ParcelLineModel", "retrieve", "(I)V"⟩, 45), (⟨"ParcelLineModel", "written", "(I)Z"⟩, 45), (⟨"ParcelLineModel", "addOut", "(I)V"⟩, 45), (⟨"ParcelLineModel", "beginSending", "(I)V"⟩, 45)]
theorem lw_r4 : ∀ q ∈ lw_privs_4, lw_okq q := List.forall_mem_cons.mpr ⟨lw_p48, List.forall_mem_cons.mpr ⟨lw_p49, List.forall_mem_cons.mpr ⟨lw_p50, List.forall_mem_cons.mpr ⟨lw_p51, List.forall_mem_cons.mpr ⟨lw_p52, List.forall_mem_cons.mpr ⟨lw_p53, List.forall_mem_cons.mpr ⟨lw_p54, List.forall_mem_cons.mpr ⟨lw_p55, List.forall_mem_cons.mpr ⟨lw_p56, List.forall_mem_cons.mpr ⟨lw_p57, List.forall_mem_cons.mpr ⟨lw_p58, List.forall_mem_cons.mpr ⟨lw_p59, List.forall_mem_cons.mpr ⟨lw_p60, List.forall_mem_cons.mpr ⟨lw_p61, List.forall_mem_cons.mpr ⟨lw_p62, List.forall_mem_cons.mpr ⟨lw_p63, fun _ h => absurd h List.not_mem_nil⟩⟩⟩⟩⟩⟩⟩⟩⟩⟩⟩⟩⟩⟩⟩⟩
theorem lw_p64 : lw_okq (⟨"ParcelLineModel", "finish", "(I)V"⟩, 45) := ⟨⟨by decide +kernel, by decide +kernel⟩, List.mem_of_getElem? (i := 1009) (by decide +kernel), List.mem_of_getElem? (i := 1307) (by decide +kernel), List.mem_of_getElem? (i := 1308) (by decide +kernel)⟩
theorem lw_p65 : lw_okq (⟨"ParcelLineModel", "freeNode", "()I"⟩, 45) := ⟨⟨by decide +kernel, by decide +kernel⟩, List.mem_of_getElem? (i := 1009) (by decide +kernel), List.mem_of_getElem? (i := 1311) (by decide +kernel), List.mem_of_getElem? (i := 1312) (by decide +kernel)⟩
theorem lw_p66 : lw_okq (⟨"ParcelLineModel", "moved", "(I)Z"⟩, 45) := ⟨⟨by decide +kernel, by decide +kernel⟩, List.mem_of_getElem? (i := 1009) (by decide +kernel), List.mem_of_getElem? (i := 1315) (by decide +kernel), List.mem_of_getElem? (i := 1316) (by decide +kernel)⟩
theorem lw_p67 : lw_okq (⟨"ParcelLineModel", "create", "(IZ)V"⟩, 45) := ⟨⟨by decide +kernel, by decide +kernel⟩, List.mem_of_getElem? (i := 1009) (by decide +kernel), List.mem_of_getElem? (i := 1319) (by decide +kernel), List.mem_of_getElem? (i := 1320) (by decide +kernel)⟩
theorem lw_p68 : lw_okq (⟨"ParcelLineModel", "doPath", "(II)V"⟩, 45) := ⟨⟨by decide +kernel, by decide +kernel⟩, List.mem_of_getElem? (i := 1009) (by decide +kernel), List.mem_of_getElem? (i := 1323) (by decide +kernel), List.mem_of_getElem? (i := 1324) (by decide +kernel)⟩
theorem lw_p69 : lw_okq (⟨"ParcelLineModel", "replySize", "(I)V"⟩, 45) := ⟨⟨by decide +kernel, by decide +kernel⟩, List.mem_of_getElem? (i := 1009) (by decide +kernel), List.mem_of_getElem? (i := 1327) (by decide +kernel), List.mem_of_getElem? (i := 1328) (by decide +kernel)⟩
theorem lw_p70 : lw_okq (⟨"ParcelLineModel", "deleteFile", "()I"⟩, 45) := ⟨⟨by decide +kernel, by decide +kernel⟩, List.mem_of_getElem? (i := 1009) (by decide +kernel), List.mem_of_getElem? (i := 1331) (by decide +kernel), List.mem_of_getElem? (i := 1332) (by decide +kernel)⟩
theorem lw_p71 : lw_okq (⟨"ParcelLineModel", "replyPath", "(I)V"⟩, 45) := ⟨⟨by decide +kernel, by decide +kernel⟩, List.mem_of_getElem? (i := 1009) (by decide +kernel), List.mem_of_getElem? (i := 1335) (by decide +kernel), List.mem_of_getElem? (i := 1336) (by decide +kernel)⟩
theorem lw_p72 : lw_okq (⟨"ParcelLineModel", "depth", "(I)I"⟩, 45) := ⟨⟨by decide +kernel, by decide +kernel⟩, List.mem_of_getElem? (i := 1009) (by decide +kernel), List.mem_of_getElem? (i := 1339) (by decide +kernel), List.mem_of_getElem? (i := 1340) (by decide +kernel)⟩
theorem lw_p73 : lw_okq (⟨"ParcelLineModel", "above", "(II)I"⟩, 45) := ⟨⟨by decide +kernel, by decide +kernel⟩, List.mem_of_getElem? (i := 1009) (by decide +kernel), List.mem_of_getElem? (i := 1343) (by decide +kernel), List.mem_of_getElem? (i := 1344) (by decide +kernel)⟩
theorem lw_p74 : lw_okq (⟨"ParcelLineModel", "removeDirectory", "()I"⟩, 45) := ⟨⟨by decide +kernel, by decide +kernel⟩, List.mem_of_getElem? (i := 1009) (by decide +kernel), List.mem_of_getElem? (i := 1350) (by decide +kernel), List.mem_of_getElem? (i := 1351) (by decide +kernel)⟩
theorem lw_p75 : lw_okq (⟨"ParcelLineModel", "inside", "(I)I"⟩, 45) := ⟨⟨by decide +kernel, by decide +kernel⟩, List.mem_of_getElem? (i := 1009) (by decide +kernel), List.mem_of_getElem? (i := 1354) (by decide +kernel), List.mem_of_getElem? (i := 1355) (by decide +kernel)⟩
theorem lw_p76 : lw_okq (⟨"ParcelLineModel", "renameTo", "(I)I"⟩, 45) := ⟨⟨by decide +kernel, by decide +kernel⟩, List.mem_of_getElem? (i := 1009) (by decide +kernel), List.mem_of_getElem? (i := 1358) (by decide +kernel), List.mem_of_getElem? (i := 1359) (by decide +kernel)⟩
theorem lw_p77 : lw_okq (⟨"ParcelLineModel", "isBelow", "(II)Z"⟩, 45) := ⟨⟨by decide +kernel, by decide +kernel⟩, List.mem_of_getElem? (i := 1009) (by decide +kernel), List.mem_of_getElem? (i := 1362) (by decide +kernel), List.mem_of_getElem? (i := 1363) (by decide +kernel)⟩
theorem lw_p78 : lw_okq (⟨"ParcelLineModel", "doOther", "(I)V"⟩, 45) := ⟨⟨by decide +kernel, by decide +kernel⟩, List.mem_of_getElem? (i := 1009) (by decide +kernel), List.mem_of_getElem? (i := 1366) (by decide +kernel), List.mem_of_getElem? (i := 1367) (by decide +kernel)⟩
theorem lw_p79 : lw_okq (⟨"ParcelLineModel", "sendNames", "()V"⟩, 45) := ⟨⟨by decide +kernel, by decide +kernel⟩, List.mem_of_getElem? (i := 1009) (by decide +kernel), List.mem_of_getElem? (i := 1370) (by decide +kernel), List.mem_of_getElem? (i := 1371) (by decide +kernel)⟩
def lw_privs_5 : List (MethodName × Nat) := [(⟨"ParcelLineModel", "finish", "(I)V"⟩, 45), (⟨"ParcelLineModel", "freeNode", "()I"⟩, 45), (⟨"ParcelLineModel", "moved", "(I)Z"⟩, 45), (⟨"ParcelLineModel", "create", "(IZ)V"⟩, 45), (⟨"ParcelLineModel", "doPath", "(II)V"⟩, 45), (⟨"ParcelLineModel", "replySize", "(I)V"⟩, 45), (⟨"ParcelLineModel", "deleteFile", "()I"⟩, 45), (⟨"ParcelLineModel", "replyPath", "(I)V"⟩, 45), (⟨"ParcelLineModel", "depth", "(I)I"⟩, 45), (⟨"ParcelLineModel", "above", "(II)I"⟩, 45), (⟨"ParcelLineModel", "removeDirectory", "()I"⟩, 45), (⟨"ParcelLineModel", "inside", "(I)I"⟩, 45), (⟨"ParcelLineModel", "renameTo", "(I)I"⟩, 45), (⟨"ParcelLineModel", "isBelow", "(II)Z"⟩, 45), (⟨"ParcelLineModel", "doOther", "(I)V"⟩, 45), (⟨"ParcelLineModel", "sendNames", "()V"⟩, 45)]
theorem lw_r5 : ∀ q ∈ lw_privs_5, lw_okq q := List.forall_mem_cons.mpr ⟨lw_p64, List.forall_mem_cons.mpr ⟨lw_p65, List.forall_mem_cons.mpr ⟨lw_p66, List.forall_mem_cons.mpr ⟨lw_p67, List.forall_mem_cons.mpr ⟨lw_p68, List.forall_mem_cons.mpr ⟨lw_p69, List.forall_mem_cons.mpr ⟨lw_p70, List.forall_mem_cons.mpr ⟨lw_p71, List.forall_mem_cons.mpr ⟨lw_p72, List.forall_mem_cons.mpr ⟨lw_p73, List.forall_mem_cons.mpr ⟨lw_p74, List.forall_mem_cons.mpr ⟨lw_p75, List.forall_mem_cons.mpr ⟨lw_p76, List.forall_mem_cons.mpr ⟨lw_p77, List.forall_mem_cons.mpr ⟨lw_p78, List.forall_mem_cons.mpr ⟨lw_p79, fun _ h => absurd h List.not_mem_nil⟩⟩⟩⟩⟩⟩⟩⟩⟩⟩⟩⟩⟩⟩⟩⟩
theorem lw_p80 : lw_okq (⟨"ParcelLineModel", "addToLine", "(II)V"⟩, 45) := ⟨⟨by decide +kernel, by decide +kernel⟩, List.mem_of_getElem? (i := 1009) (by decide +kernel), List.mem_of_getElem? (i := 1374) (by decide +kernel), List.mem_of_getElem? (i := 1375) (by decide +kernel)⟩
theorem lw_p81 : lw_okq (⟨"ParcelLineModel", "closeWay", "(I)V"⟩, 45) := ⟨⟨by decide +kernel, by decide +kernel⟩, List.mem_of_getElem? (i := 1009) (by decide +kernel), List.mem_of_getElem? (i := 1382) (by decide +kernel), List.mem_of_getElem? (i := 1383) (by decide +kernel)⟩
theorem lw_p82 : lw_okq (⟨"ParcelLineModel", "bringOne", "(II)V"⟩, 45) := ⟨⟨by decide +kernel, by decide +kernel⟩, List.mem_of_getElem? (i := 1009) (by decide +kernel), List.mem_of_getElem? (i := 1390) (by decide +kernel), List.mem_of_getElem? (i := 1391) (by decide +kernel)⟩
theorem lw_p83 : lw_okq (⟨"ParcelLineModel", "fail", "(I)I"⟩, 45) := ⟨⟨by decide +kernel, by decide +kernel⟩, List.mem_of_getElem? (i := 1009) (by decide +kernel), List.mem_of_getElem? (i := 1398) (by decide +kernel), List.mem_of_getElem? (i := 1399) (by decide +kernel)⟩
theorem lw_p84 : lw_okq (⟨"ParcelLineModel", "takeOne", "(I)I"⟩, 45) := ⟨⟨by decide +kernel, by decide +kernel⟩, List.mem_of_getElem? (i := 1009) (by decide +kernel), List.mem_of_getElem? (i := 1402) (by decide +kernel), List.mem_of_getElem? (i := 1403) (by decide +kernel)⟩
theorem lw_p85 : lw_okq (⟨"ParcelLineModel", "cutSession", "(I)V"⟩, 45) := ⟨⟨by decide +kernel, by decide +kernel⟩, List.mem_of_getElem? (i := 1009) (by decide +kernel), List.mem_of_getElem? (i := 1410) (by decide +kernel), List.mem_of_getElem? (i := 1411) (by decide +kernel)⟩
theorem lw_p86 : lw_okq (⟨"ParcelLineModel", "loseTry", "()V"⟩, 45) := ⟨⟨by decide +kernel, by decide +kernel⟩, List.mem_of_getElem? (i := 1009) (by decide +kernel), List.mem_of_getElem? (i := 1414) (by decide +kernel), List.mem_of_getElem? (i := 1415) (by decide +kernel)⟩
theorem lw_p87 : lw_okq (⟨"ParcelLineModel", "login", "()I"⟩, 45) := ⟨⟨by decide +kernel, by decide +kernel⟩, List.mem_of_getElem? (i := 1009) (by decide +kernel), List.mem_of_getElem? (i := 1467) (by decide +kernel), List.mem_of_getElem? (i := 1468) (by decide +kernel)⟩
theorem lw_p88 : lw_okq (⟨"ParcelLineModel", "say", "(IIII)I"⟩, 45) := ⟨⟨by decide +kernel, by decide +kernel⟩, List.mem_of_getElem? (i := 1009) (by decide +kernel), List.mem_of_getElem? (i := 1474) (by decide +kernel), List.mem_of_getElem? (i := 1475) (by decide +kernel)⟩
theorem lw_p89 : lw_okq (⟨"ParcelLineModel", "askFor", "()I"⟩, 45) := ⟨⟨by decide +kernel, by decide +kernel⟩, List.mem_of_getElem? (i := 1009) (by decide +kernel), List.mem_of_getElem? (i := 1478) (by decide +kernel), List.mem_of_getElem? (i := 1479) (by decide +kernel)⟩
theorem lw_p90 : lw_okq (⟨"ParcelLineModel", "moveByte", "()I"⟩, 45) := ⟨⟨by decide +kernel, by decide +kernel⟩, List.mem_of_getElem? (i := 1009) (by decide +kernel), List.mem_of_getElem? (i := 1482) (by decide +kernel), List.mem_of_getElem? (i := 1483) (by decide +kernel)⟩
theorem lw_p91 : lw_okq (⟨"ParcelLineModel", "putName", "()I"⟩, 45) := ⟨⟨by decide +kernel, by decide +kernel⟩, List.mem_of_getElem? (i := 1009) (by decide +kernel), List.mem_of_getElem? (i := 1486) (by decide +kernel), List.mem_of_getElem? (i := 1487) (by decide +kernel)⟩
def lw_privs_6 : List (MethodName × Nat) := [(⟨"ParcelLineModel", "addToLine", "(II)V"⟩, 45), (⟨"ParcelLineModel", "closeWay", "(I)V"⟩, 45), (⟨"ParcelLineModel", "bringOne", "(II)V"⟩, 45), (⟨"ParcelLineModel", "fail", "(I)I"⟩, 45), (⟨"ParcelLineModel", "takeOne", "(I)I"⟩, 45), (⟨"ParcelLineModel", "cutSession", "(I)V"⟩, 45), (⟨"ParcelLineModel", "loseTry", "()V"⟩, 45), (⟨"ParcelLineModel", "login", "()I"⟩, 45), (⟨"ParcelLineModel", "say", "(IIII)I"⟩, 45), (⟨"ParcelLineModel", "askFor", "()I"⟩, 45), (⟨"ParcelLineModel", "moveByte", "()I"⟩, 45), (⟨"ParcelLineModel", "putName", "()I"⟩, 45)]
theorem lw_r6 : ∀ q ∈ lw_privs_6, lw_okq q := List.forall_mem_cons.mpr ⟨lw_p80, List.forall_mem_cons.mpr ⟨lw_p81, List.forall_mem_cons.mpr ⟨lw_p82, List.forall_mem_cons.mpr ⟨lw_p83, List.forall_mem_cons.mpr ⟨lw_p84, List.forall_mem_cons.mpr ⟨lw_p85, List.forall_mem_cons.mpr ⟨lw_p86, List.forall_mem_cons.mpr ⟨lw_p87, List.forall_mem_cons.mpr ⟨lw_p88, List.forall_mem_cons.mpr ⟨lw_p89, List.forall_mem_cons.mpr ⟨lw_p90, List.forall_mem_cons.mpr ⟨lw_p91, fun _ h => absurd h List.not_mem_nil⟩⟩⟩⟩⟩⟩⟩⟩⟩⟩⟩⟩
def lw_privs : List (MethodName × Nat) := lw_privs_1 ++ (lw_privs_2 ++ (lw_privs_3 ++ (lw_privs_4 ++ (lw_privs_5 ++ (lw_privs_6)))))
def lw_tbl : List Cond := k2_sels lw_privs ++ tables_1
theorem lw_privs_ok : ∀ q ∈ lw_privs, lw_okq q := by
  show ∀ q ∈ lw_privs_1 ++ (lw_privs_2 ++ (lw_privs_3 ++ (lw_privs_4 ++ (lw_privs_5 ++ (lw_privs_6))))), lw_okq q
  exact List.forall_mem_append.mpr ⟨lw_r1, List.forall_mem_append.mpr ⟨lw_r2, List.forall_mem_append.mpr ⟨lw_r3, List.forall_mem_append.mpr ⟨lw_r4, List.forall_mem_append.mpr ⟨lw_r5, lw_r6⟩⟩⟩⟩⟩
end
section
/-! the tables of this claim in one place: classes, labels, words (written by a program of mine out of the listing) -/
abbrev MzL : Type := Nat × Nat
abbrev MzF : Type := (Nat → Nat) → (Nat → Prop) → State → Heap → Prop
def RZ0 : String := "ParcelLine"
def TZ0 : u_T := fun k => match k with
  | 0 => ("ParcelLine", "store", "LParcelLine$Store;", true)
  | 1 => ("ParcelLine", "sessions", "[LParcelLine$Session;", true)
  | 2 => ("ParcelLine", "shelves", "[LParcelLine$ByteRow;", true)
  | _ => ("ParcelLine", "copier", "LParcelLine$Copier;", true)
def yZ0 : Nat → FieldType := fun k => match k with
  | 0 => (.object "ParcelLine$Store")
  | 1 => (.array (.object "ParcelLine$Session"))
  | 2 => (.array (.object "ParcelLine$ByteRow"))
  | _ => (.object "ParcelLine$Copier")
def RZ1 : String := "ParcelLine$Store"
def TZ1 : u_T := fun k => match k with
  | 0 => ("ParcelLine$Store", "nodes", "[LParcelLine$Node;", true)
  | _ => ("ParcelLine$Store", "currents", "[I", true)
def yZ1 : Nat → FieldType := fun k => match k with
  | 0 => (.array (.object "ParcelLine$Node"))
  | _ => (.array .int)
def RZ2 : String := "ParcelLine$Node"
def TZ2 : u_T := fun k => match k with
  | 0 => ("ParcelLine$Node", "bytes", "LParcelLine$ByteRow;", true)
  | 1 => ("ParcelLine$Node", "kind", "I", false)
  | 2 => ("ParcelLine$Node", "parent", "I", false)
  | 3 => ("ParcelLine$Node", "name", "I", false)
  | 4 => ("ParcelLine$Node", "readers", "I", false)
  | 5 => ("ParcelLine$Node", "isWritten", "Z", false)
  | _ => ("ParcelLine$Node", "isUnsafe", "Z", false)
def yZ2 : Nat → FieldType := fun k => match k with
  | 0 => (.object "ParcelLine$ByteRow")
  | 1 => .int
  | 2 => .int
  | 3 => .int
  | 4 => .int
  | 5 => .boolean
  | _ => .boolean
def RZ3 : String := "ParcelLine$ByteRow"
def TZ3 : u_T := fun k => match k with
  | 0 => ("ParcelLine$ByteRow", "cells", "[I", true)
  | _ => ("ParcelLine$ByteRow", "count", "I", false)
def yZ3 : Nat → FieldType := fun k => match k with
  | 0 => (.array .int)
  | _ => .int
def RZ4 : String := "ParcelLine$Session"
def TZ4 : u_T := fun k => match k with
  | 0 => ("ParcelLine$Session", "me", "I", true)
  | 1 => ("ParcelLine$Session", "store", "LParcelLine$Store;", true)
  | 2 => ("ParcelLine$Session", "replies", "LParcelLine$Replies;", true)
  | 3 => ("ParcelLine$Session", "reader", "LParcelLine$LineReader;", true)
  | 4 => ("ParcelLine$Session", "path", "LParcelLine$Path;", true)
  | 5 => ("ParcelLine$Session", "way", "LParcelLine$DataWay;", true)
  | 6 => ("ParcelLine$Session", "lineage", "[I", true)
  | 7 => ("ParcelLine$Session", "user", "I", false)
  | 8 => ("ParcelLine$Session", "isAscii", "Z", false)
  | 9 => ("ParcelLine$Session", "named", "I", false)
  | 10 => ("ParcelLine$Session", "renaming", "I", false)
  | 11 => ("ParcelLine$Session", "offset", "I", false)
  | 12 => ("ParcelLine$Session", "target", "I", false)
  | 13 => ("ParcelLine$Session", "place", "I", false)
  | 14 => ("ParcelLine$Session", "number", "I", false)
  | 15 => ("ParcelLine$Session", "shown", "I", false)
  | _ => ("ParcelLine$Session", "answered", "I", false)
def yZ4 : Nat → FieldType := fun k => match k with
  | 0 => .int
  | 1 => (.object "ParcelLine$Store")
  | 2 => (.object "ParcelLine$Replies")
  | 3 => (.object "ParcelLine$LineReader")
  | 4 => (.object "ParcelLine$Path")
  | 5 => (.object "ParcelLine$DataWay")
  | 6 => (.array .int)
  | 7 => .int
  | 8 => .boolean
  | 9 => .int
  | 10 => .int
  | 11 => .int
  | 12 => .int
  | 13 => .int
  | 14 => .int
  | 15 => .int
  | _ => .int
def RZ5 : String := "ParcelLine$Replies"
def TZ5 : u_T := fun k => match k with
  | 0 => ("ParcelLine$Replies", "ring", "[I", true)
  | 1 => ("ParcelLine$Replies", "first", "I", false)
  | 2 => ("ParcelLine$Replies", "count", "I", false)
  | 3 => ("ParcelLine$Replies", "draft", "[I", true)
  | _ => ("ParcelLine$Replies", "length", "I", false)
def yZ5 : Nat → FieldType := fun k => match k with
  | 0 => (.array .int)
  | 1 => .int
  | 2 => .int
  | 3 => (.array .int)
  | _ => .int
def RZ6 : String := "ParcelLine$LineReader"
def TZ6 : u_T := fun k => match k with
  | 0 => ("ParcelLine$LineReader", "replies", "LParcelLine$Replies;", true)
  | 1 => ("ParcelLine$LineReader", "line", "[I", true)
  | 2 => ("ParcelLine$LineReader", "length", "I", false)
  | 3 => ("ParcelLine$LineReader", "isTooLong", "Z", false)
  | 4 => ("ParcelLine$LineReader", "order", "I", false)
  | 5 => ("ParcelLine$LineReader", "isReturnSeen", "Z", false)
  | _ => ("ParcelLine$LineReader", "commandLength", "I", false)
def yZ6 : Nat → FieldType := fun k => match k with
  | 0 => (.object "ParcelLine$Replies")
  | 1 => (.array .int)
  | 2 => .int
  | 3 => .boolean
  | 4 => .int
  | 5 => .boolean
  | _ => .int
def RZ7 : String := "ParcelLine$Path"
def TZ7 : u_T := fun k => match k with
  | 0 => ("ParcelLine$Path", "steps", "[I", true)
  | 1 => ("ParcelLine$Path", "count", "I", false)
  | 2 => ("ParcelLine$Path", "isFromRoot", "Z", false)
  | _ => ("ParcelLine$Path", "isValid", "Z", false)
def yZ7 : Nat → FieldType := fun k => match k with
  | 0 => (.array .int)
  | 1 => .int
  | 2 => .boolean
  | _ => .boolean
def RZ8 : String := "ParcelLine$DataWay"
def TZ8 : u_T := fun k => match k with
  | 0 => ("ParcelLine$DataWay", "isOpen", "Z", false)
  | 1 => ("ParcelLine$DataWay", "mode", "I", false)
  | 2 => ("ParcelLine$DataWay", "isAscii", "Z", false)
  | 3 => ("ParcelLine$DataWay", "isReturnWaiting", "Z", false)
  | 4 => ("ParcelLine$DataWay", "file", "LParcelLine$Node;", false)
  | 5 => ("ParcelLine$DataWay", "row", "[I", true)
  | 6 => ("ParcelLine$DataWay", "next", "I", false)
  | _ => ("ParcelLine$DataWay", "length", "I", false)
def yZ8 : Nat → FieldType := fun k => match k with
  | 0 => .boolean
  | 1 => .int
  | 2 => .boolean
  | 3 => .boolean
  | 4 => (.object "ParcelLine$Node")
  | 5 => (.array .int)
  | 6 => .int
  | _ => .int
def RZ9 : String := "ParcelLine$Copier"
def TZ9 : u_T := fun k => match k with
  | 0 => ("ParcelLine$Copier", "session", "LParcelLine$Session;", true)
  | 1 => ("ParcelLine$Copier", "shelf", "LParcelLine$ByteRow;", false)
  | 2 => ("ParcelLine$Copier", "isOn", "Z", false)
  | 3 => ("ParcelLine$Copier", "isBringing", "Z", false)
  | 4 => ("ParcelLine$Copier", "name", "I", false)
  | 5 => ("ParcelLine$Copier", "tries", "I", false)
  | 6 => ("ParcelLine$Copier", "next", "I", false)
  | 7 => ("ParcelLine$Copier", "isLost", "Z", false)
  | _ => ("ParcelLine$Copier", "size", "I", false)
def yZ9 : Nat → FieldType := fun k => match k with
  | 0 => (.object "ParcelLine$Session")
  | 1 => (.object "ParcelLine$ByteRow")
  | 2 => .boolean
  | 3 => .boolean
  | 4 => .int
  | 5 => .int
  | 6 => .int
  | 7 => .boolean
  | _ => .int
def RZ10 : String := "ParcelLineModel"
def TZ10 : u_T := fun k => match k with
  | 0 => ("ParcelLineModel", "words", "[I", true)
  | 1 => ("ParcelLineModel", "code", "I", false)
  | 2 => ("ParcelLineModel", "there", "[Z", true)
  | 3 => ("ParcelLineModel", "isFile", "[Z", true)
  | 4 => ("ParcelLineModel", "within", "[I", true)
  | 5 => ("ParcelLineModel", "name", "[I", true)
  | 6 => ("ParcelLineModel", "size", "[I", true)
  | 7 => ("ParcelLineModel", "sure", "[Z", true)
  | 8 => ("ParcelLineModel", "bytes", "[I", true)
  | 9 => ("ParcelLineModel", "order", "[I", true)
  | 10 => ("ParcelLineModel", "turned", "[Z", true)
  | 11 => ("ParcelLineModel", "length", "[I", true)
  | 12 => ("ParcelLineModel", "tooLong", "[Z", true)
  | 13 => ("ParcelLineModel", "line", "[I", true)
  | 14 => ("ParcelLineModel", "waits", "[I", true)
  | 15 => ("ParcelLineModel", "replies", "[I", true)
  | 16 => ("ParcelLineModel", "who", "[I", true)
  | 17 => ("ParcelLineModel", "named", "[I", true)
  | 18 => ("ParcelLineModel", "renames", "[I", true)
  | 19 => ("ParcelLineModel", "offset", "[I", true)
  | 20 => ("ParcelLineModel", "at", "[I", true)
  | 21 => ("ParcelLineModel", "letters", "[Z", true)
  | 22 => ("ParcelLineModel", "open", "[Z", true)
  | 23 => ("ParcelLineModel", "runs", "[I", true)
  | 24 => ("ParcelLineModel", "file", "[I", true)
  | 25 => ("ParcelLineModel", "held", "[Z", true)
  | 26 => ("ParcelLineModel", "outs", "[I", true)
  | 27 => ("ParcelLineModel", "sent", "[I", true)
  | 28 => ("ParcelLineModel", "out", "[I", true)
  | 29 => ("ParcelLineModel", "s", "I", false)
  | 30 => ("ParcelLineModel", "firstAnswer", "I", false)
  | 31 => ("ParcelLineModel", "told", "I", false)
  | 32 => ("ParcelLineModel", "begin", "I", false)
  | 33 => ("ParcelLineModel", "leads", "I", false)
  | 34 => ("ParcelLineModel", "place", "I", false)
  | 35 => ("ParcelLineModel", "newName", "I", false)
  | 36 => ("ParcelLineModel", "kept", "[I", true)
  | 37 => ("ParcelLineModel", "shelves", "[I", true)
  | 38 => ("ParcelLineModel", "on", "Z", false)
  | 39 => ("ParcelLineModel", "brings", "Z", false)
  | 40 => ("ParcelLineModel", "shelf", "I", false)
  | 41 => ("ParcelLineModel", "title", "I", false)
  | 42 => ("ParcelLineModel", "tries", "I", false)
  | 43 => ("ParcelLineModel", "next", "I", false)
  | _ => ("ParcelLineModel", "expected", "I", false)
def yZ10 : Nat → FieldType := fun k => match k with
  | 0 => (.array .int)
  | 1 => .int
  | 2 => (.array .boolean)
  | 3 => (.array .boolean)
  | 4 => (.array .int)
  | 5 => (.array .int)
  | 6 => (.array .int)
  | 7 => (.array .boolean)
  | 8 => (.array .int)
  | 9 => (.array .int)
  | 10 => (.array .boolean)
  | 11 => (.array .int)
  | 12 => (.array .boolean)
  | 13 => (.array .int)
  | 14 => (.array .int)
  | 15 => (.array .int)
  | 16 => (.array .int)
  | 17 => (.array .int)
  | 18 => (.array .int)
  | 19 => (.array .int)
  | 20 => (.array .int)
  | 21 => (.array .boolean)
  | 22 => (.array .boolean)
  | 23 => (.array .int)
  | 24 => (.array .int)
  | 25 => (.array .boolean)
  | 26 => (.array .int)
  | 27 => (.array .int)
  | 28 => (.array .int)
  | 29 => .int
  | 30 => .int
  | 31 => .int
  | 32 => .int
  | 33 => .int
  | 34 => .int
  | 35 => .int
  | 36 => (.array .int)
  | 37 => (.array .int)
  | 38 => .boolean
  | 39 => .boolean
  | 40 => .int
  | 41 => .int
  | 42 => .int
  | 43 => .int
  | _ => .int
def vwCl : List vw_C := [(RZ0, TZ0, 4), (RZ1, TZ1, 2), (RZ2, TZ2, 7), (RZ3, TZ3, 2), (RZ4, TZ4, 17), (RZ5, TZ5, 5), (RZ6, TZ6, 7), (RZ7, TZ7, 4), (RZ8, TZ8, 8), (RZ9, TZ9, 9), (RZ10, TZ10, 45)]
def mzN (ci : Nat) : Nat := match ci with
  | 0 => 4
  | 1 => 2
  | 2 => 7
  | 3 => 2
  | 4 => 17
  | 5 => 5
  | 6 => 7
  | 7 => 4
  | 8 => 8
  | 9 => 9
  | 10 => 45
  | _ => 0
def mzIsR (ci k : Nat) : Bool := match ci, k with
  | 0, 0 => true
  | 0, 1 => true
  | 0, 2 => true
  | 0, 3 => true
  | 1, 0 => true
  | 1, 1 => true
  | 2, 0 => true
  | 3, 0 => true
  | 4, 1 => true
  | 4, 2 => true
  | 4, 3 => true
  | 4, 4 => true
  | 4, 5 => true
  | 4, 6 => true
  | 5, 0 => true
  | 5, 3 => true
  | 6, 0 => true
  | 6, 1 => true
  | 7, 0 => true
  | 8, 4 => true
  | 8, 5 => true
  | 9, 0 => true
  | 9, 1 => true
  | 10, 0 => true
  | 10, 2 => true
  | 10, 3 => true
  | 10, 4 => true
  | 10, 5 => true
  | 10, 6 => true
  | 10, 7 => true
  | 10, 8 => true
  | 10, 9 => true
  | 10, 10 => true
  | 10, 11 => true
  | 10, 12 => true
  | 10, 13 => true
  | 10, 14 => true
  | 10, 15 => true
  | 10, 16 => true
  | 10, 17 => true
  | 10, 18 => true
  | 10, 19 => true
  | 10, 20 => true
  | 10, 21 => true
  | 10, 22 => true
  | 10, 23 => true
  | 10, 24 => true
  | 10, 25 => true
  | 10, 26 => true
  | 10, 27 => true
  | 10, 28 => true
  | 10, 36 => true
  | 10, 37 => true
  | _, _ => false
def mzKd (i : MzL) : Nat ⊕ (FieldType × Nat) := match i.1 with
  | 0 => .inl 0
  | 1 => .inl 1
  | 2 => .inr ((.object "ParcelLine$Node"), 16)
  | 3 => .inl 2
  | 4 => .inl 3
  | 5 => .inr (.int, 24)
  | 6 => .inr (.int, 2)
  | 7 => .inr ((.object "ParcelLine$Session"), 2)
  | 8 => .inl 4
  | 9 => .inl 5
  | 10 => .inr (.int, 200)
  | 11 => .inr (.int, 66)
  | 12 => .inl 6
  | 13 => .inr (.int, 30)
  | 14 => .inl 7
  | 15 => .inr (.int, 30)
  | 16 => .inl 8
  | 17 => .inr (.int, 75)
  | 18 => .inr (.int, 16)
  | 19 => .inr ((.object "ParcelLine$ByteRow"), 3)
  | 20 => .inl 3
  | 21 => .inr (.int, 24)
  | 22 => .inl 9
  | 30 => .inl 10
  | 31 => .inr (.int, 22)
  | 32 => .inr (.boolean, 16)
  | 33 => .inr (.boolean, 16)
  | 34 => .inr (.int, 16)
  | 35 => .inr (.int, 16)
  | 36 => .inr (.int, 16)
  | 37 => .inr (.boolean, 16)
  | 38 => .inr (.int, 384)
  | 39 => .inr (.int, 2)
  | 40 => .inr (.boolean, 2)
  | 41 => .inr (.int, 2)
  | 42 => .inr (.boolean, 2)
  | 43 => .inr (.int, 60)
  | 44 => .inr (.int, 2)
  | 45 => .inr (.int, 400)
  | 46 => .inr (.int, 2)
  | 47 => .inr (.int, 2)
  | 48 => .inr (.int, 2)
  | 49 => .inr (.int, 2)
  | 50 => .inr (.int, 2)
  | 51 => .inr (.boolean, 2)
  | 52 => .inr (.boolean, 2)
  | 53 => .inr (.int, 2)
  | 54 => .inr (.int, 2)
  | 55 => .inr (.boolean, 2)
  | 56 => .inr (.int, 2)
  | 57 => .inr (.int, 2)
  | 58 => .inr (.int, 192)
  | 59 => .inr (.int, 3)
  | 60 => .inr (.int, 72)
  | _ => .inl 99
def mzCnt (t : Nat) : Nat := match t with
  | 0 => 1
  | 1 => 1
  | 2 => 1
  | 3 => 16
  | 4 => 16
  | 5 => 16
  | 6 => 1
  | 7 => 1
  | 8 => 2
  | 9 => 2
  | 10 => 2
  | 11 => 2
  | 12 => 2
  | 13 => 2
  | 14 => 2
  | 15 => 2
  | 16 => 2
  | 17 => 2
  | 18 => 2
  | 19 => 1
  | 20 => 3
  | 21 => 3
  | 22 => 1
  | 30 => 1
  | 31 => 1
  | 32 => 1
  | 33 => 1
  | 34 => 1
  | 35 => 1
  | 36 => 1
  | 37 => 1
  | 38 => 1
  | 39 => 1
  | 40 => 1
  | 41 => 1
  | 42 => 1
  | 43 => 1
  | 44 => 1
  | 45 => 1
  | 46 => 1
  | 47 => 1
  | 48 => 1
  | 49 => 1
  | 50 => 1
  | 51 => 1
  | 52 => 1
  | 53 => 1
  | 54 => 1
  | 55 => 1
  | 56 => 1
  | 57 => 1
  | 58 => 1
  | 59 => 1
  | 60 => 1
  | _ => 0
def mzLk (i : MzL) (k : Nat) : Option MzL := match i.1, k with
  | 0, 0 => some (1, 0)
  | 0, 1 => some (7, 0)
  | 0, 2 => some (19, 0)
  | 0, 3 => some (22, 0)
  | 1, 0 => some (2, 0)
  | 1, 1 => some (6, 0)
  | 3, 0 => some (4, i.2)
  | 4, 0 => some (5, i.2)
  | 8, 1 => some (1, 0)
  | 8, 2 => some (9, i.2)
  | 8, 3 => some (12, i.2)
  | 8, 4 => some (14, i.2)
  | 8, 5 => some (16, i.2)
  | 8, 6 => some (18, i.2)
  | 9, 0 => some (10, i.2)
  | 9, 3 => some (11, i.2)
  | 12, 0 => some (9, i.2)
  | 12, 1 => some (13, i.2)
  | 14, 0 => some (15, i.2)
  | 16, 5 => some (17, i.2)
  | 20, 0 => some (21, i.2)
  | 22, 0 => some (8, 1)
  | 30, 0 => some (31, 0)
  | 30, 2 => some (32, 0)
  | 30, 3 => some (33, 0)
  | 30, 4 => some (34, 0)
  | 30, 5 => some (35, 0)
  | 30, 6 => some (36, 0)
  | 30, 7 => some (37, 0)
  | 30, 8 => some (38, 0)
  | 30, 9 => some (39, 0)
  | 30, 10 => some (40, 0)
  | 30, 11 => some (41, 0)
  | 30, 12 => some (42, 0)
  | 30, 13 => some (43, 0)
  | 30, 14 => some (44, 0)
  | 30, 15 => some (45, 0)
  | 30, 16 => some (46, 0)
  | 30, 17 => some (47, 0)
  | 30, 18 => some (48, 0)
  | 30, 19 => some (49, 0)
  | 30, 20 => some (50, 0)
  | 30, 21 => some (51, 0)
  | 30, 22 => some (52, 0)
  | 30, 23 => some (53, 0)
  | 30, 24 => some (54, 0)
  | 30, 25 => some (55, 0)
  | 30, 26 => some (56, 0)
  | 30, 27 => some (57, 0)
  | 30, 28 => some (58, 0)
  | 30, 36 => some (59, 0)
  | 30, 37 => some (60, 0)
  | 2, j => if j < 16 then some (3, j) else none
  | 7, j => if j < 2 then some (8, j) else none
  | 19, j => if j < 3 then some (20, j) else none
  | _, _ => none
theorem mzLk_2 {j : Nat} (h : j < 16) : mzLk (2, 0) j = some (3, j) := by simp [mzLk, h]
theorem mzLk_7 {j : Nat} (h : j < 2) : mzLk (7, 0) j = some (8, j) := by simp [mzLk, h]
theorem mzLk_19 {j : Nat} (h : j < 3) : mzLk (19, 0) j = some (20, j) := by simp [mzLk, h]
def mzAll : List Cond := lw_tbl.filter goodWord
theorem mzAll_good : ∀ w ∈ mzAll, (w.onTables && w.keeps) = true ∨ ∃ ty, w = .arrayClass ty := fun w h => good_of_word (List.mem_filter.mp h).2
theorem mz_t1 {w : Cond} (h : w ∈ tables_1_1) (g : goodWord w = true) : w ∈ mzAll := List.mem_filter.mpr ⟨List.mem_append_right _ (List.mem_append_left _ h), g⟩
theorem mz_t2 {w : Cond} (h : w ∈ tables_1_2) (g : goodWord w = true) : w ∈ mzAll := List.mem_filter.mpr ⟨List.mem_append_right _ (List.mem_append_right _ (List.mem_append_left _ h)), g⟩
theorem mz_t3 {w : Cond} (h : w ∈ tables_1_3) (g : goodWord w = true) : w ∈ mzAll := List.mem_filter.mpr ⟨List.mem_append_right _ (List.mem_append_right _ (List.mem_append_right _ (List.mem_append_left _ h))), g⟩
theorem mz_t4 {w : Cond} (h : w ∈ tables_1_4) (g : goodWord w = true) : w ∈ mzAll := List.mem_filter.mpr ⟨List.mem_append_right _ (List.mem_append_right _ (List.mem_append_right _ (List.mem_append_right _ (List.mem_append_left _ h)))), g⟩
theorem mz_t5 {w : Cond} (h : w ∈ tables_1_5) (g : goodWord w = true) : w ∈ mzAll := List.mem_filter.mpr ⟨List.mem_append_right _ (List.mem_append_right _ (List.mem_append_right _ (List.mem_append_right _ (List.mem_append_right _ (List.mem_append_left _ h))))), g⟩
theorem mz_t6 {w : Cond} (h : w ∈ tables_1_6) (g : goodWord w = true) : w ∈ mzAll := List.mem_filter.mpr ⟨List.mem_append_right _ (List.mem_append_right _ (List.mem_append_right _ (List.mem_append_right _ (List.mem_append_right _ (List.mem_append_right _ (List.mem_append_left _ h)))))), g⟩
theorem mz_t7 {w : Cond} (h : w ∈ tables_1_7) (g : goodWord w = true) : w ∈ mzAll := List.mem_filter.mpr ⟨List.mem_append_right _ (List.mem_append_right _ (List.mem_append_right _ (List.mem_append_right _ (List.mem_append_right _ (List.mem_append_right _ (List.mem_append_right _ h)))))), g⟩
theorem mz_tp {w : Cond} (h : w ∈ k2_sels lw_privs) (g : goodWord w = true) : w ∈ mzAll := List.mem_filter.mpr ⟨List.mem_append_left _ h, g⟩
def mzNest : List Cond := [(Jvm.Cond.fieldLinkNest "ParcelLine$DataWay" (35 : Nat) "ParcelLine$ByteRow" "count" "I" "ParcelLine"), (Jvm.Cond.fieldLinkNest "ParcelLine$Copier" (85 : Nat) "ParcelLine$ByteRow" "count" "I" "ParcelLine"), (Jvm.Cond.fieldLinkNest "ParcelLine$Store" (62 : Nat) "ParcelLine$ByteRow" "count" "I" "ParcelLine"), (Jvm.Cond.fieldLinkNest "ParcelLine" (132 : Nat) "ParcelLine$ByteRow" "count" "I" "ParcelLine"), (Jvm.Cond.fieldLinkNest "ParcelLine$Session" (339 : Nat) "ParcelLine$ByteRow" "count" "I" "ParcelLine"), (Jvm.Cond.fieldLinkNest "ParcelLine$DataWay" (31 : Nat) "ParcelLine$Node" "bytes" "LParcelLine$ByteRow;" "ParcelLine"), (Jvm.Cond.fieldLinkNest "ParcelLine$Store" (58 : Nat) "ParcelLine$Node" "bytes" "LParcelLine$ByteRow;" "ParcelLine"), (Jvm.Cond.fieldLinkNest "ParcelLine" (128 : Nat) "ParcelLine$Node" "bytes" "LParcelLine$ByteRow;" "ParcelLine"), (Jvm.Cond.fieldLinkNest "ParcelLine$Copier" (121 : Nat) "ParcelLine$Node" "bytes" "LParcelLine$ByteRow;" "ParcelLine"), (Jvm.Cond.fieldLinkNest "ParcelLine$Session" (335 : Nat) "ParcelLine$Node" "bytes" "LParcelLine$ByteRow;" "ParcelLine"), (Jvm.Cond.fieldLinkNest "ParcelLine$Store" (18 : Nat) "ParcelLine$Node" "kind" "I" "ParcelLine"), (Jvm.Cond.fieldLinkNest "ParcelLine" (125 : Nat) "ParcelLine$Node" "kind" "I" "ParcelLine"), (Jvm.Cond.fieldLinkNest "ParcelLine$Session" (357 : Nat) "ParcelLine$Node" "kind" "I" "ParcelLine"), (Jvm.Cond.fieldLinkNest "ParcelLine$Store" (22 : Nat) "ParcelLine$Node" "parent" "I" "ParcelLine"), (Jvm.Cond.fieldLinkNest "ParcelLine" (120 : Nat) "ParcelLine$Node" "parent" "I" "ParcelLine"), (Jvm.Cond.fieldLinkNest "ParcelLine$Session" (373 : Nat) "ParcelLine$Node" "parent" "I" "ParcelLine"), (Jvm.Cond.fieldLinkNest "ParcelLine$Store" (36 : Nat) "ParcelLine$Node" "name" "I" "ParcelLine"), (Jvm.Cond.fieldLinkNest "ParcelLine$Session" (194 : Nat) "ParcelLine$Node" "name" "I" "ParcelLine"), (Jvm.Cond.fieldLinkNest "ParcelLine" (137 : Nat) "ParcelLine$Node" "name" "I" "ParcelLine"), (Jvm.Cond.fieldLinkNest "ParcelLine$DataWay" (26 : Nat) "ParcelLine$Node" "readers" "I" "ParcelLine"), (Jvm.Cond.fieldLinkNest "ParcelLine$DataWay" (52 : Nat) "ParcelLine$Node" "isWritten" "Z" "ParcelLine"), (Jvm.Cond.fieldLinkNest "ParcelLine$Session" (342 : Nat) "ParcelLine$Node" "isWritten" "Z" "ParcelLine"), (Jvm.Cond.fieldLinkNest "ParcelLine$DataWay" (55 : Nat) "ParcelLine$Node" "isUnsafe" "Z" "ParcelLine"), (Jvm.Cond.fieldLinkNest "ParcelLine$Session" (159 : Nat) "ParcelLine$Node" "isUnsafe" "Z" "ParcelLine"), (Jvm.Cond.fieldLinkNest "ParcelLine$Store" (65 : Nat) "ParcelLine$Node" "isUnsafe" "Z" "ParcelLine"), (Jvm.Cond.fieldLinkNest "ParcelLine$Session" (190 : Nat) "ParcelLine$Store" "nodes" "[LParcelLine$Node;" "ParcelLine"), (Jvm.Cond.fieldLinkNest "ParcelLine" (116 : Nat) "ParcelLine$Store" "nodes" "[LParcelLine$Node;" "ParcelLine"), (Jvm.Cond.fieldLinkNest "ParcelLine$Session" (143 : Nat) "ParcelLine$Store" "currents" "[I" "ParcelLine"), (Jvm.Cond.fieldLinkNest "ParcelLine" (146 : Nat) "ParcelLine$Store" "currents" "[I" "ParcelLine"), (Jvm.Cond.fieldLinkNest "ParcelLine" (105 : Nat) "ParcelLine$Replies" "count" "I" "ParcelLine"), (Jvm.Cond.fieldLinkNest "ParcelLine$Session" (69 : Nat) "ParcelLine$LineReader" "line" "[I" "ParcelLine"), (Jvm.Cond.fieldLinkNest "ParcelLine$Session" (75 : Nat) "ParcelLine$LineReader" "length" "I" "ParcelLine"), (Jvm.Cond.fieldLinkNest "ParcelLine$Session" (213 : Nat) "ParcelLine$LineReader" "isTooLong" "Z" "ParcelLine"), (Jvm.Cond.fieldLinkNest "ParcelLine$Session" (72 : Nat) "ParcelLine$LineReader" "commandLength" "I" "ParcelLine"), (Jvm.Cond.fieldLinkNest "ParcelLine$Store" (51 : Nat) "ParcelLine$Path" "steps" "[I" "ParcelLine"), (Jvm.Cond.fieldLinkNest "ParcelLine$Store" (45 : Nat) "ParcelLine$Path" "count" "I" "ParcelLine"), (Jvm.Cond.fieldLinkNest "ParcelLine$Session" (247 : Nat) "ParcelLine$Path" "count" "I" "ParcelLine"), (Jvm.Cond.fieldLinkNest "ParcelLine$Store" (39 : Nat) "ParcelLine$Path" "isFromRoot" "Z" "ParcelLine"), (Jvm.Cond.fieldLinkNest "ParcelLine$Session" (237 : Nat) "ParcelLine$Path" "isValid" "Z" "ParcelLine"), (Jvm.Cond.fieldLinkNest "ParcelLine" (60 : Nat) "ParcelLine$DataWay" "isOpen" "Z" "ParcelLine"), (Jvm.Cond.fieldLinkNest "ParcelLine$Session" (278 : Nat) "ParcelLine$DataWay" "isOpen" "Z" "ParcelLine"), (Jvm.Cond.fieldLinkNest "ParcelLine" (74 : Nat) "ParcelLine$DataWay" "mode" "I" "ParcelLine"), (Jvm.Cond.fieldLinkNest "ParcelLine$Session" (152 : Nat) "ParcelLine$DataWay" "mode" "I" "ParcelLine"), (Jvm.Cond.fieldLinkNest "ParcelLine$Copier" (106 : Nat) "ParcelLine$DataWay" "mode" "I" "ParcelLine"), (Jvm.Cond.fieldLinkNest "ParcelLine$Session" (155 : Nat) "ParcelLine$DataWay" "file" "LParcelLine$Node;" "ParcelLine"), (Jvm.Cond.fieldLinkNest "ParcelLine$Copier" (117 : Nat) "ParcelLine$DataWay" "file" "LParcelLine$Node;" "ParcelLine"), (Jvm.Cond.fieldLinkNest "ParcelLine" (101 : Nat) "ParcelLine$Session" "replies" "LParcelLine$Replies;" "ParcelLine"), (Jvm.Cond.fieldLinkNest "ParcelLine" (56 : Nat) "ParcelLine$Session" "way" "LParcelLine$DataWay;" "ParcelLine"), (Jvm.Cond.fieldLinkNest "ParcelLine$Copier" (102 : Nat) "ParcelLine$Session" "way" "LParcelLine$DataWay;" "ParcelLine"), (Jvm.Cond.fieldLinkNest "ParcelLine$Copier" (82 : Nat) "ParcelLine$Session" "number" "I" "ParcelLine"), (Jvm.Cond.fieldLinkNest "ParcelLine$Copier" (76 : Nat) "ParcelLine$Session" "answered" "I" "ParcelLine"), (Jvm.Cond.fieldLinkNest "ParcelLine" (153 : Nat) "ParcelLine$Copier" "isOn" "Z" "ParcelLine"), (Jvm.Cond.fieldLinkNest "ParcelLine" (188 : Nat) "ParcelLine$Copier" "isBringing" "Z" "ParcelLine"), (Jvm.Cond.fieldLinkNest "ParcelLine" (182 : Nat) "ParcelLine$Copier" "next" "I" "ParcelLine"), (Jvm.Cond.fieldLinkNest "ParcelLine" (176 : Nat) "ParcelLine$Copier" "isLost" "Z" "ParcelLine"), (Jvm.Cond.methodLinkNest "ParcelLine$Path" (34 : Nat) ({ cls := "ParcelLine", name := "isNameByte", desc := "(I)Z" } : Jvm.MethodName) "ParcelLine"), (Jvm.Cond.fieldLinkNest "ParcelLine$Session" (201 : Nat) "ParcelLine$Command" "ALL" "[LParcelLine$Command;" "ParcelLine"), (Jvm.Cond.fieldLinkNest "ParcelLine$Session" (205 : Nat) "ParcelLine$Command" "word" "Ljava/lang/String;" "ParcelLine"), (Jvm.Cond.fieldLinkNest "ParcelLine$Session" (93 : Nat) "ParcelLine$Command" "argument" "I" "ParcelLine"), (Jvm.Cond.fieldLinkNest "ParcelLine$Session" (219 : Nat) "ParcelLine$Command" "who" "I" "ParcelLine"), (Jvm.Cond.fieldLinkNest "ParcelLine$Session" (222 : Nat) "ParcelLine$Command" "duringTransfer" "Z" "ParcelLine")]
def mzNw (w : Cond) : MzF := fun _ _ U _ => va_Nw w U
def mzAo (C : String) : MzF := fun _ _ U _ => va_AO C U
def mzCmdN : List String := ["USER", "PASS", "QUIT", "NOOP", "TYPE", "PWD", "CWD", "CDUP", "SIZE", "PASV", "REST", "RETR", "STOR", "APPE", "NLST", "ABOR", "DELE", "MKD", "RMD", "RNFR", "RNTO"]
def mzCmdW : List Nat := [25, 26, 27, 28, 29, 30, 31, 32, 33, 34, 24, 35, 36, 37, 38, 39, 40, 41, 42, 23, 43]
def mzCmdA : List Int32 := [1, 1, 0, 0, 2, 0, 4, 0, 4, 0, 3, 4, 4, 4, 0, 0, 4, 4, 4, 4, 4]
def mzCmdWho : List Int32 := [0, 0, 0, 0, 1, 1, 1, 1, 1, 1, 1, 1, 2, 2, 1, 1, 2, 2, 2, 2, 2]
def mzCmdD : List Int32 := [0, 0, 1, 1, 0, 0, 0, 0, 0, 0, 0, 0, 0, 0, 0, 1, 0, 0, 0, 0, 0]
def mzSw : List Int32 := [1, 2, 3, 4, 5, 6, 12, 7, 13, 8, 9, 14, 15, 16, 10, 11, 17, 18, 19, 20, 21]
def mzStrO : List (String × Nat × String) := [("ParcelLine$Session", 228, "A"), ("ParcelLine$Session", 233, "I"), ("ParcelLine$Session", 317, "adm"), ("ParcelLine$Session", 319, "any"), ("ParcelLine$Session", 321, "key"), ("ParcelLine", 51, "there is no such session"), ("ParcelLine", 68, "the data way is not open"), ("ParcelLine", 78, "no transfer receives"), ("ParcelLine", 85, "no transfer sends"), ("ParcelLine", 163, "no such shelf, name or number of tries"), ("ParcelLine", 165, "a job is on"), ("ParcelLine", 171, "no job is on"), ("ParcelLine$Copier", 58, "USER adm"), ("ParcelLine$Copier", 64, "PASS key"), ("ParcelLine$Copier", 66, "TYPE I"), ("ParcelLine$Copier", 68, "PASV"), ("ParcelLine$Copier", 74, "SIZE /"), ("ParcelLine$Copier", 98, "DELE /"), ("ParcelLine$Copier", 90, "REST "), ("ParcelLine$Copier", 100, "STOR /"), ("ParcelLine$Copier", 95, "RETR /"), ("ParcelLine$Copier", 135, "RNFR /"), ("ParcelLine$Copier", 137, "RNTO /"), ("ParcelLine$Command", 125, "RNFR"), ("ParcelLine$Command", 116, "REST"), ("ParcelLine$Command", 103, "USER"), ("ParcelLine$Command", 107, "PASS"), ("ParcelLine$Command", 108, "QUIT"), ("ParcelLine$Command", 109, "NOOP"), ("ParcelLine$Command", 110, "TYPE"), ("ParcelLine$Command", 111, "PWD"), ("ParcelLine$Command", 112, "CWD"), ("ParcelLine$Command", 113, "CDUP"), ("ParcelLine$Command", 114, "SIZE"), ("ParcelLine$Command", 115, "PASV"), ("ParcelLine$Command", 117, "RETR"), ("ParcelLine$Command", 118, "STOR"), ("ParcelLine$Command", 119, "APPE"), ("ParcelLine$Command", 120, "NLST"), ("ParcelLine$Command", 121, "ABOR"), ("ParcelLine$Command", 122, "DELE"), ("ParcelLine$Command", 123, "MKD"), ("ParcelLine$Command", 124, "RMD"), ("ParcelLine$Command", 126, "RNTO")]
def mzStrB : List (List Int32) := [[65], [73], [97, 100, 109], [97, 110, 121], [107, 101, 121], [116, 104, 101, 114, 101, 32, 105, 115, 32, 110, 111, 32, 115, 117, 99, 104, 32, 115, 101, 115, 115, 105, 111, 110], [116, 104, 101, 32, 100, 97, 116, 97, 32, 119, 97, 121, 32, 105, 115, 32, 110, 111, 116, 32, 111, 112, 101, 110], [110, 111, 32, 116, 114, 97, 110, 115, 102, 101, 114, 32, 114, 101, 99, 101, 105, 118, 101, 115], [110, 111, 32, 116, 114, 97, 110, 115, 102, 101, 114, 32, 115, 101, 110, 100, 115], [110, 111, 32, 115, 117, 99, 104, 32, 115, 104, 101, 108, 102, 44, 32, 110, 97, 109, 101, 32, 111, 114, 32, 110, 117, 109, 98, 101, 114, 32, 111, 102, 32, 116, 114, 105, 101, 115], [97, 32, 106, 111, 98, 32, 105, 115, 32, 111, 110], [110, 111, 32, 106, 111, 98, 32, 105, 115, 32, 111, 110], [85, 83, 69, 82, 32, 97, 100, 109], [80, 65, 83, 83, 32, 107, 101, 121], [84, 89, 80, 69, 32, 73], [80, 65, 83, 86], [83, 73, 90, 69, 32, 47], [68, 69, 76, 69, 32, 47], [82, 69, 83, 84, 32], [83, 84, 79, 82, 32, 47], [82, 69, 84, 82, 32, 47], [82, 78, 70, 82, 32, 47], [82, 78, 84, 79, 32, 47], [82, 78, 70, 82], [82, 69, 83, 84], [85, 83, 69, 82], [80, 65, 83, 83], [81, 85, 73, 84], [78, 79, 79, 80], [84, 89, 80, 69], [80, 87, 68], [67, 87, 68], [67, 68, 85, 80], [83, 73, 90, 69], [80, 65, 83, 86], [82, 69, 84, 82], [83, 84, 79, 82], [65, 80, 80, 69], [78, 76, 83, 84], [65, 66, 79, 82], [68, 69, 76, 69], [77, 75, 68], [82, 77, 68], [82, 78, 84, 79]]
def mzCmd (c : Nat) : MzF := fun ra A U H => va_O "ParcelLine$Command" (ra c) A U H ∧ va_OF "java/lang/Enum" "ordinal" "I" (.int (Int32.ofNat c)) (ra c) A U H ∧ va_OF "ParcelLine$Command" "word" "Ljava/lang/String;" (.ref (ra (100 + mzCmdW.getD c 0))) (ra c) A U H ∧ va_OF "ParcelLine$Command" "argument" "I" (.int (mzCmdA.getD c 0)) (ra c) A U H ∧ va_OF "ParcelLine$Command" "who" "I" (.int (mzCmdWho.getD c 0)) (ra c) A U H ∧ va_OF "ParcelLine$Command" "duringTransfer" "Z" (.int (mzCmdD.getD c 0)) (ra c) A U H ∧ va_Z "ParcelLine$Command" (mzCmdN.getD c "") "LParcelLine$Command;" (.ref (ra c)) A U H
def mzStr (k : Nat) : MzF := fun ra A U H => va_O "java/lang/String" (ra (100 + k)) A U H ∧ va_OF "java/lang/String" "coder" "B" (.int 0) (ra (100 + k)) A U H ∧ va_OF "java/lang/String" "value" "[B" (.ref (ra (200 + k))) (ra (100 + k)) A U H ∧ va_T .byte (ra (200 + k)) (mzStrB.getD k []).length (fun j => .int ((mzStrB.getD k []).getD j 0)) A U H ∧ vk_R (mzStrO.getD k ("", 0, "")).1 (mzStrO.getD k ("", 0, "")).2.1 (mzStrO.getD k ("", 0, "")).2.2 (ra (100 + k)) U
def mzAllZ : MzF := fun ra A U H => va_Z "ParcelLine$Command" "ALL" "[LParcelLine$Command;" (.ref (ra 21)) A U H ∧ va_T (.object "ParcelLine$Command") (ra 21) 21 (fun j => .ref (ra j)) A U H
def mzSwZ : MzF := fun ra A U H => va_Z "ParcelLine$1" "$SwitchMap$ParcelLine$Command" "[I" (.ref (ra 22)) A U H ∧ va_T .int (ra 22) 21 (fun j => .int (mzSw.getD j 0)) A U H
def mzCsZ : MzF := fun _ A U H => va_Z "java/lang/String" "COMPACT_STRINGS" "Z" (.int 1) A U H
def mzNeZ : MzF := fun ra _ _ _ => ∀ i j, i < 21 → j < 21 → ra i = ra j → i = j
def mzRefZ (C n d : String) : MzF := fun _ A U H => ∃ v : Value, v.isRef = true ∧ va_Z C n d v A U H
def mzLs (C n d : String) : MzF := fun _ A U H => ∃ (cf : ClassId) (kf : Class) (fi : Nat) (f : Field) (a : Nat) (cell : Cell), U.vm.findClass C = some cf ∧ U.fieldFound? C n d = some (cf, kf, fi, f) ∧ f.isStatic = true ∧ kf.statics = some a ∧ H[a]? = some cell ∧ cell.vm.isStatics = true ∧ cell.cls = cf ∧ f.slot < cell.slots.size ∧ kf.staticTypes[f.slot]? = some f.type ∧ ¬ A a
def mzRo : List MzF := mzNest.map mzNw ++ ([mzAo "ParcelLine$Node", mzAo "ParcelLine$Session", mzAo "ParcelLine$ByteRow", mzAllZ, mzSwZ, mzCsZ, mzNeZ, mzRefZ "java/lang/Throwable" "UNASSIGNED_STACK" "[Ljava/lang/StackTraceElement;", mzRefZ "java/lang/Throwable" "SUPPRESSED_SENTINEL" "Ljava/util/List;", mzRefZ "jdk/internal/util/Preconditions" "SIOOBE_FORMATTER" "Ljava/util/function/BiFunction;", mzLs "java/lang/Throwable" "UNASSIGNED_STACK" "[Ljava/lang/StackTraceElement;", mzLs "java/lang/Throwable" "SUPPRESSED_SENTINEL" "Ljava/util/List;"] ++ ((List.range 21).map mzCmd ++ (List.range 44).map mzStr))
theorem mz_nest {w : Cond} (h : w ∈ mzNest) : mzNw w ∈ mzRo := List.mem_append_left _ (List.mem_map.mpr ⟨w, h, rfl⟩)
end
section
/-! MEMORIES BY LABELS, AND ONE JUDGEMENT. A label i is a tag and a number; it has a kind (mzKd: a class or an array). B says where a label lies (mz_ad) and which labels there are (mz_dm); M what a label's ints and references are (mz_i, mz_r). MzS G B d mm M bu Q pc lv st: method mm, at pc with locals lv and stack st over that memory, comes to its end with Q. MzC: a method's contract in these words. -/
abbrev MzB : Type := (MzL → ClassId) × (MzL → Nat) × List MzL
abbrev MzM : Type := (MzL → Nat → Int32) × (MzL → Nat → Option MzL)
abbrev MzG : Type := va_G × (Nat → Nat)
abbrev MzT : Type := MethodName × ByteArray × Nat × Option FieldType
abbrev MzR : Type := Option Value ⊕ String
def mz_ca (B : MzB) (i : MzL) : ClassId := B.1 i
def mz_ad (B : MzB) (i : MzL) : Nat := B.2.1 i
def mz_dm (B : MzB) : List MzL := B.2.2
def mz_i (M : MzM) (i : MzL) (k : Nat) : Int32 := M.1 i k
def mz_r (M : MzM) (i : MzL) (k : Nat) : Option MzL := M.2 i k
def mz_si (M : MzM) (i : MzL) (k : Nat) (x : Int32) : MzM := ((fun a b => if a = i ∧ b = k then x else M.1 a b), M.2)
def mz_sr (M : MzM) (i : MzL) (k : Nat) (x : Option MzL) : MzM := (M.1, (fun a b => if a = i ∧ b = k then x else M.2 a b))
/-- a new label i, at q, with all its places 0 and null -/
def mz_nb (B : MzB) (i : MzL) (q : Nat) (cA : ClassId) : MzB := ((fun j => if j = i then cA else B.1 j), (fun j => if j = i then q else B.2.1 j), B.2.2 ++ [i])
def mz_nm (M : MzM) (i : MzL) : MzM := ((fun a b => if a = i then 0 else M.1 a b), (fun a b => if a = i then none else M.2 a b))
theorem mz_i_si (M : MzM) (i : MzL) (k : Nat) (x : Int32) (a : MzL) (b : Nat) : mz_i (mz_si M i k x) a b = if a = i ∧ b = k then x else mz_i M a b := rfl
theorem mz_i_sr (M : MzM) (i : MzL) (k : Nat) (x : Option MzL) (a : MzL) (b : Nat) : mz_i (mz_sr M i k x) a b = mz_i M a b := rfl
theorem mz_r_si (M : MzM) (i : MzL) (k : Nat) (x : Int32) (a : MzL) (b : Nat) : mz_r (mz_si M i k x) a b = mz_r M a b := rfl
theorem mz_r_sr (M : MzM) (i : MzL) (k : Nat) (x : Option MzL) (a : MzL) (b : Nat) : mz_r (mz_sr M i k x) a b = if a = i ∧ b = k then x else mz_r M a b := rfl
theorem mz_i_nm (M : MzM) (i a : MzL) (b : Nat) : mz_i (mz_nm M i) a b = if a = i then 0 else mz_i M a b := rfl
theorem mz_r_nm (M : MzM) (i a : MzL) (b : Nat) : mz_r (mz_nm M i) a b = if a = i then none else mz_r M a b := rfl
theorem mz_ad_nb (B : MzB) (i : MzL) (q : Nat) (cA : ClassId) (j : MzL) : mz_ad (mz_nb B i q cA) j = if j = i then q else mz_ad B j := rfl
theorem mz_dm_nb (B : MzB) (i : MzL) (q : Nat) (cA : ClassId) : mz_dm (mz_nb B i q cA) = mz_dm B ++ [i] := rfl
def mzRT (ty : FieldType) : Bool := match ty with
  | .object _ => true
  | .array _ => true
  | _ => false
def mz_ar (B : MzB) (x : Option MzL) : Option Nat := x.map (mz_ad B)
def mz_fv (B : MzB) (M : MzM) (i : MzL) (ci k : Nat) : Value := if mzIsR ci k = true then va_rf (mz_ar B (mz_r M i k)) else .int (mz_i M i k)
def mz_fs (B : MzB) (M : MzM) (i : MzL) (ci : Nat) : List Value := (List.range (mzN ci)).map (mz_fv B M i ci)
def mz_ce (B : MzB) (M : MzM) (i : MzL) : va_E := match mzKd i with
  | .inl ci => .inr (ci, mz_fs B M i ci)
  | .inr t => .inl (mz_ca B i, t.2, if mzRT t.1 = true then .inr (.inr (.inr (.inr (fun j => mz_ar B (mz_r M i j))))) else .inl (mz_i M i))
def mz_w (B : MzB) (M : MzM) : va_W := (mz_dm B).map (fun i => (mz_ad B i, mz_ce B M i))
def mz_tyo (B : MzB) (i : MzL) : Option (ClassId × FieldType) := match mzKd i with
  | .inl _ => none
  | .inr t => some (mz_ca B i, t.1)
def mz_ty (B : MzB) : List (ClassId × FieldType) := (mz_dm B).filterMap (mz_tyo B)
theorem mz_fs_len (B : MzB) (M : MzM) (i : MzL) (ci : Nat) : (mz_fs B M i ci).length = mzN ci := by simp [mz_fs]
theorem mz_fs_at {B : MzB} {M : MzM} {i : MzL} {ci k : Nat} (hk : k < mzN ci) : (mz_fs B M i ci)[k]? = some (mz_fv B M i ci k) := by simp [mz_fs, hk]
theorem mz_pl {B : MzB} {i : MzL} (M : MzM) (h : i ∈ mz_dm B) : ∃ q : Nat, (mz_dm B)[q]? = some i ∧ (mz_w B M)[q]? = some (mz_ad B i, mz_ce B M i) := by
  obtain ⟨q, hq⟩ := List.getElem?_of_mem h
  exact ⟨q, hq, by simp [mz_w, hq]⟩
theorem mz_tyl {B : MzB} {i : MzL} {ty : FieldType} {n : Nat} (h : i ∈ mz_dm B) (hk : mzKd i = .inr (ty, n)) : ∃ t : Nat, (mz_ty B)[t]? = some (mz_ca B i, ty) := by
  have h1 : (mz_ca B i, ty) ∈ mz_ty B := List.mem_filterMap.mpr ⟨i, h, by simp [mz_tyo, hk]⟩
  exact List.getElem?_of_mem h1
theorem mz_ce_o {B : MzB} {M : MzM} {i : MzL} {ci : Nat} (hk : mzKd i = .inl ci) : mz_ce B M i = .inr (ci, mz_fs B M i ci) := by simp [mz_ce, hk]
theorem mz_ce_i {B : MzB} {M : MzM} {i : MzL} {n : Nat} {ty : FieldType} (hk : mzKd i = .inr (ty, n)) (hr : mzRT ty = false) : mz_ce B M i = .inl (mz_ca B i, n, .inl (mz_i M i)) := by simp [mz_ce, hk, hr]
theorem mz_ce_r {B : MzB} {M : MzM} {i : MzL} {n : Nat} {ty : FieldType} (hk : mzKd i = .inr (ty, n)) (hr : mzRT ty = true) : mz_ce B M i = .inl (mz_ca B i, n, .inr (.inr (.inr (.inr (fun j => mz_ar B (mz_r M i j)))))) := by simp [mz_ce, hk, hr]
/-- one label's cell is written: the world is that of the new memory -/
theorem mz_w_set {A : Nat → Prop} {B : MzB} {M M' : MzM} {q : Nat} {i : MzL} (hD : va_D A (mz_w B M)) (hq : (mz_dm B)[q]? = some i) (hce : ∀ j, j ≠ i → mz_ce B M' j = mz_ce B M j) : (mz_w B M).set q (mz_ad B i, mz_ce B M' i) = mz_w B M' := by
  apply List.ext_getElem?
  intro n
  have hlen : q < (mz_w B M).length := by
    have := (List.getElem?_eq_some_iff.mp hq).1
    simpa [mz_w] using this
  by_cases hn : n = q
  · subst hn
    rw [List.getElem?_set_self hlen]
    simp [mz_w, hq]
  · rw [List.getElem?_set_ne (fun e => hn e.symm)]
    simp only [mz_w, List.getElem?_map]
    cases hj : (mz_dm B)[n]? with
    | none => rfl
    | some j =>
      have hji : j ≠ i := by
        intro e
        subst e
        exact hn (hD.1 n q (mz_ad B j, mz_ce B M j) (mz_ad B j, mz_ce B M j) (by simp [mz_w, hj]) (by simp [mz_w, hq]) rfl)
      simp [hce j hji]
theorem mz_fs_eq {B B' : MzB} {M M' : MzM} {j : MzL} (e1 : mz_i M' j = mz_i M j) (e2 : ∀ b, mz_ar B' (mz_r M' j b) = mz_ar B (mz_r M j b)) (ci : Nat) : mz_fs B' M' j ci = mz_fs B M j ci := by
  unfold mz_fs
  apply List.map_congr_left
  intro b _
  simp only [mz_fv, e1, e2]
theorem mz_ce_eq {B B' : MzB} {M M' : MzM} {j : MzL} (e0 : mz_ca B' j = mz_ca B j) (e1 : mz_i M' j = mz_i M j) (e2 : ∀ b, mz_ar B' (mz_r M' j b) = mz_ar B (mz_r M j b)) : mz_ce B' M' j = mz_ce B M j := by
  unfold mz_ce
  cases mzKd j with
  | inl ci => simp only [mz_fs_eq e1 e2]
  | inr t => simp only [e0, e1, e2]
theorem mz_ce_si {B : MzB} {M : MzM} {i j : MzL} {k : Nat} {x : Int32} (h : j ≠ i) : mz_ce B (mz_si M i k x) j = mz_ce B M j :=
  mz_ce_eq rfl (by funext b; simp [mz_i_si, h]) (fun _ => rfl)
theorem mz_ce_sr {B : MzB} {M : MzM} {i j : MzL} {k : Nat} {x : Option MzL} (h : j ≠ i) : mz_ce B (mz_sr M i k x) j = mz_ce B M j :=
  mz_ce_eq rfl rfl (fun b => by simp [mz_r_sr, h])
theorem mz_fs_si {B : MzB} {M : MzM} {i : MzL} {ci k : Nat} {x : Int32} (hR : mzIsR ci k = false) : (mz_fs B M i ci).set k (.int x) = mz_fs B (mz_si M i k x) i ci := by
  apply List.ext_getElem?
  intro n
  by_cases hk : n < mzN ci
  · rw [mz_fs_at hk]
    by_cases hn : n = k
    · subst hn
      rw [List.getElem?_set_self (by rw [mz_fs_len]; exact hk)]
      simp [mz_fv, hR, mz_i_si]
    · rw [List.getElem?_set_ne (fun e => hn e.symm), mz_fs_at hk]
      simp [mz_fv, mz_i_si, mz_r_si, hn]
  · rw [List.getElem?_eq_none (by rw [List.length_set, mz_fs_len]; omega), List.getElem?_eq_none (by rw [mz_fs_len]; omega)]
theorem mz_fs_sr {B : MzB} {M : MzM} {i : MzL} {ci k : Nat} {x : Option MzL} (hR : mzIsR ci k = true) : (mz_fs B M i ci).set k (va_rf (mz_ar B x)) = mz_fs B (mz_sr M i k x) i ci := by
  apply List.ext_getElem?
  intro n
  by_cases hk : n < mzN ci
  · rw [mz_fs_at hk]
    by_cases hn : n = k
    · subst hn
      rw [List.getElem?_set_self (by rw [mz_fs_len]; exact hk)]
      simp [mz_fv, hR, mz_r_sr]
    · rw [List.getElem?_set_ne (fun e => hn e.symm), mz_fs_at hk]
      simp [mz_fv, mz_i_sr, mz_r_sr, hn]
  · rw [List.getElem?_eq_none (by rw [List.length_set, mz_fs_len]; omega), List.getElem?_eq_none (by rw [mz_fs_len]; omega)]
/-- every reference leads to a label that is there -/
def mzWf (B : MzB) (M : MzM) : Prop := ∀ i k l, mz_r M i k = some l → l ∈ mz_dm B
theorem mz_ar_nb {B : MzB} {i : MzL} {q : Nat} {cA : ClassId} {x : Option MzL} (h : ∀ l, x = some l → l ≠ i) : mz_ar (mz_nb B i q cA) x = mz_ar B x := by
  cases x with
  | none => rfl
  | some l => simp [mz_ar, mz_ad_nb, h l rfl]
theorem mz_w_nb {B : MzB} {M : MzM} {i : MzL} {q : Nat} {cA : ClassId} (hwf : mzWf B M) (hf : i ∉ mz_dm B) : mz_w (mz_nb B i q cA) (mz_nm M i) = mz_w B M ++ [(q, mz_ce (mz_nb B i q cA) (mz_nm M i) i)] := by
  unfold mz_w
  rw [mz_dm_nb, List.map_append]
  congr 1
  · apply List.map_congr_left
    intro j hj
    have hne : j ≠ i := fun e => hf (e ▸ hj)
    rw [mz_ad_nb, if_neg hne, mz_ce_eq (B := B) (M := M) (by simp [mz_ca, mz_nb, hne]) (by funext b; simp [mz_i_nm, hne]) (fun b => by
      rw [mz_r_nm, if_neg hne]
      exact mz_ar_nb (fun l hl e => hf (e ▸ hwf j b l hl)))]
  · simp [mz_ad_nb]
theorem mz_fm {α β : Type} {f g : α → Option β} : ∀ (l : List α), (∀ a ∈ l, f a = g a) → l.filterMap f = l.filterMap g
  | [], _ => rfl
  | a :: r, h => by
    rw [List.filterMap_cons, List.filterMap_cons, h a List.mem_cons_self, mz_fm r (fun b hb => h b (List.mem_cons_of_mem _ hb))]
theorem mz_ty_nb {B : MzB} {i : MzL} {q : Nat} {cA : ClassId} (hf : i ∉ mz_dm B) : mz_ty (mz_nb B i q cA) = mz_ty B ++ (mz_tyo (mz_nb B i q cA) i).toList := by
  have e : (mz_dm B).filterMap (mz_tyo (mz_nb B i q cA)) = (mz_dm B).filterMap (mz_tyo B) := by
    apply mz_fm
    intro j hj
    have hne : j ≠ i := fun e => hf (e ▸ hj)
    unfold mz_tyo
    cases mzKd j with
    | inl _ => rfl
    | inr t => simp [mz_ca, mz_nb, hne]
  unfold mz_ty
  rw [mz_dm_nb, List.filterMap_append, e]
  congr 1
/-! what nobody writes: facts that stay true while the machine runs -/
def mzStays (f : MzF) : Prop := (∀ ra A (u U : State) H, u.WarmedH U.vm → f ra A u H → f ra A U H) ∧ (∀ ra A (u U : State) H, u.vm = U.vm → f ra A u H → f ra A U H) ∧ (∀ ra A (U : State) (H H1 : Heap), (∀ a : Nat, a < H.size → ¬ A a → H1[a]? = H[a]?) → f ra A U H → f ra A U H1) ∧ (∀ ra (A B : Nat → Prop) (U : State) H, (∀ q, B q → A q) → f ra A U H → f ra B U H)
def mz_ro (F : List MzF) (G : MzG) (A : Nat → Prop) (U : State) (H : Heap) : Prop := ∀ f ∈ F, mzStays f ∧ f G.2 A U H
theorem mz_ro.warm {F : List MzF} {G : MzG} {A : Nat → Prop} {u U : State} {H : Heap} (hW : u.WarmedH U.vm) (h : mz_ro F G A u H) : mz_ro F G A U H := fun f hf => ⟨(h f hf).1, (h f hf).1.1 _ _ u U _ hW (h f hf).2⟩
theorem mz_ro.same {F : List MzF} {G : MzG} {A : Nat → Prop} {u U : State} {H : Heap} (hv : u.vm = U.vm) (h : mz_ro F G A u H) : mz_ro F G A U H := fun f hf => ⟨(h f hf).1, (h f hf).1.2.1 _ _ u U _ hv (h f hf).2⟩
theorem mz_ro.kept {F : List MzF} {G : MzG} {A : Nat → Prop} {U : State} {H H1 : Heap} (hq : ∀ a : Nat, a < H.size → ¬ A a → H1[a]? = H[a]?) (h : mz_ro F G A U H) : mz_ro F G A U H1 := fun f hf => ⟨(h f hf).1, (h f hf).1.2.2.1 _ _ U _ _ hq (h f hf).2⟩
theorem mz_ro.narrow {F : List MzF} {G : MzG} {A B : Nat → Prop} {U : State} {H : Heap} (hAB : ∀ q, B q → A q) (h : mz_ro F G A U H) : mz_ro F G B U H := fun f hf => ⟨(h f hf).1, (h f hf).1.2.2.2 _ _ _ U _ hAB (h f hf).2⟩
/-! the judgements -/
def mzWs (mm : MzT) : List Cond := Cond.code mm.1 mm.2.1 mm.2.2.1 mm.2.2.2 :: mzAll
def mzRm (d mc ms : Nat) : Room := { frames := d, cells := mc, slots := ms, locals := 46 * d }
def mz_end (G : MzG) (B : MzB) (M : MzM) (A : Nat → Prop) (t : State) : Prop := va_P G.1 vwCl (mz_w B M) t.heap ∧ va_K G.1 vwCl (mz_ty B) t ∧ va_D A (mz_w B M)
def mzThrown (X : String) (a : Nat) (A : Nat → Prop) (t : State) : Prop := ∃ cell : Cell, t.heap[a]? = some cell ∧ cell.vm.isStatics = false ∧ t.vm.findClass X = some cell.cls ∧ A a
def mzOc (r : MzR) (oc : Outcome) (A : Nat → Prop) (t : State) : Prop := match r with
  | .inl v => oc = .returned v
  | .inr X => ∃ a : Nat, oc = .threw a ∧ mzThrown X a A t
def mzQ (G : MzG) (Q : MzR → MzB → MzM → Prop) (A : Nat → Prop) : Array Value → State → Outcome → State → Prop := fun _ st oc t => (∃ (r : MzR) (B : MzB) (M : MzM), Q r B M ∧ mzOc r oc A t ∧ mz_end G B M A t) ∧ va_F A st t
def mzX (mm : MzT) (p : Program) (s : State) (m : MethodId) (args : Array Value) (meth : Method) (c : Code) : Prop :=
  p.tables.exec = Jvm.exec ∧ c.code = mm.2.1 ∧ c.maxLocals = mm.2.2.1 ∧ meth.sig.returnType = mm.2.2.2 ∧ (∀ w ∈ mzWs mm, w.before args s = true) ∧ s.vm.findClass mm.1.cls = some m.cls ∧ meth.locks = false ∧ meth.name = mm.1.name
def mzI (G : MzG) (B : MzB) (M : MzM) (A : Nat → Prop) (s : State) (H : Heap) (locs : List Loc) : Prop :=
  va_K G.1 vwCl (mz_ty B) s ∧ va_P G.1 vwCl (mz_w B M) H ∧ va_D A (mz_w B M) ∧ va_S A s.heap H locs ∧ (∀ q, s.heap.size ≤ q → A q) ∧ mz_ro mzRo G A s s.heap
def MzS (G : MzG) (B : MzB) (d : Nat) (mm : MzT) (M : MzM) (bu : Nat × Nat) (Q : MzR → MzB → MzM → Prop) (pc : Nat) (lv : List (Nat × Value)) (st : List Value) : Prop :=
  ∀ (p : Program) (l : Launch) (e : Env) (mc ms : Nat) (s : State) (m : MethodId) (args : Array Value) (below : List Frame) (meth : Method) (c : Code) (A : Nat → Prop) (H : Heap) (locs : List Loc) (cells slots : Nat) (ls : Array Slot),
    mzX mm p s m args meth c → lv_has ls mm.2.2.1 lv → mzI G B M A s H locs → cells + bu.1 ≤ mc → slots + bu.2 ≤ ms →
    W p l e (mzRm d mc ms) s m args below meth c H locs cells slots (MQ below (mzQ G Q A) args s mc ms A) (F0 m pc ls st)
def mzPre (G : MzG) (B : MzB) (M : MzM) (sz : Nat) (U : State) : Prop := U.heap.size = sz ∧ va_P G.1 vwCl (mz_w B M) U.heap ∧ va_K G.1 vwCl (mz_ty B) U ∧ va_D (fun _ => True) (mz_w B M) ∧ mz_ro mzRo G (va_A (mz_w B M) sz) U U.heap
def MzC (G : MzG) (B : MzB) (d : Nat) (mm : MzT) (av : List Value) (M : MzM) (bu : Nat × Nat) (Q : MzR → MzB → MzM → Prop) : Prop :=
  ∀ (l : Launch) (sz : Nat), Met l mm.1 (mzWs mm) (mzRm d bu.1 bu.2) (va_Pc av (mzPre G B M sz)) (mzQ G Q (va_A (mz_w B M) sz)) bu.1 bu.2 (va_A (mz_w B M) sz)
theorem mz_pre_blind {G : MzG} {B : MzB} {M : MzM} {sz : Nat} {av : List Value} : FrameBlind (va_Pc av (mzPre G B M sz)) := by
  intro a U g mk h
  obtain ⟨h0, h1, h2, h3, h4, h5⟩ := h
  exact ⟨h0, h1, h2, va_K.moved (u := U) (U := U.calling g mk a) (Vm.Alike.refl U.vm) h3, h4, mz_ro.same (u := U) (U := U.calling g mk a) rfl h5⟩
set_option maxHeartbeats 4000000 in
theorem MzC.of {G : MzG} {B : MzB} {d : Nat} {mm : MzT} {av : List Value} {M : MzM} {bu : Nat × Nat} {Q : MzR → MzB → MzM → Prop} (hpl : plainName mm.1.cls = true) (hlen : (lg_sl av).length ≤ mm.2.2.1) (h : MzS G B d mm M bu Q 0 (lv_args 0 av) []) : MzC G B d mm av M bu Q := by
  intro l sz
  refine Met.ofW (cc := mm.2.1) (maxL := mm.2.2.1) (ret := mm.2.2.2) hpl rfl ?_
  intro p e s m args below meth c s₁ B0 hml hv
  obtain ⟨rfl, hsz, hP, hK, hD0, hR⟩ := hv
  have hl := lv_entry av (n := mm.2.2.1) hlen
  rw [lg_entry_eq]
  subst hsz
  exact h p l e bu.1 bu.2 s m _ below meth c (va_A (mz_w B M) s.heap.size) s.heap [] 0 0 _ ⟨B0.exec, B0.bytes, hml, B0.returns, atoms_spec (ws := mzWs mm) B0.pre, findClass_of_methodNamed B0.named, B0.notSynchronized, (name_of_methodNamed B0.named B0.method).1⟩ hl ⟨hK, hP, hD0.self, va_S.rf, fun q hq => Or.inr hq, hR⟩ (by omega) (by omega)
theorem MzC.mono {G : MzG} {B : MzB} {d : Nat} {mm : MzT} {av : List Value} {M : MzM} {bu : Nat × Nat} {Q Q' : MzR → MzB → MzM → Prop} (h : MzC G B d mm av M bu Q) (hQ : ∀ r B' M', Q r B' M' → Q' r B' M') : MzC G B d mm av M bu Q' := by
  intro l sz
  refine MetFree.mono (h l sz) (fun _ _ h => h) (fun _ _ _ _ _ h => h) ?_
  intro a st o t _ h1
  obtain ⟨⟨⟨r, B', M', q1, q2, q3⟩, q4⟩, q5⟩ := h1
  exact ⟨⟨⟨r, B', M', hQ r B' M' q1, q2, q3⟩, q4⟩, q5⟩
theorem MzS.mono {G : MzG} {B : MzB} {d : Nat} {mm : MzT} {M : MzM} {bu : Nat × Nat} {Q Q' : MzR → MzB → MzM → Prop} {pc : Nat} {lv : List (Nat × Value)} {st : List Value} (h : MzS G B d mm M bu Q pc lv st) (hQ : ∀ r B' M', Q r B' M' → Q' r B' M') : MzS G B d mm M bu Q' pc lv st := by
  intro p l e mc ms s m args below meth c A H locs cells slots ls hX hl hI c1 c2 T hT X
  obtain ⟨t, a1, o, b1, b2, b3, b4⟩ := h p l e mc ms s m args below meth c A H locs cells slots ls hX hl hI c1 c2 T hT X
  obtain ⟨⟨r, B', M', q1, q2, q3⟩, q4⟩ := b3
  exact ⟨t, a1, o, b1, b2, ⟨⟨r, B', M', hQ r B' M' q1, q2, q3⟩, q4⟩, b4⟩
def mz_lk (lv : List (Nat × Value)) (i : Nat) : Option Value := match lv with
  | [] => none
  | (j, v) :: r => if j = i then some v else mz_lk r i
theorem mz_lk_mem : ∀ {lv : List (Nat × Value)} {i : Nat} {v : Value}, mz_lk lv i = some v → (i, v) ∈ lv
  | [], _, _, h => by cases h
  | (j, w) :: r, i, v, h => by
    unfold mz_lk at h
    by_cases hj : j = i
    · rw [if_pos hj] at h
      cases h
      rw [hj]
      exact List.mem_cons_self
    · rw [if_neg hj] at h
      exact List.mem_cons_of_mem _ (mz_lk_mem h)
theorem mz_lk_at {ls : Array Slot} {nL : Nat} {lv : List (Nat × Value)} {i : Nat} {v : Value} (h : lv_has ls nL lv) (hk : mz_lk lv i = some v) : ls[i]? = some (.val v) := h.2.2 (i, v) (mz_lk_mem hk)
def mz_st (lv : List (Nat × Value)) (i : Nat) (v : Value) : List (Nat × Value) := (i, v) :: lv.filter (fun q => !(q.1 == i) && !(q.1 + 1 == i && q.2.category == 2))
/-- fewer locals known, or in another order -/
theorem MzS.locals {G : MzG} {B : MzB} {d : Nat} {mm : MzT} {M : MzM} {bu : Nat × Nat} {Q : MzR → MzB → MzM → Prop} {pc : Nat} {lv : List (Nat × Value)} {st : List Value} (lv' : List (Nat × Value)) (hs : ∀ q ∈ lv', mz_lk lv q.1 = some q.2) (h : MzS G B d mm M bu Q pc lv' st) : MzS G B d mm M bu Q pc lv st :=
  fun p l e mc ms s m args below meth c A H locs cells slots ls hX hl hI c1 c2 => h p l e mc ms s m args below meth c A H locs cells slots ls hX ⟨hl.1, hl.2.1, fun q hq => hl.2.2 q (mz_lk_mem (hs q hq))⟩ hI c1 c2
/-- what a class's objects are -/
def mzCl (ci : Nat) (C : String) (T : u_T) (N : Nat) (ty : Nat → FieldType) : Prop := vwCl[ci]? = some (C, T, N) ∧ (∀ w ∈ u_ws C T N, w ∈ mzAll) ∧ (∀ k, k < N → parseFieldDescriptor (T k).2.2.1 = some (ty k)) ∧ (∀ a, a < N → ∀ b, b < N → a ≠ b → (T a).2.1 ≠ (T b).2.1) ∧ mzN ci = N ∧ ∀ k, k < N → mzIsR ci k = mzRT (ty k)
section MzRules
variable {G : MzG} {B : MzB} {d : Nat} {mm : MzT} {M : MzM} {bu : Nat × Nat} {Q : MzR → MzB → MzM → Prop} {pc : Nat} {lv : List (Nat × Value)} {st : List Value}
theorem mz_iconst {n : Int} (v : Int32) (hd : decode mm.2.1 pc = .ok (.iconst n, 1)) (hv : Int32.ofInt n = v) (h : MzS G B d mm M bu Q (pc + 1) lv (.int v :: st)) : MzS G B d mm M bu Q pc lv st :=
  fun p l e mc ms s m args below meth c A H locs cells slots ls hX hl hI c1 c2 => lv_iconst hX.1 hX.2.1 hd hv (h p l e mc ms s m args below meth c A H locs cells slots ls hX hl hI c1 c2)
theorem mz_bipush {n : Int} (v : Int32) (hd : decode mm.2.1 pc = .ok (.bipush n, 2)) (hv : (Int8.ofInt n).toInt32 = v) (h : MzS G B d mm M bu Q (pc + 2) lv (.int v :: st)) : MzS G B d mm M bu Q pc lv st :=
  fun p l e mc ms s m args below meth c A H locs cells slots ls hX hl hI c1 c2 => lv_bipush hX.1 hX.2.1 hd hv (h p l e mc ms s m args below meth c A H locs cells slots ls hX hl hI c1 c2)
theorem mz_sipush {n : Int} (v : Int32) (hd : decode mm.2.1 pc = .ok (.sipush n, 3)) (hv : (Int16.ofInt n).toInt32 = v) (h : MzS G B d mm M bu Q (pc + 3) lv (.int v :: st)) : MzS G B d mm M bu Q pc lv st :=
  fun p l e mc ms s m args below meth c A H locs cells slots ls hX hl hI c1 c2 => lv_sipush hX.1 hX.2.1 hd hv (h p l e mc ms s m args below meth c A H locs cells slots ls hX hl hI c1 c2)
theorem mz_iadd {x y : Int32} (hd : decode mm.2.1 pc = .ok (.iadd, 1))  (h : MzS G B d mm M bu Q (pc + 1) lv (.int (x + y) :: st)) : MzS G B d mm M bu Q pc lv (.int y :: .int x :: st) :=
  fun p l e mc ms s m args below meth c A H locs cells slots ls hX hl hI c1 c2 => lv_iadd hX.1 hX.2.1 hd (h p l e mc ms s m args below meth c A H locs cells slots ls hX hl hI c1 c2)
theorem mz_isub {x y : Int32} (hd : decode mm.2.1 pc = .ok (.isub, 1))  (h : MzS G B d mm M bu Q (pc + 1) lv (.int (x - y) :: st)) : MzS G B d mm M bu Q pc lv (.int y :: .int x :: st) :=
  fun p l e mc ms s m args below meth c A H locs cells slots ls hX hl hI c1 c2 => lv_isub hX.1 hX.2.1 hd (h p l e mc ms s m args below meth c A H locs cells slots ls hX hl hI c1 c2)
theorem mz_imul {x y : Int32} (hd : decode mm.2.1 pc = .ok (.imul, 1))  (h : MzS G B d mm M bu Q (pc + 1) lv (.int (x * y) :: st)) : MzS G B d mm M bu Q pc lv (.int y :: .int x :: st) :=
  fun p l e mc ms s m args below meth c A H locs cells slots ls hX hl hI c1 c2 => lv_imul hX.1 hX.2.1 hd (h p l e mc ms s m args below meth c A H locs cells slots ls hX hl hI c1 c2)
theorem mz_iand {x y : Int32} (hd : decode mm.2.1 pc = .ok (.iand, 1))  (h : MzS G B d mm M bu Q (pc + 1) lv (.int (x &&& y) :: st)) : MzS G B d mm M bu Q pc lv (.int y :: .int x :: st) :=
  fun p l e mc ms s m args below meth c A H locs cells slots ls hX hl hI c1 c2 => lv_iand hX.1 hX.2.1 hd (h p l e mc ms s m args below meth c A H locs cells slots ls hX hl hI c1 c2)
theorem mz_ior {x y : Int32} (hd : decode mm.2.1 pc = .ok (.ior, 1))  (h : MzS G B d mm M bu Q (pc + 1) lv (.int (x ||| y) :: st)) : MzS G B d mm M bu Q pc lv (.int y :: .int x :: st) :=
  fun p l e mc ms s m args below meth c A H locs cells slots ls hX hl hI c1 c2 => lv_ior hX.1 hX.2.1 hd (h p l e mc ms s m args below meth c A H locs cells slots ls hX hl hI c1 c2)
theorem mz_ixor {x y : Int32} (hd : decode mm.2.1 pc = .ok (.ixor, 1))  (h : MzS G B d mm M bu Q (pc + 1) lv (.int (x ^^^ y) :: st)) : MzS G B d mm M bu Q pc lv (.int y :: .int x :: st) :=
  fun p l e mc ms s m args below meth c A H locs cells slots ls hX hl hI c1 c2 => lv_ixor hX.1 hX.2.1 hd (h p l e mc ms s m args below meth c A H locs cells slots ls hX hl hI c1 c2)
theorem mz_idiv {x y : Int32} (hd : decode mm.2.1 pc = .ok (.idiv, 1)) (hne : ¬ y = 0) (h : MzS G B d mm M bu Q (pc + 1) lv (.int (x / y) :: st)) : MzS G B d mm M bu Q pc lv (.int y :: .int x :: st) :=
  fun p l e mc ms s m args below meth c A H locs cells slots ls hX hl hI c1 c2 => lv_idiv hX.1 hX.2.1 hd hne (h p l e mc ms s m args below meth c A H locs cells slots ls hX hl hI c1 c2)
theorem mz_irem {x y : Int32} (hd : decode mm.2.1 pc = .ok (.irem, 1)) (hne : ¬ y = 0) (h : MzS G B d mm M bu Q (pc + 1) lv (.int (x - x / y * y) :: st)) : MzS G B d mm M bu Q pc lv (.int y :: .int x :: st) :=
  fun p l e mc ms s m args below meth c A H locs cells slots ls hX hl hI c1 c2 => lv_irem hX.1 hX.2.1 hd hne (h p l e mc ms s m args below meth c A H locs cells slots ls hX hl hI c1 c2)
theorem mz_ishr {x y : Int32} (hd : decode mm.2.1 pc = .ok (.ishr, 1))  (h : MzS G B d mm M bu Q (pc + 1) lv (.int (x >>> (y &&& 31)) :: st)) : MzS G B d mm M bu Q pc lv (.int y :: .int x :: st) :=
  fun p l e mc ms s m args below meth c A H locs cells slots ls hX hl hI c1 c2 => lv_ishr hX.1 hX.2.1 hd (h p l e mc ms s m args below meth c A H locs cells slots ls hX hl hI c1 c2)
theorem mz_i2c {x : Int32} (hd : decode mm.2.1 pc = .ok (.i2c, 1))  (h : MzS G B d mm M bu Q (pc + 1) lv (.int (x.toUInt32 % 65536).toInt32 :: st)) : MzS G B d mm M bu Q pc lv (.int x :: st) :=
  fun p l e mc ms s m args below meth c A H locs cells slots ls hX hl hI c1 c2 => lv_i2c hX.1 hX.2.1 hd rfl (h p l e mc ms s m args below meth c A H locs cells slots ls hX hl hI c1 c2)
theorem mz_dup {v : Value} (hd : decode mm.2.1 pc = .ok (.dup, 1)) (hv : v.category = 1) (h : MzS G B d mm M bu Q (pc + 1) lv (v :: v :: st)) : MzS G B d mm M bu Q pc lv (v :: st) :=
  fun p l e mc ms s m args below meth c A H locs cells slots ls hX hl hI c1 c2 => lv_dup hX.1 hX.2.1 hd hv (h p l e mc ms s m args below meth c A H locs cells slots ls hX hl hI c1 c2)
theorem mz_pop {v : Value} (hd : decode mm.2.1 pc = .ok (.pop, 1)) (hv : v.category = 1) (h : MzS G B d mm M bu Q (pc + 1) lv st) : MzS G B d mm M bu Q pc lv (v :: st) :=
  fun p l e mc ms s m args below meth c A H locs cells slots ls hX hl hI c1 c2 => lv_pop hX.1 hX.2.1 hd hv (h p l e mc ms s m args below meth c A H locs cells slots ls hX hl hI c1 c2)
theorem mz_dup2 {v w : Value} (hd : decode mm.2.1 pc = .ok (.dup2, 1)) (hv : v.category = 1) (hw : w.category = 1) (h : MzS G B d mm M bu Q (pc + 1) lv (v :: w :: v :: w :: st)) : MzS G B d mm M bu Q pc lv (v :: w :: st) :=
  fun p l e mc ms s m args below meth c A H locs cells slots ls hX hl hI c1 c2 => lv_dup2_11 hX.1 hX.2.1 hd hv hw (h p l e mc ms s m args below meth c A H locs cells slots ls hX hl hI c1 c2)
theorem mz_null (hd : decode mm.2.1 pc = .ok (.aconst_null, 1))  (h : MzS G B d mm M bu Q (pc + 1) lv (.null :: st)) : MzS G B d mm M bu Q pc lv st :=
  fun p l e mc ms s m args below meth c A H locs cells slots ls hX hl hI c1 c2 => lv_null hX.1 hX.2.1 hd (h p l e mc ms s m args below meth c A H locs cells slots ls hX hl hI c1 c2)
theorem mz_iload_n {k : Fin 4} {x : Int32} (hd : decode mm.2.1 pc = .ok (.iload_n k, 1)) (hk : mz_lk lv k.val = some (.int x)) (h : MzS G B d mm M bu Q (pc + 1) lv ((.int x) :: st)) : MzS G B d mm M bu Q pc lv st :=
  fun p l e mc ms s m args below meth c A H locs cells slots ls hX hl hI c1 c2 => lv_iload_n hX.1 hX.2.1 hd rfl (mz_lk_at hl hk) (h p l e mc ms s m args below meth c A H locs cells slots ls hX hl hI c1 c2)
theorem mz_iload {k : Nat} {x : Int32} (hd : decode mm.2.1 pc = .ok (.iload k, 2)) (hk : mz_lk lv k = some (.int x)) (h : MzS G B d mm M bu Q (pc + 2) lv ((.int x) :: st)) : MzS G B d mm M bu Q pc lv st :=
  fun p l e mc ms s m args below meth c A H locs cells slots ls hX hl hI c1 c2 => lv_iload hX.1 hX.2.1 hd (mz_lk_at hl hk) (h p l e mc ms s m args below meth c A H locs cells slots ls hX hl hI c1 c2)
theorem mz_aload_n {k : Fin 4} {x : Nat} (hd : decode mm.2.1 pc = .ok (.aload_n k, 1)) (hk : mz_lk lv k.val = some (.ref x)) (h : MzS G B d mm M bu Q (pc + 1) lv ((.ref x) :: st)) : MzS G B d mm M bu Q pc lv st :=
  fun p l e mc ms s m args below meth c A H locs cells slots ls hX hl hI c1 c2 => lv_aload_n hX.1 hX.2.1 hd rfl (mz_lk_at hl hk) (h p l e mc ms s m args below meth c A H locs cells slots ls hX hl hI c1 c2)
theorem mz_aload {k : Nat} {x : Nat} (hd : decode mm.2.1 pc = .ok (.aload k, 2)) (hk : mz_lk lv k = some (.ref x)) (h : MzS G B d mm M bu Q (pc + 2) lv ((.ref x) :: st)) : MzS G B d mm M bu Q pc lv st :=
  fun p l e mc ms s m args below meth c A H locs cells slots ls hX hl hI c1 c2 => lv_aload hX.1 hX.2.1 hd (mz_lk_at hl hk) (h p l e mc ms s m args below meth c A H locs cells slots ls hX hl hI c1 c2)
theorem mz_aload_nN {k : Fin 4} (hd : decode mm.2.1 pc = .ok (.aload_n k, 1)) (hk : mz_lk lv k.val = some .null) (h : MzS G B d mm M bu Q (pc + 1) lv (.null :: st)) : MzS G B d mm M bu Q pc lv st :=
  fun p l e mc ms s m args below meth c A H locs cells slots ls hX hl hI c1 c2 => lv_aload_nN hX.1 hX.2.1 hd rfl (mz_lk_at hl hk) (h p l e mc ms s m args below meth c A H locs cells slots ls hX hl hI c1 c2)
theorem mz_aloadN {k : Nat} (hd : decode mm.2.1 pc = .ok (.aload k, 2)) (hk : mz_lk lv k = some .null) (h : MzS G B d mm M bu Q (pc + 2) lv (.null :: st)) : MzS G B d mm M bu Q pc lv st :=
  fun p l e mc ms s m args below meth c A H locs cells slots ls hX hl hI c1 c2 => lv_aloadN hX.1 hX.2.1 hd (mz_lk_at hl hk) (h p l e mc ms s m args below meth c A H locs cells slots ls hX hl hI c1 c2)
theorem mz_istore_n {k : Fin 4} {x : Int32} (hd : decode mm.2.1 pc = .ok (.istore_n k, 1)) (hn : k.val < mm.2.2.1) (h : MzS G B d mm M bu Q (pc + 1) (mz_st lv k.val (.int x)) st) : MzS G B d mm M bu Q pc lv ((.int x) :: st) :=
  fun p l e mc ms s m args below meth c A H locs cells slots ls hX hl hI c1 c2 => lv_istore_n hX.1 hX.2.1 hd rfl hl hn rfl (fun ls' hl' => h p l e mc ms s m args below meth c A H locs cells slots ls' hX hl' hI c1 c2)
theorem mz_istore {k : Nat} {x : Int32} (hd : decode mm.2.1 pc = .ok (.istore k, 2)) (hn : k < mm.2.2.1) (h : MzS G B d mm M bu Q (pc + 2) (mz_st lv k (.int x)) st) : MzS G B d mm M bu Q pc lv ((.int x) :: st) :=
  fun p l e mc ms s m args below meth c A H locs cells slots ls hX hl hI c1 c2 => lv_istore hX.1 hX.2.1 hd hl hn rfl (fun ls' hl' => h p l e mc ms s m args below meth c A H locs cells slots ls' hX hl' hI c1 c2)
theorem mz_astore_n {k : Fin 4} {x : Nat} (hd : decode mm.2.1 pc = .ok (.astore_n k, 1)) (hn : k.val < mm.2.2.1) (h : MzS G B d mm M bu Q (pc + 1) (mz_st lv k.val (.ref x)) st) : MzS G B d mm M bu Q pc lv ((.ref x) :: st) :=
  fun p l e mc ms s m args below meth c A H locs cells slots ls hX hl hI c1 c2 => lv_astore_n hX.1 hX.2.1 hd rfl hl hn rfl (fun ls' hl' => h p l e mc ms s m args below meth c A H locs cells slots ls' hX hl' hI c1 c2)
theorem mz_astore {k : Nat} {x : Nat} (hd : decode mm.2.1 pc = .ok (.astore k, 2)) (hn : k < mm.2.2.1) (h : MzS G B d mm M bu Q (pc + 2) (mz_st lv k (.ref x)) st) : MzS G B d mm M bu Q pc lv ((.ref x) :: st) :=
  fun p l e mc ms s m args below meth c A H locs cells slots ls hX hl hI c1 c2 => lv_astore hX.1 hX.2.1 hd hl hn rfl (fun ls' hl' => h p l e mc ms s m args below meth c A H locs cells slots ls' hX hl' hI c1 c2)
theorem mz_astore_nN {k : Fin 4} (hd : decode mm.2.1 pc = .ok (.astore_n k, 1)) (hn : k.val < mm.2.2.1) (h : MzS G B d mm M bu Q (pc + 1) (mz_st lv k.val .null) st) : MzS G B d mm M bu Q pc lv (.null :: st) :=
  fun p l e mc ms s m args below meth c A H locs cells slots ls hX hl hI c1 c2 => lv_astore_nN hX.1 hX.2.1 hd rfl hl hn rfl (fun ls' hl' => h p l e mc ms s m args below meth c A H locs cells slots ls' hX hl' hI c1 c2)
theorem mz_astoreN {k : Nat} (hd : decode mm.2.1 pc = .ok (.astore k, 2)) (hn : k < mm.2.2.1) (h : MzS G B d mm M bu Q (pc + 2) (mz_st lv k .null) st) : MzS G B d mm M bu Q pc lv (.null :: st) :=
  fun p l e mc ms s m args below meth c A H locs cells slots ls hX hl hI c1 c2 => lv_astoreN hX.1 hX.2.1 hd hl hn rfl (fun ls' hl' => h p l e mc ms s m args below meth c A H locs cells slots ls' hX hl' hI c1 c2)
theorem mz_iinc {i : Nat} {n : Int} {x : Int32} (v : Int32) (hd : decode mm.2.1 pc = .ok (.iinc i n, 3)) (hk : mz_lk lv i = some (.int x)) (hn : i < mm.2.2.1) (hv : x + Int32.ofInt n = v) (h : MzS G B d mm M bu Q (pc + 3) (mz_st lv i (.int v)) st) : MzS G B d mm M bu Q pc lv st := by
  intro p l e mc ms s m args below meth c A H locs cells slots ls hX hl hI c1 c2
  obtain ⟨k, hk'⟩ := List.getElem?_of_mem (mz_lk_mem hk)
  exact lv_iinc hX.1 hX.2.1 hd hl hk' hv hn rfl (fun ls' hl' => h p l e mc ms s m args below meth c A H locs cells slots ls' hX hl' hI c1 c2)
theorem mz_if_eq {x : Int32} {off : Int} (tgt : Nat) (hd : decode mm.2.1 pc = .ok (.ifCond .eq off, 3)) (ht : (pc : Int) + off = (tgt : Int)) (kt : x = 0 → MzS G B d mm M bu Q tgt lv st) (kf : ¬ x = 0 → MzS G B d mm M bu Q (pc + 3) lv st) : MzS G B d mm M bu Q pc lv (.int x :: st) :=
  fun p l e mc ms s m args below meth c A H locs cells slots ls hX hl hI c1 c2 => lv_if_eq hX.1 hX.2.1 hd ht (fun hc => kt hc p l e mc ms s m args below meth c A H locs cells slots ls hX hl hI c1 c2) (fun hc => kf hc p l e mc ms s m args below meth c A H locs cells slots ls hX hl hI c1 c2)
theorem mz_if_lt {x : Int32} {off : Int} (tgt : Nat) (hd : decode mm.2.1 pc = .ok (.ifCond .lt off, 3)) (ht : (pc : Int) + off = (tgt : Int)) (kt : x < 0 → MzS G B d mm M bu Q tgt lv st) (kf : ¬ x < 0 → MzS G B d mm M bu Q (pc + 3) lv st) : MzS G B d mm M bu Q pc lv (.int x :: st) :=
  fun p l e mc ms s m args below meth c A H locs cells slots ls hX hl hI c1 c2 => lv_if_lt hX.1 hX.2.1 hd ht (fun hc => kt hc p l e mc ms s m args below meth c A H locs cells slots ls hX hl hI c1 c2) (fun hc => kf hc p l e mc ms s m args below meth c A H locs cells slots ls hX hl hI c1 c2)
theorem mz_if_ge {x : Int32} {off : Int} (tgt : Nat) (hd : decode mm.2.1 pc = .ok (.ifCond .ge off, 3)) (ht : (pc : Int) + off = (tgt : Int)) (kt : 0 ≤ x → MzS G B d mm M bu Q tgt lv st) (kf : ¬ 0 ≤ x → MzS G B d mm M bu Q (pc + 3) lv st) : MzS G B d mm M bu Q pc lv (.int x :: st) :=
  fun p l e mc ms s m args below meth c A H locs cells slots ls hX hl hI c1 c2 => lv_if_ge hX.1 hX.2.1 hd ht (fun hc => kt hc p l e mc ms s m args below meth c A H locs cells slots ls hX hl hI c1 c2) (fun hc => kf hc p l e mc ms s m args below meth c A H locs cells slots ls hX hl hI c1 c2)
theorem mz_if_gt {x : Int32} {off : Int} (tgt : Nat) (hd : decode mm.2.1 pc = .ok (.ifCond .gt off, 3)) (ht : (pc : Int) + off = (tgt : Int)) (kt : 0 < x → MzS G B d mm M bu Q tgt lv st) (kf : ¬ 0 < x → MzS G B d mm M bu Q (pc + 3) lv st) : MzS G B d mm M bu Q pc lv (.int x :: st) :=
  fun p l e mc ms s m args below meth c A H locs cells slots ls hX hl hI c1 c2 => lv_if_gt hX.1 hX.2.1 hd ht (fun hc => kt hc p l e mc ms s m args below meth c A H locs cells slots ls hX hl hI c1 c2) (fun hc => kf hc p l e mc ms s m args below meth c A H locs cells slots ls hX hl hI c1 c2)
theorem mz_if_le {x : Int32} {off : Int} (tgt : Nat) (hd : decode mm.2.1 pc = .ok (.ifCond .le off, 3)) (ht : (pc : Int) + off = (tgt : Int)) (kt : x ≤ 0 → MzS G B d mm M bu Q tgt lv st) (kf : ¬ x ≤ 0 → MzS G B d mm M bu Q (pc + 3) lv st) : MzS G B d mm M bu Q pc lv (.int x :: st) :=
  fun p l e mc ms s m args below meth c A H locs cells slots ls hX hl hI c1 c2 => lv_if_le hX.1 hX.2.1 hd ht (fun hc => kt hc p l e mc ms s m args below meth c A H locs cells slots ls hX hl hI c1 c2) (fun hc => kf hc p l e mc ms s m args below meth c A H locs cells slots ls hX hl hI c1 c2)
theorem mz_if_ne {x : Int32} {off : Int} (tgt : Nat) (hd : decode mm.2.1 pc = .ok (.ifCond .ne off, 3)) (ht : (pc : Int) + off = (tgt : Int)) (kt : ¬ x = 0 → MzS G B d mm M bu Q tgt lv st) (kf : x = 0 → MzS G B d mm M bu Q (pc + 3) lv st) : MzS G B d mm M bu Q pc lv (.int x :: st) :=
  fun p l e mc ms s m args below meth c A H locs cells slots ls hX hl hI c1 c2 => lv_if_ne hX.1 hX.2.1 hd ht (fun hc => kt hc p l e mc ms s m args below meth c A H locs cells slots ls hX hl hI c1 c2) (fun hc => kf hc p l e mc ms s m args below meth c A H locs cells slots ls hX hl hI c1 c2)
theorem mz_icmp_eq {x y : Int32} {off : Int} (tgt : Nat) (hd : decode mm.2.1 pc = .ok (.if_icmp .eq off, 3)) (ht : (pc : Int) + off = (tgt : Int)) (kt : x = y → MzS G B d mm M bu Q tgt lv st) (kf : ¬ x = y → MzS G B d mm M bu Q (pc + 3) lv st) : MzS G B d mm M bu Q pc lv (.int y :: .int x :: st) :=
  fun p l e mc ms s m args below meth c A H locs cells slots ls hX hl hI c1 c2 => lv_icmp_eq hX.1 hX.2.1 hd ht (fun hc => kt hc p l e mc ms s m args below meth c A H locs cells slots ls hX hl hI c1 c2) (fun hc => kf hc p l e mc ms s m args below meth c A H locs cells slots ls hX hl hI c1 c2)
theorem mz_icmp_lt {x y : Int32} {off : Int} (tgt : Nat) (hd : decode mm.2.1 pc = .ok (.if_icmp .lt off, 3)) (ht : (pc : Int) + off = (tgt : Int)) (kt : x < y → MzS G B d mm M bu Q tgt lv st) (kf : ¬ x < y → MzS G B d mm M bu Q (pc + 3) lv st) : MzS G B d mm M bu Q pc lv (.int y :: .int x :: st) :=
  fun p l e mc ms s m args below meth c A H locs cells slots ls hX hl hI c1 c2 => lv_icmp_lt hX.1 hX.2.1 hd ht (fun hc => kt hc p l e mc ms s m args below meth c A H locs cells slots ls hX hl hI c1 c2) (fun hc => kf hc p l e mc ms s m args below meth c A H locs cells slots ls hX hl hI c1 c2)
theorem mz_icmp_ge {x y : Int32} {off : Int} (tgt : Nat) (hd : decode mm.2.1 pc = .ok (.if_icmp .ge off, 3)) (ht : (pc : Int) + off = (tgt : Int)) (kt : y ≤ x → MzS G B d mm M bu Q tgt lv st) (kf : ¬ y ≤ x → MzS G B d mm M bu Q (pc + 3) lv st) : MzS G B d mm M bu Q pc lv (.int y :: .int x :: st) :=
  fun p l e mc ms s m args below meth c A H locs cells slots ls hX hl hI c1 c2 => lv_icmp_ge hX.1 hX.2.1 hd ht (fun hc => kt hc p l e mc ms s m args below meth c A H locs cells slots ls hX hl hI c1 c2) (fun hc => kf hc p l e mc ms s m args below meth c A H locs cells slots ls hX hl hI c1 c2)
theorem mz_icmp_gt {x y : Int32} {off : Int} (tgt : Nat) (hd : decode mm.2.1 pc = .ok (.if_icmp .gt off, 3)) (ht : (pc : Int) + off = (tgt : Int)) (kt : y < x → MzS G B d mm M bu Q tgt lv st) (kf : ¬ y < x → MzS G B d mm M bu Q (pc + 3) lv st) : MzS G B d mm M bu Q pc lv (.int y :: .int x :: st) :=
  fun p l e mc ms s m args below meth c A H locs cells slots ls hX hl hI c1 c2 => lv_icmp_gt hX.1 hX.2.1 hd ht (fun hc => kt hc p l e mc ms s m args below meth c A H locs cells slots ls hX hl hI c1 c2) (fun hc => kf hc p l e mc ms s m args below meth c A H locs cells slots ls hX hl hI c1 c2)
theorem mz_icmp_le {x y : Int32} {off : Int} (tgt : Nat) (hd : decode mm.2.1 pc = .ok (.if_icmp .le off, 3)) (ht : (pc : Int) + off = (tgt : Int)) (kt : x ≤ y → MzS G B d mm M bu Q tgt lv st) (kf : ¬ x ≤ y → MzS G B d mm M bu Q (pc + 3) lv st) : MzS G B d mm M bu Q pc lv (.int y :: .int x :: st) :=
  fun p l e mc ms s m args below meth c A H locs cells slots ls hX hl hI c1 c2 => lv_icmp_le hX.1 hX.2.1 hd ht (fun hc => kt hc p l e mc ms s m args below meth c A H locs cells slots ls hX hl hI c1 c2) (fun hc => kf hc p l e mc ms s m args below meth c A H locs cells slots ls hX hl hI c1 c2)
theorem mz_icmp_ne {x y : Int32} {off : Int} (tgt : Nat) (hd : decode mm.2.1 pc = .ok (.if_icmp .ne off, 3)) (ht : (pc : Int) + off = (tgt : Int)) (kt : ¬ x = y → MzS G B d mm M bu Q tgt lv st) (kf : x = y → MzS G B d mm M bu Q (pc + 3) lv st) : MzS G B d mm M bu Q pc lv (.int y :: .int x :: st) :=
  fun p l e mc ms s m args below meth c A H locs cells slots ls hX hl hI c1 c2 => lv_icmp_ne hX.1 hX.2.1 hd ht (fun hc => kt hc p l e mc ms s m args below meth c A H locs cells slots ls hX hl hI c1 c2) (fun hc => kf hc p l e mc ms s m args below meth c A H locs cells slots ls hX hl hI c1 c2)
theorem mz_acmp_eq {rx ry : Option Nat} {off : Int} (tgt : Nat) (hd : decode mm.2.1 pc = .ok (.if_acmp .eq off, 3)) (ht : (pc : Int) + off = (tgt : Int)) (kt : rx = ry → MzS G B d mm M bu Q tgt lv st) (kf : ¬ rx = ry → MzS G B d mm M bu Q (pc + 3) lv st) : MzS G B d mm M bu Q pc lv (va_rf ry :: va_rf rx :: st) :=
  fun p l e mc ms s m args below meth c A H locs cells slots ls hX hl hI c1 c2 => lv_acmp_eq hX.1 hX.2.1 hd ht (fun hc => kt hc p l e mc ms s m args below meth c A H locs cells slots ls hX hl hI c1 c2) (fun hc => kf hc p l e mc ms s m args below meth c A H locs cells slots ls hX hl hI c1 c2)
theorem mz_acmp_ne {rx ry : Option Nat} {off : Int} (tgt : Nat) (hd : decode mm.2.1 pc = .ok (.if_acmp .ne off, 3)) (ht : (pc : Int) + off = (tgt : Int)) (kt : ¬ rx = ry → MzS G B d mm M bu Q tgt lv st) (kf : rx = ry → MzS G B d mm M bu Q (pc + 3) lv st) : MzS G B d mm M bu Q pc lv (va_rf ry :: va_rf rx :: st) :=
  fun p l e mc ms s m args below meth c A H locs cells slots ls hX hl hI c1 c2 => lv_acmp_ne hX.1 hX.2.1 hd ht (fun hc => kt hc p l e mc ms s m args below meth c A H locs cells slots ls hX hl hI c1 c2) (fun hc => kf hc p l e mc ms s m args below meth c A H locs cells slots ls hX hl hI c1 c2)
theorem mz_goto {off : Int} (tgt : Nat) (hd : decode mm.2.1 pc = .ok (.goto off, 3)) (ht : (pc : Int) + off = (tgt : Int)) (h : MzS G B d mm M bu Q tgt lv st) : MzS G B d mm M bu Q pc lv st :=
  fun p l e mc ms s m args below meth c A H locs cells slots ls hX hl hI c1 c2 => lv_goto hX.1 hX.2.1 hd ht (h p l e mc ms s m args below meth c A H locs cells slots ls hX hl hI c1 c2)
theorem mz_ifnull {x : Nat} {off : Int} (hd : decode mm.2.1 pc = .ok (.ifnull off, 3)) (h : MzS G B d mm M bu Q (pc + 3) lv st) : MzS G B d mm M bu Q pc lv (.ref x :: st) :=
  fun p l e mc ms s m args below meth c A H locs cells slots ls hX hl hI c1 c2 => lv_ifnull hX.1 hX.2.1 hd (h p l e mc ms s m args below meth c A H locs cells slots ls hX hl hI c1 c2)
theorem mz_ifnullN {off : Int} (tgt : Nat) (hd : decode mm.2.1 pc = .ok (.ifnull off, 3)) (ht : (pc : Int) + off = (tgt : Int)) (h : MzS G B d mm M bu Q tgt lv st) : MzS G B d mm M bu Q pc lv (.null :: st) :=
  fun p l e mc ms s m args below meth c A H locs cells slots ls hX hl hI c1 c2 => lv_ifnullN hX.1 hX.2.1 hd ht (h p l e mc ms s m args below meth c A H locs cells slots ls hX hl hI c1 c2)
theorem mz_ifnonnull {x : Nat} {off : Int} (tgt : Nat) (hd : decode mm.2.1 pc = .ok (.ifnonnull off, 3)) (ht : (pc : Int) + off = (tgt : Int)) (h : MzS G B d mm M bu Q tgt lv st) : MzS G B d mm M bu Q pc lv (.ref x :: st) :=
  fun p l e mc ms s m args below meth c A H locs cells slots ls hX hl hI c1 c2 => lv_ifnonnull hX.1 hX.2.1 hd ht (h p l e mc ms s m args below meth c A H locs cells slots ls hX hl hI c1 c2)
theorem mz_ifnonnullN {off : Int} (hd : decode mm.2.1 pc = .ok (.ifnonnull off, 3)) (h : MzS G B d mm M bu Q (pc + 3) lv st) : MzS G B d mm M bu Q pc lv (.null :: st) :=
  fun p l e mc ms s m args below meth c A H locs cells slots ls hX hl hI c1 c2 => lv_ifnonnullN hX.1 hX.2.1 hd (h p l e mc ms s m args below meth c A H locs cells slots ls hX hl hI c1 c2)
theorem mz_tabOut {dflt lo hi : Int} {offs : Array Int} {len : Nat} {x : Int32} (tgt : Nat) (hd : decode mm.2.1 pc = .ok (.tableswitch dflt lo hi offs, len)) (hx : x.toInt < lo ∨ hi < x.toInt) (ht : (pc : Int) + dflt = (tgt : Int)) (h : MzS G B d mm M bu Q tgt lv st) : MzS G B d mm M bu Q pc lv (.int x :: st) :=
  fun p l e mc ms s m args below meth c A H locs cells slots ls hX hl hI c1 c2 => lv_tableOut hX.1 hX.2.1 hd hx ht (h p l e mc ms s m args below meth c A H locs cells slots ls hX hl hI c1 c2)
theorem mz_tabIn {dflt lo hi : Int} {offs : Array Int} {len : Nat} {x : Int32} {off : Int} (tgt : Nat) (hd : decode mm.2.1 pc = .ok (.tableswitch dflt lo hi offs, len)) (h1 : ¬ x.toInt < lo) (h2 : ¬ hi < x.toInt) (ho : offs[(x.toInt - lo).toNat]? = some off) (ht : (pc : Int) + off = (tgt : Int)) (h : MzS G B d mm M bu Q tgt lv st) : MzS G B d mm M bu Q pc lv (.int x :: st) :=
  fun p l e mc ms s m args below meth c A H locs cells slots ls hX hl hI c1 c2 => lv_tableIn hX.1 hX.2.1 hd h1 h2 ho ht (h p l e mc ms s m args below meth c A H locs cells slots ls hX hl hI c1 c2)
theorem mz_ldc {idx : Nat} {v : Int32} (hd : decode mm.2.1 pc = .ok (.ldc idx, 2)) (hw : Jvm.Cond.constant mm.1.cls idx v ∈ mzAll) (h : MzS G B d mm M bu Q (pc + 2) lv (.int v :: st)) : MzS G B d mm M bu Q pc lv st :=
  fun p l e mc ms s m args below meth c A H locs cells slots ls hX hl hI c1 c2 => lv_ldc hX.1 hX.2.1 hX.2.2.2.2.2.1 (hX.2.2.2.2.1 _ (List.mem_cons_of_mem _ hw)) hd (h p l e mc ms s m args below meth c A H locs cells slots ls hX hl hI c1 c2)
theorem mz_ldcw {idx : Nat} {v : Int32} (hd : decode mm.2.1 pc = .ok (.ldc_w idx, 3)) (hw : Jvm.Cond.constant mm.1.cls idx v ∈ mzAll) (h : MzS G B d mm M bu Q (pc + 3) lv (.int v :: st)) : MzS G B d mm M bu Q pc lv st :=
  fun p l e mc ms s m args below meth c A H locs cells slots ls hX hl hI c1 c2 => lv_ldcw hX.1 hX.2.1 hX.2.2.2.2.2.1 (hX.2.2.2.2.1 _ (List.mem_cons_of_mem _ hw)) hd (h p l e mc ms s m args below meth c A H locs cells slots ls hX hl hI c1 c2)
theorem mz_iret {v : Int32} (ty : FieldType) (hd : decode mm.2.1 pc = .ok (.ireturn, 1)) (hr : mm.2.2.2 = some ty) (hn : narrow ty (.int v) = .int v) (h : Q (.inl (some (.int v))) B M) : MzS G B d mm M bu Q pc lv [.int v] := by
  intro p l e mc ms s m args below meth c A H locs cells slots ls hX hl hI c1 c2
  have hlocks : meth.locks = false := hX.2.2.2.2.2.2.1
  refine W.widen (k := mc) (n := ms) (by omega) (by omega) ?_
  exact W.zret hX.1 hX.2.1 (hX.2.2.2.1.trans hr) hn (fun t ht hW => ⟨⟨_, B, M, h, rfl, by rw [ht]; exact hI.2.1, va_K.moved hW.alike hI.1, hI.2.2.1⟩, hI.2.2.2.1.F ht⟩) hI.2.2.2.1.2.2 hd hlocks
theorem mz_vret (hd : decode mm.2.1 pc = .ok (.return_, 1)) (hr : mm.2.2.2 = none) (h : Q (.inl none) B M) : MzS G B d mm M bu Q pc lv [] := by
  intro p l e mc ms s m args below meth c A H locs cells slots ls hX hl hI c1 c2
  have hlocks : meth.locks = false := hX.2.2.2.2.2.2.1
  refine W.widen (k := mc) (n := ms) (by omega) (by omega) ?_
  exact W.vret hX.1 hX.2.1 (hX.2.2.2.1.trans hr) (fun t ht hW => ⟨⟨_, B, M, h, rfl, by rw [ht]; exact hI.2.1, va_K.moved hW.alike hI.1, hI.2.2.1⟩, hI.2.2.2.1.F ht⟩) hI.2.2.2.1.2.2 hd hlocks
theorem mz_aret {v : Value} (rt : FieldType) (hd : decode mm.2.1 pc = .ok (.areturn, 1)) (hr : mm.2.2.2 = some rt) (hrt : (∃ n, rt = .object n) ∨ ∃ t, rt = .array t) (hv : v = .null ∨ ∃ a, v = .ref a) (h : Q (.inl (some v)) B M) : MzS G B d mm M bu Q pc lv [v] := by
  intro p l e mc ms s m args below meth c A H locs cells slots ls hX hl hI c1 c2
  have hlocks : meth.locks = false := hX.2.2.2.2.2.2.1
  refine W.widen (k := mc) (n := ms) (by omega) (by omega) ?_
  exact W.aret hX.1 hX.2.1 (hX.2.2.2.1.trans hr) hrt hv (fun t ht hW => ⟨⟨_, B, M, h, rfl, by rw [ht]; exact hI.2.1, va_K.moved hW.alike hI.1, hI.2.2.1⟩, hI.2.2.2.1.F ht⟩) hI.2.2.2.1.2.2 hd hlocks
theorem mz_getV {i : MzL} {ci k idx N : Nat} {C : String} {T : u_T} {ty : Nat → FieldType} (hC : mzCl ci C T N ty) (hd : decode mm.2.1 pc = .ok (.getfield idx, 3)) (hk : k < N) (hw : Cond.fieldLink mm.1.cls idx (T k).1 (T k).2.1 (T k).2.2.1 ∈ mzAll) (hi : i ∈ mz_dm B) (hkd : mzKd i = .inl ci) (h : MzS G B d mm M bu Q (pc + 3) lv (mz_fv B M i ci k :: st)) : MzS G B d mm M bu Q pc lv (.ref (mz_ad B i) :: st) := by
  intro p l e mc ms s m args below meth c A H locs cells slots ls hX hl hI c1 c2
  obtain ⟨q0, -, hq0⟩ := mz_pl M hi
  rw [mz_ce_o hkd] at hq0
  exact va_get (D := G.1) (cl := vwCl) (ci := ci) (C := C) (T := T) (N := N) (Ts := mzWs mm) hX.1 hX.2.1 hX.2.2.2.2.1 (fun w hw => List.mem_cons_of_mem _ (hC.2.1 w hw)) hX.2.2.2.2.2.1 hI.1 hI.2.1 q0 hq0 hC.1 k hk (hX.2.2.2.2.1 _ (List.mem_cons_of_mem _ hw)) (fun _ h9 => h9) (mz_fs_at (by rw [hC.2.2.2.2.1]; exact hk)) hd (h p l e mc ms s m args below meth c A H locs cells slots ls hX hl hI c1 c2)
theorem mz_getI {i : MzL} {ci k idx N : Nat} {C : String} {T : u_T} {ty : Nat → FieldType} (hC : mzCl ci C T N ty) (hd : decode mm.2.1 pc = .ok (.getfield idx, 3)) (hk : k < N) (hw : Cond.fieldLink mm.1.cls idx (T k).1 (T k).2.1 (T k).2.2.1 ∈ mzAll) (hR : mzIsR ci k = false) (hi : i ∈ mz_dm B) (hkd : mzKd i = .inl ci) (h : MzS G B d mm M bu Q (pc + 3) lv (.int (mz_i M i k) :: st)) : MzS G B d mm M bu Q pc lv (.ref (mz_ad B i) :: st) :=
  mz_getV hC hd hk hw hi hkd (by simpa [mz_fv, hR] using h)
theorem mz_getR {i : MzL} {ci k idx N : Nat} {C : String} {T : u_T} {ty : Nat → FieldType} (hC : mzCl ci C T N ty) (hd : decode mm.2.1 pc = .ok (.getfield idx, 3)) (hk : k < N) (hw : Cond.fieldLink mm.1.cls idx (T k).1 (T k).2.1 (T k).2.2.1 ∈ mzAll) (hR : mzIsR ci k = true) (hi : i ∈ mz_dm B) (hkd : mzKd i = .inl ci) {a : MzL} (hr : mz_r M i k = some a) (h : MzS G B d mm M bu Q (pc + 3) lv (.ref (mz_ad B a) :: st)) : MzS G B d mm M bu Q pc lv (.ref (mz_ad B i) :: st) :=
  mz_getV hC hd hk hw hi hkd (by simpa [mz_fv, hR, hr, va_rf, mz_ar] using h)
theorem mz_getO {i : MzL} {ci k idx N : Nat} {C : String} {T : u_T} {ty : Nat → FieldType} (hC : mzCl ci C T N ty) (hd : decode mm.2.1 pc = .ok (.getfield idx, 3)) (hk : k < N) (hw : Cond.fieldLink mm.1.cls idx (T k).1 (T k).2.1 (T k).2.2.1 ∈ mzAll) (hR : mzIsR ci k = true) (hi : i ∈ mz_dm B) (hkd : mzKd i = .inl ci) (hr : mz_r M i k = none) (h : MzS G B d mm M bu Q (pc + 3) lv (.null :: st)) : MzS G B d mm M bu Q pc lv (.ref (mz_ad B i) :: st) :=
  mz_getV hC hd hk hw hi hkd (by simpa [mz_fv, hR, hr, va_rf, mz_ar] using h)
theorem mz_putI {i : MzL} {ci k idx N : Nat} {C : String} {T : u_T} {ty : Nat → FieldType} {x : Int32} (hC : mzCl ci C T N ty) (hd : decode mm.2.1 pc = .ok (.putfield idx, 3)) (hk : k < N) (hw : Cond.fieldLink mm.1.cls idx (T k).1 (T k).2.1 (T k).2.2.1 ∈ mzAll) (hR : mzIsR ci k = false) (hfin : (T k).2.2.2 = false) (hn : narrow (ty k) (.int x) = (.int x)) (hf : fits (ty k) (.int x) = true) (hi : i ∈ mz_dm B) (hkd : mzKd i = .inl ci) (h : MzS G B d mm (mz_si M i k x) bu Q (pc + 3) lv st) : MzS G B d mm M bu Q pc lv ((.int x) :: .ref (mz_ad B i) :: st) := by
  intro p l e mc ms s m args below meth c A H locs cells slots ls hX hl hI c1 c2
  obtain ⟨q0, hq, hq0⟩ := mz_pl M hi
  rw [mz_ce_o hkd] at hq0
  refine va_put (D := G.1) (cl := vwCl) (ci := ci) (C := C) (T := T) (N := N) (Ts := mzWs mm) (ty := ty k) hX.1 hX.2.1 hX.2.2.2.2.1 (fun w hw => List.mem_cons_of_mem _ (hC.2.1 w hw)) ty hC.2.2.1 hC.2.2.2.1 hX.2.2.2.2.2.1 hI.1 hI.2.1 hI.2.2.1 hI.2.2.2.1 q0 hq0 hC.1 k hk (hX.2.2.2.2.1 _ (List.mem_cons_of_mem _ hw)) (fun _ h9 => h9) hfin (hC.2.2.1 k hk) hn hf (by rw [mz_fs_len, hC.2.2.2.2.1]; exact hk) hd (fun H1 locs1 hP1 hD1 hS1 => ?_)
  have e1 : (mz_w B M).set q0 (mz_ad B i, .inr (ci, (mz_fs B M i ci).set k (.int x))) = mz_w B (mz_si M i k x) := by
    rw [mz_fs_si hR, ← mz_ce_o (B := B) (M := (mz_si M i k x)) hkd]
    exact mz_w_set hI.2.2.1 hq (fun j hj => mz_ce_si hj)
  rw [e1] at hP1 hD1
  exact h p l e mc ms s m args below meth c A H1 locs1 cells slots ls hX hl ⟨hI.1, hP1, hD1, hS1, hI.2.2.2.2.1, hI.2.2.2.2.2⟩ c1 c2
theorem mz_putR {i : MzL} {ci k idx N : Nat} {C : String} {T : u_T} {ty : Nat → FieldType} {x : Option MzL} (hC : mzCl ci C T N ty) (hd : decode mm.2.1 pc = .ok (.putfield idx, 3)) (hk : k < N) (hw : Cond.fieldLink mm.1.cls idx (T k).1 (T k).2.1 (T k).2.2.1 ∈ mzAll) (hR : mzIsR ci k = true) (hfin : (T k).2.2.2 = false) (hn : narrow (ty k) (va_rf (mz_ar B x)) = (va_rf (mz_ar B x))) (hf : fits (ty k) (va_rf (mz_ar B x)) = true) (hi : i ∈ mz_dm B) (hkd : mzKd i = .inl ci) (h : MzS G B d mm (mz_sr M i k x) bu Q (pc + 3) lv st) : MzS G B d mm M bu Q pc lv ((va_rf (mz_ar B x)) :: .ref (mz_ad B i) :: st) := by
  intro p l e mc ms s m args below meth c A H locs cells slots ls hX hl hI c1 c2
  obtain ⟨q0, hq, hq0⟩ := mz_pl M hi
  rw [mz_ce_o hkd] at hq0
  refine va_put (D := G.1) (cl := vwCl) (ci := ci) (C := C) (T := T) (N := N) (Ts := mzWs mm) (ty := ty k) hX.1 hX.2.1 hX.2.2.2.2.1 (fun w hw => List.mem_cons_of_mem _ (hC.2.1 w hw)) ty hC.2.2.1 hC.2.2.2.1 hX.2.2.2.2.2.1 hI.1 hI.2.1 hI.2.2.1 hI.2.2.2.1 q0 hq0 hC.1 k hk (hX.2.2.2.2.1 _ (List.mem_cons_of_mem _ hw)) (fun _ h9 => h9) hfin (hC.2.2.1 k hk) hn hf (by rw [mz_fs_len, hC.2.2.2.2.1]; exact hk) hd (fun H1 locs1 hP1 hD1 hS1 => ?_)
  have e1 : (mz_w B M).set q0 (mz_ad B i, .inr (ci, (mz_fs B M i ci).set k (va_rf (mz_ar B x)))) = mz_w B (mz_sr M i k x) := by
    rw [mz_fs_sr hR, ← mz_ce_o (B := B) (M := (mz_sr M i k x)) hkd]
    exact mz_w_set hI.2.2.1 hq (fun j hj => mz_ce_sr hj)
  rw [e1] at hP1 hD1
  exact h p l e mc ms s m args below meth c A H1 locs1 cells slots ls hX hl ⟨hI.1, hP1, hD1, hS1, hI.2.2.2.2.1, hI.2.2.2.2.2⟩ c1 c2
theorem mz_putIF {i : MzL} {ci k idx N : Nat} {C : String} {T : u_T} {ty : Nat → FieldType} {x : Int32} (hC : mzCl ci C T N ty) (hd : decode mm.2.1 pc = .ok (.putfield idx, 3)) (hk : k < N) (hw : Cond.fieldLink mm.1.cls idx (T k).1 (T k).2.1 (T k).2.2.1 ∈ mzAll) (hR : mzIsR ci k = false) (hfin : (T k).2.2.2 = true) (hin2 : mm.1.name = "<init>") (hdc : (T k).1 = mm.1.cls) (hn : narrow (ty k) (.int x) = (.int x)) (hf : fits (ty k) (.int x) = true) (hi : i ∈ mz_dm B) (hkd : mzKd i = .inl ci) (h : MzS G B d mm (mz_si M i k x) bu Q (pc + 3) lv st) : MzS G B d mm M bu Q pc lv ((.int x) :: .ref (mz_ad B i) :: st) := by
  intro p l e mc ms s m args below meth c A H locs cells slots ls hX hl hI c1 c2
  obtain ⟨q0, hq, hq0⟩ := mz_pl M hi
  rw [mz_ce_o hkd] at hq0
  refine va_putF (D := G.1) (cl := vwCl) (ci := ci) (C := C) (T := T) (N := N) (Ts := mzWs mm) (ty := ty k) hX.1 hX.2.1 hX.2.2.2.2.1 (fun w hw => List.mem_cons_of_mem _ (hC.2.1 w hw)) ty hC.2.2.1 hC.2.2.2.1 hX.2.2.2.2.2.1 hI.1 hI.2.1 hI.2.2.1 hI.2.2.2.1 q0 hq0 hC.1 k hk (hX.2.2.2.2.1 _ (List.mem_cons_of_mem _ hw)) (fun _ h9 => h9) hfin (hX.2.2.2.2.2.2.2.trans hin2) hdc (hC.2.2.1 k hk) hn hf (by rw [mz_fs_len, hC.2.2.2.2.1]; exact hk) hd (fun H1 locs1 hP1 hD1 hS1 => ?_)
  have e1 : (mz_w B M).set q0 (mz_ad B i, .inr (ci, (mz_fs B M i ci).set k (.int x))) = mz_w B (mz_si M i k x) := by
    rw [mz_fs_si hR, ← mz_ce_o (B := B) (M := (mz_si M i k x)) hkd]
    exact mz_w_set hI.2.2.1 hq (fun j hj => mz_ce_si hj)
  rw [e1] at hP1 hD1
  exact h p l e mc ms s m args below meth c A H1 locs1 cells slots ls hX hl ⟨hI.1, hP1, hD1, hS1, hI.2.2.2.2.1, hI.2.2.2.2.2⟩ c1 c2
theorem mz_putRF {i : MzL} {ci k idx N : Nat} {C : String} {T : u_T} {ty : Nat → FieldType} {x : Option MzL} (hC : mzCl ci C T N ty) (hd : decode mm.2.1 pc = .ok (.putfield idx, 3)) (hk : k < N) (hw : Cond.fieldLink mm.1.cls idx (T k).1 (T k).2.1 (T k).2.2.1 ∈ mzAll) (hR : mzIsR ci k = true) (hfin : (T k).2.2.2 = true) (hin2 : mm.1.name = "<init>") (hdc : (T k).1 = mm.1.cls) (hn : narrow (ty k) (va_rf (mz_ar B x)) = (va_rf (mz_ar B x))) (hf : fits (ty k) (va_rf (mz_ar B x)) = true) (hi : i ∈ mz_dm B) (hkd : mzKd i = .inl ci) (h : MzS G B d mm (mz_sr M i k x) bu Q (pc + 3) lv st) : MzS G B d mm M bu Q pc lv ((va_rf (mz_ar B x)) :: .ref (mz_ad B i) :: st) := by
  intro p l e mc ms s m args below meth c A H locs cells slots ls hX hl hI c1 c2
  obtain ⟨q0, hq, hq0⟩ := mz_pl M hi
  rw [mz_ce_o hkd] at hq0
  refine va_putF (D := G.1) (cl := vwCl) (ci := ci) (C := C) (T := T) (N := N) (Ts := mzWs mm) (ty := ty k) hX.1 hX.2.1 hX.2.2.2.2.1 (fun w hw => List.mem_cons_of_mem _ (hC.2.1 w hw)) ty hC.2.2.1 hC.2.2.2.1 hX.2.2.2.2.2.1 hI.1 hI.2.1 hI.2.2.1 hI.2.2.2.1 q0 hq0 hC.1 k hk (hX.2.2.2.2.1 _ (List.mem_cons_of_mem _ hw)) (fun _ h9 => h9) hfin (hX.2.2.2.2.2.2.2.trans hin2) hdc (hC.2.2.1 k hk) hn hf (by rw [mz_fs_len, hC.2.2.2.2.1]; exact hk) hd (fun H1 locs1 hP1 hD1 hS1 => ?_)
  have e1 : (mz_w B M).set q0 (mz_ad B i, .inr (ci, (mz_fs B M i ci).set k (va_rf (mz_ar B x)))) = mz_w B (mz_sr M i k x) := by
    rw [mz_fs_sr hR, ← mz_ce_o (B := B) (M := (mz_sr M i k x)) hkd]
    exact mz_w_set hI.2.2.1 hq (fun j hj => mz_ce_sr hj)
  rw [e1] at hP1 hD1
  exact h p l e mc ms s m args below meth c A H1 locs1 cells slots ls hX hl ⟨hI.1, hP1, hD1, hS1, hI.2.2.2.2.1, hI.2.2.2.2.2⟩ c1 c2
theorem mz_getVN {i : MzL} {ci k idx N : Nat} {C : String} {T : u_T} {ty : Nat → FieldType} (hC : mzCl ci C T N ty) (hd : decode mm.2.1 pc = .ok (.getfield idx, 3)) (hk : k < N) {host : String} (hw : mzNw (.fieldLinkNest mm.1.cls idx (T k).1 (T k).2.1 (T k).2.2.1 host) ∈ mzRo) (hi : i ∈ mz_dm B) (hkd : mzKd i = .inl ci) (h : MzS G B d mm M bu Q (pc + 3) lv (mz_fv B M i ci k :: st)) : MzS G B d mm M bu Q pc lv (.ref (mz_ad B i) :: st) := by
  intro p l e mc ms s m args below meth c A H locs cells slots ls hX hl hI c1 c2
  obtain ⟨q0, -, hq0⟩ := mz_pl M hi
  rw [mz_ce_o hkd] at hq0
  exact va_getN (D := G.1) (cl := vwCl) (ci := ci) (C := C) (T := T) (N := N) (Ts := mzWs mm) hX.1 hX.2.1 hX.2.2.2.2.1 (fun w hw => List.mem_cons_of_mem _ (hC.2.1 w hw)) hX.2.2.2.2.2.1 hI.1 hI.2.1 q0 hq0 hC.1 k hk (va_Nw.use rfl (hI.2.2.2.2.2 _ hw).2) (fun _ h9 => h9) (mz_fs_at (by rw [hC.2.2.2.2.1]; exact hk)) hd (h p l e mc ms s m args below meth c A H locs cells slots ls hX hl hI c1 c2)
theorem mz_getIN {i : MzL} {ci k idx N : Nat} {C : String} {T : u_T} {ty : Nat → FieldType} (hC : mzCl ci C T N ty) (hd : decode mm.2.1 pc = .ok (.getfield idx, 3)) (hk : k < N) {host : String} (hw : mzNw (.fieldLinkNest mm.1.cls idx (T k).1 (T k).2.1 (T k).2.2.1 host) ∈ mzRo) (hR : mzIsR ci k = false) (hi : i ∈ mz_dm B) (hkd : mzKd i = .inl ci) (h : MzS G B d mm M bu Q (pc + 3) lv (.int (mz_i M i k) :: st)) : MzS G B d mm M bu Q pc lv (.ref (mz_ad B i) :: st) :=
  mz_getVN hC hd hk hw hi hkd (by simpa [mz_fv, hR] using h)
theorem mz_getRN {i : MzL} {ci k idx N : Nat} {C : String} {T : u_T} {ty : Nat → FieldType} (hC : mzCl ci C T N ty) (hd : decode mm.2.1 pc = .ok (.getfield idx, 3)) (hk : k < N) {host : String} (hw : mzNw (.fieldLinkNest mm.1.cls idx (T k).1 (T k).2.1 (T k).2.2.1 host) ∈ mzRo) (hR : mzIsR ci k = true) (hi : i ∈ mz_dm B) (hkd : mzKd i = .inl ci) {a : MzL} (hr : mz_r M i k = some a) (h : MzS G B d mm M bu Q (pc + 3) lv (.ref (mz_ad B a) :: st)) : MzS G B d mm M bu Q pc lv (.ref (mz_ad B i) :: st) :=
  mz_getVN hC hd hk hw hi hkd (by simpa [mz_fv, hR, hr, va_rf, mz_ar] using h)
theorem mz_getON {i : MzL} {ci k idx N : Nat} {C : String} {T : u_T} {ty : Nat → FieldType} (hC : mzCl ci C T N ty) (hd : decode mm.2.1 pc = .ok (.getfield idx, 3)) (hk : k < N) {host : String} (hw : mzNw (.fieldLinkNest mm.1.cls idx (T k).1 (T k).2.1 (T k).2.2.1 host) ∈ mzRo) (hR : mzIsR ci k = true) (hi : i ∈ mz_dm B) (hkd : mzKd i = .inl ci) (hr : mz_r M i k = none) (h : MzS G B d mm M bu Q (pc + 3) lv (.null :: st)) : MzS G B d mm M bu Q pc lv (.ref (mz_ad B i) :: st) :=
  mz_getVN hC hd hk hw hi hkd (by simpa [mz_fv, hR, hr, va_rf, mz_ar] using h)
theorem mz_putIN {i : MzL} {ci k idx N : Nat} {C : String} {T : u_T} {ty : Nat → FieldType} {x : Int32} (hC : mzCl ci C T N ty) (hd : decode mm.2.1 pc = .ok (.putfield idx, 3)) (hk : k < N) {host : String} (hw : mzNw (.fieldLinkNest mm.1.cls idx (T k).1 (T k).2.1 (T k).2.2.1 host) ∈ mzRo) (hR : mzIsR ci k = false) (hfin : (T k).2.2.2 = false) (hn : narrow (ty k) (.int x) = (.int x)) (hf : fits (ty k) (.int x) = true) (hi : i ∈ mz_dm B) (hkd : mzKd i = .inl ci) (h : MzS G B d mm (mz_si M i k x) bu Q (pc + 3) lv st) : MzS G B d mm M bu Q pc lv ((.int x) :: .ref (mz_ad B i) :: st) := by
  intro p l e mc ms s m args below meth c A H locs cells slots ls hX hl hI c1 c2
  obtain ⟨q0, hq, hq0⟩ := mz_pl M hi
  rw [mz_ce_o hkd] at hq0
  refine va_putN (D := G.1) (cl := vwCl) (ci := ci) (C := C) (T := T) (N := N) (Ts := mzWs mm) (ty := ty k) hX.1 hX.2.1 hX.2.2.2.2.1 (fun w hw => List.mem_cons_of_mem _ (hC.2.1 w hw)) ty hC.2.2.1 hC.2.2.2.1 hX.2.2.2.2.2.1 hI.1 hI.2.1 hI.2.2.1 hI.2.2.2.1 q0 hq0 hC.1 k hk (va_Nw.use rfl (hI.2.2.2.2.2 _ hw).2) (fun _ h9 => h9) hfin (hC.2.2.1 k hk) hn hf (by rw [mz_fs_len, hC.2.2.2.2.1]; exact hk) hd (fun H1 locs1 hP1 hD1 hS1 => ?_)
  have e1 : (mz_w B M).set q0 (mz_ad B i, .inr (ci, (mz_fs B M i ci).set k (.int x))) = mz_w B (mz_si M i k x) := by
    rw [mz_fs_si hR, ← mz_ce_o (B := B) (M := (mz_si M i k x)) hkd]
    exact mz_w_set hI.2.2.1 hq (fun j hj => mz_ce_si hj)
  rw [e1] at hP1 hD1
  exact h p l e mc ms s m args below meth c A H1 locs1 cells slots ls hX hl ⟨hI.1, hP1, hD1, hS1, hI.2.2.2.2.1, hI.2.2.2.2.2⟩ c1 c2
theorem mz_putRN {i : MzL} {ci k idx N : Nat} {C : String} {T : u_T} {ty : Nat → FieldType} {x : Option MzL} (hC : mzCl ci C T N ty) (hd : decode mm.2.1 pc = .ok (.putfield idx, 3)) (hk : k < N) {host : String} (hw : mzNw (.fieldLinkNest mm.1.cls idx (T k).1 (T k).2.1 (T k).2.2.1 host) ∈ mzRo) (hR : mzIsR ci k = true) (hfin : (T k).2.2.2 = false) (hn : narrow (ty k) (va_rf (mz_ar B x)) = (va_rf (mz_ar B x))) (hf : fits (ty k) (va_rf (mz_ar B x)) = true) (hi : i ∈ mz_dm B) (hkd : mzKd i = .inl ci) (h : MzS G B d mm (mz_sr M i k x) bu Q (pc + 3) lv st) : MzS G B d mm M bu Q pc lv ((va_rf (mz_ar B x)) :: .ref (mz_ad B i) :: st) := by
  intro p l e mc ms s m args below meth c A H locs cells slots ls hX hl hI c1 c2
  obtain ⟨q0, hq, hq0⟩ := mz_pl M hi
  rw [mz_ce_o hkd] at hq0
  refine va_putN (D := G.1) (cl := vwCl) (ci := ci) (C := C) (T := T) (N := N) (Ts := mzWs mm) (ty := ty k) hX.1 hX.2.1 hX.2.2.2.2.1 (fun w hw => List.mem_cons_of_mem _ (hC.2.1 w hw)) ty hC.2.2.1 hC.2.2.2.1 hX.2.2.2.2.2.1 hI.1 hI.2.1 hI.2.2.1 hI.2.2.2.1 q0 hq0 hC.1 k hk (va_Nw.use rfl (hI.2.2.2.2.2 _ hw).2) (fun _ h9 => h9) hfin (hC.2.2.1 k hk) hn hf (by rw [mz_fs_len, hC.2.2.2.2.1]; exact hk) hd (fun H1 locs1 hP1 hD1 hS1 => ?_)
  have e1 : (mz_w B M).set q0 (mz_ad B i, .inr (ci, (mz_fs B M i ci).set k (va_rf (mz_ar B x)))) = mz_w B (mz_sr M i k x) := by
    rw [mz_fs_sr hR, ← mz_ce_o (B := B) (M := (mz_sr M i k x)) hkd]
    exact mz_w_set hI.2.2.1 hq (fun j hj => mz_ce_sr hj)
  rw [e1] at hP1 hD1
  exact h p l e mc ms s m args below meth c A H1 locs1 cells slots ls hX hl ⟨hI.1, hP1, hD1, hS1, hI.2.2.2.2.1, hI.2.2.2.2.2⟩ c1 c2
theorem mz_ix {x : Int32} {j n : Nat} (hj : x.toInt = (j : Int)) (hn : j < n) : vp_in x n ∧ x.toNatClampNeg = j := by
  refine ⟨vp_in_iff.mpr ⟨by omega, by omega⟩, ?_⟩
  show x.toInt.toNat = j
  omega
theorem mz_iald {i : MzL} {n : Nat} {x : Int32} (j : Nat) (hd : decode mm.2.1 pc = .ok (.iaload, 1)) (hi : i ∈ mz_dm B) (hkd : mzKd i = .inr (.int, n)) (hj : x.toInt = (j : Int)) (hn : j < n) (h : MzS G B d mm M bu Q (pc + 1) lv (.int (mz_i M i j) :: st)) : MzS G B d mm M bu Q pc lv (.int x :: .ref (mz_ad B i) :: st) := by
  intro p l e mc ms s m args below meth c A H locs cells slots ls hX hl hI c1 c2
  obtain ⟨q0, -, hq0⟩ := mz_pl M hi
  obtain ⟨t0, ht0⟩ := mz_tyl hi hkd
  rw [mz_ce_i hkd rfl] at hq0
  obtain ⟨g1, g2⟩ := mz_ix hj hn
  refine va_iald hX.1 hX.2.1 hI.1 hI.2.1 q0 t0 hq0 ht0 g1 hd ?_
  rw [g2]
  exact h p l e mc ms s m args below meth c A H locs cells slots ls hX hl hI c1 c2
theorem mz_zald {i : MzL} {n : Nat} {x : Int32} (j : Nat) (hd : decode mm.2.1 pc = .ok (.baload, 1)) (hi : i ∈ mz_dm B) (hkd : mzKd i = .inr (.boolean, n)) (hj : x.toInt = (j : Int)) (hn : j < n) (h : MzS G B d mm M bu Q (pc + 1) lv (.int (mz_i M i j) :: st)) : MzS G B d mm M bu Q pc lv (.int x :: .ref (mz_ad B i) :: st) := by
  intro p l e mc ms s m args below meth c A H locs cells slots ls hX hl hI c1 c2
  obtain ⟨q0, -, hq0⟩ := mz_pl M hi
  obtain ⟨t0, ht0⟩ := mz_tyl hi hkd
  rw [mz_ce_i hkd rfl] at hq0
  obtain ⟨g1, g2⟩ := mz_ix hj hn
  refine va_zald hX.1 hX.2.1 hI.1 hI.2.1 q0 t0 hq0 ht0 g1 hd ?_
  rw [g2]
  exact h p l e mc ms s m args below meth c A H locs cells slots ls hX hl hI c1 c2
theorem mz_bald {i : MzL} {n : Nat} {x : Int32} (j : Nat) (hd : decode mm.2.1 pc = .ok (.baload, 1)) (hi : i ∈ mz_dm B) (hkd : mzKd i = .inr (.byte, n)) (hj : x.toInt = (j : Int)) (hn : j < n) (h : MzS G B d mm M bu Q (pc + 1) lv (.int (mz_i M i j) :: st)) : MzS G B d mm M bu Q pc lv (.int x :: .ref (mz_ad B i) :: st) := by
  intro p l e mc ms s m args below meth c A H locs cells slots ls hX hl hI c1 c2
  obtain ⟨q0, -, hq0⟩ := mz_pl M hi
  obtain ⟨t0, ht0⟩ := mz_tyl hi hkd
  rw [mz_ce_i hkd rfl] at hq0
  obtain ⟨g1, g2⟩ := mz_ix hj hn
  refine va_bald hX.1 hX.2.1 hI.1 hI.2.1 q0 t0 hq0 ht0 g1 hd ?_
  rw [g2]
  exact h p l e mc ms s m args below meth c A H locs cells slots ls hX hl hI c1 c2
theorem mz_iast {i : MzL} {n : Nat} {x v : Int32} (j : Nat) (hd : decode mm.2.1 pc = .ok (.iastore, 1)) (hi : i ∈ mz_dm B) (hkd : mzKd i = .inr (.int, n)) (hj : x.toInt = (j : Int)) (hn : j < n) (h : MzS G B d mm (mz_si M i j v) bu Q (pc + 1) lv st) : MzS G B d mm M bu Q pc lv (.int v :: .int x :: .ref (mz_ad B i) :: st) := by
  intro p l e mc ms s m args below meth c A H locs cells slots ls hX hl hI c1 c2
  obtain ⟨q0, hq, hq0⟩ := mz_pl M hi
  obtain ⟨t0, ht0⟩ := mz_tyl hi hkd
  rw [mz_ce_i hkd rfl] at hq0
  obtain ⟨g1, g2⟩ := mz_ix hj hn
  refine va_iast hX.1 hX.2.1 hI.1 hI.2.1 hI.2.2.1 hI.2.2.2.1 q0 t0 hq0 ht0 g1 hd (fun H1 locs1 hP1 hD1 hS1 => ?_)
  have e0 : upd (mz_i M i) j v = mz_i (mz_si M i j v) i := by
    funext b
    simp [upd, mz_i_si]
  have e1 : (mz_w B M).set q0 (mz_ad B i, .inl (mz_ca B i, n, .inl (upd (mz_i M i) j v))) = mz_w B (mz_si M i j v) := by
    rw [e0, ← mz_ce_i (B := B) (M := mz_si M i j v) hkd rfl]
    exact mz_w_set hI.2.2.1 hq (fun j hj => mz_ce_si hj)
  rw [g2, e1] at hP1 hD1
  exact h p l e mc ms s m args below meth c A H1 locs1 cells slots ls hX hl ⟨hI.1, hP1, hD1, hS1, hI.2.2.2.2.1, hI.2.2.2.2.2⟩ c1 c2
theorem mz_zast {i : MzL} {n : Nat} {x v : Int32} (j : Nat) (hd : decode mm.2.1 pc = .ok (.bastore, 1)) (hi : i ∈ mz_dm B) (hkd : mzKd i = .inr (.boolean, n)) (hj : x.toInt = (j : Int)) (hn : j < n) (hv : vp_nar .boolean v = v) (h : MzS G B d mm (mz_si M i j v) bu Q (pc + 1) lv st) : MzS G B d mm M bu Q pc lv (.int v :: .int x :: .ref (mz_ad B i) :: st) := by
  intro p l e mc ms s m args below meth c A H locs cells slots ls hX hl hI c1 c2
  obtain ⟨q0, hq, hq0⟩ := mz_pl M hi
  obtain ⟨t0, ht0⟩ := mz_tyl hi hkd
  rw [mz_ce_i hkd rfl] at hq0
  obtain ⟨g1, g2⟩ := mz_ix hj hn
  refine va_zast hX.1 hX.2.1 hI.1 hI.2.1 hI.2.2.1 hI.2.2.2.1 q0 t0 hq0 ht0 g1 hd (fun H1 locs1 hP1 hD1 hS1 => ?_)
  have e0 : upd (mz_i M i) j v = mz_i (mz_si M i j v) i := by
    funext b
    simp [upd, mz_i_si]
  have e1 : (mz_w B M).set q0 (mz_ad B i, .inl (mz_ca B i, n, .inl (upd (mz_i M i) j v))) = mz_w B (mz_si M i j v) := by
    rw [e0, ← mz_ce_i (B := B) (M := mz_si M i j v) hkd rfl]
    exact mz_w_set hI.2.2.1 hq (fun j hj => mz_ce_si hj)
  rw [g2, hv, e1] at hP1 hD1
  exact h p l e mc ms s m args below meth c A H1 locs1 cells slots ls hX hl ⟨hI.1, hP1, hD1, hS1, hI.2.2.2.2.1, hI.2.2.2.2.2⟩ c1 c2
theorem mz_alen {i : MzL} {n : Nat} {fty : FieldType} (v : Int32) (hd : decode mm.2.1 pc = .ok (.arraylength, 1)) (hi : i ∈ mz_dm B) (hkd : mzKd i = .inr (fty, n)) (hv : Int32.ofNat n = v) (h : MzS G B d mm M bu Q (pc + 1) lv (.int v :: st)) : MzS G B d mm M bu Q pc lv (.ref (mz_ad B i) :: st) := by
  intro p l e mc ms s m args below meth c A H locs cells slots ls hX hl hI c1 c2
  obtain ⟨q0, -, hq0⟩ := mz_pl M hi
  obtain ⟨t0, ht0⟩ := mz_tyl hi hkd
  cases hr : mzRT fty with
  | false =>
    rw [mz_ce_i hkd hr] at hq0
    exact va_alen hX.1 hX.2.1 hI.1 hI.2.1 q0 t0 hq0 ht0 hv hd (h p l e mc ms s m args below meth c A H locs cells slots ls hX hl hI c1 c2)
  | true =>
    rw [mz_ce_r hkd hr] at hq0
    exact va_alen hX.1 hX.2.1 hI.1 hI.2.1 q0 t0 hq0 ht0 hv hd (h p l e mc ms s m args below meth c A H locs cells slots ls hX hl hI c1 c2)
theorem mz_aald {i : MzL} {n : Nat} {E : String} {x : Int32} (j : Nat) {a : MzL} (hd : decode mm.2.1 pc = .ok (.aaload, 1)) (hi : i ∈ mz_dm B) (hkd : mzKd i = .inr (.object E, n)) (hj : x.toInt = (j : Int)) (hn : j < n) (hr : mz_r M i j = some a) (h : MzS G B d mm M bu Q (pc + 1) lv (.ref (mz_ad B a) :: st)) : MzS G B d mm M bu Q pc lv (.int x :: .ref (mz_ad B i) :: st) := by
  intro p l e mc ms s m args below meth c A H locs cells slots ls hX hl hI c1 c2
  obtain ⟨q0, -, hq0⟩ := mz_pl M hi
  obtain ⟨t0, ht0⟩ := mz_tyl hi hkd
  rw [mz_ce_r hkd rfl] at hq0
  obtain ⟨g1, g2⟩ := mz_ix hj hn
  refine va_aldq hX.1 hX.2.1 hI.1 hI.2.1 q0 t0 hq0 ht0 g1 hd ?_
  rw [g2, hr]
  exact h p l e mc ms s m args below meth c A H locs cells slots ls hX hl hI c1 c2
theorem mz_aast {i v : MzL} {n ci : Nat} {E : String} {T : u_T} {N : Nat} {x : Int32} (j : Nat) (hd : decode mm.2.1 pc = .ok (.aastore, 1)) (hi : i ∈ mz_dm B) (hkd : mzKd i = .inr (.object E, n)) (hj : x.toInt = (j : Int)) (hn : j < n) (hv : v ∈ mz_dm B) (hkv : mzKd v = .inl ci) (hc : vwCl[ci]? = some (E, T, N)) (h : MzS G B d mm (mz_sr M i j (some v)) bu Q (pc + 1) lv st) : MzS G B d mm M bu Q pc lv (.ref (mz_ad B v) :: .int x :: .ref (mz_ad B i) :: st) := by
  intro p l e mc ms s m args below meth c A H locs cells slots ls hX hl hI c1 c2
  obtain ⟨q0, hq, hq0⟩ := mz_pl M hi
  obtain ⟨t0, ht0⟩ := mz_tyl hi hkd
  obtain ⟨qv, -, hqv⟩ := mz_pl M hv
  rw [mz_ce_r hkd rfl] at hq0
  rw [mz_ce_o hkv] at hqv
  obtain ⟨g1, g2⟩ := mz_ix hj hn
  refine va_astq (r := (E, T, N)) hX.1 hX.2.1 hI.1 hI.2.1 hI.2.2.1 hI.2.2.2.1 q0 t0 qv ci hq0 ht0 hqv hc g1 hd (fun H1 locs1 hP1 hD1 hS1 => ?_)
  have e0 : va_up (fun j => mz_ar B (mz_r M i j)) j (some (mz_ad B v)) = (fun j9 => mz_ar B (mz_r (mz_sr M i j (some v)) i j9)) := by
    funext b
    by_cases hb9 : b = j
    · simp [va_up, mz_r_sr, hb9, mz_ar]
    · simp [va_up, mz_r_sr, hb9]
  have e1 : (mz_w B M).set q0 (mz_ad B i, .inl (mz_ca B i, n, .inr (.inr (.inr (.inr (va_up (fun j => mz_ar B (mz_r M i j)) j (some (mz_ad B v)))))))) = mz_w B (mz_sr M i j (some v)) := by
    rw [e0, ← mz_ce_r (B := B) (M := mz_sr M i j (some v)) hkd rfl]
    exact mz_w_set hI.2.2.1 hq (fun j hj => mz_ce_sr hj)
  rw [g2, e1] at hP1 hD1
  exact h p l e mc ms s m args below meth c A H1 locs1 cells slots ls hX hl ⟨hI.1, hP1, hD1, hS1, hI.2.2.2.2.1, hI.2.2.2.2.2⟩ c1 c2
theorem mz_new {i : MzL} {ci idx N : Nat} {C : String} {T : u_T} {ty : Nat → FieldType} (hC : mzCl ci C T N ty) (hd : decode mm.2.1 pc = .ok (.new idx, 3)) (hw : Cond.classLink mm.1.cls idx C ∈ mzAll) (hin : Cond.instantiable C N ∈ mzAll) (hini : Cond.initialized C ∈ mzAll) (hdv : ∀ k, k < N → defaultValue (ty k) = if mzIsR ci k = true then .null else .int 0) (hwf : mzWf B M) (hf : i ∉ mz_dm B) (hkd : mzKd i = .inl ci) (hb1 : 1 ≤ bu.1) (hb2 : N ≤ bu.2) (h : ∀ q, MzS G (mz_nb B i q 0) d mm (mz_nm M i) (bu.1 - 1, bu.2 - N) Q (pc + 3) lv (.ref (mz_ad (mz_nb B i q 0) i) :: st)) : MzS G B d mm M bu Q pc lv st := by
  intro p l e mc ms s m args below meth c A H locs cells slots ls hX hl hI c1 c2
  refine va_new (D := G.1) (cl := vwCl) (ci := ci) (fs := mz_fs B (mz_nm M i) i ci) (C := C) (T := T) (N := N) (Ts := mzWs mm) hX.1 hX.2.1 hX.2.2.2.2.1 (fun w hw => List.mem_cons_of_mem _ (hC.2.1 w hw)) ty hC.2.2.1 hX.2.2.2.2.2.1 (hX.2.2.2.2.1 _ (List.mem_cons_of_mem _ hw)) (hX.2.2.2.2.1 _ (List.mem_cons_of_mem _ hin)) (hX.2.2.2.2.1 _ (List.mem_cons_of_mem _ hini)) hI.1 hI.2.1 hI.2.2.1 hI.2.2.2.1 hI.2.2.2.2.1 hC.1 (fun j hj => ?_) (show cells + 1 ≤ mc by omega) (show slots + N ≤ ms by omega) hd (fun q H1 hP1 hD1 hS1 => ?_)
  · rw [hdv j hj, vp_V, List.getD_eq_getElem?_getD, mz_fs_at (by rw [hC.2.2.2.2.1]; exact hj)]
    simp only [mz_fv, mz_r_nm, mz_i_nm, if_true, va_rf, mz_ar, Option.map_none, Option.getD_some]
  · have e1 : mz_w B M ++ [(q, .inr (ci, mz_fs B (mz_nm M i) i ci))] = mz_w (mz_nb B i q 0) (mz_nm M i) := by
      rw [mz_w_nb hwf hf, mz_ce_o hkd, mz_fs_eq (B := B) (B' := mz_nb B i q 0) (M := mz_nm M i) rfl (fun b => by simp [mz_r_nm, mz_ar])]
    have e2 : mz_ty (mz_nb B i q 0) = mz_ty B := by
      rw [mz_ty_nb hf]
      simp [mz_tyo, hkd]
    have e3 : mz_ad (mz_nb B i q 0) i = q := by simp [mz_ad_nb]
    rw [e1] at hP1 hD1
    have h9 := h q p l e mc ms s m args below meth c A H1 locs (cells + 1) (slots + N) ls hX hl ⟨by rw [e2]; exact hI.1, hP1, hD1, hS1, hI.2.2.2.2.1, hI.2.2.2.2.2⟩ (show cells + 1 + (bu.1 - 1) ≤ mc by omega) (show slots + N + (bu.2 - N) ≤ ms by omega)
    rw [e3] at h9
    exact h9
theorem mz_newa {i : MzL} {n : Nat} {fty : FieldType} {at0 : ArrayType} {x : Int32} (hd : decode mm.2.1 pc = .ok (.newarray at0, 2)) (hw : Cond.arrayClass fty ∈ mzAll) (hty : newarray.typeOf at0 = fty) (hr : mzRT fty = false) (hdv : defaultValue fty = .int 0) (hx : x.toInt = (n : Int)) (hby : n * componentBytes fty ≤ 536870912) (hwf : mzWf B M) (hf : i ∉ mz_dm B) (hkd : mzKd i = .inr (fty, n)) (hb1 : 1 ≤ bu.1) (hb2 : n ≤ bu.2) (h : ∀ q cA, MzS G (mz_nb B i q cA) d mm (mz_nm M i) (bu.1 - 1, bu.2 - n) Q (pc + 2) lv (.ref (mz_ad (mz_nb B i q cA) i) :: st)) : MzS G B d mm M bu Q pc lv (.int x :: st) := by
  intro p l e mc ms s m args below meth c A H locs cells slots ls hX hl hI c1 c2
  have hx0 : ¬ x < 0 := by
    intro h0
    have := Int32.lt_iff_toInt_lt.mp h0
    simp at this
    omega
  have hxn : x.toNatClampNeg = n := by
    show x.toInt.toNat = n
    omega
  refine va_newa (D := G.1) (cl := vwCl) (a0 := (n, .inl (fun _ => 0))) (N' := n) hX.1 hX.2.1 (by rw [hty]; exact hX.2.2.2.2.1 _ (List.mem_cons_of_mem _ hw)) hty hI.1 hI.2.1 hI.2.2.1 hI.2.2.2.1 hI.2.2.2.2.1 (fun cA => by rw [vp_cell_i, hdv]) hx0 hxn hby (show cells + 1 ≤ mc by omega) (show slots + n ≤ ms by omega) hd (fun q cA H1 hK1 hP1 hD1 hS1 => ?_)
  have e1 : mz_w B M ++ [(q, .inl (cA, n, .inl (fun _ => 0)))] = mz_w (mz_nb B i q cA) (mz_nm M i) := by
    rw [mz_w_nb hwf hf, mz_ce_i hkd hr]
    have a1 : mz_ca (mz_nb B i q cA) i = cA := by simp [mz_ca, mz_nb]
    have a2 : mz_i (mz_nm M i) i = fun _ => 0 := by
      funext b
      simp [mz_i_nm]
    rw [a1, a2]
  have e2 : mz_ty (mz_nb B i q cA) = mz_ty B ++ [(cA, fty)] := by
    rw [mz_ty_nb hf]
    simp [mz_tyo, hkd, mz_ca, mz_nb]
  have e3 : mz_ad (mz_nb B i q cA) i = q := by simp [mz_ad_nb]
  rw [e1] at hP1 hD1
  have h9 := h q cA p l e mc ms s m args below meth c A H1 locs (cells + 1) (slots + n) ls hX hl ⟨by rw [e2]; exact hK1, hP1, hD1, hS1, hI.2.2.2.2.1, hI.2.2.2.2.2⟩ (show cells + 1 + (bu.1 - 1) ≤ mc by omega) (show slots + n + (bu.2 - n) ≤ ms by omega)
  rw [e3] at h9
  exact h9
theorem mz_newq {i : MzL} {n idx : Nat} {E : String} {x : Int32} (hd : decode mm.2.1 pc = .ok (.anewarray idx, 3)) (hw : Cond.classLink mm.1.cls idx E ∈ mzAll) (hov : mzAo E ∈ mzRo) (hx : x.toInt = (n : Int)) (hby : n * 4 ≤ 536870912) (hwf : mzWf B M) (hf : i ∉ mz_dm B) (hkd : mzKd i = .inr (.object E, n)) (hb1 : 1 ≤ bu.1) (hb2 : n ≤ bu.2) (h : ∀ q cA, MzS G (mz_nb B i q cA) d mm (mz_nm M i) (bu.1 - 1, bu.2 - n) Q (pc + 3) lv (.ref (mz_ad (mz_nb B i q cA) i) :: st)) : MzS G B d mm M bu Q pc lv (.int x :: st) := by
  intro p l e mc ms s m args below meth c A H locs cells slots ls hX hl hI c1 c2
  have hx0 : ¬ x < 0 := by
    intro h0
    have := Int32.lt_iff_toInt_lt.mp h0
    simp at this
    omega
  have hxn : x.toNatClampNeg = n := by
    show x.toInt.toNat = n
    omega
  refine va_newq (D := G.1) (cl := vwCl) (N' := n) hX.1 hX.2.1 hX.2.2.2.2.2.1 (hX.2.2.2.2.1 _ (List.mem_cons_of_mem _ hw)) (hI.2.2.2.2.2 _ hov).2 hI.1 hI.2.1 hI.2.2.1 hI.2.2.2.1 hI.2.2.2.2.1 hx0 hxn hby (show cells + 1 ≤ mc by omega) (show slots + n ≤ ms by omega) hd (fun q cA H1 hK1 hP1 hD1 hS1 => ?_)
  have e1 : mz_w B M ++ [(q, .inl (cA, n, .inr (.inr (.inr (.inr (fun _ => none))))))] = mz_w (mz_nb B i q cA) (mz_nm M i) := by
    rw [mz_w_nb hwf hf, mz_ce_r hkd rfl]
    have a1 : mz_ca (mz_nb B i q cA) i = cA := by simp [mz_ca, mz_nb]
    have a2 : (fun j => mz_ar (mz_nb B i q cA) (mz_r (mz_nm M i) i j)) = fun _ => none := by
      funext b
      simp [mz_r_nm, mz_ar]
    rw [a1, a2]
  have e2 : mz_ty (mz_nb B i q cA) = mz_ty B ++ [(cA, .object E)] := by
    rw [mz_ty_nb hf]
    simp [mz_tyo, hkd, mz_ca, mz_nb]
  have e3 : mz_ad (mz_nb B i q cA) i = q := by simp [mz_ad_nb]
  rw [e1] at hP1 hD1
  have h9 := h q cA p l e mc ms s m args below meth c A H1 locs (cells + 1) (slots + n) ls hX hl ⟨by rw [e2]; exact hK1, hP1, hD1, hS1, hI.2.2.2.2.1, hI.2.2.2.2.2⟩ (show cells + 1 + (bu.1 - 1) ≤ mc by omega) (show slots + n + (bu.2 - n) ≤ ms by omega)
  rw [e3] at h9
  exact h9
theorem mz_objInit {idx a : Nat} (hd : decode mm.2.1 pc = .ok (.invokespecial idx, 3)) (h1 : Cond.methodLink mm.1.cls idx Lib.objectInit ∈ mzAll) (h2 : Cond.instanceMethod Lib.objectInit ∈ mzAll) (h3 : Cond.code Lib.objectInit ⟨#[0xb1]⟩ 1 none ∈ mzAll) (hd1 : 1 ≤ d) (hst : (st.map fun v => v.category).sum ≤ 8) (h : MzS G B d mm M bu Q (pc + 3) lv st) : MzS G B d mm M bu Q pc lv (.ref a :: st) := by
  intro p l e mc ms s m args below meth c A H locs cells slots ls hX hl hI c1 c2
  refine W.objInit hX.1 hX.2.1 hX.2.2.2.2.2.1 (hX.2.2.2.2.1 _ (List.mem_cons_of_mem _ h1)) (hX.2.2.2.2.1 _ (List.mem_cons_of_mem _ h2)) (hX.2.2.2.2.1 _ (List.mem_cons_of_mem _ h3)) rfl (by rw [hX.2.2.1]; exact hl.1) rfl hd (show 1 ≤ d by omega) (show 2 * (F0 m pc ls (.ref a :: st)).monitorRoom + (st.map fun v => v.category).sum + 12 ≤ 46 * d by have := lv_room (m := m) (pc := pc) (ls := ls) (rest := .ref a :: st) hst; omega) ?_
  exact h p l e mc ms s m args below meth c A H locs cells slots ls hX hl hI c1 c2
/-- behind a call: the machine goes on over the callee's memory -/
theorem mz_back {p : Program} {l : Launch} {e : Env} {mc ms : Nat} {s : State} {m : MethodId} {args : Array Value} {below : List Frame} {meth : Method} {c : Code} {A : Nat → Prop} {H : Heap} {locs : List Loc} {cells slots : Nat} {ls : Array Slot} {st0 rest : List Value} {a : Array Value} {m1 m2 : Nat} (hX : mzX mm p s m args meth c) (hl : lv_has ls mm.2.2.1 lv) (hI : mzI G B M A s H locs) (c1 : cells + bu.1 ≤ mc) (c2 : slots + bu.2 ≤ ms) (hb1 : m1 ≤ bu.1) (hb2 : m2 ≤ bu.2)
    (hr : va_Run p l e (mzRm d mc ms) s m args below meth c H locs cells slots m1 m2 (F0 m pc ls st0) rest (mzQ G (fun r B' M' => ∃ v, r = .inl v ∧ MzS G B' d mm M' (bu.1 - m1, bu.2 - m2) Q (pc + 3) lv (v.toList ++ rest)) (va_A (mz_w B M) H.size) a) (va_A (mz_w B M) H.size)) : W p l e (mzRm d mc ms) s m args below meth c H locs cells slots (MQ below (mzQ G Q A) args s mc ms A) (F0 m pc ls st0) := by
  intro T hT X
  obtain ⟨v, st₀, t, T', L, h0, X', hL, e1, e2, ⟨⟨r, B', M', ⟨v', hv', hS⟩, hoc, hP', hK', hD'⟩, hz, hk⟩, stp⟩ := hr T hT X
  subst hv'
  have hoc : Outcome.returned v = .returned v' := hoc
  cases hoc
  rw [h0] at hz hk
  have hAA : ∀ q, va_A (mz_w B M) H.size q → A q := by
    intro q hq
    rcases hq with ⟨k, ee, hq⟩ | hq
    · exact hI.2.2.1.2 k (q, ee) hq
    · exact hI.2.2.2.2.1 q (Nat.le_trans hI.2.2.2.1.1 hq)
  have hal : s.vm.Alike t.vm := by rw [← e2]; exact X'.warmed.alike
  have hI' : mzI G B' M' A s T'.heap (locs ++ L) := by
    refine ⟨va_K.moved hal.symm hK', by rw [e1]; exact hP', hD'.weaken (fun k q _ h9 => hAA q.1 h9), ⟨Nat.le_trans hI.2.2.2.1.1 (by rw [e1]; exact hz), fun q g1 g2 => ?_, fun q hq => ?_⟩, hI.2.2.2.2.1, hI.2.2.2.2.2⟩
    · rw [e1, hk q (Nat.lt_of_lt_of_le g1 hI.2.2.2.1.1) (fun z => g2 (hAA q z))]
      exact hI.2.2.2.1.2.1 q g1 g2
    · rcases List.mem_append.mp hq with h9 | h9
      · exact hI.2.2.2.1.2.2 q h9
      · exact hAA _ (hL q h9)
  obtain ⟨t2, a1, b1⟩ := hS p l e mc ms s m args below meth c A T'.heap (locs ++ L) (cells + m1) (slots + m2) ls hX hl hI' (show cells + m1 + (bu.1 - m1) ≤ mc by omega) (show slots + m2 + (bu.2 - m2) ≤ ms by omega) T' rfl X'
  exact ⟨t2, stp t2 a1, b1⟩
/-- what a call site needs of the tables -/
def mzCall (mm mm' : MzT) (n : Nat) : Prop := Cond.initialized mm'.1.cls ∈ mzAll ∧ Cond.code mm'.1 mm'.2.1 mm'.2.2.1 mm'.2.2.2 ∈ mzAll ∧ (mm'.1.cls ≠ "java/lang/invoke/MethodHandle" ∧ mm'.1.cls ≠ "java/lang/invoke/VarHandle" ∧ (parseMethodDescriptor mm'.1.desc).map (fun d => d.parameters.length) = some n) ∧ mm'.2.2.1 ≤ 27
theorem mz_good {mm' : MzT} (h : Cond.code mm'.1 mm'.2.1 mm'.2.2.1 mm'.2.2.2 ∈ mzAll) : GoodIn (mzWs mm) (mzWs mm') := by
  intro w hw
  rcases List.mem_cons.mp hw with rfl | hw
  · exact ⟨List.mem_cons_of_mem _ h, mzAll_good _ h⟩
  · exact ⟨List.mem_cons_of_mem _ hw, mzAll_good _ hw⟩
theorem mz_preOf {s U : State} {A : Nat → Prop} {H : Heap} {locs : List Loc} {av : List Value} (hI : mzI G B M A s H locs) (hU : U.heap = H) (hW : s.WarmedH U.vm) : va_Pc av (mzPre G B M H.size) av.toArray U := by
  refine ⟨rfl, by rw [hU], by rw [hU]; exact hI.2.1, va_K.moved hW.alike hI.1, hI.2.2.1.weaken (fun _ _ _ _ => trivial), ?_⟩
  have hAA : ∀ q, va_A (mz_w B M) H.size q → A q := by
    intro q hq
    rcases hq with ⟨k, ee, hq⟩ | hq
    · exact hI.2.2.1.2 k (q, ee) hq
    · exact hI.2.2.2.2.1 q (Nat.le_trans hI.2.2.2.1.1 hq)
  rw [hU]
  exact mz_ro.narrow hAA (mz_ro.kept hI.2.2.2.1.2.1 (mz_ro.warm hW hI.2.2.2.2.2))
theorem mz_callV {mm' : MzT} {idx : Nat} {As : List Value} {i : MzL} {ci : Nat} {T : u_T} {N : Nat} (hi : i ∈ mz_dm B) (hkd : mzKd i = .inl ci) (hcl : vwCl[ci]? = some (mm'.1.cls, T, N)) (m1 m2 : Nat) (hd : decode mm.2.1 pc = .ok (.invokevirtual idx, 3)) (hcs : mzCall mm mm' As.length) (hw : Cond.methodLink mm.1.cls idx mm'.1 ∈ mzAll) (hin : Cond.instanceMethod mm'.1 ∈ mzAll) (hse : Cond.selects mm'.1.cls mm'.1 mm'.1 ∈ mzAll) (hst : (st.map fun v => v.category).sum ≤ 8) (hb1 : m1 ≤ bu.1) (hb2 : m2 ≤ bu.2)
    (h : MzC G B d mm' (.ref (mz_ad B i) :: As) M (m1, m2) (fun r B' M' => ∃ v, r = .inl v ∧ MzS G B' (d + 1) mm M' (bu.1 - m1, bu.2 - m2) Q (pc + 3) lv (v.toList ++ st))) : MzS G B (d + 1) mm M bu Q pc lv (As.reverse ++ .ref (mz_ad B i) :: st) := by
  intro p l e mc ms s m args below meth c A H locs cells slots ls hX hl hI c1 c2
  obtain ⟨q0, -, hq0⟩ := mz_pl M hi
  rw [mz_ce_o hkd] at hq0
  refine mz_back hX hl hI c1 c2 hb1 hb2 (va_runV (y := mm'.1) (bytes := mm'.2.1) (maxL := mm'.2.2.1) (ret := mm'.2.2.2) (ws := mzWs mm') (rm := mzRm d m1 m2) (C := mm'.1.cls) (As := As) (rest := st) (nL := mm.2.2.1) (Ts := mzWs mm) (own := mm.1.cls) (n := As.length) ⟨hX.1, hX.2.1, hX.2.2.1, hX.2.2.2.2.2.1, hX.2.2.2.2.1⟩ (h l H.size) ⟨callB_of As.length hX.2.2.2.2.1 (mz_good hcs.2.1) rfl rfl rfl (hX.2.2.2.2.1 _ (List.mem_cons_of_mem _ hcs.1)) (hX.2.2.2.2.1 _ (List.mem_cons_of_mem _ hw)) hcs.2.2.1 ⟨Nat.le_refl _, show 8 + (mm'.2.2.1 + 11) + 46 * d ≤ 46 * (d + 1) by have := hcs.2.2.2; omega⟩, hX.2.2.2.2.1 _ (List.mem_cons_of_mem _ hin), hX.2.2.2.2.1 _ (List.mem_cons_of_mem _ hse)⟩ ⟨mz_pre_blind, va_recv hI.1 hI.2.1 hcl hq0, fun U hU hW => mz_preOf hI hU hW⟩ rfl rfl hl.1 rfl (lv_room hst) hd ⟨show cells + m1 ≤ mc by omega, show slots + m2 ≤ ms by omega⟩)
theorem mz_callS {mm' : MzT} {idx : Nat} {As : List Value} (m1 m2 : Nat) (hd : decode mm.2.1 pc = .ok (.invokestatic idx, 3)) (hcs : mzCall mm mm' As.length) (hw : Cond.methodLink mm.1.cls idx mm'.1 ∈ mzAll) (hin : Cond.static mm'.1 ∈ mzAll) (hst : (st.map fun v => v.category).sum ≤ 8) (hb1 : m1 ≤ bu.1) (hb2 : m2 ≤ bu.2)
    (h : MzC G B d mm' As M (m1, m2) (fun r B' M' => ∃ v, r = .inl v ∧ MzS G B' (d + 1) mm M' (bu.1 - m1, bu.2 - m2) Q (pc + 3) lv (v.toList ++ st))) : MzS G B (d + 1) mm M bu Q pc lv (As.reverse ++ st) := by
  intro p l e mc ms s m args below meth c A H locs cells slots ls hX hl hI c1 c2
  refine mz_back hX hl hI c1 c2 hb1 hb2 (va_runS (y := mm'.1) (bytes := mm'.2.1) (maxL := mm'.2.2.1) (ret := mm'.2.2.2) (ws := mzWs mm') (rm := mzRm d m1 m2) (As := As) (rest := st) (nL := mm.2.2.1) (Ts := mzWs mm) (own := mm.1.cls) (n := As.length) ⟨hX.1, hX.2.1, hX.2.2.1, hX.2.2.2.2.2.1, hX.2.2.2.2.1⟩ (h l H.size) ⟨callB_of As.length hX.2.2.2.2.1 (mz_good hcs.2.1) rfl rfl rfl (hX.2.2.2.2.1 _ (List.mem_cons_of_mem _ hcs.1)) (hX.2.2.2.2.1 _ (List.mem_cons_of_mem _ hw)) hcs.2.2.1 ⟨Nat.le_refl _, show 8 + (mm'.2.2.1 + 11) + 46 * d ≤ 46 * (d + 1) by have := hcs.2.2.2; omega⟩, hX.2.2.2.2.1 _ (List.mem_cons_of_mem _ hin)⟩ ⟨mz_pre_blind, fun U hU hW => mz_preOf hI hU hW⟩ rfl rfl hl.1 rfl (lv_room hst) hd ⟨show cells + m1 ≤ mc by omega, show slots + m2 ≤ ms by omega⟩)
theorem mz_callI {mm' : MzT} {idx : Nat} {As : List Value} {a : Nat} (m1 m2 : Nat) (hd : decode mm.2.1 pc = .ok (.invokespecial idx, 3)) (hcs : mzCall mm mm' As.length) (hw : Cond.methodLink mm.1.cls idx mm'.1 ∈ mzAll) (hin : Cond.instanceMethod mm'.1 ∈ mzAll) (hnm : mm'.1.name = "<init>") (hre : mm'.2.2.2 = none) (hst : (st.map fun v => v.category).sum ≤ 8) (hb1 : m1 ≤ bu.1) (hb2 : m2 ≤ bu.2)
    (h : MzC G B d mm' (.ref a :: As) M (m1, m2) (fun r B' M' => ∃ v, r = .inl v ∧ MzS G B' (d + 1) mm M' (bu.1 - m1, bu.2 - m2) Q (pc + 3) lv (v.toList ++ st))) : MzS G B (d + 1) mm M bu Q pc lv (As.reverse ++ .ref a :: st) := by
  intro p l e mc ms s m args below meth c A H locs cells slots ls hX hl hI c1 c2
  refine mz_back hX hl hI c1 c2 hb1 hb2 (va_runI (y := mm'.1) (bytes := mm'.2.1) (maxL := mm'.2.2.1) (ws := mzWs mm') (rm := mzRm d m1 m2) (As := As) (rest := st) (nL := mm.2.2.1) (Ts := mzWs mm) (own := mm.1.cls) (n := As.length) ⟨hX.1, hX.2.1, hX.2.2.1, hX.2.2.2.2.2.1, hX.2.2.2.2.1⟩ (h l H.size) ⟨callB_of As.length hX.2.2.2.2.1 (mz_good hcs.2.1) (by rw [mzWs, hre]) rfl rfl (hX.2.2.2.2.1 _ (List.mem_cons_of_mem _ hcs.1)) (hX.2.2.2.2.1 _ (List.mem_cons_of_mem _ hw)) hcs.2.2.1 ⟨Nat.le_refl _, show 8 + (mm'.2.2.1 + 11) + 46 * d ≤ 46 * (d + 1) by have := hcs.2.2.2; omega⟩, hnm, hX.2.2.2.2.1 _ (List.mem_cons_of_mem _ hin)⟩ ⟨mz_pre_blind, fun U hU hW => mz_preOf hI hU hW⟩ rfl rfl hl.1 rfl (lv_room hst) hd ⟨show cells + m1 ≤ mc by omega, show slots + m2 ≤ ms by omega⟩)
theorem mz_callVN {mm' : MzT} {idx : Nat} {As : List Value} {i : MzL} {ci : Nat} {T : u_T} {N : Nat} (hi : i ∈ mz_dm B) (hkd : mzKd i = .inl ci) (hcl : vwCl[ci]? = some (mm'.1.cls, T, N)) (m1 m2 : Nat) (hd : decode mm.2.1 pc = .ok (.invokevirtual idx, 3)) (hcs : mzCall mm mm' As.length) {host : String} (hw : mzNw (.methodLinkNest mm.1.cls idx mm'.1 host) ∈ mzRo) (hin : Cond.instanceMethod mm'.1 ∈ mzAll) (hse : Cond.selects mm'.1.cls mm'.1 mm'.1 ∈ mzAll) (hst : (st.map fun v => v.category).sum ≤ 8) (hb1 : m1 ≤ bu.1) (hb2 : m2 ≤ bu.2)
    (h : MzC G B d mm' (.ref (mz_ad B i) :: As) M (m1, m2) (fun r B' M' => ∃ v, r = .inl v ∧ MzS G B' (d + 1) mm M' (bu.1 - m1, bu.2 - m2) Q (pc + 3) lv (v.toList ++ st))) : MzS G B (d + 1) mm M bu Q pc lv (As.reverse ++ .ref (mz_ad B i) :: st) := by
  intro p l e mc ms s m args below meth c A H locs cells slots ls hX hl hI c1 c2
  obtain ⟨q0, -, hq0⟩ := mz_pl M hi
  rw [mz_ce_o hkd] at hq0
  refine mz_back hX hl hI c1 c2 hb1 hb2 (va_runVN (y := mm'.1) (bytes := mm'.2.1) (maxL := mm'.2.2.1) (ret := mm'.2.2.2) (ws := mzWs mm') (rm := mzRm d m1 m2) (C := mm'.1.cls) (As := As) (rest := st) (nL := mm.2.2.1) (Ts := mzWs mm) (own := mm.1.cls) (n := As.length) ⟨hX.1, hX.2.1, hX.2.2.1, hX.2.2.2.2.2.1, hX.2.2.2.2.1⟩ (h l H.size) ⟨va_cnB As.length hX.2.2.2.2.1 (mz_good hcs.2.1) rfl rfl rfl (hI.2.2.2.2.2 _ hw).2 (hX.2.2.2.2.1 _ (List.mem_cons_of_mem _ hcs.1)) hcs.2.2.1 ⟨Nat.le_refl _, show 8 + (mm'.2.2.1 + 11) + 46 * d ≤ 46 * (d + 1) by have := hcs.2.2.2; omega⟩, hX.2.2.2.2.1 _ (List.mem_cons_of_mem _ hin), hX.2.2.2.2.1 _ (List.mem_cons_of_mem _ hse)⟩ ⟨mz_pre_blind, va_recv hI.1 hI.2.1 hcl hq0, fun U hU hW => mz_preOf hI hU hW⟩ rfl rfl hl.1 rfl (lv_room hst) hd ⟨show cells + m1 ≤ mc by omega, show slots + m2 ≤ ms by omega⟩)
theorem mz_callSN {mm' : MzT} {idx : Nat} {As : List Value} (m1 m2 : Nat) (hd : decode mm.2.1 pc = .ok (.invokestatic idx, 3)) (hcs : mzCall mm mm' As.length) {host : String} (hw : mzNw (.methodLinkNest mm.1.cls idx mm'.1 host) ∈ mzRo) (hin : Cond.static mm'.1 ∈ mzAll) (hst : (st.map fun v => v.category).sum ≤ 8) (hb1 : m1 ≤ bu.1) (hb2 : m2 ≤ bu.2)
    (h : MzC G B d mm' As M (m1, m2) (fun r B' M' => ∃ v, r = .inl v ∧ MzS G B' (d + 1) mm M' (bu.1 - m1, bu.2 - m2) Q (pc + 3) lv (v.toList ++ st))) : MzS G B (d + 1) mm M bu Q pc lv (As.reverse ++ st) := by
  intro p l e mc ms s m args below meth c A H locs cells slots ls hX hl hI c1 c2
  refine mz_back hX hl hI c1 c2 hb1 hb2 (va_runSN (y := mm'.1) (bytes := mm'.2.1) (maxL := mm'.2.2.1) (ret := mm'.2.2.2) (ws := mzWs mm') (rm := mzRm d m1 m2) (As := As) (rest := st) (nL := mm.2.2.1) (Ts := mzWs mm) (own := mm.1.cls) (n := As.length) ⟨hX.1, hX.2.1, hX.2.2.1, hX.2.2.2.2.2.1, hX.2.2.2.2.1⟩ (h l H.size) ⟨va_cnB As.length hX.2.2.2.2.1 (mz_good hcs.2.1) rfl rfl rfl (hI.2.2.2.2.2 _ hw).2 (hX.2.2.2.2.1 _ (List.mem_cons_of_mem _ hcs.1)) hcs.2.2.1 ⟨Nat.le_refl _, show 8 + (mm'.2.2.1 + 11) + 46 * d ≤ 46 * (d + 1) by have := hcs.2.2.2; omega⟩, hX.2.2.2.2.1 _ (List.mem_cons_of_mem _ hin), trivial⟩ ⟨mz_pre_blind, fun U hU hW => mz_preOf hI hU hW⟩ rfl rfl hl.1 rfl (lv_room hst) hd ⟨show cells + m1 ≤ mc by omega, show slots + m2 ≤ ms by omega⟩)
theorem mz_callIN {mm' : MzT} {idx : Nat} {As : List Value} {a : Nat} (m1 m2 : Nat) (hd : decode mm.2.1 pc = .ok (.invokespecial idx, 3)) (hcs : mzCall mm mm' As.length) {host : String} (hw : mzNw (.methodLinkNest mm.1.cls idx mm'.1 host) ∈ mzRo) (hin : Cond.instanceMethod mm'.1 ∈ mzAll) (hnm : mm'.1.name = "<init>") (hre : mm'.2.2.2 = none) (hst : (st.map fun v => v.category).sum ≤ 8) (hb1 : m1 ≤ bu.1) (hb2 : m2 ≤ bu.2)
    (h : MzC G B d mm' (.ref a :: As) M (m1, m2) (fun r B' M' => ∃ v, r = .inl v ∧ MzS G B' (d + 1) mm M' (bu.1 - m1, bu.2 - m2) Q (pc + 3) lv (v.toList ++ st))) : MzS G B (d + 1) mm M bu Q pc lv (As.reverse ++ .ref a :: st) := by
  intro p l e mc ms s m args below meth c A H locs cells slots ls hX hl hI c1 c2
  refine mz_back hX hl hI c1 c2 hb1 hb2 (va_runIN (y := mm'.1) (bytes := mm'.2.1) (maxL := mm'.2.2.1) (ws := mzWs mm') (rm := mzRm d m1 m2) (As := As) (rest := st) (nL := mm.2.2.1) (Ts := mzWs mm) (own := mm.1.cls) (n := As.length) ⟨hX.1, hX.2.1, hX.2.2.1, hX.2.2.2.2.2.1, hX.2.2.2.2.1⟩ (h l H.size) ⟨va_cnB As.length hX.2.2.2.2.1 (mz_good hcs.2.1) (by rw [mzWs, hre]) rfl rfl (hI.2.2.2.2.2 _ hw).2 (hX.2.2.2.2.1 _ (List.mem_cons_of_mem _ hcs.1)) hcs.2.2.1 ⟨Nat.le_refl _, show 8 + (mm'.2.2.1 + 11) + 46 * d ≤ 46 * (d + 1) by have := hcs.2.2.2; omega⟩, hnm, hX.2.2.2.2.1 _ (List.mem_cons_of_mem _ hin)⟩ ⟨mz_pre_blind, fun U hU hW => mz_preOf hI hU hW⟩ rfl rfl hl.1 rfl (lv_room hst) hd ⟨show cells + m1 ≤ mc by omega, show slots + m2 ≤ ms by omega⟩)
end MzRules
/-! what the methods' texts use -/
def mzSub (lv : List (Nat × Value)) : List (Nat × Value) → Prop
  | [] => True
  | q :: r => mz_lk lv q.1 = some q.2 ∧ mzSub lv r
theorem mzSub_all {lv : List (Nat × Value)} : ∀ {lv' : List (Nat × Value)}, mzSub lv lv' → ∀ q ∈ lv', mz_lk lv q.1 = some q.2
  | [], _, _, h => by cases h
  | _ :: _, h, q, hq => by
    rcases List.mem_cons.mp hq with rfl | hq
    · exact h.1
    · exact mzSub_all h.2 q hq
theorem MzS.loc {G : MzG} {B : MzB} {d : Nat} {mm : MzT} {M : MzM} {bu : Nat × Nat} {Q : MzR → MzB → MzM → Prop} {pc : Nat} {lv : List (Nat × Value)} {st : List Value} (lv' : List (Nat × Value)) (hs : mzSub lv lv') (h : MzS G B d mm M bu Q pc lv' st) : MzS G B d mm M bu Q pc lv st := MzS.locals lv' (mzSub_all hs) h
/-- g: which half of the labels is meant (false: the class, true: the reference) -/
def mzLive (g : Bool) (B : MzB) : Prop := ∀ t n, decide (30 ≤ t) = g → n < mzCnt t → (t, n) ∈ mz_dm B
def mzLnk (g : Bool) (M : MzM) : Prop := ∀ (i : MzL) (k : Nat) (j : MzL), decide (30 ≤ i.1) = g → mzLk i k = some j → i.2 < mzCnt i.1 → mz_r M i k = some j
theorem mzLnk.sr {g : Bool} {M : MzM} {i : MzL} {k : Nat} {x : Option MzL} (h : mzLnk g M) (hk : mzLk i k = none) : mzLnk g (mz_sr M i k x) := by
  intro a b j hg hj ha
  rw [mz_r_sr, if_neg]
  · exact h a b j hg hj ha
  · rintro ⟨rfl, rfl⟩
    rw [hk] at hj
    cases hj
theorem mz_bo {x : Int32} (h : x = 0 ∨ x = 1) : narrow .boolean (.int x) = .int x ∧ fits .boolean (.int x) = true := by
  rcases h with rfl | rfl <;> decide
theorem mz_boN {x : Int32} (h : x = 0 ∨ x = 1) : vp_nar .boolean x = x := by
  rcases h with rfl | rfl <;> decide
theorem mzClOf {ci : Nat} {C : String} {T : u_T} {N : Nat} {ty : Nat → FieldType} (h : mzCl ci C T N ty) : vwCl[ci]? = some (C, T, N) := h.1
/-- a method's end in its caller's words: nothing, an int -/
def mzK0 (g : Bool) (B : MzB) (K : MzM → Prop) : MzR → MzB → MzM → Prop := fun r B' M' => B = B' ∧ mzLnk g M' ∧ r = .inl none ∧ K M'
def mzK1 (g : Bool) (B : MzB) (K : Int32 → MzM → Prop) : MzR → MzB → MzM → Prop := fun r B' M' => B = B' ∧ mzLnk g M' ∧ ∃ v : Int32, r = .inl (some (.int v)) ∧ K v M'
end
section
theorem wn_Law : Jvm.Cond.initialized "ParcelLineLaw" ∈ mzAll := mz_t1 (List.mem_of_getElem? (i := 0) (by decide +kernel)) (by decide +kernel)
theorem wn_PL : Jvm.Cond.initialized "ParcelLine" ∈ mzAll := mz_t1 (List.mem_of_getElem? (i := 1) (by decide +kernel)) (by decide +kernel)
theorem wn_Store : Jvm.Cond.initialized "ParcelLine$Store" ∈ mzAll := mz_t1 (List.mem_of_getElem? (i := 2) (by decide +kernel)) (by decide +kernel)
theorem wn_Node : Jvm.Cond.initialized "ParcelLine$Node" ∈ mzAll := mz_t1 (List.mem_of_getElem? (i := 3) (by decide +kernel)) (by decide +kernel)
theorem wn_Row : Jvm.Cond.initialized "ParcelLine$ByteRow" ∈ mzAll := mz_t1 (List.mem_of_getElem? (i := 4) (by decide +kernel)) (by decide +kernel)
theorem wn_Ses : Jvm.Cond.initialized "ParcelLine$Session" ∈ mzAll := mz_t1 (List.mem_of_getElem? (i := 5) (by decide +kernel)) (by decide +kernel)
theorem wn_Rep : Jvm.Cond.initialized "ParcelLine$Replies" ∈ mzAll := mz_t1 (List.mem_of_getElem? (i := 6) (by decide +kernel)) (by decide +kernel)
theorem wn_Lin : Jvm.Cond.initialized "ParcelLine$LineReader" ∈ mzAll := mz_t1 (List.mem_of_getElem? (i := 7) (by decide +kernel)) (by decide +kernel)
theorem wn_Path : Jvm.Cond.initialized "ParcelLine$Path" ∈ mzAll := mz_t1 (List.mem_of_getElem? (i := 8) (by decide +kernel)) (by decide +kernel)
theorem wn_Way : Jvm.Cond.initialized "ParcelLine$DataWay" ∈ mzAll := mz_t1 (List.mem_of_getElem? (i := 9) (by decide +kernel)) (by decide +kernel)
theorem wn_Cop : Jvm.Cond.initialized "ParcelLine$Copier" ∈ mzAll := mz_t1 (List.mem_of_getElem? (i := 10) (by decide +kernel)) (by decide +kernel)
theorem wn_Mo : Jvm.Cond.initialized "ParcelLineModel" ∈ mzAll := mz_t1 (List.mem_of_getElem? (i := 11) (by decide +kernel)) (by decide +kernel)
theorem wn_JE : Jvm.Cond.initialized "java/lang/Enum" ∈ mzAll := mz_t1 (List.mem_of_getElem? (i := 12) (by decide +kernel)) (by decide +kernel)
theorem wn_Cmd : Jvm.Cond.initialized "ParcelLine$Command" ∈ mzAll := mz_t1 (List.mem_of_getElem? (i := 13) (by decide +kernel)) (by decide +kernel)
theorem wn_JS : Jvm.Cond.initialized "java/lang/String" ∈ mzAll := mz_t1 (List.mem_of_getElem? (i := 14) (by decide +kernel)) (by decide +kernel)
theorem wn_JL : Jvm.Cond.initialized "java/lang/StringLatin1" ∈ mzAll := mz_t1 (List.mem_of_getElem? (i := 15) (by decide +kernel)) (by decide +kernel)
theorem wn_JP : Jvm.Cond.initialized "jdk/internal/util/Preconditions" ∈ mzAll := mz_t1 (List.mem_of_getElem? (i := 16) (by decide +kernel)) (by decide +kernel)
theorem wc_Law_8 : Jvm.Cond.classLink "ParcelLineLaw" (8 : Nat) "ParcelLine" ∈ mzAll := mz_t1 (List.mem_of_getElem? (i := 25) (by decide +kernel)) (by decide +kernel)
theorem wb_PL : Jvm.Cond.instantiable "ParcelLine" (4 : Nat) ∈ mzAll := mz_t1 (List.mem_of_getElem? (i := 26) (by decide +kernel)) (by decide +kernel)
theorem wl_Law_35 : Jvm.Cond.methodLink "ParcelLineLaw" (35 : Nat) ({ cls := "ParcelLine", name := "<init>", desc := "()V" } : Jvm.MethodName) ∈ mzAll := mz_t1 (List.mem_of_getElem? (i := 27) (by decide +kernel)) (by decide +kernel)
theorem wi_PL_init : Jvm.Cond.instanceMethod ({ cls := "ParcelLine", name := "<init>", desc := "()V" } : Jvm.MethodName) ∈ mzAll := mz_t1 (List.mem_of_getElem? (i := 28) (by decide +kernel)) (by decide +kernel)
theorem wco_PL_init : Jvm.Cond.code ({ cls := "ParcelLine", name := "<init>", desc := "()V" } : Jvm.MethodName) prog_1_method_1_code (2 : Nat) (Option.none : Option Jvm.ClassFile.FieldType) ∈ mzAll := mz_t1 (List.mem_of_getElem? (i := 29) (by decide +kernel)) (by decide +kernel)
theorem wl_PL_3 : Jvm.Cond.methodLink "ParcelLine" (3 : Nat) ({ cls := "java/lang/Object", name := "<init>", desc := "()V" } : Jvm.MethodName) ∈ mzAll := mz_t1 (List.mem_of_getElem? (i := 30) (by decide +kernel)) (by decide +kernel)
theorem wc_PL_9 : Jvm.Cond.classLink "ParcelLine" (9 : Nat) "ParcelLine$Store" ∈ mzAll := mz_t1 (List.mem_of_getElem? (i := 33) (by decide +kernel)) (by decide +kernel)
theorem wb_Store : Jvm.Cond.instantiable "ParcelLine$Store" (2 : Nat) ∈ mzAll := mz_t1 (List.mem_of_getElem? (i := 34) (by decide +kernel)) (by decide +kernel)
theorem wl_PL_11 : Jvm.Cond.methodLink "ParcelLine" (11 : Nat) ({ cls := "ParcelLine$Store", name := "<init>", desc := "()V" } : Jvm.MethodName) ∈ mzAll := mz_t1 (List.mem_of_getElem? (i := 35) (by decide +kernel)) (by decide +kernel)
theorem wi_Store_init : Jvm.Cond.instanceMethod ({ cls := "ParcelLine$Store", name := "<init>", desc := "()V" } : Jvm.MethodName) ∈ mzAll := mz_t1 (List.mem_of_getElem? (i := 36) (by decide +kernel)) (by decide +kernel)
theorem wco_Store_init : Jvm.Cond.code ({ cls := "ParcelLine$Store", name := "<init>", desc := "()V" } : Jvm.MethodName) prog_12_method_1_code (2 : Nat) (Option.none : Option Jvm.ClassFile.FieldType) ∈ mzAll := mz_t1 (List.mem_of_getElem? (i := 37) (by decide +kernel)) (by decide +kernel)
theorem wl_Store_3 : Jvm.Cond.methodLink "ParcelLine$Store" (3 : Nat) ({ cls := "java/lang/Object", name := "<init>", desc := "()V" } : Jvm.MethodName) ∈ mzAll := mz_t1 (List.mem_of_getElem? (i := 38) (by decide +kernel)) (by decide +kernel)
theorem wc_Store_9 : Jvm.Cond.classLink "ParcelLine$Store" (9 : Nat) "ParcelLine$Node" ∈ mzAll := mz_t1 (List.mem_of_getElem? (i := 39) (by decide +kernel)) (by decide +kernel)
theorem wb_Node : Jvm.Cond.instantiable "ParcelLine$Node" (7 : Nat) ∈ mzAll := mz_t1 (List.mem_of_getElem? (i := 41) (by decide +kernel)) (by decide +kernel)
theorem wl_Store_17 : Jvm.Cond.methodLink "ParcelLine$Store" (17 : Nat) ({ cls := "ParcelLine$Node", name := "<init>", desc := "()V" } : Jvm.MethodName) ∈ mzAll := mz_t1 (List.mem_of_getElem? (i := 42) (by decide +kernel)) (by decide +kernel)
theorem wi_Node_init : Jvm.Cond.instanceMethod ({ cls := "ParcelLine$Node", name := "<init>", desc := "()V" } : Jvm.MethodName) ∈ mzAll := mz_t1 (List.mem_of_getElem? (i := 43) (by decide +kernel)) (by decide +kernel)
theorem wco_Node_init : Jvm.Cond.code ({ cls := "ParcelLine$Node", name := "<init>", desc := "()V" } : Jvm.MethodName) prog_8_method_1_code (1 : Nat) (Option.none : Option Jvm.ClassFile.FieldType) ∈ mzAll := mz_t1 (List.mem_of_getElem? (i := 44) (by decide +kernel)) (by decide +kernel)
theorem wl_Node_3 : Jvm.Cond.methodLink "ParcelLine$Node" (3 : Nat) ({ cls := "java/lang/Object", name := "<init>", desc := "()V" } : Jvm.MethodName) ∈ mzAll := mz_t1 (List.mem_of_getElem? (i := 45) (by decide +kernel)) (by decide +kernel)
theorem wc_Node_9 : Jvm.Cond.classLink "ParcelLine$Node" (9 : Nat) "ParcelLine$ByteRow" ∈ mzAll := mz_t1 (List.mem_of_getElem? (i := 46) (by decide +kernel)) (by decide +kernel)
theorem wb_Row : Jvm.Cond.instantiable "ParcelLine$ByteRow" (2 : Nat) ∈ mzAll := mz_t1 (List.mem_of_getElem? (i := 47) (by decide +kernel)) (by decide +kernel)
theorem wl_Node_11 : Jvm.Cond.methodLink "ParcelLine$Node" (11 : Nat) ({ cls := "ParcelLine$ByteRow", name := "<init>", desc := "()V" } : Jvm.MethodName) ∈ mzAll := mz_t1 (List.mem_of_getElem? (i := 48) (by decide +kernel)) (by decide +kernel)
theorem wi_Row_init : Jvm.Cond.instanceMethod ({ cls := "ParcelLine$ByteRow", name := "<init>", desc := "()V" } : Jvm.MethodName) ∈ mzAll := mz_t1 (List.mem_of_getElem? (i := 49) (by decide +kernel)) (by decide +kernel)
theorem wco_Row_init : Jvm.Cond.code ({ cls := "ParcelLine$ByteRow", name := "<init>", desc := "()V" } : Jvm.MethodName) prog_3_method_1_code (1 : Nat) (Option.none : Option Jvm.ClassFile.FieldType) ∈ mzAll := mz_t1 (List.mem_of_getElem? (i := 50) (by decide +kernel)) (by decide +kernel)
theorem wl_Row_3 : Jvm.Cond.methodLink "ParcelLine$ByteRow" (3 : Nat) ({ cls := "java/lang/Object", name := "<init>", desc := "()V" } : Jvm.MethodName) ∈ mzAll := mz_t1 (List.mem_of_getElem? (i := 51) (by decide +kernel)) (by decide +kernel)
theorem wf_Row_9 : Jvm.Cond.fieldLink "ParcelLine$ByteRow" (9 : Nat) "ParcelLine$ByteRow" "cells" "[I" ∈ mzAll := mz_t1 (List.mem_of_getElem? (i := 52) (by decide +kernel)) (by decide +kernel)
theorem wf_Row_15 : Jvm.Cond.fieldLink "ParcelLine$ByteRow" (15 : Nat) "ParcelLine$ByteRow" "count" "I" ∈ mzAll := mz_t1 (List.mem_of_getElem? (i := 53) (by decide +kernel)) (by decide +kernel)
theorem wa_int : Jvm.Cond.arrayClass Jvm.ClassFile.FieldType.int ∈ mzAll := mz_t1 (List.mem_of_getElem? (i := 64) (by decide +kernel)) (by decide +kernel)
theorem wf_Node_12 : Jvm.Cond.fieldLink "ParcelLine$Node" (12 : Nat) "ParcelLine$Node" "bytes" "LParcelLine$ByteRow;" ∈ mzAll := mz_t1 (List.mem_of_getElem? (i := 65) (by decide +kernel)) (by decide +kernel)
theorem wf_Node_18 : Jvm.Cond.fieldLink "ParcelLine$Node" (18 : Nat) "ParcelLine$Node" "kind" "I" ∈ mzAll := mz_t1 (List.mem_of_getElem? (i := 72) (by decide +kernel)) (by decide +kernel)
theorem wf_Node_22 : Jvm.Cond.fieldLink "ParcelLine$Node" (22 : Nat) "ParcelLine$Node" "parent" "I" ∈ mzAll := mz_t1 (List.mem_of_getElem? (i := 76) (by decide +kernel)) (by decide +kernel)
theorem wf_Node_29 : Jvm.Cond.fieldLink "ParcelLine$Node" (29 : Nat) "ParcelLine$Node" "readers" "I" ∈ mzAll := mz_t1 (List.mem_of_getElem? (i := 82) (by decide +kernel)) (by decide +kernel)
theorem wf_Node_25 : Jvm.Cond.fieldLink "ParcelLine$Node" (25 : Nat) "ParcelLine$Node" "isWritten" "Z" ∈ mzAll := mz_t1 (List.mem_of_getElem? (i := 84) (by decide +kernel)) (by decide +kernel)
theorem wf_Store_11 : Jvm.Cond.fieldLink "ParcelLine$Store" (11 : Nat) "ParcelLine$Store" "nodes" "[LParcelLine$Node;" ∈ mzAll := mz_t1 (List.mem_of_getElem? (i := 105) (by decide +kernel)) (by decide +kernel)
theorem wf_Store_25 : Jvm.Cond.fieldLink "ParcelLine$Store" (25 : Nat) "ParcelLine$Store" "currents" "[I" ∈ mzAll := mz_t1 (List.mem_of_getElem? (i := 108) (by decide +kernel)) (by decide +kernel)
theorem wc_PL_16 : Jvm.Cond.classLink "ParcelLine" (16 : Nat) "ParcelLine$Session" ∈ mzAll := mz_t1 (List.mem_of_getElem? (i := 116) (by decide +kernel)) (by decide +kernel)
theorem wb_Ses : Jvm.Cond.instantiable "ParcelLine$Session" (17 : Nat) ∈ mzAll := mz_t1 (List.mem_of_getElem? (i := 118) (by decide +kernel)) (by decide +kernel)
theorem wl_PL_22 : Jvm.Cond.methodLink "ParcelLine" (22 : Nat) ({ cls := "ParcelLine$Session", name := "<init>", desc := "(ILParcelLine$Store;)V" } : Jvm.MethodName) ∈ mzAll := mz_t1 (List.mem_of_getElem? (i := 119) (by decide +kernel)) (by decide +kernel)
theorem wi_Ses_init : Jvm.Cond.instanceMethod ({ cls := "ParcelLine$Session", name := "<init>", desc := "(ILParcelLine$Store;)V" } : Jvm.MethodName) ∈ mzAll := mz_t1 (List.mem_of_getElem? (i := 120) (by decide +kernel)) (by decide +kernel)
theorem wco_Ses_init : Jvm.Cond.code ({ cls := "ParcelLine$Session", name := "<init>", desc := "(ILParcelLine$Store;)V" } : Jvm.MethodName) prog_11_method_1_code (3 : Nat) (Option.none : Option Jvm.ClassFile.FieldType) ∈ mzAll := mz_t1 (List.mem_of_getElem? (i := 121) (by decide +kernel)) (by decide +kernel)
theorem wl_Ses_3 : Jvm.Cond.methodLink "ParcelLine$Session" (3 : Nat) ({ cls := "java/lang/Object", name := "<init>", desc := "()V" } : Jvm.MethodName) ∈ mzAll := mz_t1 (List.mem_of_getElem? (i := 122) (by decide +kernel)) (by decide +kernel)
theorem wc_Ses_19 : Jvm.Cond.classLink "ParcelLine$Session" (19 : Nat) "ParcelLine$Replies" ∈ mzAll := mz_t1 (List.mem_of_getElem? (i := 123) (by decide +kernel)) (by decide +kernel)
theorem wb_Rep : Jvm.Cond.instantiable "ParcelLine$Replies" (5 : Nat) ∈ mzAll := mz_t1 (List.mem_of_getElem? (i := 124) (by decide +kernel)) (by decide +kernel)
theorem wl_Ses_21 : Jvm.Cond.methodLink "ParcelLine$Session" (21 : Nat) ({ cls := "ParcelLine$Replies", name := "<init>", desc := "()V" } : Jvm.MethodName) ∈ mzAll := mz_t1 (List.mem_of_getElem? (i := 125) (by decide +kernel)) (by decide +kernel)
theorem wi_Rep_init : Jvm.Cond.instanceMethod ({ cls := "ParcelLine$Replies", name := "<init>", desc := "()V" } : Jvm.MethodName) ∈ mzAll := mz_t1 (List.mem_of_getElem? (i := 126) (by decide +kernel)) (by decide +kernel)
theorem wco_Rep_init : Jvm.Cond.code ({ cls := "ParcelLine$Replies", name := "<init>", desc := "()V" } : Jvm.MethodName) prog_10_method_1_code (1 : Nat) (Option.none : Option Jvm.ClassFile.FieldType) ∈ mzAll := mz_t1 (List.mem_of_getElem? (i := 127) (by decide +kernel)) (by decide +kernel)
theorem wl_Rep_3 : Jvm.Cond.methodLink "ParcelLine$Replies" (3 : Nat) ({ cls := "java/lang/Object", name := "<init>", desc := "()V" } : Jvm.MethodName) ∈ mzAll := mz_t1 (List.mem_of_getElem? (i := 128) (by decide +kernel)) (by decide +kernel)
theorem wf_Rep_9 : Jvm.Cond.fieldLink "ParcelLine$Replies" (9 : Nat) "ParcelLine$Replies" "ring" "[I" ∈ mzAll := mz_t1 (List.mem_of_getElem? (i := 129) (by decide +kernel)) (by decide +kernel)
theorem wf_Rep_18 : Jvm.Cond.fieldLink "ParcelLine$Replies" (18 : Nat) "ParcelLine$Replies" "first" "I" ∈ mzAll := mz_t1 (List.mem_of_getElem? (i := 130) (by decide +kernel)) (by decide +kernel)
theorem wf_Rep_22 : Jvm.Cond.fieldLink "ParcelLine$Replies" (22 : Nat) "ParcelLine$Replies" "count" "I" ∈ mzAll := mz_t1 (List.mem_of_getElem? (i := 131) (by decide +kernel)) (by decide +kernel)
theorem wf_Rep_15 : Jvm.Cond.fieldLink "ParcelLine$Replies" (15 : Nat) "ParcelLine$Replies" "draft" "[I" ∈ mzAll := mz_t1 (List.mem_of_getElem? (i := 133) (by decide +kernel)) (by decide +kernel)
theorem wf_Rep_25 : Jvm.Cond.fieldLink "ParcelLine$Replies" (25 : Nat) "ParcelLine$Replies" "length" "I" ∈ mzAll := mz_t1 (List.mem_of_getElem? (i := 134) (by decide +kernel)) (by decide +kernel)
theorem wc_Ses_26 : Jvm.Cond.classLink "ParcelLine$Session" (26 : Nat) "ParcelLine$LineReader" ∈ mzAll := mz_t1 (List.mem_of_getElem? (i := 146) (by decide +kernel)) (by decide +kernel)
theorem wb_Lin : Jvm.Cond.instantiable "ParcelLine$LineReader" (7 : Nat) ∈ mzAll := mz_t1 (List.mem_of_getElem? (i := 147) (by decide +kernel)) (by decide +kernel)
theorem wl_Ses_28 : Jvm.Cond.methodLink "ParcelLine$Session" (28 : Nat) ({ cls := "ParcelLine$LineReader", name := "<init>", desc := "(LParcelLine$Replies;)V" } : Jvm.MethodName) ∈ mzAll := mz_t1 (List.mem_of_getElem? (i := 148) (by decide +kernel)) (by decide +kernel)
theorem wi_Lin_init : Jvm.Cond.instanceMethod ({ cls := "ParcelLine$LineReader", name := "<init>", desc := "(LParcelLine$Replies;)V" } : Jvm.MethodName) ∈ mzAll := mz_t1 (List.mem_of_getElem? (i := 149) (by decide +kernel)) (by decide +kernel)
theorem wco_Lin_init : Jvm.Cond.code ({ cls := "ParcelLine$LineReader", name := "<init>", desc := "(LParcelLine$Replies;)V" } : Jvm.MethodName) prog_7_method_1_code (2 : Nat) (Option.none : Option Jvm.ClassFile.FieldType) ∈ mzAll := mz_t1 (List.mem_of_getElem? (i := 150) (by decide +kernel)) (by decide +kernel)
theorem wl_Lin_3 : Jvm.Cond.methodLink "ParcelLine$LineReader" (3 : Nat) ({ cls := "java/lang/Object", name := "<init>", desc := "()V" } : Jvm.MethodName) ∈ mzAll := mz_t1 (List.mem_of_getElem? (i := 151) (by decide +kernel)) (by decide +kernel)
theorem wf_Lin_9 : Jvm.Cond.fieldLink "ParcelLine$LineReader" (9 : Nat) "ParcelLine$LineReader" "replies" "LParcelLine$Replies;" ∈ mzAll := mz_t1 (List.mem_of_getElem? (i := 152) (by decide +kernel)) (by decide +kernel)
theorem wf_Lin_15 : Jvm.Cond.fieldLink "ParcelLine$LineReader" (15 : Nat) "ParcelLine$LineReader" "line" "[I" ∈ mzAll := mz_t1 (List.mem_of_getElem? (i := 153) (by decide +kernel)) (by decide +kernel)
theorem wf_Lin_30 : Jvm.Cond.fieldLink "ParcelLine$LineReader" (30 : Nat) "ParcelLine$LineReader" "length" "I" ∈ mzAll := mz_t1 (List.mem_of_getElem? (i := 156) (by decide +kernel)) (by decide +kernel)
theorem wf_Lin_33 : Jvm.Cond.fieldLink "ParcelLine$LineReader" (33 : Nat) "ParcelLine$LineReader" "isTooLong" "Z" ∈ mzAll := mz_t1 (List.mem_of_getElem? (i := 157) (by decide +kernel)) (by decide +kernel)
theorem wf_Lin_19 : Jvm.Cond.fieldLink "ParcelLine$LineReader" (19 : Nat) "ParcelLine$LineReader" "order" "I" ∈ mzAll := mz_t1 (List.mem_of_getElem? (i := 159) (by decide +kernel)) (by decide +kernel)
theorem wf_Lin_23 : Jvm.Cond.fieldLink "ParcelLine$LineReader" (23 : Nat) "ParcelLine$LineReader" "isReturnSeen" "Z" ∈ mzAll := mz_t1 (List.mem_of_getElem? (i := 160) (by decide +kernel)) (by decide +kernel)
theorem wf_Lin_51 : Jvm.Cond.fieldLink "ParcelLine$LineReader" (51 : Nat) "ParcelLine$LineReader" "commandLength" "I" ∈ mzAll := mz_t1 (List.mem_of_getElem? (i := 162) (by decide +kernel)) (by decide +kernel)
theorem wc_Ses_35 : Jvm.Cond.classLink "ParcelLine$Session" (35 : Nat) "ParcelLine$Path" ∈ mzAll := mz_t1 (List.mem_of_getElem? (i := 178) (by decide +kernel)) (by decide +kernel)
theorem wb_Path : Jvm.Cond.instantiable "ParcelLine$Path" (4 : Nat) ∈ mzAll := mz_t1 (List.mem_of_getElem? (i := 179) (by decide +kernel)) (by decide +kernel)
theorem wl_Ses_37 : Jvm.Cond.methodLink "ParcelLine$Session" (37 : Nat) ({ cls := "ParcelLine$Path", name := "<init>", desc := "()V" } : Jvm.MethodName) ∈ mzAll := mz_t1 (List.mem_of_getElem? (i := 180) (by decide +kernel)) (by decide +kernel)
theorem wi_Path_init : Jvm.Cond.instanceMethod ({ cls := "ParcelLine$Path", name := "<init>", desc := "()V" } : Jvm.MethodName) ∈ mzAll := mz_t1 (List.mem_of_getElem? (i := 181) (by decide +kernel)) (by decide +kernel)
theorem wco_Path_init : Jvm.Cond.code ({ cls := "ParcelLine$Path", name := "<init>", desc := "()V" } : Jvm.MethodName) prog_9_method_1_code (1 : Nat) (Option.none : Option Jvm.ClassFile.FieldType) ∈ mzAll := mz_t1 (List.mem_of_getElem? (i := 182) (by decide +kernel)) (by decide +kernel)
theorem wl_Path_3 : Jvm.Cond.methodLink "ParcelLine$Path" (3 : Nat) ({ cls := "java/lang/Object", name := "<init>", desc := "()V" } : Jvm.MethodName) ∈ mzAll := mz_t1 (List.mem_of_getElem? (i := 183) (by decide +kernel)) (by decide +kernel)
theorem wf_Path_9 : Jvm.Cond.fieldLink "ParcelLine$Path" (9 : Nat) "ParcelLine$Path" "steps" "[I" ∈ mzAll := mz_t1 (List.mem_of_getElem? (i := 184) (by decide +kernel)) (by decide +kernel)
theorem wf_Path_15 : Jvm.Cond.fieldLink "ParcelLine$Path" (15 : Nat) "ParcelLine$Path" "count" "I" ∈ mzAll := mz_t1 (List.mem_of_getElem? (i := 186) (by decide +kernel)) (by decide +kernel)
theorem wf_Path_19 : Jvm.Cond.fieldLink "ParcelLine$Path" (19 : Nat) "ParcelLine$Path" "isFromRoot" "Z" ∈ mzAll := mz_t1 (List.mem_of_getElem? (i := 189) (by decide +kernel)) (by decide +kernel)
theorem wf_Path_23 : Jvm.Cond.fieldLink "ParcelLine$Path" (23 : Nat) "ParcelLine$Path" "isValid" "Z" ∈ mzAll := mz_t1 (List.mem_of_getElem? (i := 191) (by decide +kernel)) (by decide +kernel)
theorem wc_Ses_42 : Jvm.Cond.classLink "ParcelLine$Session" (42 : Nat) "ParcelLine$DataWay" ∈ mzAll := mz_t1 (List.mem_of_getElem? (i := 202) (by decide +kernel)) (by decide +kernel)
theorem wb_Way : Jvm.Cond.instantiable "ParcelLine$DataWay" (8 : Nat) ∈ mzAll := mz_t1 (List.mem_of_getElem? (i := 203) (by decide +kernel)) (by decide +kernel)
theorem wl_Ses_44 : Jvm.Cond.methodLink "ParcelLine$Session" (44 : Nat) ({ cls := "ParcelLine$DataWay", name := "<init>", desc := "()V" } : Jvm.MethodName) ∈ mzAll := mz_t1 (List.mem_of_getElem? (i := 204) (by decide +kernel)) (by decide +kernel)
theorem wi_Way_init : Jvm.Cond.instanceMethod ({ cls := "ParcelLine$DataWay", name := "<init>", desc := "()V" } : Jvm.MethodName) ∈ mzAll := mz_t1 (List.mem_of_getElem? (i := 205) (by decide +kernel)) (by decide +kernel)
theorem wco_Way_init : Jvm.Cond.code ({ cls := "ParcelLine$DataWay", name := "<init>", desc := "()V" } : Jvm.MethodName) prog_6_method_1_code (1 : Nat) (Option.none : Option Jvm.ClassFile.FieldType) ∈ mzAll := mz_t1 (List.mem_of_getElem? (i := 206) (by decide +kernel)) (by decide +kernel)
theorem wl_Way_3 : Jvm.Cond.methodLink "ParcelLine$DataWay" (3 : Nat) ({ cls := "java/lang/Object", name := "<init>", desc := "()V" } : Jvm.MethodName) ∈ mzAll := mz_t1 (List.mem_of_getElem? (i := 207) (by decide +kernel)) (by decide +kernel)
theorem wf_Way_67 : Jvm.Cond.fieldLink "ParcelLine$DataWay" (67 : Nat) "ParcelLine$DataWay" "isOpen" "Z" ∈ mzAll := mz_t1 (List.mem_of_getElem? (i := 209) (by decide +kernel)) (by decide +kernel)
theorem wf_Way_19 : Jvm.Cond.fieldLink "ParcelLine$DataWay" (19 : Nat) "ParcelLine$DataWay" "mode" "I" ∈ mzAll := mz_t1 (List.mem_of_getElem? (i := 211) (by decide +kernel)) (by decide +kernel)
theorem wf_Way_48 : Jvm.Cond.fieldLink "ParcelLine$DataWay" (48 : Nat) "ParcelLine$DataWay" "isAscii" "Z" ∈ mzAll := mz_t1 (List.mem_of_getElem? (i := 215) (by decide +kernel)) (by decide +kernel)
theorem wf_Way_58 : Jvm.Cond.fieldLink "ParcelLine$DataWay" (58 : Nat) "ParcelLine$DataWay" "isReturnWaiting" "Z" ∈ mzAll := mz_t1 (List.mem_of_getElem? (i := 216) (by decide +kernel)) (by decide +kernel)
theorem wf_Way_22 : Jvm.Cond.fieldLink "ParcelLine$DataWay" (22 : Nat) "ParcelLine$DataWay" "file" "LParcelLine$Node;" ∈ mzAll := mz_t1 (List.mem_of_getElem? (i := 217) (by decide +kernel)) (by decide +kernel)
theorem wf_Way_9 : Jvm.Cond.fieldLink "ParcelLine$DataWay" (9 : Nat) "ParcelLine$DataWay" "row" "[I" ∈ mzAll := mz_t1 (List.mem_of_getElem? (i := 220) (by decide +kernel)) (by decide +kernel)
theorem wf_Way_64 : Jvm.Cond.fieldLink "ParcelLine$DataWay" (64 : Nat) "ParcelLine$DataWay" "next" "I" ∈ mzAll := mz_t1 (List.mem_of_getElem? (i := 221) (by decide +kernel)) (by decide +kernel)
theorem wf_Way_15 : Jvm.Cond.fieldLink "ParcelLine$DataWay" (15 : Nat) "ParcelLine$DataWay" "length" "I" ∈ mzAll := mz_t1 (List.mem_of_getElem? (i := 222) (by decide +kernel)) (by decide +kernel)
theorem wf_Ses_9 : Jvm.Cond.fieldLink "ParcelLine$Session" (9 : Nat) "ParcelLine$Session" "me" "I" ∈ mzAll := mz_t2 (List.mem_of_getElem? (i := 0) (by decide +kernel)) (by decide +kernel)
theorem wf_Ses_15 : Jvm.Cond.fieldLink "ParcelLine$Session" (15 : Nat) "ParcelLine$Session" "store" "LParcelLine$Store;" ∈ mzAll := mz_t2 (List.mem_of_getElem? (i := 1) (by decide +kernel)) (by decide +kernel)
theorem wf_Ses_22 : Jvm.Cond.fieldLink "ParcelLine$Session" (22 : Nat) "ParcelLine$Session" "replies" "LParcelLine$Replies;" ∈ mzAll := mz_t2 (List.mem_of_getElem? (i := 2) (by decide +kernel)) (by decide +kernel)
theorem wf_Ses_31 : Jvm.Cond.fieldLink "ParcelLine$Session" (31 : Nat) "ParcelLine$Session" "reader" "LParcelLine$LineReader;" ∈ mzAll := mz_t2 (List.mem_of_getElem? (i := 4) (by decide +kernel)) (by decide +kernel)
theorem wf_Ses_38 : Jvm.Cond.fieldLink "ParcelLine$Session" (38 : Nat) "ParcelLine$Session" "path" "LParcelLine$Path;" ∈ mzAll := mz_t2 (List.mem_of_getElem? (i := 5) (by decide +kernel)) (by decide +kernel)
theorem wf_Ses_45 : Jvm.Cond.fieldLink "ParcelLine$Session" (45 : Nat) "ParcelLine$Session" "way" "LParcelLine$DataWay;" ∈ mzAll := mz_t2 (List.mem_of_getElem? (i := 6) (by decide +kernel)) (by decide +kernel)
theorem wf_Ses_49 : Jvm.Cond.fieldLink "ParcelLine$Session" (49 : Nat) "ParcelLine$Session" "lineage" "[I" ∈ mzAll := mz_t2 (List.mem_of_getElem? (i := 9) (by decide +kernel)) (by decide +kernel)
theorem wf_Ses_140 : Jvm.Cond.fieldLink "ParcelLine$Session" (140 : Nat) "ParcelLine$Session" "user" "I" ∈ mzAll := mz_t2 (List.mem_of_getElem? (i := 10) (by decide +kernel)) (by decide +kernel)
theorem wf_Ses_127 : Jvm.Cond.fieldLink "ParcelLine$Session" (127 : Nat) "ParcelLine$Session" "isAscii" "Z" ∈ mzAll := mz_t2 (List.mem_of_getElem? (i := 11) (by decide +kernel)) (by decide +kernel)
theorem wf_Ses_131 : Jvm.Cond.fieldLink "ParcelLine$Session" (131 : Nat) "ParcelLine$Session" "named" "I" ∈ mzAll := mz_t2 (List.mem_of_getElem? (i := 12) (by decide +kernel)) (by decide +kernel)
theorem wf_Ses_53 : Jvm.Cond.fieldLink "ParcelLine$Session" (53 : Nat) "ParcelLine$Session" "renaming" "I" ∈ mzAll := mz_t2 (List.mem_of_getElem? (i := 13) (by decide +kernel)) (by decide +kernel)
theorem wf_Ses_134 : Jvm.Cond.fieldLink "ParcelLine$Session" (134 : Nat) "ParcelLine$Session" "offset" "I" ∈ mzAll := mz_t2 (List.mem_of_getElem? (i := 14) (by decide +kernel)) (by decide +kernel)
theorem wf_Ses_56 : Jvm.Cond.fieldLink "ParcelLine$Session" (56 : Nat) "ParcelLine$Session" "target" "I" ∈ mzAll := mz_t2 (List.mem_of_getElem? (i := 15) (by decide +kernel)) (by decide +kernel)
theorem wf_Ses_59 : Jvm.Cond.fieldLink "ParcelLine$Session" (59 : Nat) "ParcelLine$Session" "place" "I" ∈ mzAll := mz_t2 (List.mem_of_getElem? (i := 16) (by decide +kernel)) (by decide +kernel)
theorem wf_Ses_175 : Jvm.Cond.fieldLink "ParcelLine$Session" (175 : Nat) "ParcelLine$Session" "number" "I" ∈ mzAll := mz_t2 (List.mem_of_getElem? (i := 17) (by decide +kernel)) (by decide +kernel)
theorem wf_Ses_184 : Jvm.Cond.fieldLink "ParcelLine$Session" (184 : Nat) "ParcelLine$Session" "shown" "I" ∈ mzAll := mz_t2 (List.mem_of_getElem? (i := 19) (by decide +kernel)) (by decide +kernel)
theorem wf_Ses_90 : Jvm.Cond.fieldLink "ParcelLine$Session" (90 : Nat) "ParcelLine$Session" "answered" "I" ∈ mzAll := mz_t2 (List.mem_of_getElem? (i := 20) (by decide +kernel)) (by decide +kernel)
theorem wc_PL_25 : Jvm.Cond.classLink "ParcelLine" (25 : Nat) "ParcelLine$ByteRow" ∈ mzAll := mz_t2 (List.mem_of_getElem? (i := 57) (by decide +kernel)) (by decide +kernel)
theorem wl_PL_31 : Jvm.Cond.methodLink "ParcelLine" (31 : Nat) ({ cls := "ParcelLine$ByteRow", name := "<init>", desc := "()V" } : Jvm.MethodName) ∈ mzAll := mz_t2 (List.mem_of_getElem? (i := 59) (by decide +kernel)) (by decide +kernel)
theorem wc_PL_32 : Jvm.Cond.classLink "ParcelLine" (32 : Nat) "ParcelLine$Copier" ∈ mzAll := mz_t2 (List.mem_of_getElem? (i := 60) (by decide +kernel)) (by decide +kernel)
theorem wb_Cop : Jvm.Cond.instantiable "ParcelLine$Copier" (9 : Nat) ∈ mzAll := mz_t2 (List.mem_of_getElem? (i := 61) (by decide +kernel)) (by decide +kernel)
theorem wl_PL_34 : Jvm.Cond.methodLink "ParcelLine" (34 : Nat) ({ cls := "ParcelLine$Copier", name := "<init>", desc := "(LParcelLine$Session;LParcelLine$ByteRow;)V" } : Jvm.MethodName) ∈ mzAll := mz_t2 (List.mem_of_getElem? (i := 62) (by decide +kernel)) (by decide +kernel)
theorem wi_Cop_init : Jvm.Cond.instanceMethod ({ cls := "ParcelLine$Copier", name := "<init>", desc := "(LParcelLine$Session;LParcelLine$ByteRow;)V" } : Jvm.MethodName) ∈ mzAll := mz_t2 (List.mem_of_getElem? (i := 63) (by decide +kernel)) (by decide +kernel)
theorem wco_Cop_init : Jvm.Cond.code ({ cls := "ParcelLine$Copier", name := "<init>", desc := "(LParcelLine$Session;LParcelLine$ByteRow;)V" } : Jvm.MethodName) prog_5_method_1_code (3 : Nat) (Option.none : Option Jvm.ClassFile.FieldType) ∈ mzAll := mz_t2 (List.mem_of_getElem? (i := 64) (by decide +kernel)) (by decide +kernel)
theorem wl_Cop_3 : Jvm.Cond.methodLink "ParcelLine$Copier" (3 : Nat) ({ cls := "java/lang/Object", name := "<init>", desc := "()V" } : Jvm.MethodName) ∈ mzAll := mz_t2 (List.mem_of_getElem? (i := 65) (by decide +kernel)) (by decide +kernel)
theorem wf_Cop_9 : Jvm.Cond.fieldLink "ParcelLine$Copier" (9 : Nat) "ParcelLine$Copier" "session" "LParcelLine$Session;" ∈ mzAll := mz_t2 (List.mem_of_getElem? (i := 66) (by decide +kernel)) (by decide +kernel)
theorem wf_Cop_15 : Jvm.Cond.fieldLink "ParcelLine$Copier" (15 : Nat) "ParcelLine$Copier" "shelf" "LParcelLine$ByteRow;" ∈ mzAll := mz_t2 (List.mem_of_getElem? (i := 67) (by decide +kernel)) (by decide +kernel)
theorem wf_Cop_19 : Jvm.Cond.fieldLink "ParcelLine$Copier" (19 : Nat) "ParcelLine$Copier" "isOn" "Z" ∈ mzAll := mz_t2 (List.mem_of_getElem? (i := 68) (by decide +kernel)) (by decide +kernel)
theorem wf_Cop_23 : Jvm.Cond.fieldLink "ParcelLine$Copier" (23 : Nat) "ParcelLine$Copier" "isBringing" "Z" ∈ mzAll := mz_t2 (List.mem_of_getElem? (i := 70) (by decide +kernel)) (by decide +kernel)
theorem wf_Cop_26 : Jvm.Cond.fieldLink "ParcelLine$Copier" (26 : Nat) "ParcelLine$Copier" "name" "I" ∈ mzAll := mz_t2 (List.mem_of_getElem? (i := 72) (by decide +kernel)) (by decide +kernel)
theorem wf_Cop_30 : Jvm.Cond.fieldLink "ParcelLine$Copier" (30 : Nat) "ParcelLine$Copier" "tries" "I" ∈ mzAll := mz_t2 (List.mem_of_getElem? (i := 73) (by decide +kernel)) (by decide +kernel)
theorem wf_Cop_33 : Jvm.Cond.fieldLink "ParcelLine$Copier" (33 : Nat) "ParcelLine$Copier" "next" "I" ∈ mzAll := mz_t2 (List.mem_of_getElem? (i := 74) (by decide +kernel)) (by decide +kernel)
theorem wf_Cop_36 : Jvm.Cond.fieldLink "ParcelLine$Copier" (36 : Nat) "ParcelLine$Copier" "isLost" "Z" ∈ mzAll := mz_t2 (List.mem_of_getElem? (i := 76) (by decide +kernel)) (by decide +kernel)
theorem wf_Cop_39 : Jvm.Cond.fieldLink "ParcelLine$Copier" (39 : Nat) "ParcelLine$Copier" "size" "I" ∈ mzAll := mz_t2 (List.mem_of_getElem? (i := 78) (by decide +kernel)) (by decide +kernel)
theorem wf_PL_12 : Jvm.Cond.fieldLink "ParcelLine" (12 : Nat) "ParcelLine" "store" "LParcelLine$Store;" ∈ mzAll := mz_t2 (List.mem_of_getElem? (i := 98) (by decide +kernel)) (by decide +kernel)
theorem wf_PL_18 : Jvm.Cond.fieldLink "ParcelLine" (18 : Nat) "ParcelLine" "sessions" "[LParcelLine$Session;" ∈ mzAll := mz_t2 (List.mem_of_getElem? (i := 99) (by decide +kernel)) (by decide +kernel)
theorem wf_PL_27 : Jvm.Cond.fieldLink "ParcelLine" (27 : Nat) "ParcelLine" "shelves" "[LParcelLine$ByteRow;" ∈ mzAll := mz_t2 (List.mem_of_getElem? (i := 100) (by decide +kernel)) (by decide +kernel)
theorem wf_PL_37 : Jvm.Cond.fieldLink "ParcelLine" (37 : Nat) "ParcelLine" "copier" "LParcelLine$Copier;" ∈ mzAll := mz_t2 (List.mem_of_getElem? (i := 101) (by decide +kernel)) (by decide +kernel)
theorem wl_Law_39 : Jvm.Cond.methodLink "ParcelLineLaw" (39 : Nat) ({ cls := "ParcelLine", name := "feed", desc := "(II)Z" } : Jvm.MethodName) ∈ mzAll := mz_t2 (List.mem_of_getElem? (i := 111) (by decide +kernel)) (by decide +kernel)
theorem wi_PL_feed : Jvm.Cond.instanceMethod ({ cls := "ParcelLine", name := "feed", desc := "(II)Z" } : Jvm.MethodName) ∈ mzAll := mz_t2 (List.mem_of_getElem? (i := 112) (by decide +kernel)) (by decide +kernel)
theorem wse_PL_feed : Jvm.Cond.selects "ParcelLine" ({ cls := "ParcelLine", name := "feed", desc := "(II)Z" } : Jvm.MethodName) ({ cls := "ParcelLine", name := "feed", desc := "(II)Z" } : Jvm.MethodName) ∈ mzAll := mz_t2 (List.mem_of_getElem? (i := 113) (by decide +kernel)) (by decide +kernel)
theorem wco_PL_feed : Jvm.Cond.code ({ cls := "ParcelLine", name := "feed", desc := "(II)Z" } : Jvm.MethodName) prog_1_method_2_code (3 : Nat) (Option.some Jvm.ClassFile.FieldType.boolean) ∈ mzAll := mz_t2 (List.mem_of_getElem? (i := 114) (by decide +kernel)) (by decide +kernel)
theorem wl_PL_41 : Jvm.Cond.methodLink "ParcelLine" (41 : Nat) ({ cls := "ParcelLine", name := "isSession", desc := "(I)Z" } : Jvm.MethodName) ∈ mzAll := mz_t2 (List.mem_of_getElem? (i := 115) (by decide +kernel)) (by decide +kernel)
theorem ws_PL_isSession : Jvm.Cond.static ({ cls := "ParcelLine", name := "isSession", desc := "(I)Z" } : Jvm.MethodName) ∈ mzAll := mz_t2 (List.mem_of_getElem? (i := 116) (by decide +kernel)) (by decide +kernel)
theorem wco_PL_isSession : Jvm.Cond.code ({ cls := "ParcelLine", name := "isSession", desc := "(I)Z" } : Jvm.MethodName) prog_1_method_18_code (1 : Nat) (Option.some Jvm.ClassFile.FieldType.boolean) ∈ mzAll := mz_t2 (List.mem_of_getElem? (i := 117) (by decide +kernel)) (by decide +kernel)
theorem wl_PL_45 : Jvm.Cond.methodLink "ParcelLine" (45 : Nat) ({ cls := "ParcelLine$Session", name := "accept", desc := "(I)V" } : Jvm.MethodName) ∈ mzAll := mz_t2 (List.mem_of_getElem? (i := 118) (by decide +kernel)) (by decide +kernel)
theorem wi_Ses_accept : Jvm.Cond.instanceMethod ({ cls := "ParcelLine$Session", name := "accept", desc := "(I)V" } : Jvm.MethodName) ∈ mzAll := mz_t2 (List.mem_of_getElem? (i := 119) (by decide +kernel)) (by decide +kernel)
theorem wse_Ses_accept : Jvm.Cond.selects "ParcelLine$Session" ({ cls := "ParcelLine$Session", name := "accept", desc := "(I)V" } : Jvm.MethodName) ({ cls := "ParcelLine$Session", name := "accept", desc := "(I)V" } : Jvm.MethodName) ∈ mzAll := mz_t2 (List.mem_of_getElem? (i := 120) (by decide +kernel)) (by decide +kernel)
theorem wco_Ses_accept : Jvm.Cond.code ({ cls := "ParcelLine$Session", name := "accept", desc := "(I)V" } : Jvm.MethodName) prog_11_method_2_code (3 : Nat) (Option.none : Option Jvm.ClassFile.FieldType) ∈ mzAll := mz_t2 (List.mem_of_getElem? (i := 121) (by decide +kernel)) (by decide +kernel)
theorem wl_Ses_62 : Jvm.Cond.methodLink "ParcelLine$Session" (62 : Nat) ({ cls := "ParcelLine$LineReader", name := "readByte", desc := "(I)Z" } : Jvm.MethodName) ∈ mzAll := mz_t2 (List.mem_of_getElem? (i := 122) (by decide +kernel)) (by decide +kernel)
theorem wi_Lin_readByte : Jvm.Cond.instanceMethod ({ cls := "ParcelLine$LineReader", name := "readByte", desc := "(I)Z" } : Jvm.MethodName) ∈ mzAll := mz_t2 (List.mem_of_getElem? (i := 123) (by decide +kernel)) (by decide +kernel)
theorem wse_Lin_readByte : Jvm.Cond.selects "ParcelLine$LineReader" ({ cls := "ParcelLine$LineReader", name := "readByte", desc := "(I)Z" } : Jvm.MethodName) ({ cls := "ParcelLine$LineReader", name := "readByte", desc := "(I)Z" } : Jvm.MethodName) ∈ mzAll := mz_t2 (List.mem_of_getElem? (i := 124) (by decide +kernel)) (by decide +kernel)
theorem wco_Lin_readByte : Jvm.Cond.code ({ cls := "ParcelLine$LineReader", name := "readByte", desc := "(I)Z" } : Jvm.MethodName) prog_7_method_4_code (3 : Nat) (Option.some Jvm.ClassFile.FieldType.boolean) ∈ mzAll := mz_t2 (List.mem_of_getElem? (i := 125) (by decide +kernel)) (by decide +kernel)
theorem wl_Lin_36 : Jvm.Cond.methodLink "ParcelLine$LineReader" (36 : Nat) ({ cls := "ParcelLine$LineReader", name := "readLineByte", desc := "(I)Z" } : Jvm.MethodName) ∈ mzAll := mz_t2 (List.mem_of_getElem? (i := 126) (by decide +kernel)) (by decide +kernel)
theorem wi_Lin_readLineByte : Jvm.Cond.instanceMethod ({ cls := "ParcelLine$LineReader", name := "readLineByte", desc := "(I)Z" } : Jvm.MethodName) ∈ mzAll := mz_t2 (List.mem_of_getElem? (i := 128) (by decide +kernel)) (by decide +kernel)
theorem wco_Lin_readLineByte : Jvm.Cond.code ({ cls := "ParcelLine$LineReader", name := "readLineByte", desc := "(I)Z" } : Jvm.MethodName) prog_7_method_6_code (3 : Nat) (Option.some Jvm.ClassFile.FieldType.boolean) ∈ mzAll := mz_t2 (List.mem_of_getElem? (i := 129) (by decide +kernel)) (by decide +kernel)
theorem wl_Lin_47 : Jvm.Cond.methodLink "ParcelLine$LineReader" (47 : Nat) ({ cls := "ParcelLine$LineReader", name := "keep", desc := "(I)V" } : Jvm.MethodName) ∈ mzAll := mz_t2 (List.mem_of_getElem? (i := 130) (by decide +kernel)) (by decide +kernel)
theorem wi_Lin_keep : Jvm.Cond.instanceMethod ({ cls := "ParcelLine$LineReader", name := "keep", desc := "(I)V" } : Jvm.MethodName) ∈ mzAll := mz_t2 (List.mem_of_getElem? (i := 132) (by decide +kernel)) (by decide +kernel)
theorem wco_Lin_keep : Jvm.Cond.code ({ cls := "ParcelLine$LineReader", name := "keep", desc := "(I)V" } : Jvm.MethodName) prog_7_method_7_code (2 : Nat) (Option.none : Option Jvm.ClassFile.FieldType) ∈ mzAll := mz_t2 (List.mem_of_getElem? (i := 133) (by decide +kernel)) (by decide +kernel)
theorem wl_Lin_40 : Jvm.Cond.methodLink "ParcelLine$LineReader" (40 : Nat) ({ cls := "ParcelLine$LineReader", name := "answerOrder", desc := "(II)V" } : Jvm.MethodName) ∈ mzAll := mz_t2 (List.mem_of_getElem? (i := 134) (by decide +kernel)) (by decide +kernel)
theorem wi_Lin_answerOrder : Jvm.Cond.instanceMethod ({ cls := "ParcelLine$LineReader", name := "answerOrder", desc := "(II)V" } : Jvm.MethodName) ∈ mzAll := mz_t2 (List.mem_of_getElem? (i := 136) (by decide +kernel)) (by decide +kernel)
theorem wco_Lin_answerOrder : Jvm.Cond.code ({ cls := "ParcelLine$LineReader", name := "answerOrder", desc := "(II)V" } : Jvm.MethodName) prog_7_method_5_code (3 : Nat) (Option.none : Option Jvm.ClassFile.FieldType) ∈ mzAll := mz_t2 (List.mem_of_getElem? (i := 137) (by decide +kernel)) (by decide +kernel)
theorem wl_Lin_44 : Jvm.Cond.methodLink "ParcelLine$LineReader" (44 : Nat) ({ cls := "ParcelLine$Replies", name := "answerOrder", desc := "(II)V" } : Jvm.MethodName) ∈ mzAll := mz_t2 (List.mem_of_getElem? (i := 138) (by decide +kernel)) (by decide +kernel)
theorem wi_Rep_answerOrder : Jvm.Cond.instanceMethod ({ cls := "ParcelLine$Replies", name := "answerOrder", desc := "(II)V" } : Jvm.MethodName) ∈ mzAll := mz_t2 (List.mem_of_getElem? (i := 139) (by decide +kernel)) (by decide +kernel)
theorem wse_Rep_answerOrder : Jvm.Cond.selects "ParcelLine$Replies" ({ cls := "ParcelLine$Replies", name := "answerOrder", desc := "(II)V" } : Jvm.MethodName) ({ cls := "ParcelLine$Replies", name := "answerOrder", desc := "(II)V" } : Jvm.MethodName) ∈ mzAll := mz_t2 (List.mem_of_getElem? (i := 140) (by decide +kernel)) (by decide +kernel)
theorem wco_Rep_answerOrder : Jvm.Cond.code ({ cls := "ParcelLine$Replies", name := "answerOrder", desc := "(II)V" } : Jvm.MethodName) prog_10_method_9_code (3 : Nat) (Option.none : Option Jvm.ClassFile.FieldType) ∈ mzAll := mz_t2 (List.mem_of_getElem? (i := 141) (by decide +kernel)) (by decide +kernel)
theorem wl_Rep_28 : Jvm.Cond.methodLink "ParcelLine$Replies" (28 : Nat) ({ cls := "ParcelLine$Replies", name := "write", desc := "(I)V" } : Jvm.MethodName) ∈ mzAll := mz_t2 (List.mem_of_getElem? (i := 142) (by decide +kernel)) (by decide +kernel)
theorem wi_Rep_write : Jvm.Cond.instanceMethod ({ cls := "ParcelLine$Replies", name := "write", desc := "(I)V" } : Jvm.MethodName) ∈ mzAll := mz_t2 (List.mem_of_getElem? (i := 143) (by decide +kernel)) (by decide +kernel)
theorem wse_Rep_write : Jvm.Cond.selects "ParcelLine$Replies" ({ cls := "ParcelLine$Replies", name := "write", desc := "(I)V" } : Jvm.MethodName) ({ cls := "ParcelLine$Replies", name := "write", desc := "(I)V" } : Jvm.MethodName) ∈ mzAll := mz_t2 (List.mem_of_getElem? (i := 144) (by decide +kernel)) (by decide +kernel)
theorem wco_Rep_write : Jvm.Cond.code ({ cls := "ParcelLine$Replies", name := "write", desc := "(I)V" } : Jvm.MethodName) prog_10_method_4_code (2 : Nat) (Option.none : Option Jvm.ClassFile.FieldType) ∈ mzAll := mz_t2 (List.mem_of_getElem? (i := 145) (by decide +kernel)) (by decide +kernel)
theorem wl_Rep_32 : Jvm.Cond.methodLink "ParcelLine$Replies" (32 : Nat) ({ cls := "ParcelLine$Replies", name := "keepDraft", desc := "()V" } : Jvm.MethodName) ∈ mzAll := mz_t2 (List.mem_of_getElem? (i := 146) (by decide +kernel)) (by decide +kernel)
theorem wi_Rep_keepDraft : Jvm.Cond.instanceMethod ({ cls := "ParcelLine$Replies", name := "keepDraft", desc := "()V" } : Jvm.MethodName) ∈ mzAll := mz_t2 (List.mem_of_getElem? (i := 148) (by decide +kernel)) (by decide +kernel)
theorem wco_Rep_keepDraft : Jvm.Cond.code ({ cls := "ParcelLine$Replies", name := "keepDraft", desc := "()V" } : Jvm.MethodName) prog_10_method_10_code (2 : Nat) (Option.none : Option Jvm.ClassFile.FieldType) ∈ mzAll := mz_t2 (List.mem_of_getElem? (i := 149) (by decide +kernel)) (by decide +kernel)
theorem wl_Ses_66 : Jvm.Cond.methodLink "ParcelLine$Session" (66 : Nat) ({ cls := "ParcelLine$LineReader", name := "split", desc := "()V" } : Jvm.MethodName) ∈ mzAll := mz_t2 (List.mem_of_getElem? (i := 150) (by decide +kernel)) (by decide +kernel)
theorem wi_Lin_split : Jvm.Cond.instanceMethod ({ cls := "ParcelLine$LineReader", name := "split", desc := "()V" } : Jvm.MethodName) ∈ mzAll := mz_t2 (List.mem_of_getElem? (i := 151) (by decide +kernel)) (by decide +kernel)
theorem wse_Lin_split : Jvm.Cond.selects "ParcelLine$LineReader" ({ cls := "ParcelLine$LineReader", name := "split", desc := "()V" } : Jvm.MethodName) ({ cls := "ParcelLine$LineReader", name := "split", desc := "()V" } : Jvm.MethodName) ∈ mzAll := mz_t2 (List.mem_of_getElem? (i := 152) (by decide +kernel)) (by decide +kernel)
theorem wco_Lin_split : Jvm.Cond.code ({ cls := "ParcelLine$LineReader", name := "split", desc := "()V" } : Jvm.MethodName) prog_7_method_8_code (2 : Nat) (Option.none : Option Jvm.ClassFile.FieldType) ∈ mzAll := mz_t2 (List.mem_of_getElem? (i := 153) (by decide +kernel)) (by decide +kernel)
theorem wl_Ses_78 : Jvm.Cond.methodLink "ParcelLine$Session" (78 : Nat) ({ cls := "ParcelLine$Path", name := "read", desc := "([III)V" } : Jvm.MethodName) ∈ mzAll := mz_t2 (List.mem_of_getElem? (i := 154) (by decide +kernel)) (by decide +kernel)
theorem wi_Path_read : Jvm.Cond.instanceMethod ({ cls := "ParcelLine$Path", name := "read", desc := "([III)V" } : Jvm.MethodName) ∈ mzAll := mz_t2 (List.mem_of_getElem? (i := 155) (by decide +kernel)) (by decide +kernel)
theorem wse_Path_read : Jvm.Cond.selects "ParcelLine$Path" ({ cls := "ParcelLine$Path", name := "read", desc := "([III)V" } : Jvm.MethodName) ({ cls := "ParcelLine$Path", name := "read", desc := "([III)V" } : Jvm.MethodName) ∈ mzAll := mz_t2 (List.mem_of_getElem? (i := 156) (by decide +kernel)) (by decide +kernel)
theorem wco_Path_read : Jvm.Cond.code ({ cls := "ParcelLine$Path", name := "read", desc := "([III)V" } : Jvm.MethodName) prog_9_method_2_code (6 : Nat) (Option.none : Option Jvm.ClassFile.FieldType) ∈ mzAll := mz_t2 (List.mem_of_getElem? (i := 157) (by decide +kernel)) (by decide +kernel)
theorem wl_Path_26 : Jvm.Cond.methodLink "ParcelLine$Path" (26 : Nat) ({ cls := "ParcelLine$Path", name := "readStep", desc := "([III)I" } : Jvm.MethodName) ∈ mzAll := mz_t2 (List.mem_of_getElem? (i := 158) (by decide +kernel)) (by decide +kernel)
theorem ws_Path_readStep : Jvm.Cond.static ({ cls := "ParcelLine$Path", name := "readStep", desc := "([III)I" } : Jvm.MethodName) ∈ mzAll := mz_t2 (List.mem_of_getElem? (i := 159) (by decide +kernel)) (by decide +kernel)
theorem wco_Path_readStep : Jvm.Cond.code ({ cls := "ParcelLine$Path", name := "readStep", desc := "([III)I" } : Jvm.MethodName) prog_9_method_4_code (6 : Nat) (Option.some Jvm.ClassFile.FieldType.int) ∈ mzAll := mz_t2 (List.mem_of_getElem? (i := 160) (by decide +kernel)) (by decide +kernel)
theorem ws_PL_isNameByte : Jvm.Cond.static ({ cls := "ParcelLine", name := "isNameByte", desc := "(I)Z" } : Jvm.MethodName) ∈ mzAll := mz_t2 (List.mem_of_getElem? (i := 162) (by decide +kernel)) (by decide +kernel)
theorem wco_PL_isNameByte : Jvm.Cond.code ({ cls := "ParcelLine", name := "isNameByte", desc := "(I)Z" } : Jvm.MethodName) prog_1_method_20_code (1 : Nat) (Option.some Jvm.ClassFile.FieldType.boolean) ∈ mzAll := mz_t2 (List.mem_of_getElem? (i := 163) (by decide +kernel)) (by decide +kernel)
theorem wl_Path_30 : Jvm.Cond.methodLink "ParcelLine$Path" (30 : Nat) ({ cls := "ParcelLine$Path", name := "addStep", desc := "(I)V" } : Jvm.MethodName) ∈ mzAll := mz_t2 (List.mem_of_getElem? (i := 164) (by decide +kernel)) (by decide +kernel)
theorem wi_Path_addStep : Jvm.Cond.instanceMethod ({ cls := "ParcelLine$Path", name := "addStep", desc := "(I)V" } : Jvm.MethodName) ∈ mzAll := mz_t2 (List.mem_of_getElem? (i := 166) (by decide +kernel)) (by decide +kernel)
theorem wco_Path_addStep : Jvm.Cond.code ({ cls := "ParcelLine$Path", name := "addStep", desc := "(I)V" } : Jvm.MethodName) prog_9_method_3_code (2 : Nat) (Option.none : Option Jvm.ClassFile.FieldType) ∈ mzAll := mz_t2 (List.mem_of_getElem? (i := 167) (by decide +kernel)) (by decide +kernel)
theorem wl_Ses_82 : Jvm.Cond.methodLink "ParcelLine$Session" (82 : Nat) ({ cls := "ParcelLine$Session", name := "recognise", desc := "()LParcelLine$Command;" } : Jvm.MethodName) ∈ mzAll := mz_t2 (List.mem_of_getElem? (i := 168) (by decide +kernel)) (by decide +kernel)
theorem wi_Ses_recognise : Jvm.Cond.instanceMethod ({ cls := "ParcelLine$Session", name := "recognise", desc := "()LParcelLine$Command;" } : Jvm.MethodName) ∈ mzAll := mz_t2 (List.mem_of_getElem? (i := 170) (by decide +kernel)) (by decide +kernel)
theorem wco_Ses_recognise : Jvm.Cond.code ({ cls := "ParcelLine$Session", name := "recognise", desc := "()LParcelLine$Command;" } : Jvm.MethodName) prog_11_method_10_code (2 : Nat) (Option.some (Jvm.ClassFile.FieldType.object "ParcelLine$Command")) ∈ mzAll := mz_t2 (List.mem_of_getElem? (i := 171) (by decide +kernel)) (by decide +kernel)
theorem wl_Ses_209 : Jvm.Cond.methodLink "ParcelLine$Session" (209 : Nat) ({ cls := "ParcelLine$LineReader", name := "commandIs", desc := "(Ljava/lang/String;)Z" } : Jvm.MethodName) ∈ mzAll := mz_t2 (List.mem_of_getElem? (i := 174) (by decide +kernel)) (by decide +kernel)
theorem wi_Lin_commandIs : Jvm.Cond.instanceMethod ({ cls := "ParcelLine$LineReader", name := "commandIs", desc := "(Ljava/lang/String;)Z" } : Jvm.MethodName) ∈ mzAll := mz_t2 (List.mem_of_getElem? (i := 175) (by decide +kernel)) (by decide +kernel)
theorem wse_Lin_commandIs : Jvm.Cond.selects "ParcelLine$LineReader" ({ cls := "ParcelLine$LineReader", name := "commandIs", desc := "(Ljava/lang/String;)Z" } : Jvm.MethodName) ({ cls := "ParcelLine$LineReader", name := "commandIs", desc := "(Ljava/lang/String;)Z" } : Jvm.MethodName) ∈ mzAll := mz_t2 (List.mem_of_getElem? (i := 176) (by decide +kernel)) (by decide +kernel)
theorem wco_Lin_commandIs : Jvm.Cond.code ({ cls := "ParcelLine$LineReader", name := "commandIs", desc := "(Ljava/lang/String;)Z" } : Jvm.MethodName) prog_7_method_10_code (5 : Nat) (Option.some Jvm.ClassFile.FieldType.boolean) ∈ mzAll := mz_t2 (List.mem_of_getElem? (i := 177) (by decide +kernel)) (by decide +kernel)
theorem wl_Lin_54 : Jvm.Cond.methodLink "ParcelLine$LineReader" (54 : Nat) ({ cls := "java/lang/String", name := "length", desc := "()I" } : Jvm.MethodName) ∈ mzAll := mz_t2 (List.mem_of_getElem? (i := 178) (by decide +kernel)) (by decide +kernel)
theorem wi_JS_length : Jvm.Cond.instanceMethod ({ cls := "java/lang/String", name := "length", desc := "()I" } : Jvm.MethodName) ∈ mzAll := mz_t2 (List.mem_of_getElem? (i := 179) (by decide +kernel)) (by decide +kernel)
theorem wse_JS_length : Jvm.Cond.selects "java/lang/String" ({ cls := "java/lang/String", name := "length", desc := "()I" } : Jvm.MethodName) ({ cls := "java/lang/String", name := "length", desc := "()I" } : Jvm.MethodName) ∈ mzAll := mz_t2 (List.mem_of_getElem? (i := 180) (by decide +kernel)) (by decide +kernel)
theorem wco_JS_length : Jvm.Cond.code ({ cls := "java/lang/String", name := "length", desc := "()I" } : Jvm.MethodName) prog_20_method_54_code (1 : Nat) (Option.some Jvm.ClassFile.FieldType.int) ∈ mzAll := mz_t2 (List.mem_of_getElem? (i := 181) (by decide +kernel)) (by decide +kernel)
theorem wl_JS_335 : Jvm.Cond.methodLink "java/lang/String" (335 : Nat) ({ cls := "java/lang/String", name := "coder", desc := "()B" } : Jvm.MethodName) ∈ mzAll := mz_t2 (List.mem_of_getElem? (i := 182) (by decide +kernel)) (by decide +kernel)
theorem wi_JS_coder : Jvm.Cond.instanceMethod ({ cls := "java/lang/String", name := "coder", desc := "()B" } : Jvm.MethodName) ∈ mzAll := mz_t2 (List.mem_of_getElem? (i := 183) (by decide +kernel)) (by decide +kernel)
theorem wse_JS_coder : Jvm.Cond.selects "java/lang/String" ({ cls := "java/lang/String", name := "coder", desc := "()B" } : Jvm.MethodName) ({ cls := "java/lang/String", name := "coder", desc := "()B" } : Jvm.MethodName) ∈ mzAll := mz_t2 (List.mem_of_getElem? (i := 184) (by decide +kernel)) (by decide +kernel)
theorem wco_JS_coder : Jvm.Cond.code ({ cls := "java/lang/String", name := "coder", desc := "()B" } : Jvm.MethodName) prog_20_method_152_code (1 : Nat) (Option.some Jvm.ClassFile.FieldType.byte) ∈ mzAll := mz_t2 (List.mem_of_getElem? (i := 185) (by decide +kernel)) (by decide +kernel)
theorem wf_JS_38 : Jvm.Cond.fieldLink "java/lang/String" (38 : Nat) "java/lang/String" "COMPACT_STRINGS" "Z" ∈ mzAll := mz_t2 (List.mem_of_getElem? (i := 186) (by decide +kernel)) (by decide +kernel)
theorem wl_Lin_59 : Jvm.Cond.methodLink "ParcelLine$LineReader" (59 : Nat) ({ cls := "java/lang/String", name := "charAt", desc := "(I)C" } : Jvm.MethodName) ∈ mzAll := mz_t2 (List.mem_of_getElem? (i := 188) (by decide +kernel)) (by decide +kernel)
theorem wi_JS_charAt : Jvm.Cond.instanceMethod ({ cls := "java/lang/String", name := "charAt", desc := "(I)C" } : Jvm.MethodName) ∈ mzAll := mz_t2 (List.mem_of_getElem? (i := 189) (by decide +kernel)) (by decide +kernel)
theorem wse_JS_charAt : Jvm.Cond.selects "java/lang/String" ({ cls := "java/lang/String", name := "charAt", desc := "(I)C" } : Jvm.MethodName) ({ cls := "java/lang/String", name := "charAt", desc := "(I)C" } : Jvm.MethodName) ∈ mzAll := mz_t2 (List.mem_of_getElem? (i := 190) (by decide +kernel)) (by decide +kernel)
theorem wco_JS_charAt : Jvm.Cond.code ({ cls := "java/lang/String", name := "charAt", desc := "(I)C" } : Jvm.MethodName) prog_20_method_56_code (2 : Nat) (Option.some Jvm.ClassFile.FieldType.char) ∈ mzAll := mz_t2 (List.mem_of_getElem? (i := 191) (by decide +kernel)) (by decide +kernel)
theorem wl_JS_492 : Jvm.Cond.methodLink "java/lang/String" (492 : Nat) ({ cls := "java/lang/String", name := "isLatin1", desc := "()Z" } : Jvm.MethodName) ∈ mzAll := mz_t2 (List.mem_of_getElem? (i := 192) (by decide +kernel)) (by decide +kernel)
theorem wi_JS_isLatin1 : Jvm.Cond.instanceMethod ({ cls := "java/lang/String", name := "isLatin1", desc := "()Z" } : Jvm.MethodName) ∈ mzAll := mz_t2 (List.mem_of_getElem? (i := 193) (by decide +kernel)) (by decide +kernel)
theorem wse_JS_isLatin1 : Jvm.Cond.selects "java/lang/String" ({ cls := "java/lang/String", name := "isLatin1", desc := "()Z" } : Jvm.MethodName) ({ cls := "java/lang/String", name := "isLatin1", desc := "()Z" } : Jvm.MethodName) ∈ mzAll := mz_t2 (List.mem_of_getElem? (i := 194) (by decide +kernel)) (by decide +kernel)
theorem wco_JS_isLatin1 : Jvm.Cond.code ({ cls := "java/lang/String", name := "isLatin1", desc := "()Z" } : Jvm.MethodName) prog_20_method_154_code (1 : Nat) (Option.some Jvm.ClassFile.FieldType.boolean) ∈ mzAll := mz_t2 (List.mem_of_getElem? (i := 195) (by decide +kernel)) (by decide +kernel)
theorem wl_JS_495 : Jvm.Cond.methodLink "java/lang/String" (495 : Nat) ({ cls := "java/lang/StringLatin1", name := "charAt", desc := "([BI)C" } : Jvm.MethodName) ∈ mzAll := mz_t2 (List.mem_of_getElem? (i := 196) (by decide +kernel)) (by decide +kernel)
theorem ws_JL_charAt : Jvm.Cond.static ({ cls := "java/lang/StringLatin1", name := "charAt", desc := "([BI)C" } : Jvm.MethodName) ∈ mzAll := mz_t2 (List.mem_of_getElem? (i := 197) (by decide +kernel)) (by decide +kernel)
theorem wco_JL_charAt : Jvm.Cond.code ({ cls := "java/lang/StringLatin1", name := "charAt", desc := "([BI)C" } : Jvm.MethodName) prog_21_method_2_code (2 : Nat) (Option.some Jvm.ClassFile.FieldType.char) ∈ mzAll := mz_t2 (List.mem_of_getElem? (i := 198) (by decide +kernel)) (by decide +kernel)
theorem wl_JL_9 : Jvm.Cond.methodLink "java/lang/StringLatin1" (9 : Nat) ({ cls := "java/lang/String", name := "checkIndex", desc := "(II)V" } : Jvm.MethodName) ∈ mzAll := mz_t2 (List.mem_of_getElem? (i := 199) (by decide +kernel)) (by decide +kernel)
theorem ws_JS_checkIndex : Jvm.Cond.static ({ cls := "java/lang/String", name := "checkIndex", desc := "(II)V" } : Jvm.MethodName) ∈ mzAll := mz_t2 (List.mem_of_getElem? (i := 200) (by decide +kernel)) (by decide +kernel)
theorem wco_JS_checkIndex : Jvm.Cond.code ({ cls := "java/lang/String", name := "checkIndex", desc := "(II)V" } : Jvm.MethodName) prog_20_method_155_code (2 : Nat) (Option.none : Option Jvm.ClassFile.FieldType) ∈ mzAll := mz_t2 (List.mem_of_getElem? (i := 201) (by decide +kernel)) (by decide +kernel)
theorem wf_JS_1053 : Jvm.Cond.fieldLink "java/lang/String" (1053 : Nat) "jdk/internal/util/Preconditions" "SIOOBE_FORMATTER" "Ljava/util/function/BiFunction;" ∈ mzAll := mz_t2 (List.mem_of_getElem? (i := 202) (by decide +kernel)) (by decide +kernel)
theorem wl_JS_1059 : Jvm.Cond.methodLink "java/lang/String" (1059 : Nat) ({ cls := "jdk/internal/util/Preconditions", name := "checkIndex", desc := "(IILjava/util/function/BiFunction;)I" } : Jvm.MethodName) ∈ mzAll := mz_t2 (List.mem_of_getElem? (i := 204) (by decide +kernel)) (by decide +kernel)
theorem ws_JP_checkIndex : Jvm.Cond.static ({ cls := "jdk/internal/util/Preconditions", name := "checkIndex", desc := "(IILjava/util/function/BiFunction;)I" } : Jvm.MethodName) ∈ mzAll := mz_t2 (List.mem_of_getElem? (i := 205) (by decide +kernel)) (by decide +kernel)
theorem wco_JP_checkIndex : Jvm.Cond.code ({ cls := "jdk/internal/util/Preconditions", name := "checkIndex", desc := "(IILjava/util/function/BiFunction;)I" } : Jvm.MethodName) prog_25_method_11_code (3 : Nat) (Option.some Jvm.ClassFile.FieldType.int) ∈ mzAll := mz_t2 (List.mem_of_getElem? (i := 206) (by decide +kernel)) (by decide +kernel)
theorem wl_JS_498 : Jvm.Cond.methodLink "java/lang/String" (498 : Nat) ({ cls := "java/lang/StringUTF16", name := "charAt", desc := "([BI)C" } : Jvm.MethodName) ∈ mzAll := mz_t2 (List.mem_of_getElem? (i := 207) (by decide +kernel)) (by decide +kernel)
theorem wl_Ses_86 : Jvm.Cond.methodLink "ParcelLine$Session" (86 : Nat) ({ cls := "ParcelLine$Session", name := "refusal", desc := "(LParcelLine$Command;)I" } : Jvm.MethodName) ∈ mzAll := mz_t2 (List.mem_of_getElem? (i := 226) (by decide +kernel)) (by decide +kernel)
theorem wi_Ses_refusal : Jvm.Cond.instanceMethod ({ cls := "ParcelLine$Session", name := "refusal", desc := "(LParcelLine$Command;)I" } : Jvm.MethodName) ∈ mzAll := mz_t2 (List.mem_of_getElem? (i := 228) (by decide +kernel)) (by decide +kernel)
theorem wco_Ses_refusal : Jvm.Cond.code ({ cls := "ParcelLine$Session", name := "refusal", desc := "(LParcelLine$Command;)I" } : Jvm.MethodName) prog_11_method_11_code (2 : Nat) (Option.some Jvm.ClassFile.FieldType.int) ∈ mzAll := mz_t2 (List.mem_of_getElem? (i := 229) (by decide +kernel)) (by decide +kernel)
theorem wl_Ses_216 : Jvm.Cond.methodLink "ParcelLine$Session" (216 : Nat) ({ cls := "ParcelLine$Session", name := "argumentFits", desc := "(I)Z" } : Jvm.MethodName) ∈ mzAll := mz_t2 (List.mem_of_getElem? (i := 230) (by decide +kernel)) (by decide +kernel)
theorem wi_Ses_argumentFits : Jvm.Cond.instanceMethod ({ cls := "ParcelLine$Session", name := "argumentFits", desc := "(I)Z" } : Jvm.MethodName) ∈ mzAll := mz_t2 (List.mem_of_getElem? (i := 232) (by decide +kernel)) (by decide +kernel)
theorem wco_Ses_argumentFits : Jvm.Cond.code ({ cls := "ParcelLine$Session", name := "argumentFits", desc := "(I)Z" } : Jvm.MethodName) prog_11_method_12_code (2 : Nat) (Option.some Jvm.ClassFile.FieldType.boolean) ∈ mzAll := mz_t2 (List.mem_of_getElem? (i := 233) (by decide +kernel)) (by decide +kernel)
theorem wl_Ses_225 : Jvm.Cond.methodLink "ParcelLine$Session" (225 : Nat) ({ cls := "ParcelLine$LineReader", name := "hasArgument", desc := "()Z" } : Jvm.MethodName) ∈ mzAll := mz_t2 (List.mem_of_getElem? (i := 234) (by decide +kernel)) (by decide +kernel)
theorem wi_Lin_hasArgument : Jvm.Cond.instanceMethod ({ cls := "ParcelLine$LineReader", name := "hasArgument", desc := "()Z" } : Jvm.MethodName) ∈ mzAll := mz_t2 (List.mem_of_getElem? (i := 235) (by decide +kernel)) (by decide +kernel)
theorem wse_Lin_hasArgument : Jvm.Cond.selects "ParcelLine$LineReader" ({ cls := "ParcelLine$LineReader", name := "hasArgument", desc := "()Z" } : Jvm.MethodName) ({ cls := "ParcelLine$LineReader", name := "hasArgument", desc := "()Z" } : Jvm.MethodName) ∈ mzAll := mz_t2 (List.mem_of_getElem? (i := 236) (by decide +kernel)) (by decide +kernel)
theorem wco_Lin_hasArgument : Jvm.Cond.code ({ cls := "ParcelLine$LineReader", name := "hasArgument", desc := "()Z" } : Jvm.MethodName) prog_7_method_9_code (1 : Nat) (Option.some Jvm.ClassFile.FieldType.boolean) ∈ mzAll := mz_t2 (List.mem_of_getElem? (i := 237) (by decide +kernel)) (by decide +kernel)
theorem wl_Ses_230 : Jvm.Cond.methodLink "ParcelLine$Session" (230 : Nat) ({ cls := "ParcelLine$LineReader", name := "argumentIs", desc := "(Ljava/lang/String;)Z" } : Jvm.MethodName) ∈ mzAll := mz_t2 (List.mem_of_getElem? (i := 239) (by decide +kernel)) (by decide +kernel)
theorem wi_Lin_argumentIs : Jvm.Cond.instanceMethod ({ cls := "ParcelLine$LineReader", name := "argumentIs", desc := "(Ljava/lang/String;)Z" } : Jvm.MethodName) ∈ mzAll := mz_t3 (List.mem_of_getElem? (i := 0) (by decide +kernel)) (by decide +kernel)
theorem wse_Lin_argumentIs : Jvm.Cond.selects "ParcelLine$LineReader" ({ cls := "ParcelLine$LineReader", name := "argumentIs", desc := "(Ljava/lang/String;)Z" } : Jvm.MethodName) ({ cls := "ParcelLine$LineReader", name := "argumentIs", desc := "(Ljava/lang/String;)Z" } : Jvm.MethodName) ∈ mzAll := mz_t3 (List.mem_of_getElem? (i := 1) (by decide +kernel)) (by decide +kernel)
theorem wco_Lin_argumentIs : Jvm.Cond.code ({ cls := "ParcelLine$LineReader", name := "argumentIs", desc := "(Ljava/lang/String;)Z" } : Jvm.MethodName) prog_7_method_11_code (4 : Nat) (Option.some Jvm.ClassFile.FieldType.boolean) ∈ mzAll := mz_t3 (List.mem_of_getElem? (i := 2) (by decide +kernel)) (by decide +kernel)
theorem wl_Ses_234 : Jvm.Cond.methodLink "ParcelLine$Session" (234 : Nat) ({ cls := "ParcelLine$LineReader", name := "argumentNumber", desc := "()I" } : Jvm.MethodName) ∈ mzAll := mz_t3 (List.mem_of_getElem? (i := 4) (by decide +kernel)) (by decide +kernel)
theorem wi_Lin_argumentNumber : Jvm.Cond.instanceMethod ({ cls := "ParcelLine$LineReader", name := "argumentNumber", desc := "()I" } : Jvm.MethodName) ∈ mzAll := mz_t3 (List.mem_of_getElem? (i := 5) (by decide +kernel)) (by decide +kernel)
theorem wse_Lin_argumentNumber : Jvm.Cond.selects "ParcelLine$LineReader" ({ cls := "ParcelLine$LineReader", name := "argumentNumber", desc := "()I" } : Jvm.MethodName) ({ cls := "ParcelLine$LineReader", name := "argumentNumber", desc := "()I" } : Jvm.MethodName) ∈ mzAll := mz_t3 (List.mem_of_getElem? (i := 6) (by decide +kernel)) (by decide +kernel)
theorem wco_Lin_argumentNumber : Jvm.Cond.code ({ cls := "ParcelLine$LineReader", name := "argumentNumber", desc := "()I" } : Jvm.MethodName) prog_7_method_12_code (4 : Nat) (Option.some Jvm.ClassFile.FieldType.int) ∈ mzAll := mz_t3 (List.mem_of_getElem? (i := 7) (by decide +kernel)) (by decide +kernel)
theorem wl_Ses_98 : Jvm.Cond.methodLink "ParcelLine$Session" (98 : Nat) ({ cls := "ParcelLine$Session", name := "locate", desc := "()V" } : Jvm.MethodName) ∈ mzAll := mz_t3 (List.mem_of_getElem? (i := 8) (by decide +kernel)) (by decide +kernel)
theorem wi_Ses_locate : Jvm.Cond.instanceMethod ({ cls := "ParcelLine$Session", name := "locate", desc := "()V" } : Jvm.MethodName) ∈ mzAll := mz_t3 (List.mem_of_getElem? (i := 10) (by decide +kernel)) (by decide +kernel)
theorem wco_Ses_locate : Jvm.Cond.code ({ cls := "ParcelLine$Session", name := "locate", desc := "()V" } : Jvm.MethodName) prog_11_method_14_code (4 : Nat) (Option.none : Option Jvm.ClassFile.FieldType) ∈ mzAll := mz_t3 (List.mem_of_getElem? (i := 11) (by decide +kernel)) (by decide +kernel)
theorem wl_Ses_250 : Jvm.Cond.methodLink "ParcelLine$Session" (250 : Nat) ({ cls := "ParcelLine$Store", name := "follow", desc := "(LParcelLine$Path;II)I" } : Jvm.MethodName) ∈ mzAll := mz_t3 (List.mem_of_getElem? (i := 12) (by decide +kernel)) (by decide +kernel)
theorem wi_Store_follow : Jvm.Cond.instanceMethod ({ cls := "ParcelLine$Store", name := "follow", desc := "(LParcelLine$Path;II)I" } : Jvm.MethodName) ∈ mzAll := mz_t3 (List.mem_of_getElem? (i := 13) (by decide +kernel)) (by decide +kernel)
theorem wse_Store_follow : Jvm.Cond.selects "ParcelLine$Store" ({ cls := "ParcelLine$Store", name := "follow", desc := "(LParcelLine$Path;II)I" } : Jvm.MethodName) ({ cls := "ParcelLine$Store", name := "follow", desc := "(LParcelLine$Path;II)I" } : Jvm.MethodName) ∈ mzAll := mz_t3 (List.mem_of_getElem? (i := 14) (by decide +kernel)) (by decide +kernel)
theorem wco_Store_follow : Jvm.Cond.code ({ cls := "ParcelLine$Store", name := "follow", desc := "(LParcelLine$Path;II)I" } : Jvm.MethodName) prog_12_method_8_code (6 : Nat) (Option.some Jvm.ClassFile.FieldType.int) ∈ mzAll := mz_t3 (List.mem_of_getElem? (i := 15) (by decide +kernel)) (by decide +kernel)
theorem wl_Store_48 : Jvm.Cond.methodLink "ParcelLine$Store" (48 : Nat) ({ cls := "ParcelLine$Store", name := "isDirectory", desc := "(I)Z" } : Jvm.MethodName) ∈ mzAll := mz_t3 (List.mem_of_getElem? (i := 16) (by decide +kernel)) (by decide +kernel)
theorem wi_Store_isDirectory : Jvm.Cond.instanceMethod ({ cls := "ParcelLine$Store", name := "isDirectory", desc := "(I)Z" } : Jvm.MethodName) ∈ mzAll := mz_t3 (List.mem_of_getElem? (i := 17) (by decide +kernel)) (by decide +kernel)
theorem wse_Store_isDirectory : Jvm.Cond.selects "ParcelLine$Store" ({ cls := "ParcelLine$Store", name := "isDirectory", desc := "(I)Z" } : Jvm.MethodName) ({ cls := "ParcelLine$Store", name := "isDirectory", desc := "(I)Z" } : Jvm.MethodName) ∈ mzAll := mz_t3 (List.mem_of_getElem? (i := 18) (by decide +kernel)) (by decide +kernel)
theorem wco_Store_isDirectory : Jvm.Cond.code ({ cls := "ParcelLine$Store", name := "isDirectory", desc := "(I)Z" } : Jvm.MethodName) prog_12_method_4_code (2 : Nat) (Option.some Jvm.ClassFile.FieldType.boolean) ∈ mzAll := mz_t3 (List.mem_of_getElem? (i := 19) (by decide +kernel)) (by decide +kernel)
theorem wl_Store_54 : Jvm.Cond.methodLink "ParcelLine$Store" (54 : Nat) ({ cls := "ParcelLine$Store", name := "childNamed", desc := "(II)I" } : Jvm.MethodName) ∈ mzAll := mz_t3 (List.mem_of_getElem? (i := 20) (by decide +kernel)) (by decide +kernel)
theorem wi_Store_childNamed : Jvm.Cond.instanceMethod ({ cls := "ParcelLine$Store", name := "childNamed", desc := "(II)I" } : Jvm.MethodName) ∈ mzAll := mz_t3 (List.mem_of_getElem? (i := 21) (by decide +kernel)) (by decide +kernel)
theorem wse_Store_childNamed : Jvm.Cond.selects "ParcelLine$Store" ({ cls := "ParcelLine$Store", name := "childNamed", desc := "(II)I" } : Jvm.MethodName) ({ cls := "ParcelLine$Store", name := "childNamed", desc := "(II)I" } : Jvm.MethodName) ∈ mzAll := mz_t3 (List.mem_of_getElem? (i := 22) (by decide +kernel)) (by decide +kernel)
theorem wco_Store_childNamed : Jvm.Cond.code ({ cls := "ParcelLine$Store", name := "childNamed", desc := "(II)I" } : Jvm.MethodName) prog_12_method_7_code (4 : Nat) (Option.some Jvm.ClassFile.FieldType.int) ∈ mzAll := mz_t3 (List.mem_of_getElem? (i := 23) (by decide +kernel)) (by decide +kernel)
theorem wl_Store_33 : Jvm.Cond.methodLink "ParcelLine$Store" (33 : Nat) ({ cls := "ParcelLine$Node", name := "isIn", desc := "(I)Z" } : Jvm.MethodName) ∈ mzAll := mz_t3 (List.mem_of_getElem? (i := 24) (by decide +kernel)) (by decide +kernel)
theorem wi_Node_isIn : Jvm.Cond.instanceMethod ({ cls := "ParcelLine$Node", name := "isIn", desc := "(I)Z" } : Jvm.MethodName) ∈ mzAll := mz_t3 (List.mem_of_getElem? (i := 25) (by decide +kernel)) (by decide +kernel)
theorem wse_Node_isIn : Jvm.Cond.selects "ParcelLine$Node" ({ cls := "ParcelLine$Node", name := "isIn", desc := "(I)Z" } : Jvm.MethodName) ({ cls := "ParcelLine$Node", name := "isIn", desc := "(I)Z" } : Jvm.MethodName) ∈ mzAll := mz_t3 (List.mem_of_getElem? (i := 26) (by decide +kernel)) (by decide +kernel)
theorem wco_Node_isIn : Jvm.Cond.code ({ cls := "ParcelLine$Node", name := "isIn", desc := "(I)Z" } : Jvm.MethodName) prog_8_method_2_code (2 : Nat) (Option.some Jvm.ClassFile.FieldType.boolean) ∈ mzAll := mz_t3 (List.mem_of_getElem? (i := 27) (by decide +kernel)) (by decide +kernel)
theorem wl_Ses_254 : Jvm.Cond.methodLink "ParcelLine$Session" (254 : Nat) ({ cls := "ParcelLine$Path", name := "newName", desc := "()I" } : Jvm.MethodName) ∈ mzAll := mz_t3 (List.mem_of_getElem? (i := 28) (by decide +kernel)) (by decide +kernel)
theorem wi_Path_newName : Jvm.Cond.instanceMethod ({ cls := "ParcelLine$Path", name := "newName", desc := "()I" } : Jvm.MethodName) ∈ mzAll := mz_t3 (List.mem_of_getElem? (i := 29) (by decide +kernel)) (by decide +kernel)
theorem wse_Path_newName : Jvm.Cond.selects "ParcelLine$Path" ({ cls := "ParcelLine$Path", name := "newName", desc := "()I" } : Jvm.MethodName) ({ cls := "ParcelLine$Path", name := "newName", desc := "()I" } : Jvm.MethodName) ∈ mzAll := mz_t3 (List.mem_of_getElem? (i := 30) (by decide +kernel)) (by decide +kernel)
theorem wco_Path_newName : Jvm.Cond.code ({ cls := "ParcelLine$Path", name := "newName", desc := "()I" } : Jvm.MethodName) prog_9_method_5_code (1 : Nat) (Option.some Jvm.ClassFile.FieldType.int) ∈ mzAll := mz_t3 (List.mem_of_getElem? (i := 31) (by decide +kernel)) (by decide +kernel)
theorem wl_Ses_257 : Jvm.Cond.methodLink "ParcelLine$Session" (257 : Nat) ({ cls := "ParcelLine$Store", name := "isDirectory", desc := "(I)Z" } : Jvm.MethodName) ∈ mzAll := mz_t3 (List.mem_of_getElem? (i := 32) (by decide +kernel)) (by decide +kernel)
theorem wl_Ses_101 : Jvm.Cond.methodLink "ParcelLine$Session" (101 : Nat) ({ cls := "ParcelLine$Session", name := "obeyPath", desc := "(LParcelLine$Command;)I" } : Jvm.MethodName) ∈ mzAll := mz_t3 (List.mem_of_getElem? (i := 33) (by decide +kernel)) (by decide +kernel)
theorem wi_Ses_obeyPath : Jvm.Cond.instanceMethod ({ cls := "ParcelLine$Session", name := "obeyPath", desc := "(LParcelLine$Command;)I" } : Jvm.MethodName) ∈ mzAll := mz_t3 (List.mem_of_getElem? (i := 35) (by decide +kernel)) (by decide +kernel)
theorem wco_Ses_obeyPath : Jvm.Cond.code ({ cls := "ParcelLine$Session", name := "obeyPath", desc := "(LParcelLine$Command;)I" } : Jvm.MethodName) prog_11_method_16_code (2 : Nat) (Option.some Jvm.ClassFile.FieldType.int) ∈ mzAll := mz_t3 (List.mem_of_getElem? (i := 36) (by decide +kernel)) (by decide +kernel)
theorem wf_Ses_260 : Jvm.Cond.fieldLink "ParcelLine$Session" (260 : Nat) "ParcelLine$1" "$SwitchMap$ParcelLine$Command" "[I" ∈ mzAll := mz_t3 (List.mem_of_getElem? (i := 37) (by decide +kernel)) (by decide +kernel)
theorem wl_Ses_265 : Jvm.Cond.methodLink "ParcelLine$Session" (265 : Nat) ({ cls := "ParcelLine$Command", name := "ordinal", desc := "()I" } : Jvm.MethodName) ∈ mzAll := mz_t3 (List.mem_of_getElem? (i := 39) (by decide +kernel)) (by decide +kernel)
theorem wsm_ordinal : Jvm.Cond.sameMethod "ParcelLine$Command" "java/lang/Enum" "ordinal" "()I" ∈ mzAll := mz_t3 (List.mem_of_getElem? (i := 40) (by decide +kernel)) (by decide +kernel)
theorem wse_Cmd_ordinal : Jvm.Cond.selects "ParcelLine$Command" ({ cls := "ParcelLine$Command", name := "ordinal", desc := "()I" } : Jvm.MethodName) ({ cls := "java/lang/Enum", name := "ordinal", desc := "()I" } : Jvm.MethodName) ∈ mzAll := mz_t3 (List.mem_of_getElem? (i := 42) (by decide +kernel)) (by decide +kernel)
theorem wse_ordinal : Jvm.Cond.selects "ParcelLine$Command" ({ cls := "ParcelLine$Command", name := "ordinal", desc := "()I" } : Jvm.MethodName) ({ cls := "java/lang/Enum", name := "ordinal", desc := "()I" } : Jvm.MethodName) ∈ mzAll := mz_t3 (List.mem_of_getElem? (i := 42) (by decide +kernel)) (by decide +kernel)
theorem wi_JE_ordinal : Jvm.Cond.instanceMethod ({ cls := "java/lang/Enum", name := "ordinal", desc := "()I" } : Jvm.MethodName) ∈ mzAll := mz_t3 (List.mem_of_getElem? (i := 43) (by decide +kernel)) (by decide +kernel)
theorem wco_JE_ordinal : Jvm.Cond.code ({ cls := "java/lang/Enum", name := "ordinal", desc := "()I" } : Jvm.MethodName) prog_15_method_2_code (1 : Nat) (Option.some Jvm.ClassFile.FieldType.int) ∈ mzAll := mz_t3 (List.mem_of_getElem? (i := 44) (by decide +kernel)) (by decide +kernel)
theorem wl_Ses_287 : Jvm.Cond.methodLink "ParcelLine$Session" (287 : Nat) ({ cls := "ParcelLine$Session", name := "changeDirectory", desc := "()I" } : Jvm.MethodName) ∈ mzAll := mz_t3 (List.mem_of_getElem? (i := 45) (by decide +kernel)) (by decide +kernel)
theorem wi_Ses_changeDirectory : Jvm.Cond.instanceMethod ({ cls := "ParcelLine$Session", name := "changeDirectory", desc := "()I" } : Jvm.MethodName) ∈ mzAll := mz_t3 (List.mem_of_getElem? (i := 47) (by decide +kernel)) (by decide +kernel)
theorem wco_Ses_changeDirectory : Jvm.Cond.code ({ cls := "ParcelLine$Session", name := "changeDirectory", desc := "()I" } : Jvm.MethodName) prog_11_method_21_code (1 : Nat) (Option.some Jvm.ClassFile.FieldType.int) ∈ mzAll := mz_t3 (List.mem_of_getElem? (i := 48) (by decide +kernel)) (by decide +kernel)
theorem wl_Ses_290 : Jvm.Cond.methodLink "ParcelLine$Session" (290 : Nat) ({ cls := "ParcelLine$Session", name := "tellSize", desc := "()I" } : Jvm.MethodName) ∈ mzAll := mz_t3 (List.mem_of_getElem? (i := 49) (by decide +kernel)) (by decide +kernel)
theorem wi_Ses_tellSize : Jvm.Cond.instanceMethod ({ cls := "ParcelLine$Session", name := "tellSize", desc := "()I" } : Jvm.MethodName) ∈ mzAll := mz_t3 (List.mem_of_getElem? (i := 51) (by decide +kernel)) (by decide +kernel)
theorem wco_Ses_tellSize : Jvm.Cond.code ({ cls := "ParcelLine$Session", name := "tellSize", desc := "()I" } : Jvm.MethodName) prog_11_method_23_code (1 : Nat) (Option.some Jvm.ClassFile.FieldType.int) ∈ mzAll := mz_t3 (List.mem_of_getElem? (i := 52) (by decide +kernel)) (by decide +kernel)
theorem wl_Ses_332 : Jvm.Cond.methodLink "ParcelLine$Session" (332 : Nat) ({ cls := "ParcelLine$Store", name := "isFile", desc := "(I)Z" } : Jvm.MethodName) ∈ mzAll := mz_t3 (List.mem_of_getElem? (i := 53) (by decide +kernel)) (by decide +kernel)
theorem wi_Store_isFile : Jvm.Cond.instanceMethod ({ cls := "ParcelLine$Store", name := "isFile", desc := "(I)Z" } : Jvm.MethodName) ∈ mzAll := mz_t3 (List.mem_of_getElem? (i := 54) (by decide +kernel)) (by decide +kernel)
theorem wse_Store_isFile : Jvm.Cond.selects "ParcelLine$Store" ({ cls := "ParcelLine$Store", name := "isFile", desc := "(I)Z" } : Jvm.MethodName) ({ cls := "ParcelLine$Store", name := "isFile", desc := "(I)Z" } : Jvm.MethodName) ∈ mzAll := mz_t3 (List.mem_of_getElem? (i := 55) (by decide +kernel)) (by decide +kernel)
theorem wco_Store_isFile : Jvm.Cond.code ({ cls := "ParcelLine$Store", name := "isFile", desc := "(I)Z" } : Jvm.MethodName) prog_12_method_3_code (2 : Nat) (Option.some Jvm.ClassFile.FieldType.boolean) ∈ mzAll := mz_t3 (List.mem_of_getElem? (i := 56) (by decide +kernel)) (by decide +kernel)
theorem wl_Ses_293 : Jvm.Cond.methodLink "ParcelLine$Session" (293 : Nat) ({ cls := "ParcelLine$Session", name := "sendFile", desc := "()I" } : Jvm.MethodName) ∈ mzAll := mz_t3 (List.mem_of_getElem? (i := 57) (by decide +kernel)) (by decide +kernel)
theorem wi_Ses_sendFile : Jvm.Cond.instanceMethod ({ cls := "ParcelLine$Session", name := "sendFile", desc := "()I" } : Jvm.MethodName) ∈ mzAll := mz_t3 (List.mem_of_getElem? (i := 59) (by decide +kernel)) (by decide +kernel)
theorem wco_Ses_sendFile : Jvm.Cond.code ({ cls := "ParcelLine$Session", name := "sendFile", desc := "()I" } : Jvm.MethodName) prog_11_method_24_code (2 : Nat) (Option.some Jvm.ClassFile.FieldType.int) ∈ mzAll := mz_t3 (List.mem_of_getElem? (i := 60) (by decide +kernel)) (by decide +kernel)
theorem wl_Ses_345 : Jvm.Cond.methodLink "ParcelLine$Session" (345 : Nat) ({ cls := "ParcelLine$DataWay", name := "sendFile", desc := "(LParcelLine$Node;IZ)V" } : Jvm.MethodName) ∈ mzAll := mz_t3 (List.mem_of_getElem? (i := 61) (by decide +kernel)) (by decide +kernel)
theorem wi_Way_sendFile : Jvm.Cond.instanceMethod ({ cls := "ParcelLine$DataWay", name := "sendFile", desc := "(LParcelLine$Node;IZ)V" } : Jvm.MethodName) ∈ mzAll := mz_t3 (List.mem_of_getElem? (i := 62) (by decide +kernel)) (by decide +kernel)
theorem wse_Way_sendFile : Jvm.Cond.selects "ParcelLine$DataWay" ({ cls := "ParcelLine$DataWay", name := "sendFile", desc := "(LParcelLine$Node;IZ)V" } : Jvm.MethodName) ({ cls := "ParcelLine$DataWay", name := "sendFile", desc := "(LParcelLine$Node;IZ)V" } : Jvm.MethodName) ∈ mzAll := mz_t3 (List.mem_of_getElem? (i := 63) (by decide +kernel)) (by decide +kernel)
theorem wco_Way_sendFile : Jvm.Cond.code ({ cls := "ParcelLine$DataWay", name := "sendFile", desc := "(LParcelLine$Node;IZ)V" } : Jvm.MethodName) prog_6_method_3_code (6 : Nat) (Option.none : Option Jvm.ClassFile.FieldType) ∈ mzAll := mz_t3 (List.mem_of_getElem? (i := 64) (by decide +kernel)) (by decide +kernel)
theorem wl_Way_40 : Jvm.Cond.methodLink "ParcelLine$DataWay" (40 : Nat) ({ cls := "ParcelLine$ByteRow", name := "at", desc := "(I)I" } : Jvm.MethodName) ∈ mzAll := mz_t3 (List.mem_of_getElem? (i := 65) (by decide +kernel)) (by decide +kernel)
theorem wi_Row_at : Jvm.Cond.instanceMethod ({ cls := "ParcelLine$ByteRow", name := "at", desc := "(I)I" } : Jvm.MethodName) ∈ mzAll := mz_t3 (List.mem_of_getElem? (i := 66) (by decide +kernel)) (by decide +kernel)
theorem wse_Row_at : Jvm.Cond.selects "ParcelLine$ByteRow" ({ cls := "ParcelLine$ByteRow", name := "at", desc := "(I)I" } : Jvm.MethodName) ({ cls := "ParcelLine$ByteRow", name := "at", desc := "(I)I" } : Jvm.MethodName) ∈ mzAll := mz_t3 (List.mem_of_getElem? (i := 67) (by decide +kernel)) (by decide +kernel)
theorem wco_Row_at : Jvm.Cond.code ({ cls := "ParcelLine$ByteRow", name := "at", desc := "(I)I" } : Jvm.MethodName) prog_3_method_3_code (2 : Nat) (Option.some Jvm.ClassFile.FieldType.int) ∈ mzAll := mz_t3 (List.mem_of_getElem? (i := 68) (by decide +kernel)) (by decide +kernel)
theorem wl_Way_44 : Jvm.Cond.methodLink "ParcelLine$DataWay" (44 : Nat) ({ cls := "ParcelLine$DataWay", name := "load", desc := "(I)V" } : Jvm.MethodName) ∈ mzAll := mz_t3 (List.mem_of_getElem? (i := 69) (by decide +kernel)) (by decide +kernel)
theorem wi_Way_load : Jvm.Cond.instanceMethod ({ cls := "ParcelLine$DataWay", name := "load", desc := "(I)V" } : Jvm.MethodName) ∈ mzAll := mz_t3 (List.mem_of_getElem? (i := 71) (by decide +kernel)) (by decide +kernel)
theorem wco_Way_load : Jvm.Cond.code ({ cls := "ParcelLine$DataWay", name := "load", desc := "(I)V" } : Jvm.MethodName) prog_6_method_2_code (2 : Nat) (Option.none : Option Jvm.ClassFile.FieldType) ∈ mzAll := mz_t3 (List.mem_of_getElem? (i := 72) (by decide +kernel)) (by decide +kernel)
theorem wl_Ses_296 : Jvm.Cond.methodLink "ParcelLine$Session" (296 : Nat) ({ cls := "ParcelLine$Session", name := "receiveFile", desc := "(I)I" } : Jvm.MethodName) ∈ mzAll := mz_t3 (List.mem_of_getElem? (i := 73) (by decide +kernel)) (by decide +kernel)
theorem wi_Ses_receiveFile : Jvm.Cond.instanceMethod ({ cls := "ParcelLine$Session", name := "receiveFile", desc := "(I)I" } : Jvm.MethodName) ∈ mzAll := mz_t3 (List.mem_of_getElem? (i := 75) (by decide +kernel)) (by decide +kernel)
theorem wco_Ses_receiveFile : Jvm.Cond.code ({ cls := "ParcelLine$Session", name := "receiveFile", desc := "(I)I" } : Jvm.MethodName) prog_11_method_25_code (4 : Nat) (Option.some Jvm.ClassFile.FieldType.int) ∈ mzAll := mz_t3 (List.mem_of_getElem? (i := 76) (by decide +kernel)) (by decide +kernel)
theorem wl_Ses_348 : Jvm.Cond.methodLink "ParcelLine$Session" (348 : Nat) ({ cls := "ParcelLine$Node", name := "isBusy", desc := "()Z" } : Jvm.MethodName) ∈ mzAll := mz_t3 (List.mem_of_getElem? (i := 77) (by decide +kernel)) (by decide +kernel)
theorem wi_Node_isBusy : Jvm.Cond.instanceMethod ({ cls := "ParcelLine$Node", name := "isBusy", desc := "()Z" } : Jvm.MethodName) ∈ mzAll := mz_t3 (List.mem_of_getElem? (i := 78) (by decide +kernel)) (by decide +kernel)
theorem wse_Node_isBusy : Jvm.Cond.selects "ParcelLine$Node" ({ cls := "ParcelLine$Node", name := "isBusy", desc := "()Z" } : Jvm.MethodName) ({ cls := "ParcelLine$Node", name := "isBusy", desc := "()Z" } : Jvm.MethodName) ∈ mzAll := mz_t3 (List.mem_of_getElem? (i := 79) (by decide +kernel)) (by decide +kernel)
theorem wco_Node_isBusy : Jvm.Cond.code ({ cls := "ParcelLine$Node", name := "isBusy", desc := "()Z" } : Jvm.MethodName) prog_8_method_3_code (1 : Nat) (Option.some Jvm.ClassFile.FieldType.boolean) ∈ mzAll := mz_t3 (List.mem_of_getElem? (i := 80) (by decide +kernel)) (by decide +kernel)
theorem wl_Ses_299 : Jvm.Cond.methodLink "ParcelLine$Session" (299 : Nat) ({ cls := "ParcelLine$Session", name := "targetSize", desc := "()I" } : Jvm.MethodName) ∈ mzAll := mz_t3 (List.mem_of_getElem? (i := 81) (by decide +kernel)) (by decide +kernel)
theorem wi_Ses_targetSize : Jvm.Cond.instanceMethod ({ cls := "ParcelLine$Session", name := "targetSize", desc := "()I" } : Jvm.MethodName) ∈ mzAll := mz_t3 (List.mem_of_getElem? (i := 83) (by decide +kernel)) (by decide +kernel)
theorem wco_Ses_targetSize : Jvm.Cond.code ({ cls := "ParcelLine$Session", name := "targetSize", desc := "()I" } : Jvm.MethodName) prog_11_method_22_code (1 : Nat) (Option.some Jvm.ClassFile.FieldType.int) ∈ mzAll := mz_t3 (List.mem_of_getElem? (i := 84) (by decide +kernel)) (by decide +kernel)
theorem wl_Ses_351 : Jvm.Cond.methodLink "ParcelLine$Session" (351 : Nat) ({ cls := "ParcelLine$Store", name := "make", desc := "(III)I" } : Jvm.MethodName) ∈ mzAll := mz_t3 (List.mem_of_getElem? (i := 85) (by decide +kernel)) (by decide +kernel)
theorem wi_Store_make : Jvm.Cond.instanceMethod ({ cls := "ParcelLine$Store", name := "make", desc := "(III)I" } : Jvm.MethodName) ∈ mzAll := mz_t3 (List.mem_of_getElem? (i := 86) (by decide +kernel)) (by decide +kernel)
theorem wse_Store_make : Jvm.Cond.selects "ParcelLine$Store" ({ cls := "ParcelLine$Store", name := "make", desc := "(III)I" } : Jvm.MethodName) ({ cls := "ParcelLine$Store", name := "make", desc := "(III)I" } : Jvm.MethodName) ∈ mzAll := mz_t3 (List.mem_of_getElem? (i := 87) (by decide +kernel)) (by decide +kernel)
theorem wco_Store_make : Jvm.Cond.code ({ cls := "ParcelLine$Store", name := "make", desc := "(III)I" } : Jvm.MethodName) prog_12_method_9_code (6 : Nat) (Option.some Jvm.ClassFile.FieldType.int) ∈ mzAll := mz_t3 (List.mem_of_getElem? (i := 88) (by decide +kernel)) (by decide +kernel)
theorem wl_Ses_355 : Jvm.Cond.methodLink "ParcelLine$Session" (355 : Nat) ({ cls := "ParcelLine$DataWay", name := "receiveFile", desc := "(LParcelLine$Node;IZ)V" } : Jvm.MethodName) ∈ mzAll := mz_t3 (List.mem_of_getElem? (i := 89) (by decide +kernel)) (by decide +kernel)
theorem wi_Way_receiveFile : Jvm.Cond.instanceMethod ({ cls := "ParcelLine$DataWay", name := "receiveFile", desc := "(LParcelLine$Node;IZ)V" } : Jvm.MethodName) ∈ mzAll := mz_t3 (List.mem_of_getElem? (i := 90) (by decide +kernel)) (by decide +kernel)
theorem wse_Way_receiveFile : Jvm.Cond.selects "ParcelLine$DataWay" ({ cls := "ParcelLine$DataWay", name := "receiveFile", desc := "(LParcelLine$Node;IZ)V" } : Jvm.MethodName) ({ cls := "ParcelLine$DataWay", name := "receiveFile", desc := "(LParcelLine$Node;IZ)V" } : Jvm.MethodName) ∈ mzAll := mz_t3 (List.mem_of_getElem? (i := 91) (by decide +kernel)) (by decide +kernel)
theorem wco_Way_receiveFile : Jvm.Cond.code ({ cls := "ParcelLine$DataWay", name := "receiveFile", desc := "(LParcelLine$Node;IZ)V" } : Jvm.MethodName) prog_6_method_6_code (4 : Nat) (Option.none : Option Jvm.ClassFile.FieldType) ∈ mzAll := mz_t3 (List.mem_of_getElem? (i := 92) (by decide +kernel)) (by decide +kernel)
theorem wl_Ses_302 : Jvm.Cond.methodLink "ParcelLine$Session" (302 : Nat) ({ cls := "ParcelLine$Session", name := "removeFile", desc := "()I" } : Jvm.MethodName) ∈ mzAll := mz_t3 (List.mem_of_getElem? (i := 93) (by decide +kernel)) (by decide +kernel)
theorem wi_Ses_removeFile : Jvm.Cond.instanceMethod ({ cls := "ParcelLine$Session", name := "removeFile", desc := "()I" } : Jvm.MethodName) ∈ mzAll := mz_t3 (List.mem_of_getElem? (i := 95) (by decide +kernel)) (by decide +kernel)
theorem wco_Ses_removeFile : Jvm.Cond.code ({ cls := "ParcelLine$Session", name := "removeFile", desc := "()I" } : Jvm.MethodName) prog_11_method_26_code (1 : Nat) (Option.some Jvm.ClassFile.FieldType.int) ∈ mzAll := mz_t3 (List.mem_of_getElem? (i := 96) (by decide +kernel)) (by decide +kernel)
theorem wl_Ses_305 : Jvm.Cond.methodLink "ParcelLine$Session" (305 : Nat) ({ cls := "ParcelLine$Session", name := "makeDirectory", desc := "()I" } : Jvm.MethodName) ∈ mzAll := mz_t3 (List.mem_of_getElem? (i := 97) (by decide +kernel)) (by decide +kernel)
theorem wi_Ses_makeDirectory : Jvm.Cond.instanceMethod ({ cls := "ParcelLine$Session", name := "makeDirectory", desc := "()I" } : Jvm.MethodName) ∈ mzAll := mz_t3 (List.mem_of_getElem? (i := 99) (by decide +kernel)) (by decide +kernel)
theorem wco_Ses_makeDirectory : Jvm.Cond.code ({ cls := "ParcelLine$Session", name := "makeDirectory", desc := "()I" } : Jvm.MethodName) prog_11_method_27_code (1 : Nat) (Option.some Jvm.ClassFile.FieldType.int) ∈ mzAll := mz_t3 (List.mem_of_getElem? (i := 100) (by decide +kernel)) (by decide +kernel)
theorem wl_Ses_308 : Jvm.Cond.methodLink "ParcelLine$Session" (308 : Nat) ({ cls := "ParcelLine$Session", name := "removeDirectory", desc := "()I" } : Jvm.MethodName) ∈ mzAll := mz_t3 (List.mem_of_getElem? (i := 101) (by decide +kernel)) (by decide +kernel)
theorem wi_Ses_removeDirectory : Jvm.Cond.instanceMethod ({ cls := "ParcelLine$Session", name := "removeDirectory", desc := "()I" } : Jvm.MethodName) ∈ mzAll := mz_t3 (List.mem_of_getElem? (i := 103) (by decide +kernel)) (by decide +kernel)
theorem wco_Ses_removeDirectory : Jvm.Cond.code ({ cls := "ParcelLine$Session", name := "removeDirectory", desc := "()I" } : Jvm.MethodName) prog_11_method_28_code (1 : Nat) (Option.some Jvm.ClassFile.FieldType.int) ∈ mzAll := mz_t3 (List.mem_of_getElem? (i := 104) (by decide +kernel)) (by decide +kernel)
theorem wl_Ses_360 : Jvm.Cond.methodLink "ParcelLine$Session" (360 : Nat) ({ cls := "ParcelLine$Store", name := "countIn", desc := "(I)I" } : Jvm.MethodName) ∈ mzAll := mz_t3 (List.mem_of_getElem? (i := 105) (by decide +kernel)) (by decide +kernel)
theorem wi_Store_countIn : Jvm.Cond.instanceMethod ({ cls := "ParcelLine$Store", name := "countIn", desc := "(I)I" } : Jvm.MethodName) ∈ mzAll := mz_t3 (List.mem_of_getElem? (i := 106) (by decide +kernel)) (by decide +kernel)
theorem wse_Store_countIn : Jvm.Cond.selects "ParcelLine$Store" ({ cls := "ParcelLine$Store", name := "countIn", desc := "(I)I" } : Jvm.MethodName) ({ cls := "ParcelLine$Store", name := "countIn", desc := "(I)I" } : Jvm.MethodName) ∈ mzAll := mz_t3 (List.mem_of_getElem? (i := 107) (by decide +kernel)) (by decide +kernel)
theorem wco_Store_countIn : Jvm.Cond.code ({ cls := "ParcelLine$Store", name := "countIn", desc := "(I)I" } : Jvm.MethodName) prog_12_method_6_code (4 : Nat) (Option.some Jvm.ClassFile.FieldType.int) ∈ mzAll := mz_t3 (List.mem_of_getElem? (i := 108) (by decide +kernel)) (by decide +kernel)
theorem wl_Ses_363 : Jvm.Cond.methodLink "ParcelLine$Session" (363 : Nat) ({ cls := "ParcelLine$Store", name := "isCurrent", desc := "(I)Z" } : Jvm.MethodName) ∈ mzAll := mz_t3 (List.mem_of_getElem? (i := 109) (by decide +kernel)) (by decide +kernel)
theorem wi_Store_isCurrent : Jvm.Cond.instanceMethod ({ cls := "ParcelLine$Store", name := "isCurrent", desc := "(I)Z" } : Jvm.MethodName) ∈ mzAll := mz_t3 (List.mem_of_getElem? (i := 110) (by decide +kernel)) (by decide +kernel)
theorem wse_Store_isCurrent : Jvm.Cond.selects "ParcelLine$Store" ({ cls := "ParcelLine$Store", name := "isCurrent", desc := "(I)Z" } : Jvm.MethodName) ({ cls := "ParcelLine$Store", name := "isCurrent", desc := "(I)Z" } : Jvm.MethodName) ∈ mzAll := mz_t3 (List.mem_of_getElem? (i := 111) (by decide +kernel)) (by decide +kernel)
theorem wco_Store_isCurrent : Jvm.Cond.code ({ cls := "ParcelLine$Store", name := "isCurrent", desc := "(I)Z" } : Jvm.MethodName) prog_12_method_10_code (3 : Nat) (Option.some Jvm.ClassFile.FieldType.boolean) ∈ mzAll := mz_t3 (List.mem_of_getElem? (i := 112) (by decide +kernel)) (by decide +kernel)
theorem wl_Ses_311 : Jvm.Cond.methodLink "ParcelLine$Session" (311 : Nat) ({ cls := "ParcelLine$Session", name := "chooseForRename", desc := "()I" } : Jvm.MethodName) ∈ mzAll := mz_t3 (List.mem_of_getElem? (i := 113) (by decide +kernel)) (by decide +kernel)
theorem wi_Ses_chooseForRename : Jvm.Cond.instanceMethod ({ cls := "ParcelLine$Session", name := "chooseForRename", desc := "()I" } : Jvm.MethodName) ∈ mzAll := mz_t3 (List.mem_of_getElem? (i := 115) (by decide +kernel)) (by decide +kernel)
theorem wco_Ses_chooseForRename : Jvm.Cond.code ({ cls := "ParcelLine$Session", name := "chooseForRename", desc := "()I" } : Jvm.MethodName) prog_11_method_29_code (1 : Nat) (Option.some Jvm.ClassFile.FieldType.int) ∈ mzAll := mz_t3 (List.mem_of_getElem? (i := 116) (by decide +kernel)) (by decide +kernel)
theorem wl_Ses_314 : Jvm.Cond.methodLink "ParcelLine$Session" (314 : Nat) ({ cls := "ParcelLine$Session", name := "rename", desc := "()I" } : Jvm.MethodName) ∈ mzAll := mz_t3 (List.mem_of_getElem? (i := 117) (by decide +kernel)) (by decide +kernel)
theorem wi_Ses_rename : Jvm.Cond.instanceMethod ({ cls := "ParcelLine$Session", name := "rename", desc := "()I" } : Jvm.MethodName) ∈ mzAll := mz_t3 (List.mem_of_getElem? (i := 119) (by decide +kernel)) (by decide +kernel)
theorem wco_Ses_rename : Jvm.Cond.code ({ cls := "ParcelLine$Session", name := "rename", desc := "()I" } : Jvm.MethodName) prog_11_method_30_code (2 : Nat) (Option.some Jvm.ClassFile.FieldType.int) ∈ mzAll := mz_t3 (List.mem_of_getElem? (i := 120) (by decide +kernel)) (by decide +kernel)
theorem wl_Ses_366 : Jvm.Cond.methodLink "ParcelLine$Session" (366 : Nat) ({ cls := "ParcelLine$Store", name := "isThere", desc := "(I)Z" } : Jvm.MethodName) ∈ mzAll := mz_t3 (List.mem_of_getElem? (i := 121) (by decide +kernel)) (by decide +kernel)
theorem wi_Store_isThere : Jvm.Cond.instanceMethod ({ cls := "ParcelLine$Store", name := "isThere", desc := "(I)Z" } : Jvm.MethodName) ∈ mzAll := mz_t3 (List.mem_of_getElem? (i := 122) (by decide +kernel)) (by decide +kernel)
theorem wse_Store_isThere : Jvm.Cond.selects "ParcelLine$Store" ({ cls := "ParcelLine$Store", name := "isThere", desc := "(I)Z" } : Jvm.MethodName) ({ cls := "ParcelLine$Store", name := "isThere", desc := "(I)Z" } : Jvm.MethodName) ∈ mzAll := mz_t3 (List.mem_of_getElem? (i := 123) (by decide +kernel)) (by decide +kernel)
theorem wco_Store_isThere : Jvm.Cond.code ({ cls := "ParcelLine$Store", name := "isThere", desc := "(I)Z" } : Jvm.MethodName) prog_12_method_2_code (2 : Nat) (Option.some Jvm.ClassFile.FieldType.boolean) ∈ mzAll := mz_t3 (List.mem_of_getElem? (i := 124) (by decide +kernel)) (by decide +kernel)
theorem wl_Ses_369 : Jvm.Cond.methodLink "ParcelLine$Session" (369 : Nat) ({ cls := "ParcelLine$Store", name := "isWithin", desc := "(II)Z" } : Jvm.MethodName) ∈ mzAll := mz_t3 (List.mem_of_getElem? (i := 125) (by decide +kernel)) (by decide +kernel)
theorem wi_Store_isWithin : Jvm.Cond.instanceMethod ({ cls := "ParcelLine$Store", name := "isWithin", desc := "(II)Z" } : Jvm.MethodName) ∈ mzAll := mz_t3 (List.mem_of_getElem? (i := 126) (by decide +kernel)) (by decide +kernel)
theorem wse_Store_isWithin : Jvm.Cond.selects "ParcelLine$Store" ({ cls := "ParcelLine$Store", name := "isWithin", desc := "(II)Z" } : Jvm.MethodName) ({ cls := "ParcelLine$Store", name := "isWithin", desc := "(II)Z" } : Jvm.MethodName) ∈ mzAll := mz_t3 (List.mem_of_getElem? (i := 127) (by decide +kernel)) (by decide +kernel)
theorem wco_Store_isWithin : Jvm.Cond.code ({ cls := "ParcelLine$Store", name := "isWithin", desc := "(II)Z" } : Jvm.MethodName) prog_12_method_11_code (5 : Nat) (Option.some Jvm.ClassFile.FieldType.boolean) ∈ mzAll := mz_t3 (List.mem_of_getElem? (i := 128) (by decide +kernel)) (by decide +kernel)
theorem wl_Ses_104 : Jvm.Cond.methodLink "ParcelLine$Session" (104 : Nat) ({ cls := "ParcelLine$Session", name := "obeyPlain", desc := "(LParcelLine$Command;)I" } : Jvm.MethodName) ∈ mzAll := mz_t3 (List.mem_of_getElem? (i := 129) (by decide +kernel)) (by decide +kernel)
theorem wi_Ses_obeyPlain : Jvm.Cond.instanceMethod ({ cls := "ParcelLine$Session", name := "obeyPlain", desc := "(LParcelLine$Command;)I" } : Jvm.MethodName) ∈ mzAll := mz_t3 (List.mem_of_getElem? (i := 131) (by decide +kernel)) (by decide +kernel)
theorem wco_Ses_obeyPlain : Jvm.Cond.code ({ cls := "ParcelLine$Session", name := "obeyPlain", desc := "(LParcelLine$Command;)I" } : Jvm.MethodName) prog_11_method_15_code (2 : Nat) (Option.some Jvm.ClassFile.FieldType.int) ∈ mzAll := mz_t3 (List.mem_of_getElem? (i := 132) (by decide +kernel)) (by decide +kernel)
theorem wl_Ses_268 : Jvm.Cond.methodLink "ParcelLine$Session" (268 : Nat) ({ cls := "ParcelLine$Session", name := "nameUser", desc := "()I" } : Jvm.MethodName) ∈ mzAll := mz_t3 (List.mem_of_getElem? (i := 133) (by decide +kernel)) (by decide +kernel)
theorem wi_Ses_nameUser : Jvm.Cond.instanceMethod ({ cls := "ParcelLine$Session", name := "nameUser", desc := "()I" } : Jvm.MethodName) ∈ mzAll := mz_t3 (List.mem_of_getElem? (i := 135) (by decide +kernel)) (by decide +kernel)
theorem wco_Ses_nameUser : Jvm.Cond.code ({ cls := "ParcelLine$Session", name := "nameUser", desc := "()I" } : Jvm.MethodName) prog_11_method_17_code (1 : Nat) (Option.some Jvm.ClassFile.FieldType.int) ∈ mzAll := mz_t3 (List.mem_of_getElem? (i := 136) (by decide +kernel)) (by decide +kernel)
theorem wl_Ses_124 : Jvm.Cond.methodLink "ParcelLine$Session" (124 : Nat) ({ cls := "ParcelLine$Session", name := "logOut", desc := "()V" } : Jvm.MethodName) ∈ mzAll := mz_t3 (List.mem_of_getElem? (i := 137) (by decide +kernel)) (by decide +kernel)
theorem wi_Ses_logOut : Jvm.Cond.instanceMethod ({ cls := "ParcelLine$Session", name := "logOut", desc := "()V" } : Jvm.MethodName) ∈ mzAll := mz_t3 (List.mem_of_getElem? (i := 139) (by decide +kernel)) (by decide +kernel)
theorem wco_Ses_logOut : Jvm.Cond.code ({ cls := "ParcelLine$Session", name := "logOut", desc := "()V" } : Jvm.MethodName) prog_11_method_4_code (1 : Nat) (Option.none : Option Jvm.ClassFile.FieldType) ∈ mzAll := mz_t3 (List.mem_of_getElem? (i := 140) (by decide +kernel)) (by decide +kernel)
theorem wl_Ses_271 : Jvm.Cond.methodLink "ParcelLine$Session" (271 : Nat) ({ cls := "ParcelLine$Session", name := "logIn", desc := "()I" } : Jvm.MethodName) ∈ mzAll := mz_t3 (List.mem_of_getElem? (i := 143) (by decide +kernel)) (by decide +kernel)
theorem wi_Ses_logIn : Jvm.Cond.instanceMethod ({ cls := "ParcelLine$Session", name := "logIn", desc := "()I" } : Jvm.MethodName) ∈ mzAll := mz_t3 (List.mem_of_getElem? (i := 145) (by decide +kernel)) (by decide +kernel)
theorem wco_Ses_logIn : Jvm.Cond.code ({ cls := "ParcelLine$Session", name := "logIn", desc := "()I" } : Jvm.MethodName) prog_11_method_18_code (1 : Nat) (Option.some Jvm.ClassFile.FieldType.int) ∈ mzAll := mz_t3 (List.mem_of_getElem? (i := 146) (by decide +kernel)) (by decide +kernel)
theorem wl_Ses_148 : Jvm.Cond.methodLink "ParcelLine$Session" (148 : Nat) ({ cls := "ParcelLine$Session", name := "startOver", desc := "()V" } : Jvm.MethodName) ∈ mzAll := mz_t3 (List.mem_of_getElem? (i := 148) (by decide +kernel)) (by decide +kernel)
theorem wi_Ses_startOver : Jvm.Cond.instanceMethod ({ cls := "ParcelLine$Session", name := "startOver", desc := "()V" } : Jvm.MethodName) ∈ mzAll := mz_t3 (List.mem_of_getElem? (i := 150) (by decide +kernel)) (by decide +kernel)
theorem wco_Ses_startOver : Jvm.Cond.code ({ cls := "ParcelLine$Session", name := "startOver", desc := "()V" } : Jvm.MethodName) prog_11_method_3_code (1 : Nat) (Option.none : Option Jvm.ClassFile.FieldType) ∈ mzAll := mz_t3 (List.mem_of_getElem? (i := 151) (by decide +kernel)) (by decide +kernel)
theorem wl_Ses_121 : Jvm.Cond.methodLink "ParcelLine$Session" (121 : Nat) ({ cls := "ParcelLine$DataWay", name := "end", desc := "()V" } : Jvm.MethodName) ∈ mzAll := mz_t3 (List.mem_of_getElem? (i := 152) (by decide +kernel)) (by decide +kernel)
theorem wi_Way_end : Jvm.Cond.instanceMethod ({ cls := "ParcelLine$DataWay", name := "end", desc := "()V" } : Jvm.MethodName) ∈ mzAll := mz_t3 (List.mem_of_getElem? (i := 153) (by decide +kernel)) (by decide +kernel)
theorem wse_Way_end : Jvm.Cond.selects "ParcelLine$DataWay" ({ cls := "ParcelLine$DataWay", name := "end", desc := "()V" } : Jvm.MethodName) ({ cls := "ParcelLine$DataWay", name := "end", desc := "()V" } : Jvm.MethodName) ∈ mzAll := mz_t3 (List.mem_of_getElem? (i := 154) (by decide +kernel)) (by decide +kernel)
theorem wco_Way_end : Jvm.Cond.code ({ cls := "ParcelLine$DataWay", name := "end", desc := "()V" } : Jvm.MethodName) prog_6_method_10_code (1 : Nat) (Option.none : Option Jvm.ClassFile.FieldType) ∈ mzAll := mz_t3 (List.mem_of_getElem? (i := 155) (by decide +kernel)) (by decide +kernel)
theorem wl_Way_61 : Jvm.Cond.methodLink "ParcelLine$DataWay" (61 : Nat) ({ cls := "ParcelLine$ByteRow", name := "add", desc := "(I)V" } : Jvm.MethodName) ∈ mzAll := mz_t3 (List.mem_of_getElem? (i := 156) (by decide +kernel)) (by decide +kernel)
theorem wi_Row_add : Jvm.Cond.instanceMethod ({ cls := "ParcelLine$ByteRow", name := "add", desc := "(I)V" } : Jvm.MethodName) ∈ mzAll := mz_t3 (List.mem_of_getElem? (i := 157) (by decide +kernel)) (by decide +kernel)
theorem wse_Row_add : Jvm.Cond.selects "ParcelLine$ByteRow" ({ cls := "ParcelLine$ByteRow", name := "add", desc := "(I)V" } : Jvm.MethodName) ({ cls := "ParcelLine$ByteRow", name := "add", desc := "(I)V" } : Jvm.MethodName) ∈ mzAll := mz_t3 (List.mem_of_getElem? (i := 158) (by decide +kernel)) (by decide +kernel)
theorem wco_Row_add : Jvm.Cond.code ({ cls := "ParcelLine$ByteRow", name := "add", desc := "(I)V" } : Jvm.MethodName) prog_3_method_2_code (2 : Nat) (Option.none : Option Jvm.ClassFile.FieldType) ∈ mzAll := mz_t3 (List.mem_of_getElem? (i := 159) (by decide +kernel)) (by decide +kernel)
theorem wl_Ses_137 : Jvm.Cond.methodLink "ParcelLine$Session" (137 : Nat) ({ cls := "ParcelLine$LineReader", name := "startOver", desc := "()V" } : Jvm.MethodName) ∈ mzAll := mz_t3 (List.mem_of_getElem? (i := 160) (by decide +kernel)) (by decide +kernel)
theorem wi_Lin_startOver : Jvm.Cond.instanceMethod ({ cls := "ParcelLine$LineReader", name := "startOver", desc := "()V" } : Jvm.MethodName) ∈ mzAll := mz_t3 (List.mem_of_getElem? (i := 161) (by decide +kernel)) (by decide +kernel)
theorem wse_Lin_startOver : Jvm.Cond.selects "ParcelLine$LineReader" ({ cls := "ParcelLine$LineReader", name := "startOver", desc := "()V" } : Jvm.MethodName) ({ cls := "ParcelLine$LineReader", name := "startOver", desc := "()V" } : Jvm.MethodName) ∈ mzAll := mz_t3 (List.mem_of_getElem? (i := 162) (by decide +kernel)) (by decide +kernel)
theorem wco_Lin_startOver : Jvm.Cond.code ({ cls := "ParcelLine$LineReader", name := "startOver", desc := "()V" } : Jvm.MethodName) prog_7_method_2_code (1 : Nat) (Option.none : Option Jvm.ClassFile.FieldType) ∈ mzAll := mz_t3 (List.mem_of_getElem? (i := 163) (by decide +kernel)) (by decide +kernel)
theorem wl_Lin_27 : Jvm.Cond.methodLink "ParcelLine$LineReader" (27 : Nat) ({ cls := "ParcelLine$LineReader", name := "startLine", desc := "()V" } : Jvm.MethodName) ∈ mzAll := mz_t3 (List.mem_of_getElem? (i := 164) (by decide +kernel)) (by decide +kernel)
theorem wi_Lin_startLine : Jvm.Cond.instanceMethod ({ cls := "ParcelLine$LineReader", name := "startLine", desc := "()V" } : Jvm.MethodName) ∈ mzAll := mz_t3 (List.mem_of_getElem? (i := 165) (by decide +kernel)) (by decide +kernel)
theorem wse_Lin_startLine : Jvm.Cond.selects "ParcelLine$LineReader" ({ cls := "ParcelLine$LineReader", name := "startLine", desc := "()V" } : Jvm.MethodName) ({ cls := "ParcelLine$LineReader", name := "startLine", desc := "()V" } : Jvm.MethodName) ∈ mzAll := mz_t3 (List.mem_of_getElem? (i := 166) (by decide +kernel)) (by decide +kernel)
theorem wco_Lin_startLine : Jvm.Cond.code ({ cls := "ParcelLine$LineReader", name := "startLine", desc := "()V" } : Jvm.MethodName) prog_7_method_3_code (1 : Nat) (Option.none : Option Jvm.ClassFile.FieldType) ∈ mzAll := mz_t3 (List.mem_of_getElem? (i := 167) (by decide +kernel)) (by decide +kernel)
theorem wl_Ses_274 : Jvm.Cond.methodLink "ParcelLine$Session" (274 : Nat) ({ cls := "ParcelLine$Store", name := "parentOf", desc := "(I)I" } : Jvm.MethodName) ∈ mzAll := mz_t3 (List.mem_of_getElem? (i := 168) (by decide +kernel)) (by decide +kernel)
theorem wi_Store_parentOf : Jvm.Cond.instanceMethod ({ cls := "ParcelLine$Store", name := "parentOf", desc := "(I)I" } : Jvm.MethodName) ∈ mzAll := mz_t3 (List.mem_of_getElem? (i := 169) (by decide +kernel)) (by decide +kernel)
theorem wse_Store_parentOf : Jvm.Cond.selects "ParcelLine$Store" ({ cls := "ParcelLine$Store", name := "parentOf", desc := "(I)I" } : Jvm.MethodName) ({ cls := "ParcelLine$Store", name := "parentOf", desc := "(I)I" } : Jvm.MethodName) ∈ mzAll := mz_t3 (List.mem_of_getElem? (i := 170) (by decide +kernel)) (by decide +kernel)
theorem wco_Store_parentOf : Jvm.Cond.code ({ cls := "ParcelLine$Store", name := "parentOf", desc := "(I)I" } : Jvm.MethodName) prog_12_method_5_code (2 : Nat) (Option.some Jvm.ClassFile.FieldType.int) ∈ mzAll := mz_t3 (List.mem_of_getElem? (i := 171) (by decide +kernel)) (by decide +kernel)
theorem wl_Store_29 : Jvm.Cond.methodLink "ParcelLine$Store" (29 : Nat) ({ cls := "ParcelLine$Store", name := "isThere", desc := "(I)Z" } : Jvm.MethodName) ∈ mzAll := mz_t3 (List.mem_of_getElem? (i := 172) (by decide +kernel)) (by decide +kernel)
theorem wl_Ses_281 : Jvm.Cond.methodLink "ParcelLine$Session" (281 : Nat) ({ cls := "ParcelLine$Session", name := "sendNames", desc := "()I" } : Jvm.MethodName) ∈ mzAll := mz_t3 (List.mem_of_getElem? (i := 173) (by decide +kernel)) (by decide +kernel)
theorem wi_Ses_sendNames : Jvm.Cond.instanceMethod ({ cls := "ParcelLine$Session", name := "sendNames", desc := "()I" } : Jvm.MethodName) ∈ mzAll := mz_t3 (List.mem_of_getElem? (i := 175) (by decide +kernel)) (by decide +kernel)
theorem wco_Ses_sendNames : Jvm.Cond.code ({ cls := "ParcelLine$Session", name := "sendNames", desc := "()I" } : Jvm.MethodName) prog_11_method_19_code (2 : Nat) (Option.some Jvm.ClassFile.FieldType.int) ∈ mzAll := mz_t3 (List.mem_of_getElem? (i := 176) (by decide +kernel)) (by decide +kernel)
theorem wl_Ses_323 : Jvm.Cond.methodLink "ParcelLine$Session" (323 : Nat) ({ cls := "ParcelLine$DataWay", name := "beginNames", desc := "()V" } : Jvm.MethodName) ∈ mzAll := mz_t3 (List.mem_of_getElem? (i := 177) (by decide +kernel)) (by decide +kernel)
theorem wi_Way_beginNames : Jvm.Cond.instanceMethod ({ cls := "ParcelLine$DataWay", name := "beginNames", desc := "()V" } : Jvm.MethodName) ∈ mzAll := mz_t3 (List.mem_of_getElem? (i := 178) (by decide +kernel)) (by decide +kernel)
theorem wse_Way_beginNames : Jvm.Cond.selects "ParcelLine$DataWay" ({ cls := "ParcelLine$DataWay", name := "beginNames", desc := "()V" } : Jvm.MethodName) ({ cls := "ParcelLine$DataWay", name := "beginNames", desc := "()V" } : Jvm.MethodName) ∈ mzAll := mz_t3 (List.mem_of_getElem? (i := 179) (by decide +kernel)) (by decide +kernel)
theorem wco_Way_beginNames : Jvm.Cond.code ({ cls := "ParcelLine$DataWay", name := "beginNames", desc := "()V" } : Jvm.MethodName) prog_6_method_4_code (1 : Nat) (Option.none : Option Jvm.ClassFile.FieldType) ∈ mzAll := mz_t3 (List.mem_of_getElem? (i := 180) (by decide +kernel)) (by decide +kernel)
theorem wl_Ses_326 : Jvm.Cond.methodLink "ParcelLine$Session" (326 : Nat) ({ cls := "ParcelLine$Node", name := "isIn", desc := "(I)Z" } : Jvm.MethodName) ∈ mzAll := mz_t3 (List.mem_of_getElem? (i := 181) (by decide +kernel)) (by decide +kernel)
theorem wl_Ses_329 : Jvm.Cond.methodLink "ParcelLine$Session" (329 : Nat) ({ cls := "ParcelLine$DataWay", name := "loadName", desc := "(I)V" } : Jvm.MethodName) ∈ mzAll := mz_t3 (List.mem_of_getElem? (i := 182) (by decide +kernel)) (by decide +kernel)
theorem wi_Way_loadName : Jvm.Cond.instanceMethod ({ cls := "ParcelLine$DataWay", name := "loadName", desc := "(I)V" } : Jvm.MethodName) ∈ mzAll := mz_t3 (List.mem_of_getElem? (i := 183) (by decide +kernel)) (by decide +kernel)
theorem wse_Way_loadName : Jvm.Cond.selects "ParcelLine$DataWay" ({ cls := "ParcelLine$DataWay", name := "loadName", desc := "(I)V" } : Jvm.MethodName) ({ cls := "ParcelLine$DataWay", name := "loadName", desc := "(I)V" } : Jvm.MethodName) ∈ mzAll := mz_t3 (List.mem_of_getElem? (i := 184) (by decide +kernel)) (by decide +kernel)
theorem wco_Way_loadName : Jvm.Cond.code ({ cls := "ParcelLine$DataWay", name := "loadName", desc := "(I)V" } : Jvm.MethodName) prog_6_method_5_code (4 : Nat) (Option.none : Option Jvm.ClassFile.FieldType) ∈ mzAll := mz_t3 (List.mem_of_getElem? (i := 185) (by decide +kernel)) (by decide +kernel)
theorem wl_Ses_284 : Jvm.Cond.methodLink "ParcelLine$Session" (284 : Nat) ({ cls := "ParcelLine$Session", name := "abort", desc := "()I" } : Jvm.MethodName) ∈ mzAll := mz_t3 (List.mem_of_getElem? (i := 186) (by decide +kernel)) (by decide +kernel)
theorem wi_Ses_abort : Jvm.Cond.instanceMethod ({ cls := "ParcelLine$Session", name := "abort", desc := "()I" } : Jvm.MethodName) ∈ mzAll := mz_t3 (List.mem_of_getElem? (i := 188) (by decide +kernel)) (by decide +kernel)
theorem wco_Ses_abort : Jvm.Cond.code ({ cls := "ParcelLine$Session", name := "abort", desc := "()I" } : Jvm.MethodName) prog_11_method_20_code (2 : Nat) (Option.some Jvm.ClassFile.FieldType.int) ∈ mzAll := mz_t3 (List.mem_of_getElem? (i := 189) (by decide +kernel)) (by decide +kernel)
theorem wl_Ses_107 : Jvm.Cond.methodLink "ParcelLine$Session" (107 : Nat) ({ cls := "ParcelLine$Session", name := "forget", desc := "(LParcelLine$Command;)V" } : Jvm.MethodName) ∈ mzAll := mz_t3 (List.mem_of_getElem? (i := 190) (by decide +kernel)) (by decide +kernel)
theorem wi_Ses_forget : Jvm.Cond.instanceMethod ({ cls := "ParcelLine$Session", name := "forget", desc := "(LParcelLine$Command;)V" } : Jvm.MethodName) ∈ mzAll := mz_t3 (List.mem_of_getElem? (i := 192) (by decide +kernel)) (by decide +kernel)
theorem wco_Ses_forget : Jvm.Cond.code ({ cls := "ParcelLine$Session", name := "forget", desc := "(LParcelLine$Command;)V" } : Jvm.MethodName) prog_11_method_13_code (2 : Nat) (Option.none : Option Jvm.ClassFile.FieldType) ∈ mzAll := mz_t3 (List.mem_of_getElem? (i := 193) (by decide +kernel)) (by decide +kernel)
theorem wf_Ses_240 : Jvm.Cond.fieldLink "ParcelLine$Session" (240 : Nat) "ParcelLine$Command" "RNFR" "LParcelLine$Command;" ∈ mzAll := mz_t3 (List.mem_of_getElem? (i := 194) (by decide +kernel)) (by decide +kernel)
theorem wf_Ses_244 : Jvm.Cond.fieldLink "ParcelLine$Session" (244 : Nat) "ParcelLine$Command" "REST" "LParcelLine$Command;" ∈ mzAll := mz_t3 (List.mem_of_getElem? (i := 196) (by decide +kernel)) (by decide +kernel)
theorem wl_Ses_111 : Jvm.Cond.methodLink "ParcelLine$Session" (111 : Nat) ({ cls := "ParcelLine$LineReader", name := "startLine", desc := "()V" } : Jvm.MethodName) ∈ mzAll := mz_t3 (List.mem_of_getElem? (i := 198) (by decide +kernel)) (by decide +kernel)
theorem wl_Ses_114 : Jvm.Cond.methodLink "ParcelLine$Session" (114 : Nat) ({ cls := "ParcelLine$Session", name := "answer", desc := "(I)V" } : Jvm.MethodName) ∈ mzAll := mz_t3 (List.mem_of_getElem? (i := 199) (by decide +kernel)) (by decide +kernel)
theorem wi_Ses_answer : Jvm.Cond.instanceMethod ({ cls := "ParcelLine$Session", name := "answer", desc := "(I)V" } : Jvm.MethodName) ∈ mzAll := mz_t3 (List.mem_of_getElem? (i := 201) (by decide +kernel)) (by decide +kernel)
theorem wco_Ses_answer : Jvm.Cond.code ({ cls := "ParcelLine$Session", name := "answer", desc := "(I)V" } : Jvm.MethodName) prog_11_method_9_code (4 : Nat) (Option.none : Option Jvm.ClassFile.FieldType) ∈ mzAll := mz_t3 (List.mem_of_getElem? (i := 202) (by decide +kernel)) (by decide +kernel)
theorem wl_Ses_172 : Jvm.Cond.methodLink "ParcelLine$Session" (172 : Nat) ({ cls := "ParcelLine$Replies", name := "begin", desc := "(I)V" } : Jvm.MethodName) ∈ mzAll := mz_t3 (List.mem_of_getElem? (i := 203) (by decide +kernel)) (by decide +kernel)
theorem wi_Rep_begin : Jvm.Cond.instanceMethod ({ cls := "ParcelLine$Replies", name := "begin", desc := "(I)V" } : Jvm.MethodName) ∈ mzAll := mz_t3 (List.mem_of_getElem? (i := 204) (by decide +kernel)) (by decide +kernel)
theorem wse_Rep_begin : Jvm.Cond.selects "ParcelLine$Replies" ({ cls := "ParcelLine$Replies", name := "begin", desc := "(I)V" } : Jvm.MethodName) ({ cls := "ParcelLine$Replies", name := "begin", desc := "(I)V" } : Jvm.MethodName) ∈ mzAll := mz_t3 (List.mem_of_getElem? (i := 205) (by decide +kernel)) (by decide +kernel)
theorem wco_Rep_begin : Jvm.Cond.code ({ cls := "ParcelLine$Replies", name := "begin", desc := "(I)V" } : Jvm.MethodName) prog_10_method_5_code (2 : Nat) (Option.none : Option Jvm.ClassFile.FieldType) ∈ mzAll := mz_t3 (List.mem_of_getElem? (i := 206) (by decide +kernel)) (by decide +kernel)
theorem wl_Ses_178 : Jvm.Cond.methodLink "ParcelLine$Session" (178 : Nat) ({ cls := "ParcelLine$Replies", name := "writeNumber", desc := "(I)V" } : Jvm.MethodName) ∈ mzAll := mz_t3 (List.mem_of_getElem? (i := 207) (by decide +kernel)) (by decide +kernel)
theorem wi_Rep_writeNumber : Jvm.Cond.instanceMethod ({ cls := "ParcelLine$Replies", name := "writeNumber", desc := "(I)V" } : Jvm.MethodName) ∈ mzAll := mz_t3 (List.mem_of_getElem? (i := 208) (by decide +kernel)) (by decide +kernel)
theorem wse_Rep_writeNumber : Jvm.Cond.selects "ParcelLine$Replies" ({ cls := "ParcelLine$Replies", name := "writeNumber", desc := "(I)V" } : Jvm.MethodName) ({ cls := "ParcelLine$Replies", name := "writeNumber", desc := "(I)V" } : Jvm.MethodName) ∈ mzAll := mz_t3 (List.mem_of_getElem? (i := 209) (by decide +kernel)) (by decide +kernel)
theorem wco_Rep_writeNumber : Jvm.Cond.code ({ cls := "ParcelLine$Replies", name := "writeNumber", desc := "(I)V" } : Jvm.MethodName) prog_10_method_6_code (2 : Nat) (Option.none : Option Jvm.ClassFile.FieldType) ∈ mzAll := mz_t3 (List.mem_of_getElem? (i := 210) (by decide +kernel)) (by decide +kernel)
theorem wl_Ses_181 : Jvm.Cond.methodLink "ParcelLine$Session" (181 : Nat) ({ cls := "ParcelLine$Replies", name := "write", desc := "(I)V" } : Jvm.MethodName) ∈ mzAll := mz_t3 (List.mem_of_getElem? (i := 211) (by decide +kernel)) (by decide +kernel)
theorem wl_Ses_187 : Jvm.Cond.methodLink "ParcelLine$Session" (187 : Nat) ({ cls := "ParcelLine$Store", name := "lineage", desc := "(I[I)I" } : Jvm.MethodName) ∈ mzAll := mz_t3 (List.mem_of_getElem? (i := 212) (by decide +kernel)) (by decide +kernel)
theorem wi_Store_lineage : Jvm.Cond.instanceMethod ({ cls := "ParcelLine$Store", name := "lineage", desc := "(I[I)I" } : Jvm.MethodName) ∈ mzAll := mz_t3 (List.mem_of_getElem? (i := 213) (by decide +kernel)) (by decide +kernel)
theorem wse_Store_lineage : Jvm.Cond.selects "ParcelLine$Store" ({ cls := "ParcelLine$Store", name := "lineage", desc := "(I[I)I" } : Jvm.MethodName) ({ cls := "ParcelLine$Store", name := "lineage", desc := "(I[I)I" } : Jvm.MethodName) ∈ mzAll := mz_t3 (List.mem_of_getElem? (i := 214) (by decide +kernel)) (by decide +kernel)
theorem wco_Store_lineage : Jvm.Cond.code ({ cls := "ParcelLine$Store", name := "lineage", desc := "(I[I)I" } : Jvm.MethodName) prog_12_method_12_code (5 : Nat) (Option.some Jvm.ClassFile.FieldType.int) ∈ mzAll := mz_t3 (List.mem_of_getElem? (i := 215) (by decide +kernel)) (by decide +kernel)
theorem wl_Ses_197 : Jvm.Cond.methodLink "ParcelLine$Session" (197 : Nat) ({ cls := "ParcelLine$Replies", name := "writeStep", desc := "(I)V" } : Jvm.MethodName) ∈ mzAll := mz_t3 (List.mem_of_getElem? (i := 216) (by decide +kernel)) (by decide +kernel)
theorem wi_Rep_writeStep : Jvm.Cond.instanceMethod ({ cls := "ParcelLine$Replies", name := "writeStep", desc := "(I)V" } : Jvm.MethodName) ∈ mzAll := mz_t3 (List.mem_of_getElem? (i := 217) (by decide +kernel)) (by decide +kernel)
theorem wse_Rep_writeStep : Jvm.Cond.selects "ParcelLine$Replies" ({ cls := "ParcelLine$Replies", name := "writeStep", desc := "(I)V" } : Jvm.MethodName) ({ cls := "ParcelLine$Replies", name := "writeStep", desc := "(I)V" } : Jvm.MethodName) ∈ mzAll := mz_t3 (List.mem_of_getElem? (i := 218) (by decide +kernel)) (by decide +kernel)
theorem wco_Rep_writeStep : Jvm.Cond.code ({ cls := "ParcelLine$Replies", name := "writeStep", desc := "(I)V" } : Jvm.MethodName) prog_10_method_7_code (4 : Nat) (Option.none : Option Jvm.ClassFile.FieldType) ∈ mzAll := mz_t3 (List.mem_of_getElem? (i := 219) (by decide +kernel)) (by decide +kernel)
theorem wl_Ses_200 : Jvm.Cond.methodLink "ParcelLine$Session" (200 : Nat) ({ cls := "ParcelLine$Replies", name := "end", desc := "()V" } : Jvm.MethodName) ∈ mzAll := mz_t3 (List.mem_of_getElem? (i := 220) (by decide +kernel)) (by decide +kernel)
theorem wi_Rep_end : Jvm.Cond.instanceMethod ({ cls := "ParcelLine$Replies", name := "end", desc := "()V" } : Jvm.MethodName) ∈ mzAll := mz_t3 (List.mem_of_getElem? (i := 221) (by decide +kernel)) (by decide +kernel)
theorem wse_Rep_end : Jvm.Cond.selects "ParcelLine$Replies" ({ cls := "ParcelLine$Replies", name := "end", desc := "()V" } : Jvm.MethodName) ({ cls := "ParcelLine$Replies", name := "end", desc := "()V" } : Jvm.MethodName) ∈ mzAll := mz_t3 (List.mem_of_getElem? (i := 222) (by decide +kernel)) (by decide +kernel)
theorem wco_Rep_end : Jvm.Cond.code ({ cls := "ParcelLine$Replies", name := "end", desc := "()V" } : Jvm.MethodName) prog_10_method_8_code (1 : Nat) (Option.none : Option Jvm.ClassFile.FieldType) ∈ mzAll := mz_t3 (List.mem_of_getElem? (i := 223) (by decide +kernel)) (by decide +kernel)
theorem wl_Ses_118 : Jvm.Cond.methodLink "ParcelLine$Session" (118 : Nat) ({ cls := "ParcelLine$Session", name := "endIfSpent", desc := "()V" } : Jvm.MethodName) ∈ mzAll := mz_t3 (List.mem_of_getElem? (i := 224) (by decide +kernel)) (by decide +kernel)
theorem wi_Ses_endIfSpent : Jvm.Cond.instanceMethod ({ cls := "ParcelLine$Session", name := "endIfSpent", desc := "()V" } : Jvm.MethodName) ∈ mzAll := mz_t3 (List.mem_of_getElem? (i := 226) (by decide +kernel)) (by decide +kernel)
theorem wco_Ses_endIfSpent : Jvm.Cond.code ({ cls := "ParcelLine$Session", name := "endIfSpent", desc := "()V" } : Jvm.MethodName) prog_11_method_8_code (1 : Nat) (Option.none : Option Jvm.ClassFile.FieldType) ∈ mzAll := mz_t3 (List.mem_of_getElem? (i := 227) (by decide +kernel)) (by decide +kernel)
theorem wl_Ses_168 : Jvm.Cond.methodLink "ParcelLine$Session" (168 : Nat) ({ cls := "ParcelLine$DataWay", name := "isSpent", desc := "()Z" } : Jvm.MethodName) ∈ mzAll := mz_t3 (List.mem_of_getElem? (i := 228) (by decide +kernel)) (by decide +kernel)
theorem wi_Way_isSpent : Jvm.Cond.instanceMethod ({ cls := "ParcelLine$DataWay", name := "isSpent", desc := "()Z" } : Jvm.MethodName) ∈ mzAll := mz_t3 (List.mem_of_getElem? (i := 229) (by decide +kernel)) (by decide +kernel)
theorem wse_Way_isSpent : Jvm.Cond.selects "ParcelLine$DataWay" ({ cls := "ParcelLine$DataWay", name := "isSpent", desc := "()Z" } : Jvm.MethodName) ({ cls := "ParcelLine$DataWay", name := "isSpent", desc := "()Z" } : Jvm.MethodName) ∈ mzAll := mz_t3 (List.mem_of_getElem? (i := 230) (by decide +kernel)) (by decide +kernel)
theorem wco_Way_isSpent : Jvm.Cond.code ({ cls := "ParcelLine$DataWay", name := "isSpent", desc := "()Z" } : Jvm.MethodName) prog_6_method_8_code (1 : Nat) (Option.some Jvm.ClassFile.FieldType.boolean) ∈ mzAll := mz_t3 (List.mem_of_getElem? (i := 231) (by decide +kernel)) (by decide +kernel)
theorem wa_byte : Jvm.Cond.arrayClass Jvm.ClassFile.FieldType.byte ∈ mzAll := mz_t3 (List.mem_of_getElem? (i := 232) (by decide +kernel)) (by decide +kernel)
theorem wl_Law_61 : Jvm.Cond.methodLink "ParcelLineLaw" (61 : Nat) ({ cls := "ParcelLine", name := "cut", desc := "(I)Z" } : Jvm.MethodName) ∈ mzAll := mz_t3 (List.mem_of_getElem? (i := 233) (by decide +kernel)) (by decide +kernel)
theorem wi_PL_cut : Jvm.Cond.instanceMethod ({ cls := "ParcelLine", name := "cut", desc := "(I)Z" } : Jvm.MethodName) ∈ mzAll := mz_t3 (List.mem_of_getElem? (i := 234) (by decide +kernel)) (by decide +kernel)
theorem wse_PL_cut : Jvm.Cond.selects "ParcelLine" ({ cls := "ParcelLine", name := "cut", desc := "(I)Z" } : Jvm.MethodName) ({ cls := "ParcelLine", name := "cut", desc := "(I)Z" } : Jvm.MethodName) ∈ mzAll := mz_t3 (List.mem_of_getElem? (i := 235) (by decide +kernel)) (by decide +kernel)
theorem wco_PL_cut : Jvm.Cond.code ({ cls := "ParcelLine", name := "cut", desc := "(I)Z" } : Jvm.MethodName) prog_1_method_6_code (2 : Nat) (Option.some Jvm.ClassFile.FieldType.boolean) ∈ mzAll := mz_t3 (List.mem_of_getElem? (i := 236) (by decide +kernel)) (by decide +kernel)
theorem wl_PL_92 : Jvm.Cond.methodLink "ParcelLine" (92 : Nat) ({ cls := "ParcelLine$Session", name := "drop", desc := "()V" } : Jvm.MethodName) ∈ mzAll := mz_t3 (List.mem_of_getElem? (i := 237) (by decide +kernel)) (by decide +kernel)
theorem wi_Ses_drop : Jvm.Cond.instanceMethod ({ cls := "ParcelLine$Session", name := "drop", desc := "()V" } : Jvm.MethodName) ∈ mzAll := mz_t3 (List.mem_of_getElem? (i := 238) (by decide +kernel)) (by decide +kernel)
theorem wse_Ses_drop : Jvm.Cond.selects "ParcelLine$Session" ({ cls := "ParcelLine$Session", name := "drop", desc := "()V" } : Jvm.MethodName) ({ cls := "ParcelLine$Session", name := "drop", desc := "()V" } : Jvm.MethodName) ∈ mzAll := mz_t3 (List.mem_of_getElem? (i := 239) (by decide +kernel)) (by decide +kernel)
theorem wco_Ses_drop : Jvm.Cond.code ({ cls := "ParcelLine$Session", name := "drop", desc := "()V" } : Jvm.MethodName) prog_11_method_5_code (1 : Nat) (Option.none : Option Jvm.ClassFile.FieldType) ∈ mzAll := mz_t4 (List.mem_of_getElem? (i := 0) (by decide +kernel)) (by decide +kernel)
theorem wl_Ses_149 : Jvm.Cond.methodLink "ParcelLine$Session" (149 : Nat) ({ cls := "ParcelLine$Replies", name := "clear", desc := "()V" } : Jvm.MethodName) ∈ mzAll := mz_t4 (List.mem_of_getElem? (i := 1) (by decide +kernel)) (by decide +kernel)
theorem wi_Rep_clear : Jvm.Cond.instanceMethod ({ cls := "ParcelLine$Replies", name := "clear", desc := "()V" } : Jvm.MethodName) ∈ mzAll := mz_t4 (List.mem_of_getElem? (i := 2) (by decide +kernel)) (by decide +kernel)
theorem wse_Rep_clear : Jvm.Cond.selects "ParcelLine$Replies" ({ cls := "ParcelLine$Replies", name := "clear", desc := "()V" } : Jvm.MethodName) ({ cls := "ParcelLine$Replies", name := "clear", desc := "()V" } : Jvm.MethodName) ∈ mzAll := mz_t4 (List.mem_of_getElem? (i := 3) (by decide +kernel)) (by decide +kernel)
theorem wco_Rep_clear : Jvm.Cond.code ({ cls := "ParcelLine$Replies", name := "clear", desc := "()V" } : Jvm.MethodName) prog_10_method_2_code (1 : Nat) (Option.none : Option Jvm.ClassFile.FieldType) ∈ mzAll := mz_t4 (List.mem_of_getElem? (i := 4) (by decide +kernel)) (by decide +kernel)
theorem wl_PL_95 : Jvm.Cond.methodLink "ParcelLine" (95 : Nat) ({ cls := "ParcelLine$Copier", name := "interrupt", desc := "()V" } : Jvm.MethodName) ∈ mzAll := mz_t4 (List.mem_of_getElem? (i := 5) (by decide +kernel)) (by decide +kernel)
theorem wi_Cop_interrupt : Jvm.Cond.instanceMethod ({ cls := "ParcelLine$Copier", name := "interrupt", desc := "()V" } : Jvm.MethodName) ∈ mzAll := mz_t4 (List.mem_of_getElem? (i := 6) (by decide +kernel)) (by decide +kernel)
theorem wse_Cop_interrupt : Jvm.Cond.selects "ParcelLine$Copier" ({ cls := "ParcelLine$Copier", name := "interrupt", desc := "()V" } : Jvm.MethodName) ({ cls := "ParcelLine$Copier", name := "interrupt", desc := "()V" } : Jvm.MethodName) ∈ mzAll := mz_t4 (List.mem_of_getElem? (i := 7) (by decide +kernel)) (by decide +kernel)
theorem wco_Cop_interrupt : Jvm.Cond.code ({ cls := "ParcelLine$Copier", name := "interrupt", desc := "()V" } : Jvm.MethodName) prog_5_method_3_code (1 : Nat) (Option.none : Option Jvm.ClassFile.FieldType) ∈ mzAll := mz_t4 (List.mem_of_getElem? (i := 8) (by decide +kernel)) (by decide +kernel)
theorem wl_Law_66 : Jvm.Cond.methodLink "ParcelLineLaw" (66 : Nat) ({ cls := "ParcelLine", name := "crash", desc := "()V" } : Jvm.MethodName) ∈ mzAll := mz_t4 (List.mem_of_getElem? (i := 9) (by decide +kernel)) (by decide +kernel)
theorem wi_PL_crash : Jvm.Cond.instanceMethod ({ cls := "ParcelLine", name := "crash", desc := "()V" } : Jvm.MethodName) ∈ mzAll := mz_t4 (List.mem_of_getElem? (i := 10) (by decide +kernel)) (by decide +kernel)
theorem wse_PL_crash : Jvm.Cond.selects "ParcelLine" ({ cls := "ParcelLine", name := "crash", desc := "()V" } : Jvm.MethodName) ({ cls := "ParcelLine", name := "crash", desc := "()V" } : Jvm.MethodName) ∈ mzAll := mz_t4 (List.mem_of_getElem? (i := 11) (by decide +kernel)) (by decide +kernel)
theorem wco_PL_crash : Jvm.Cond.code ({ cls := "ParcelLine", name := "crash", desc := "()V" } : Jvm.MethodName) prog_1_method_7_code (2 : Nat) (Option.none : Option Jvm.ClassFile.FieldType) ∈ mzAll := mz_t4 (List.mem_of_getElem? (i := 12) (by decide +kernel)) (by decide +kernel)
theorem wl_PL_98 : Jvm.Cond.methodLink "ParcelLine" (98 : Nat) ({ cls := "ParcelLine$Store", name := "loseUnsafeBytes", desc := "()V" } : Jvm.MethodName) ∈ mzAll := mz_t4 (List.mem_of_getElem? (i := 13) (by decide +kernel)) (by decide +kernel)
theorem wi_Store_loseUnsafeBytes : Jvm.Cond.instanceMethod ({ cls := "ParcelLine$Store", name := "loseUnsafeBytes", desc := "()V" } : Jvm.MethodName) ∈ mzAll := mz_t4 (List.mem_of_getElem? (i := 14) (by decide +kernel)) (by decide +kernel)
theorem wse_Store_loseUnsafeBytes : Jvm.Cond.selects "ParcelLine$Store" ({ cls := "ParcelLine$Store", name := "loseUnsafeBytes", desc := "()V" } : Jvm.MethodName) ({ cls := "ParcelLine$Store", name := "loseUnsafeBytes", desc := "()V" } : Jvm.MethodName) ∈ mzAll := mz_t4 (List.mem_of_getElem? (i := 15) (by decide +kernel)) (by decide +kernel)
theorem wco_Store_loseUnsafeBytes : Jvm.Cond.code ({ cls := "ParcelLine$Store", name := "loseUnsafeBytes", desc := "()V" } : Jvm.MethodName) prog_12_method_13_code (3 : Nat) (Option.none : Option Jvm.ClassFile.FieldType) ∈ mzAll := mz_t4 (List.mem_of_getElem? (i := 16) (by decide +kernel)) (by decide +kernel)
theorem wl_Law_70 : Jvm.Cond.methodLink "ParcelLineLaw" (70 : Nat) ({ cls := "ParcelLine", name := "waiting", desc := "(I)I" } : Jvm.MethodName) ∈ mzAll := mz_t4 (List.mem_of_getElem? (i := 17) (by decide +kernel)) (by decide +kernel)
theorem wi_PL_waiting : Jvm.Cond.instanceMethod ({ cls := "ParcelLine", name := "waiting", desc := "(I)I" } : Jvm.MethodName) ∈ mzAll := mz_t4 (List.mem_of_getElem? (i := 18) (by decide +kernel)) (by decide +kernel)
theorem wse_PL_waiting : Jvm.Cond.selects "ParcelLine" ({ cls := "ParcelLine", name := "waiting", desc := "(I)I" } : Jvm.MethodName) ({ cls := "ParcelLine", name := "waiting", desc := "(I)I" } : Jvm.MethodName) ∈ mzAll := mz_t4 (List.mem_of_getElem? (i := 19) (by decide +kernel)) (by decide +kernel)
theorem wco_PL_waiting : Jvm.Cond.code ({ cls := "ParcelLine", name := "waiting", desc := "(I)I" } : Jvm.MethodName) prog_1_method_8_code (2 : Nat) (Option.some Jvm.ClassFile.FieldType.int) ∈ mzAll := mz_t4 (List.mem_of_getElem? (i := 20) (by decide +kernel)) (by decide +kernel)
theorem wl_Law_74 : Jvm.Cond.methodLink "ParcelLineLaw" (74 : Nat) ({ cls := "ParcelLine", name := "reply", desc := "(I)I" } : Jvm.MethodName) ∈ mzAll := mz_t4 (List.mem_of_getElem? (i := 21) (by decide +kernel)) (by decide +kernel)
theorem wi_PL_reply : Jvm.Cond.instanceMethod ({ cls := "ParcelLine", name := "reply", desc := "(I)I" } : Jvm.MethodName) ∈ mzAll := mz_t4 (List.mem_of_getElem? (i := 22) (by decide +kernel)) (by decide +kernel)
theorem wse_PL_reply : Jvm.Cond.selects "ParcelLine" ({ cls := "ParcelLine", name := "reply", desc := "(I)I" } : Jvm.MethodName) ({ cls := "ParcelLine", name := "reply", desc := "(I)I" } : Jvm.MethodName) ∈ mzAll := mz_t4 (List.mem_of_getElem? (i := 23) (by decide +kernel)) (by decide +kernel)
theorem wco_PL_reply : Jvm.Cond.code ({ cls := "ParcelLine", name := "reply", desc := "(I)I" } : Jvm.MethodName) prog_1_method_9_code (2 : Nat) (Option.some Jvm.ClassFile.FieldType.int) ∈ mzAll := mz_t4 (List.mem_of_getElem? (i := 24) (by decide +kernel)) (by decide +kernel)
theorem wl_PL_110 : Jvm.Cond.methodLink "ParcelLine" (110 : Nat) ({ cls := "ParcelLine$Replies", name := "takeFirst", desc := "()I" } : Jvm.MethodName) ∈ mzAll := mz_t4 (List.mem_of_getElem? (i := 25) (by decide +kernel)) (by decide +kernel)
theorem wi_Rep_takeFirst : Jvm.Cond.instanceMethod ({ cls := "ParcelLine$Replies", name := "takeFirst", desc := "()I" } : Jvm.MethodName) ∈ mzAll := mz_t4 (List.mem_of_getElem? (i := 26) (by decide +kernel)) (by decide +kernel)
theorem wse_Rep_takeFirst : Jvm.Cond.selects "ParcelLine$Replies" ({ cls := "ParcelLine$Replies", name := "takeFirst", desc := "()I" } : Jvm.MethodName) ({ cls := "ParcelLine$Replies", name := "takeFirst", desc := "()I" } : Jvm.MethodName) ∈ mzAll := mz_t4 (List.mem_of_getElem? (i := 27) (by decide +kernel)) (by decide +kernel)
theorem wco_Rep_takeFirst : Jvm.Cond.code ({ cls := "ParcelLine$Replies", name := "takeFirst", desc := "()I" } : Jvm.MethodName) prog_10_method_3_code (2 : Nat) (Option.some Jvm.ClassFile.FieldType.int) ∈ mzAll := mz_t4 (List.mem_of_getElem? (i := 28) (by decide +kernel)) (by decide +kernel)
theorem wl_Law_78 : Jvm.Cond.methodLink "ParcelLineLaw" (78 : Nat) ({ cls := "ParcelLine", name := "node", desc := "(II)I" } : Jvm.MethodName) ∈ mzAll := mz_t4 (List.mem_of_getElem? (i := 29) (by decide +kernel)) (by decide +kernel)
theorem wi_PL_node : Jvm.Cond.instanceMethod ({ cls := "ParcelLine", name := "node", desc := "(II)I" } : Jvm.MethodName) ∈ mzAll := mz_t4 (List.mem_of_getElem? (i := 30) (by decide +kernel)) (by decide +kernel)
theorem wse_PL_node : Jvm.Cond.selects "ParcelLine" ({ cls := "ParcelLine", name := "node", desc := "(II)I" } : Jvm.MethodName) ({ cls := "ParcelLine", name := "node", desc := "(II)I" } : Jvm.MethodName) ∈ mzAll := mz_t4 (List.mem_of_getElem? (i := 31) (by decide +kernel)) (by decide +kernel)
theorem wco_PL_node : Jvm.Cond.code ({ cls := "ParcelLine", name := "node", desc := "(II)I" } : Jvm.MethodName) prog_1_method_10_code (4 : Nat) (Option.some Jvm.ClassFile.FieldType.int) ∈ mzAll := mz_t4 (List.mem_of_getElem? (i := 32) (by decide +kernel)) (by decide +kernel)
theorem wl_PL_113 : Jvm.Cond.methodLink "ParcelLine" (113 : Nat) ({ cls := "ParcelLine$Store", name := "isThere", desc := "(I)Z" } : Jvm.MethodName) ∈ mzAll := mz_t4 (List.mem_of_getElem? (i := 33) (by decide +kernel)) (by decide +kernel)
theorem wl_PL_133 : Jvm.Cond.methodLink "ParcelLine" (133 : Nat) ({ cls := "ParcelLine$Store", name := "countIn", desc := "(I)I" } : Jvm.MethodName) ∈ mzAll := mz_t4 (List.mem_of_getElem? (i := 34) (by decide +kernel)) (by decide +kernel)
theorem wl_Law_83 : Jvm.Cond.methodLink "ParcelLineLaw" (83 : Nat) ({ cls := "ParcelLine", name := "content", desc := "(II)I" } : Jvm.MethodName) ∈ mzAll := mz_t4 (List.mem_of_getElem? (i := 35) (by decide +kernel)) (by decide +kernel)
theorem wi_PL_content : Jvm.Cond.instanceMethod ({ cls := "ParcelLine", name := "content", desc := "(II)I" } : Jvm.MethodName) ∈ mzAll := mz_t4 (List.mem_of_getElem? (i := 36) (by decide +kernel)) (by decide +kernel)
theorem wse_PL_content : Jvm.Cond.selects "ParcelLine" ({ cls := "ParcelLine", name := "content", desc := "(II)I" } : Jvm.MethodName) ({ cls := "ParcelLine", name := "content", desc := "(II)I" } : Jvm.MethodName) ∈ mzAll := mz_t4 (List.mem_of_getElem? (i := 37) (by decide +kernel)) (by decide +kernel)
theorem wco_PL_content : Jvm.Cond.code ({ cls := "ParcelLine", name := "content", desc := "(II)I" } : Jvm.MethodName) prog_1_method_11_code (3 : Nat) (Option.some Jvm.ClassFile.FieldType.int) ∈ mzAll := mz_t4 (List.mem_of_getElem? (i := 38) (by decide +kernel)) (by decide +kernel)
theorem wl_PL_140 : Jvm.Cond.methodLink "ParcelLine" (140 : Nat) ({ cls := "ParcelLine$Store", name := "isFile", desc := "(I)Z" } : Jvm.MethodName) ∈ mzAll := mz_t4 (List.mem_of_getElem? (i := 39) (by decide +kernel)) (by decide +kernel)
theorem wl_PL_143 : Jvm.Cond.methodLink "ParcelLine" (143 : Nat) ({ cls := "ParcelLine$ByteRow", name := "at", desc := "(I)I" } : Jvm.MethodName) ∈ mzAll := mz_t4 (List.mem_of_getElem? (i := 40) (by decide +kernel)) (by decide +kernel)
theorem wl_Law_87 : Jvm.Cond.methodLink "ParcelLineLaw" (87 : Nat) ({ cls := "ParcelLine", name := "current", desc := "(I)I" } : Jvm.MethodName) ∈ mzAll := mz_t4 (List.mem_of_getElem? (i := 41) (by decide +kernel)) (by decide +kernel)
theorem wi_PL_current : Jvm.Cond.instanceMethod ({ cls := "ParcelLine", name := "current", desc := "(I)I" } : Jvm.MethodName) ∈ mzAll := mz_t4 (List.mem_of_getElem? (i := 42) (by decide +kernel)) (by decide +kernel)
theorem wse_PL_current : Jvm.Cond.selects "ParcelLine" ({ cls := "ParcelLine", name := "current", desc := "(I)I" } : Jvm.MethodName) ({ cls := "ParcelLine", name := "current", desc := "(I)I" } : Jvm.MethodName) ∈ mzAll := mz_t4 (List.mem_of_getElem? (i := 43) (by decide +kernel)) (by decide +kernel)
theorem wco_PL_current : Jvm.Cond.code ({ cls := "ParcelLine", name := "current", desc := "(I)I" } : Jvm.MethodName) prog_1_method_12_code (2 : Nat) (Option.some Jvm.ClassFile.FieldType.int) ∈ mzAll := mz_t4 (List.mem_of_getElem? (i := 44) (by decide +kernel)) (by decide +kernel)
theorem wl_Law_91 : Jvm.Cond.methodLink "ParcelLineLaw" (91 : Nat) ({ cls := "ParcelLine", name := "running", desc := "(I)I" } : Jvm.MethodName) ∈ mzAll := mz_t4 (List.mem_of_getElem? (i := 45) (by decide +kernel)) (by decide +kernel)
theorem wi_PL_running : Jvm.Cond.instanceMethod ({ cls := "ParcelLine", name := "running", desc := "(I)I" } : Jvm.MethodName) ∈ mzAll := mz_t4 (List.mem_of_getElem? (i := 46) (by decide +kernel)) (by decide +kernel)
theorem wse_PL_running : Jvm.Cond.selects "ParcelLine" ({ cls := "ParcelLine", name := "running", desc := "(I)I" } : Jvm.MethodName) ({ cls := "ParcelLine", name := "running", desc := "(I)I" } : Jvm.MethodName) ∈ mzAll := mz_t4 (List.mem_of_getElem? (i := 47) (by decide +kernel)) (by decide +kernel)
theorem wco_PL_running : Jvm.Cond.code ({ cls := "ParcelLine", name := "running", desc := "(I)I" } : Jvm.MethodName) prog_1_method_13_code (2 : Nat) (Option.some Jvm.ClassFile.FieldType.int) ∈ mzAll := mz_t4 (List.mem_of_getElem? (i := 48) (by decide +kernel)) (by decide +kernel)
theorem wl_Law_95 : Jvm.Cond.methodLink "ParcelLineLaw" (95 : Nat) ({ cls := "ParcelLine", name := "fill", desc := "(IIII)Z" } : Jvm.MethodName) ∈ mzAll := mz_t4 (List.mem_of_getElem? (i := 49) (by decide +kernel)) (by decide +kernel)
theorem wi_PL_fill : Jvm.Cond.instanceMethod ({ cls := "ParcelLine", name := "fill", desc := "(IIII)Z" } : Jvm.MethodName) ∈ mzAll := mz_t4 (List.mem_of_getElem? (i := 50) (by decide +kernel)) (by decide +kernel)
theorem wse_PL_fill : Jvm.Cond.selects "ParcelLine" ({ cls := "ParcelLine", name := "fill", desc := "(IIII)Z" } : Jvm.MethodName) ({ cls := "ParcelLine", name := "fill", desc := "(IIII)Z" } : Jvm.MethodName) ∈ mzAll := mz_t4 (List.mem_of_getElem? (i := 51) (by decide +kernel)) (by decide +kernel)
theorem wco_PL_fill : Jvm.Cond.code ({ cls := "ParcelLine", name := "fill", desc := "(IIII)Z" } : Jvm.MethodName) prog_1_method_14_code (7 : Nat) (Option.some Jvm.ClassFile.FieldType.boolean) ∈ mzAll := mz_t4 (List.mem_of_getElem? (i := 52) (by decide +kernel)) (by decide +kernel)
theorem wl_PL_150 : Jvm.Cond.methodLink "ParcelLine" (150 : Nat) ({ cls := "ParcelLine", name := "isShelf", desc := "(I)Z" } : Jvm.MethodName) ∈ mzAll := mz_t4 (List.mem_of_getElem? (i := 53) (by decide +kernel)) (by decide +kernel)
theorem ws_PL_isShelf : Jvm.Cond.static ({ cls := "ParcelLine", name := "isShelf", desc := "(I)Z" } : Jvm.MethodName) ∈ mzAll := mz_t4 (List.mem_of_getElem? (i := 54) (by decide +kernel)) (by decide +kernel)
theorem wco_PL_isShelf : Jvm.Cond.code ({ cls := "ParcelLine", name := "isShelf", desc := "(I)Z" } : Jvm.MethodName) prog_1_method_19_code (1 : Nat) (Option.some Jvm.ClassFile.FieldType.boolean) ∈ mzAll := mz_t4 (List.mem_of_getElem? (i := 55) (by decide +kernel)) (by decide +kernel)
theorem wl_PL_156 : Jvm.Cond.methodLink "ParcelLine" (156 : Nat) ({ cls := "ParcelLine$ByteRow", name := "add", desc := "(I)V" } : Jvm.MethodName) ∈ mzAll := mz_t4 (List.mem_of_getElem? (i := 56) (by decide +kernel)) (by decide +kernel)
theorem wl_Law_100 : Jvm.Cond.methodLink "ParcelLineLaw" (100 : Nat) ({ cls := "ParcelLine", name := "shelf", desc := "(II)I" } : Jvm.MethodName) ∈ mzAll := mz_t4 (List.mem_of_getElem? (i := 57) (by decide +kernel)) (by decide +kernel)
theorem wi_PL_shelf : Jvm.Cond.instanceMethod ({ cls := "ParcelLine", name := "shelf", desc := "(II)I" } : Jvm.MethodName) ∈ mzAll := mz_t4 (List.mem_of_getElem? (i := 58) (by decide +kernel)) (by decide +kernel)
theorem wse_PL_shelf : Jvm.Cond.selects "ParcelLine" ({ cls := "ParcelLine", name := "shelf", desc := "(II)I" } : Jvm.MethodName) ({ cls := "ParcelLine", name := "shelf", desc := "(II)I" } : Jvm.MethodName) ∈ mzAll := mz_t4 (List.mem_of_getElem? (i := 59) (by decide +kernel)) (by decide +kernel)
theorem wco_PL_shelf : Jvm.Cond.code ({ cls := "ParcelLine", name := "shelf", desc := "(II)I" } : Jvm.MethodName) prog_1_method_15_code (3 : Nat) (Option.some Jvm.ClassFile.FieldType.int) ∈ mzAll := mz_t4 (List.mem_of_getElem? (i := 60) (by decide +kernel)) (by decide +kernel)
theorem wl_Law_44 : Jvm.Cond.methodLink "ParcelLineLaw" (44 : Nat) ({ cls := "ParcelLineLaw", name := "close", desc := "(LParcelLine;I)I" } : Jvm.MethodName) ∈ mzAll := mz_t4 (List.mem_of_getElem? (i := 61) (by decide +kernel)) (by decide +kernel)
theorem ws_Law_close : Jvm.Cond.static ({ cls := "ParcelLineLaw", name := "close", desc := "(LParcelLine;I)I" } : Jvm.MethodName) ∈ mzAll := mz_t4 (List.mem_of_getElem? (i := 62) (by decide +kernel)) (by decide +kernel)
theorem wc_Law_13 : Jvm.Cond.classLink "ParcelLineLaw" (13 : Nat) "java/lang/IllegalArgumentException" ∈ mzAll := mz_t4 (List.mem_of_getElem? (i := 64) (by decide +kernel)) (by decide +kernel)
theorem wc_Law_15 : Jvm.Cond.classLink "ParcelLineLaw" (15 : Nat) "java/lang/IllegalStateException" ∈ mzAll := mz_t4 (List.mem_of_getElem? (i := 65) (by decide +kernel)) (by decide +kernel)
theorem wl_Law_7 : Jvm.Cond.methodLink "ParcelLineLaw" (7 : Nat) ({ cls := "ParcelLine", name := "close", desc := "(I)V" } : Jvm.MethodName) ∈ mzAll := mz_t4 (List.mem_of_getElem? (i := 66) (by decide +kernel)) (by decide +kernel)
theorem wi_PL_close : Jvm.Cond.instanceMethod ({ cls := "ParcelLine", name := "close", desc := "(I)V" } : Jvm.MethodName) ∈ mzAll := mz_t4 (List.mem_of_getElem? (i := 67) (by decide +kernel)) (by decide +kernel)
theorem wse_PL_close : Jvm.Cond.selects "ParcelLine" ({ cls := "ParcelLine", name := "close", desc := "(I)V" } : Jvm.MethodName) ({ cls := "ParcelLine", name := "close", desc := "(I)V" } : Jvm.MethodName) ∈ mzAll := mz_t4 (List.mem_of_getElem? (i := 68) (by decide +kernel)) (by decide +kernel)
theorem wco_PL_close : Jvm.Cond.code ({ cls := "ParcelLine", name := "close", desc := "(I)V" } : Jvm.MethodName) prog_1_method_3_code (2 : Nat) (Option.none : Option Jvm.ClassFile.FieldType) ∈ mzAll := mz_t4 (List.mem_of_getElem? (i := 69) (by decide +kernel)) (by decide +kernel)
theorem wc_PL_49 : Jvm.Cond.classLink "ParcelLine" (49 : Nat) "java/lang/IllegalArgumentException" ∈ mzAll := mz_t4 (List.mem_of_getElem? (i := 70) (by decide +kernel)) (by decide +kernel)
theorem wl_PL_53 : Jvm.Cond.methodLink "ParcelLine" (53 : Nat) ({ cls := "java/lang/IllegalArgumentException", name := "<init>", desc := "(Ljava/lang/String;)V" } : Jvm.MethodName) ∈ mzAll := mz_t4 (List.mem_of_getElem? (i := 112) (by decide +kernel)) (by decide +kernel)
theorem wc_PL_66 : Jvm.Cond.classLink "ParcelLine" (66 : Nat) "java/lang/IllegalStateException" ∈ mzAll := mz_t4 (List.mem_of_getElem? (i := 137) (by decide +kernel)) (by decide +kernel)
theorem wl_PL_70 : Jvm.Cond.methodLink "ParcelLine" (70 : Nat) ({ cls := "java/lang/IllegalStateException", name := "<init>", desc := "(Ljava/lang/String;)V" } : Jvm.MethodName) ∈ mzAll := mz_t4 (List.mem_of_getElem? (i := 147) (by decide +kernel)) (by decide +kernel)
theorem wl_PL_71 : Jvm.Cond.methodLink "ParcelLine" (71 : Nat) ({ cls := "ParcelLine$Session", name := "clientCloses", desc := "()V" } : Jvm.MethodName) ∈ mzAll := mz_t4 (List.mem_of_getElem? (i := 153) (by decide +kernel)) (by decide +kernel)
theorem wi_Ses_clientCloses : Jvm.Cond.instanceMethod ({ cls := "ParcelLine$Session", name := "clientCloses", desc := "()V" } : Jvm.MethodName) ∈ mzAll := mz_t4 (List.mem_of_getElem? (i := 154) (by decide +kernel)) (by decide +kernel)
theorem wse_Ses_clientCloses : Jvm.Cond.selects "ParcelLine$Session" ({ cls := "ParcelLine$Session", name := "clientCloses", desc := "()V" } : Jvm.MethodName) ({ cls := "ParcelLine$Session", name := "clientCloses", desc := "()V" } : Jvm.MethodName) ∈ mzAll := mz_t4 (List.mem_of_getElem? (i := 155) (by decide +kernel)) (by decide +kernel)
theorem wco_Ses_clientCloses : Jvm.Cond.code ({ cls := "ParcelLine$Session", name := "clientCloses", desc := "()V" } : Jvm.MethodName) prog_11_method_6_code (2 : Nat) (Option.none : Option Jvm.ClassFile.FieldType) ∈ mzAll := mz_t4 (List.mem_of_getElem? (i := 156) (by decide +kernel)) (by decide +kernel)
theorem wl_Law_53 : Jvm.Cond.methodLink "ParcelLineLaw" (53 : Nat) ({ cls := "ParcelLineLaw", name := "bring", desc := "(LParcelLine;II)I" } : Jvm.MethodName) ∈ mzAll := mz_t4 (List.mem_of_getElem? (i := 157) (by decide +kernel)) (by decide +kernel)
theorem ws_Law_bring : Jvm.Cond.static ({ cls := "ParcelLineLaw", name := "bring", desc := "(LParcelLine;II)I" } : Jvm.MethodName) ∈ mzAll := mz_t4 (List.mem_of_getElem? (i := 158) (by decide +kernel)) (by decide +kernel)
theorem wl_Law_17 : Jvm.Cond.methodLink "ParcelLineLaw" (17 : Nat) ({ cls := "ParcelLine", name := "bring", desc := "(II)V" } : Jvm.MethodName) ∈ mzAll := mz_t4 (List.mem_of_getElem? (i := 160) (by decide +kernel)) (by decide +kernel)
theorem wi_PL_bring : Jvm.Cond.instanceMethod ({ cls := "ParcelLine", name := "bring", desc := "(II)V" } : Jvm.MethodName) ∈ mzAll := mz_t4 (List.mem_of_getElem? (i := 161) (by decide +kernel)) (by decide +kernel)
theorem wse_PL_bring : Jvm.Cond.selects "ParcelLine" ({ cls := "ParcelLine", name := "bring", desc := "(II)V" } : Jvm.MethodName) ({ cls := "ParcelLine", name := "bring", desc := "(II)V" } : Jvm.MethodName) ∈ mzAll := mz_t4 (List.mem_of_getElem? (i := 162) (by decide +kernel)) (by decide +kernel)
theorem wco_PL_bring : Jvm.Cond.code ({ cls := "ParcelLine", name := "bring", desc := "(II)V" } : Jvm.MethodName) prog_1_method_4_code (3 : Nat) (Option.none : Option Jvm.ClassFile.FieldType) ∈ mzAll := mz_t4 (List.mem_of_getElem? (i := 163) (by decide +kernel)) (by decide +kernel)
theorem wl_PL_80 : Jvm.Cond.methodLink "ParcelLine" (80 : Nat) ({ cls := "ParcelLine$DataWay", name := "receiveByte", desc := "(I)V" } : Jvm.MethodName) ∈ mzAll := mz_t4 (List.mem_of_getElem? (i := 165) (by decide +kernel)) (by decide +kernel)
theorem wi_Way_receiveByte : Jvm.Cond.instanceMethod ({ cls := "ParcelLine$DataWay", name := "receiveByte", desc := "(I)V" } : Jvm.MethodName) ∈ mzAll := mz_t4 (List.mem_of_getElem? (i := 166) (by decide +kernel)) (by decide +kernel)
theorem wse_Way_receiveByte : Jvm.Cond.selects "ParcelLine$DataWay" ({ cls := "ParcelLine$DataWay", name := "receiveByte", desc := "(I)V" } : Jvm.MethodName) ({ cls := "ParcelLine$DataWay", name := "receiveByte", desc := "(I)V" } : Jvm.MethodName) ∈ mzAll := mz_t4 (List.mem_of_getElem? (i := 167) (by decide +kernel)) (by decide +kernel)
theorem wco_Way_receiveByte : Jvm.Cond.code ({ cls := "ParcelLine$DataWay", name := "receiveByte", desc := "(I)V" } : Jvm.MethodName) prog_6_method_7_code (3 : Nat) (Option.none : Option Jvm.ClassFile.FieldType) ∈ mzAll := mz_t4 (List.mem_of_getElem? (i := 168) (by decide +kernel)) (by decide +kernel)
theorem wl_Law_57 : Jvm.Cond.methodLink "ParcelLineLaw" (57 : Nat) ({ cls := "ParcelLineLaw", name := "take", desc := "(LParcelLine;I[J)I" } : Jvm.MethodName) ∈ mzAll := mz_t4 (List.mem_of_getElem? (i := 169) (by decide +kernel)) (by decide +kernel)
theorem ws_Law_take : Jvm.Cond.static ({ cls := "ParcelLineLaw", name := "take", desc := "(LParcelLine;I[J)I" } : Jvm.MethodName) ∈ mzAll := mz_t4 (List.mem_of_getElem? (i := 170) (by decide +kernel)) (by decide +kernel)
theorem wc_Law_25 : Jvm.Cond.classLink "ParcelLineLaw" (25 : Nat) "java/util/NoSuchElementException" ∈ mzAll := mz_t4 (List.mem_of_getElem? (i := 172) (by decide +kernel)) (by decide +kernel)
theorem wl_Law_21 : Jvm.Cond.methodLink "ParcelLineLaw" (21 : Nat) ({ cls := "ParcelLine", name := "take", desc := "(I)I" } : Jvm.MethodName) ∈ mzAll := mz_t4 (List.mem_of_getElem? (i := 173) (by decide +kernel)) (by decide +kernel)
theorem wi_PL_take : Jvm.Cond.instanceMethod ({ cls := "ParcelLine", name := "take", desc := "(I)I" } : Jvm.MethodName) ∈ mzAll := mz_t4 (List.mem_of_getElem? (i := 174) (by decide +kernel)) (by decide +kernel)
theorem wse_PL_take : Jvm.Cond.selects "ParcelLine" ({ cls := "ParcelLine", name := "take", desc := "(I)I" } : Jvm.MethodName) ({ cls := "ParcelLine", name := "take", desc := "(I)I" } : Jvm.MethodName) ∈ mzAll := mz_t4 (List.mem_of_getElem? (i := 175) (by decide +kernel)) (by decide +kernel)
theorem wco_PL_take : Jvm.Cond.code ({ cls := "ParcelLine", name := "take", desc := "(I)I" } : Jvm.MethodName) prog_1_method_5_code (2 : Nat) (Option.some Jvm.ClassFile.FieldType.int) ∈ mzAll := mz_t4 (List.mem_of_getElem? (i := 176) (by decide +kernel)) (by decide +kernel)
theorem wc_PL_83 : Jvm.Cond.classLink "ParcelLine" (83 : Nat) "java/util/NoSuchElementException" ∈ mzAll := mz_t4 (List.mem_of_getElem? (i := 177) (by decide +kernel)) (by decide +kernel)
theorem wl_PL_87 : Jvm.Cond.methodLink "ParcelLine" (87 : Nat) ({ cls := "java/util/NoSuchElementException", name := "<init>", desc := "(Ljava/lang/String;)V" } : Jvm.MethodName) ∈ mzAll := mz_t4 (List.mem_of_getElem? (i := 187) (by decide +kernel)) (by decide +kernel)
theorem wl_PL_88 : Jvm.Cond.methodLink "ParcelLine" (88 : Nat) ({ cls := "ParcelLine$Session", name := "sendByte", desc := "()I" } : Jvm.MethodName) ∈ mzAll := mz_t4 (List.mem_of_getElem? (i := 193) (by decide +kernel)) (by decide +kernel)
theorem wi_Ses_sendByte : Jvm.Cond.instanceMethod ({ cls := "ParcelLine$Session", name := "sendByte", desc := "()I" } : Jvm.MethodName) ∈ mzAll := mz_t4 (List.mem_of_getElem? (i := 194) (by decide +kernel)) (by decide +kernel)
theorem wse_Ses_sendByte : Jvm.Cond.selects "ParcelLine$Session" ({ cls := "ParcelLine$Session", name := "sendByte", desc := "()I" } : Jvm.MethodName) ({ cls := "ParcelLine$Session", name := "sendByte", desc := "()I" } : Jvm.MethodName) ∈ mzAll := mz_t4 (List.mem_of_getElem? (i := 195) (by decide +kernel)) (by decide +kernel)
theorem wco_Ses_sendByte : Jvm.Cond.code ({ cls := "ParcelLine$Session", name := "sendByte", desc := "()I" } : Jvm.MethodName) prog_11_method_7_code (2 : Nat) (Option.some Jvm.ClassFile.FieldType.int) ∈ mzAll := mz_t4 (List.mem_of_getElem? (i := 196) (by decide +kernel)) (by decide +kernel)
theorem wl_Ses_164 : Jvm.Cond.methodLink "ParcelLine$Session" (164 : Nat) ({ cls := "ParcelLine$DataWay", name := "sendNext", desc := "()I" } : Jvm.MethodName) ∈ mzAll := mz_t4 (List.mem_of_getElem? (i := 197) (by decide +kernel)) (by decide +kernel)
theorem wi_Way_sendNext : Jvm.Cond.instanceMethod ({ cls := "ParcelLine$DataWay", name := "sendNext", desc := "()I" } : Jvm.MethodName) ∈ mzAll := mz_t4 (List.mem_of_getElem? (i := 198) (by decide +kernel)) (by decide +kernel)
theorem wse_Way_sendNext : Jvm.Cond.selects "ParcelLine$DataWay" ({ cls := "ParcelLine$DataWay", name := "sendNext", desc := "()I" } : Jvm.MethodName) ({ cls := "ParcelLine$DataWay", name := "sendNext", desc := "()I" } : Jvm.MethodName) ∈ mzAll := mz_t4 (List.mem_of_getElem? (i := 199) (by decide +kernel)) (by decide +kernel)
theorem wco_Way_sendNext : Jvm.Cond.code ({ cls := "ParcelLine$DataWay", name := "sendNext", desc := "()I" } : Jvm.MethodName) prog_6_method_9_code (2 : Nat) (Option.some Jvm.ClassFile.FieldType.int) ∈ mzAll := mz_t4 (List.mem_of_getElem? (i := 200) (by decide +kernel)) (by decide +kernel)
theorem wl_Law_104 : Jvm.Cond.methodLink "ParcelLineLaw" (104 : Nat) ({ cls := "ParcelLineLaw", name := "job", desc := "(LParcelLine;ZIII)I" } : Jvm.MethodName) ∈ mzAll := mz_t4 (List.mem_of_getElem? (i := 201) (by decide +kernel)) (by decide +kernel)
theorem ws_Law_job : Jvm.Cond.static ({ cls := "ParcelLineLaw", name := "job", desc := "(LParcelLine;ZIII)I" } : Jvm.MethodName) ∈ mzAll := mz_t4 (List.mem_of_getElem? (i := 202) (by decide +kernel)) (by decide +kernel)
theorem wl_Law_27 : Jvm.Cond.methodLink "ParcelLineLaw" (27 : Nat) ({ cls := "ParcelLine", name := "job", desc := "(ZIII)V" } : Jvm.MethodName) ∈ mzAll := mz_t4 (List.mem_of_getElem? (i := 204) (by decide +kernel)) (by decide +kernel)
theorem wi_PL_job : Jvm.Cond.instanceMethod ({ cls := "ParcelLine", name := "job", desc := "(ZIII)V" } : Jvm.MethodName) ∈ mzAll := mz_t4 (List.mem_of_getElem? (i := 205) (by decide +kernel)) (by decide +kernel)
theorem wse_PL_job : Jvm.Cond.selects "ParcelLine" ({ cls := "ParcelLine", name := "job", desc := "(ZIII)V" } : Jvm.MethodName) ({ cls := "ParcelLine", name := "job", desc := "(ZIII)V" } : Jvm.MethodName) ∈ mzAll := mz_t4 (List.mem_of_getElem? (i := 206) (by decide +kernel)) (by decide +kernel)
theorem wco_PL_job : Jvm.Cond.code ({ cls := "ParcelLine", name := "job", desc := "(ZIII)V" } : Jvm.MethodName) prog_1_method_16_code (5 : Nat) (Option.none : Option Jvm.ClassFile.FieldType) ∈ mzAll := mz_t4 (List.mem_of_getElem? (i := 207) (by decide +kernel)) (by decide +kernel)
theorem wl_PL_159 : Jvm.Cond.methodLink "ParcelLine" (159 : Nat) ({ cls := "ParcelLine", name := "isName", desc := "(I)Z" } : Jvm.MethodName) ∈ mzAll := mz_t4 (List.mem_of_getElem? (i := 208) (by decide +kernel)) (by decide +kernel)
theorem ws_PL_isName : Jvm.Cond.static ({ cls := "ParcelLine", name := "isName", desc := "(I)Z" } : Jvm.MethodName) ∈ mzAll := mz_t4 (List.mem_of_getElem? (i := 209) (by decide +kernel)) (by decide +kernel)
theorem wco_PL_isName : Jvm.Cond.code ({ cls := "ParcelLine", name := "isName", desc := "(I)Z" } : Jvm.MethodName) prog_1_method_21_code (3 : Nat) (Option.some Jvm.ClassFile.FieldType.boolean) ∈ mzAll := mz_t4 (List.mem_of_getElem? (i := 210) (by decide +kernel)) (by decide +kernel)
theorem wl_PL_206 : Jvm.Cond.methodLink "ParcelLine" (206 : Nat) ({ cls := "ParcelLine", name := "isNameByte", desc := "(I)Z" } : Jvm.MethodName) ∈ mzAll := mz_t4 (List.mem_of_getElem? (i := 211) (by decide +kernel)) (by decide +kernel)
theorem wk_PL_162 : Jvm.Cond.constant "ParcelLine" (162 : Nat) (1849076 : Int32) ∈ mzAll := mz_t4 (List.mem_of_getElem? (i := 212) (by decide +kernel)) (by decide +kernel)
theorem wl_PL_167 : Jvm.Cond.methodLink "ParcelLine" (167 : Nat) ({ cls := "ParcelLine$Copier", name := "start", desc := "(ZLParcelLine$ByteRow;II)V" } : Jvm.MethodName) ∈ mzAll := mz_t4 (List.mem_of_getElem? (i := 215) (by decide +kernel)) (by decide +kernel)
theorem wi_Cop_start : Jvm.Cond.instanceMethod ({ cls := "ParcelLine$Copier", name := "start", desc := "(ZLParcelLine$ByteRow;II)V" } : Jvm.MethodName) ∈ mzAll := mz_t4 (List.mem_of_getElem? (i := 216) (by decide +kernel)) (by decide +kernel)
theorem wse_Cop_start : Jvm.Cond.selects "ParcelLine$Copier" ({ cls := "ParcelLine$Copier", name := "start", desc := "(ZLParcelLine$ByteRow;II)V" } : Jvm.MethodName) ({ cls := "ParcelLine$Copier", name := "start", desc := "(ZLParcelLine$ByteRow;II)V" } : Jvm.MethodName) ∈ mzAll := mz_t4 (List.mem_of_getElem? (i := 217) (by decide +kernel)) (by decide +kernel)
theorem wco_Cop_start : Jvm.Cond.code ({ cls := "ParcelLine$Copier", name := "start", desc := "(ZLParcelLine$ByteRow;II)V" } : Jvm.MethodName) prog_5_method_2_code (5 : Nat) (Option.none : Option Jvm.ClassFile.FieldType) ∈ mzAll := mz_t4 (List.mem_of_getElem? (i := 218) (by decide +kernel)) (by decide +kernel)
theorem wl_Law_108 : Jvm.Cond.methodLink "ParcelLineLaw" (108 : Nat) ({ cls := "ParcelLineLaw", name := "step", desc := "(LParcelLine;[J)I" } : Jvm.MethodName) ∈ mzAll := mz_t4 (List.mem_of_getElem? (i := 219) (by decide +kernel)) (by decide +kernel)
theorem ws_Law_step : Jvm.Cond.static ({ cls := "ParcelLineLaw", name := "step", desc := "(LParcelLine;[J)I" } : Jvm.MethodName) ∈ mzAll := mz_t4 (List.mem_of_getElem? (i := 220) (by decide +kernel)) (by decide +kernel)
theorem wl_Law_31 : Jvm.Cond.methodLink "ParcelLineLaw" (31 : Nat) ({ cls := "ParcelLine", name := "step", desc := "()I" } : Jvm.MethodName) ∈ mzAll := mz_t4 (List.mem_of_getElem? (i := 222) (by decide +kernel)) (by decide +kernel)
theorem wi_PL_step : Jvm.Cond.instanceMethod ({ cls := "ParcelLine", name := "step", desc := "()I" } : Jvm.MethodName) ∈ mzAll := mz_t4 (List.mem_of_getElem? (i := 223) (by decide +kernel)) (by decide +kernel)
theorem wse_PL_step : Jvm.Cond.selects "ParcelLine" ({ cls := "ParcelLine", name := "step", desc := "()I" } : Jvm.MethodName) ({ cls := "ParcelLine", name := "step", desc := "()I" } : Jvm.MethodName) ∈ mzAll := mz_t4 (List.mem_of_getElem? (i := 224) (by decide +kernel)) (by decide +kernel)
theorem wco_PL_step : Jvm.Cond.code ({ cls := "ParcelLine", name := "step", desc := "()I" } : Jvm.MethodName) prog_1_method_17_code (1 : Nat) (Option.some Jvm.ClassFile.FieldType.int) ∈ mzAll := mz_t4 (List.mem_of_getElem? (i := 225) (by decide +kernel)) (by decide +kernel)
theorem wl_PL_173 : Jvm.Cond.methodLink "ParcelLine" (173 : Nat) ({ cls := "ParcelLine$Replies", name := "clear", desc := "()V" } : Jvm.MethodName) ∈ mzAll := mz_t4 (List.mem_of_getElem? (i := 227) (by decide +kernel)) (by decide +kernel)
theorem wl_PL_179 : Jvm.Cond.methodLink "ParcelLine" (179 : Nat) ({ cls := "ParcelLine$Copier", name := "finish", desc := "(I)I" } : Jvm.MethodName) ∈ mzAll := mz_t4 (List.mem_of_getElem? (i := 228) (by decide +kernel)) (by decide +kernel)
theorem wi_Cop_finish : Jvm.Cond.instanceMethod ({ cls := "ParcelLine$Copier", name := "finish", desc := "(I)I" } : Jvm.MethodName) ∈ mzAll := mz_t4 (List.mem_of_getElem? (i := 229) (by decide +kernel)) (by decide +kernel)
theorem wse_Cop_finish : Jvm.Cond.selects "ParcelLine$Copier" ({ cls := "ParcelLine$Copier", name := "finish", desc := "(I)I" } : Jvm.MethodName) ({ cls := "ParcelLine$Copier", name := "finish", desc := "(I)I" } : Jvm.MethodName) ∈ mzAll := mz_t4 (List.mem_of_getElem? (i := 230) (by decide +kernel)) (by decide +kernel)
theorem wco_Cop_finish : Jvm.Cond.code ({ cls := "ParcelLine$Copier", name := "finish", desc := "(I)I" } : Jvm.MethodName) prog_5_method_4_code (2 : Nat) (Option.some Jvm.ClassFile.FieldType.int) ∈ mzAll := mz_t4 (List.mem_of_getElem? (i := 231) (by decide +kernel)) (by decide +kernel)
theorem wl_PL_185 : Jvm.Cond.methodLink "ParcelLine" (185 : Nat) ({ cls := "ParcelLine$Copier", name := "logIn", desc := "()I" } : Jvm.MethodName) ∈ mzAll := mz_t4 (List.mem_of_getElem? (i := 232) (by decide +kernel)) (by decide +kernel)
theorem wi_Cop_logIn : Jvm.Cond.instanceMethod ({ cls := "ParcelLine$Copier", name := "logIn", desc := "()I" } : Jvm.MethodName) ∈ mzAll := mz_t4 (List.mem_of_getElem? (i := 233) (by decide +kernel)) (by decide +kernel)
theorem wse_Cop_logIn : Jvm.Cond.selects "ParcelLine$Copier" ({ cls := "ParcelLine$Copier", name := "logIn", desc := "()I" } : Jvm.MethodName) ({ cls := "ParcelLine$Copier", name := "logIn", desc := "()I" } : Jvm.MethodName) ∈ mzAll := mz_t4 (List.mem_of_getElem? (i := 234) (by decide +kernel)) (by decide +kernel)
theorem wco_Cop_logIn : Jvm.Cond.code ({ cls := "ParcelLine$Copier", name := "logIn", desc := "()I" } : Jvm.MethodName) prog_5_method_8_code (1 : Nat) (Option.some Jvm.ClassFile.FieldType.int) ∈ mzAll := mz_t4 (List.mem_of_getElem? (i := 235) (by decide +kernel)) (by decide +kernel)
theorem wl_Cop_60 : Jvm.Cond.methodLink "ParcelLine$Copier" (60 : Nat) ({ cls := "ParcelLine$Copier", name := "say", desc := "(Ljava/lang/String;I)V" } : Jvm.MethodName) ∈ mzAll := mz_t4 (List.mem_of_getElem? (i := 237) (by decide +kernel)) (by decide +kernel)
theorem wi_Cop_say : Jvm.Cond.instanceMethod ({ cls := "ParcelLine$Copier", name := "say", desc := "(Ljava/lang/String;I)V" } : Jvm.MethodName) ∈ mzAll := mz_t4 (List.mem_of_getElem? (i := 239) (by decide +kernel)) (by decide +kernel)
theorem wco_Cop_say : Jvm.Cond.code ({ cls := "ParcelLine$Copier", name := "say", desc := "(Ljava/lang/String;I)V" } : Jvm.MethodName) prog_5_method_6_code (5 : Nat) (Option.none : Option Jvm.ClassFile.FieldType) ∈ mzAll := mz_t5 (List.mem_of_getElem? (i := 0) (by decide +kernel)) (by decide +kernel)
theorem wl_Cop_42 : Jvm.Cond.methodLink "ParcelLine$Copier" (42 : Nat) ({ cls := "java/lang/String", name := "length", desc := "()I" } : Jvm.MethodName) ∈ mzAll := mz_t5 (List.mem_of_getElem? (i := 1) (by decide +kernel)) (by decide +kernel)
theorem wl_Cop_48 : Jvm.Cond.methodLink "ParcelLine$Copier" (48 : Nat) ({ cls := "java/lang/String", name := "charAt", desc := "(I)C" } : Jvm.MethodName) ∈ mzAll := mz_t5 (List.mem_of_getElem? (i := 2) (by decide +kernel)) (by decide +kernel)
theorem wl_Cop_52 : Jvm.Cond.methodLink "ParcelLine$Copier" (52 : Nat) ({ cls := "ParcelLine$Session", name := "accept", desc := "(I)V" } : Jvm.MethodName) ∈ mzAll := mz_t5 (List.mem_of_getElem? (i := 3) (by decide +kernel)) (by decide +kernel)
theorem wl_Cop_70 : Jvm.Cond.methodLink "ParcelLine$Copier" (70 : Nat) ({ cls := "ParcelLine$Copier", name := "goTo", desc := "(I)I" } : Jvm.MethodName) ∈ mzAll := mz_t5 (List.mem_of_getElem? (i := 7) (by decide +kernel)) (by decide +kernel)
theorem wi_Cop_goTo : Jvm.Cond.instanceMethod ({ cls := "ParcelLine$Copier", name := "goTo", desc := "(I)I" } : Jvm.MethodName) ∈ mzAll := mz_t5 (List.mem_of_getElem? (i := 9) (by decide +kernel)) (by decide +kernel)
theorem wco_Cop_goTo : Jvm.Cond.code ({ cls := "ParcelLine$Copier", name := "goTo", desc := "(I)I" } : Jvm.MethodName) prog_5_method_5_code (2 : Nat) (Option.some Jvm.ClassFile.FieldType.int) ∈ mzAll := mz_t5 (List.mem_of_getElem? (i := 10) (by decide +kernel)) (by decide +kernel)
theorem wl_PL_191 : Jvm.Cond.methodLink "ParcelLine" (191 : Nat) ({ cls := "ParcelLine$Copier", name := "beginBringing", desc := "()I" } : Jvm.MethodName) ∈ mzAll := mz_t5 (List.mem_of_getElem? (i := 11) (by decide +kernel)) (by decide +kernel)
theorem wi_Cop_beginBringing : Jvm.Cond.instanceMethod ({ cls := "ParcelLine$Copier", name := "beginBringing", desc := "()I" } : Jvm.MethodName) ∈ mzAll := mz_t5 (List.mem_of_getElem? (i := 12) (by decide +kernel)) (by decide +kernel)
theorem wse_Cop_beginBringing : Jvm.Cond.selects "ParcelLine$Copier" ({ cls := "ParcelLine$Copier", name := "beginBringing", desc := "()I" } : Jvm.MethodName) ({ cls := "ParcelLine$Copier", name := "beginBringing", desc := "()I" } : Jvm.MethodName) ∈ mzAll := mz_t5 (List.mem_of_getElem? (i := 13) (by decide +kernel)) (by decide +kernel)
theorem wco_Cop_beginBringing : Jvm.Cond.code ({ cls := "ParcelLine$Copier", name := "beginBringing", desc := "()I" } : Jvm.MethodName) prog_5_method_10_code (2 : Nat) (Option.some Jvm.ClassFile.FieldType.int) ∈ mzAll := mz_t5 (List.mem_of_getElem? (i := 14) (by decide +kernel)) (by decide +kernel)
theorem wk_Cop_97 : Jvm.Cond.constant "ParcelLine$Copier" (97 : Nat) (1849076 : Int32) ∈ mzAll := mz_t5 (List.mem_of_getElem? (i := 16) (by decide +kernel)) (by decide +kernel)
theorem wl_Cop_92 : Jvm.Cond.methodLink "ParcelLine$Copier" (92 : Nat) ({ cls := "ParcelLine$Copier", name := "digitsOf", desc := "(I)I" } : Jvm.MethodName) ∈ mzAll := mz_t5 (List.mem_of_getElem? (i := 19) (by decide +kernel)) (by decide +kernel)
theorem ws_Cop_digitsOf : Jvm.Cond.static ({ cls := "ParcelLine$Copier", name := "digitsOf", desc := "(I)I" } : Jvm.MethodName) ∈ mzAll := mz_t5 (List.mem_of_getElem? (i := 20) (by decide +kernel)) (by decide +kernel)
theorem wco_Cop_digitsOf : Jvm.Cond.code ({ cls := "ParcelLine$Copier", name := "digitsOf", desc := "(I)I" } : Jvm.MethodName) prog_5_method_7_code (1 : Nat) (Option.some Jvm.ClassFile.FieldType.int) ∈ mzAll := mz_t5 (List.mem_of_getElem? (i := 21) (by decide +kernel)) (by decide +kernel)
theorem wl_Cop_79 : Jvm.Cond.methodLink "ParcelLine$Copier" (79 : Nat) ({ cls := "ParcelLine$Copier", name := "finish", desc := "(I)I" } : Jvm.MethodName) ∈ mzAll := mz_t5 (List.mem_of_getElem? (i := 23) (by decide +kernel)) (by decide +kernel)
theorem wl_PL_194 : Jvm.Cond.methodLink "ParcelLine" (194 : Nat) ({ cls := "ParcelLine$Copier", name := "beginFetching", desc := "()I" } : Jvm.MethodName) ∈ mzAll := mz_t5 (List.mem_of_getElem? (i := 24) (by decide +kernel)) (by decide +kernel)
theorem wi_Cop_beginFetching : Jvm.Cond.instanceMethod ({ cls := "ParcelLine$Copier", name := "beginFetching", desc := "()I" } : Jvm.MethodName) ∈ mzAll := mz_t5 (List.mem_of_getElem? (i := 25) (by decide +kernel)) (by decide +kernel)
theorem wse_Cop_beginFetching : Jvm.Cond.selects "ParcelLine$Copier" ({ cls := "ParcelLine$Copier", name := "beginFetching", desc := "()I" } : Jvm.MethodName) ({ cls := "ParcelLine$Copier", name := "beginFetching", desc := "()I" } : Jvm.MethodName) ∈ mzAll := mz_t5 (List.mem_of_getElem? (i := 26) (by decide +kernel)) (by decide +kernel)
theorem wco_Cop_beginFetching : Jvm.Cond.code ({ cls := "ParcelLine$Copier", name := "beginFetching", desc := "()I" } : Jvm.MethodName) prog_5_method_9_code (1 : Nat) (Option.some Jvm.ClassFile.FieldType.int) ∈ mzAll := mz_t5 (List.mem_of_getElem? (i := 27) (by decide +kernel)) (by decide +kernel)
theorem wl_PL_197 : Jvm.Cond.methodLink "ParcelLine" (197 : Nat) ({ cls := "ParcelLine$Copier", name := "bringByte", desc := "()I" } : Jvm.MethodName) ∈ mzAll := mz_t5 (List.mem_of_getElem? (i := 29) (by decide +kernel)) (by decide +kernel)
theorem wi_Cop_bringByte : Jvm.Cond.instanceMethod ({ cls := "ParcelLine$Copier", name := "bringByte", desc := "()I" } : Jvm.MethodName) ∈ mzAll := mz_t5 (List.mem_of_getElem? (i := 30) (by decide +kernel)) (by decide +kernel)
theorem wse_Cop_bringByte : Jvm.Cond.selects "ParcelLine$Copier" ({ cls := "ParcelLine$Copier", name := "bringByte", desc := "()I" } : Jvm.MethodName) ({ cls := "ParcelLine$Copier", name := "bringByte", desc := "()I" } : Jvm.MethodName) ∈ mzAll := mz_t5 (List.mem_of_getElem? (i := 31) (by decide +kernel)) (by decide +kernel)
theorem wco_Cop_bringByte : Jvm.Cond.code ({ cls := "ParcelLine$Copier", name := "bringByte", desc := "()I" } : Jvm.MethodName) prog_5_method_12_code (2 : Nat) (Option.some Jvm.ClassFile.FieldType.int) ∈ mzAll := mz_t5 (List.mem_of_getElem? (i := 32) (by decide +kernel)) (by decide +kernel)
theorem wl_Cop_126 : Jvm.Cond.methodLink "ParcelLine$Copier" (126 : Nat) ({ cls := "ParcelLine$ByteRow", name := "at", desc := "(I)I" } : Jvm.MethodName) ∈ mzAll := mz_t5 (List.mem_of_getElem? (i := 33) (by decide +kernel)) (by decide +kernel)
theorem wl_Cop_129 : Jvm.Cond.methodLink "ParcelLine$Copier" (129 : Nat) ({ cls := "ParcelLine$DataWay", name := "receiveByte", desc := "(I)V" } : Jvm.MethodName) ∈ mzAll := mz_t5 (List.mem_of_getElem? (i := 34) (by decide +kernel)) (by decide +kernel)
theorem wl_Cop_132 : Jvm.Cond.methodLink "ParcelLine$Copier" (132 : Nat) ({ cls := "ParcelLine$Session", name := "clientCloses", desc := "()V" } : Jvm.MethodName) ∈ mzAll := mz_t5 (List.mem_of_getElem? (i := 35) (by decide +kernel)) (by decide +kernel)
theorem wl_PL_200 : Jvm.Cond.methodLink "ParcelLine" (200 : Nat) ({ cls := "ParcelLine$Copier", name := "fetchByte", desc := "()I" } : Jvm.MethodName) ∈ mzAll := mz_t5 (List.mem_of_getElem? (i := 36) (by decide +kernel)) (by decide +kernel)
theorem wi_Cop_fetchByte : Jvm.Cond.instanceMethod ({ cls := "ParcelLine$Copier", name := "fetchByte", desc := "()I" } : Jvm.MethodName) ∈ mzAll := mz_t5 (List.mem_of_getElem? (i := 37) (by decide +kernel)) (by decide +kernel)
theorem wse_Cop_fetchByte : Jvm.Cond.selects "ParcelLine$Copier" ({ cls := "ParcelLine$Copier", name := "fetchByte", desc := "()I" } : Jvm.MethodName) ({ cls := "ParcelLine$Copier", name := "fetchByte", desc := "()I" } : Jvm.MethodName) ∈ mzAll := mz_t5 (List.mem_of_getElem? (i := 38) (by decide +kernel)) (by decide +kernel)
theorem wco_Cop_fetchByte : Jvm.Cond.code ({ cls := "ParcelLine$Copier", name := "fetchByte", desc := "()I" } : Jvm.MethodName) prog_5_method_11_code (1 : Nat) (Option.some Jvm.ClassFile.FieldType.int) ∈ mzAll := mz_t5 (List.mem_of_getElem? (i := 39) (by decide +kernel)) (by decide +kernel)
theorem wl_Cop_111 : Jvm.Cond.methodLink "ParcelLine$Copier" (111 : Nat) ({ cls := "ParcelLine$Session", name := "sendByte", desc := "()I" } : Jvm.MethodName) ∈ mzAll := mz_t5 (List.mem_of_getElem? (i := 40) (by decide +kernel)) (by decide +kernel)
theorem wl_Cop_114 : Jvm.Cond.methodLink "ParcelLine$Copier" (114 : Nat) ({ cls := "ParcelLine$ByteRow", name := "add", desc := "(I)V" } : Jvm.MethodName) ∈ mzAll := mz_t5 (List.mem_of_getElem? (i := 41) (by decide +kernel)) (by decide +kernel)
theorem wl_PL_203 : Jvm.Cond.methodLink "ParcelLine" (203 : Nat) ({ cls := "ParcelLine$Copier", name := "putInPlace", desc := "()I" } : Jvm.MethodName) ∈ mzAll := mz_t5 (List.mem_of_getElem? (i := 42) (by decide +kernel)) (by decide +kernel)
theorem wi_Cop_putInPlace : Jvm.Cond.instanceMethod ({ cls := "ParcelLine$Copier", name := "putInPlace", desc := "()I" } : Jvm.MethodName) ∈ mzAll := mz_t5 (List.mem_of_getElem? (i := 43) (by decide +kernel)) (by decide +kernel)
theorem wse_Cop_putInPlace : Jvm.Cond.selects "ParcelLine$Copier" ({ cls := "ParcelLine$Copier", name := "putInPlace", desc := "()I" } : Jvm.MethodName) ({ cls := "ParcelLine$Copier", name := "putInPlace", desc := "()I" } : Jvm.MethodName) ∈ mzAll := mz_t5 (List.mem_of_getElem? (i := 44) (by decide +kernel)) (by decide +kernel)
theorem wco_Cop_putInPlace : Jvm.Cond.code ({ cls := "ParcelLine$Copier", name := "putInPlace", desc := "()I" } : Jvm.MethodName) prog_5_method_13_code (1 : Nat) (Option.some Jvm.ClassFile.FieldType.int) ∈ mzAll := mz_t5 (List.mem_of_getElem? (i := 45) (by decide +kernel)) (by decide +kernel)
theorem wc_Law_36 : Jvm.Cond.classLink "ParcelLineLaw" (36 : Nat) "ParcelLineModel" ∈ mzAll := mz_t5 (List.mem_of_getElem? (i := 48) (by decide +kernel)) (by decide +kernel)
theorem wb_Mo : Jvm.Cond.instantiable "ParcelLineModel" (45 : Nat) ∈ mzAll := mz_t5 (List.mem_of_getElem? (i := 49) (by decide +kernel)) (by decide +kernel)
theorem wl_Law_38 : Jvm.Cond.methodLink "ParcelLineLaw" (38 : Nat) ({ cls := "ParcelLineModel", name := "<init>", desc := "()V" } : Jvm.MethodName) ∈ mzAll := mz_t5 (List.mem_of_getElem? (i := 50) (by decide +kernel)) (by decide +kernel)
theorem wi_Mo_init : Jvm.Cond.instanceMethod ({ cls := "ParcelLineModel", name := "<init>", desc := "()V" } : Jvm.MethodName) ∈ mzAll := mz_t5 (List.mem_of_getElem? (i := 51) (by decide +kernel)) (by decide +kernel)
theorem wco_Mo_init : Jvm.Cond.code ({ cls := "ParcelLineModel", name := "<init>", desc := "()V" } : Jvm.MethodName) prog_14_method_1_code (1 : Nat) (Option.none : Option Jvm.ClassFile.FieldType) ∈ mzAll := mz_t5 (List.mem_of_getElem? (i := 52) (by decide +kernel)) (by decide +kernel)
theorem wl_Mo_1 : Jvm.Cond.methodLink "ParcelLineModel" (1 : Nat) ({ cls := "java/lang/Object", name := "<init>", desc := "()V" } : Jvm.MethodName) ∈ mzAll := mz_t5 (List.mem_of_getElem? (i := 53) (by decide +kernel)) (by decide +kernel)
theorem wk_Mo_7 : Jvm.Cond.constant "ParcelLineModel" (7 : Nat) (179626706 : Int32) ∈ mzAll := mz_t5 (List.mem_of_getElem? (i := 54) (by decide +kernel)) (by decide +kernel)
theorem wk_Mo_8 : Jvm.Cond.constant "ParcelLineModel" (8 : Nat) (168847827 : Int32) ∈ mzAll := mz_t5 (List.mem_of_getElem? (i := 55) (by decide +kernel)) (by decide +kernel)
theorem wk_Mo_9 : Jvm.Cond.constant "ParcelLineModel" (9 : Nat) (171271380 : Int32) ∈ mzAll := mz_t5 (List.mem_of_getElem? (i := 56) (by decide +kernel)) (by decide +kernel)
theorem wk_Mo_10 : Jvm.Cond.constant "ParcelLineModel" (10 : Nat) (164882384 : Int32) ∈ mzAll := mz_t5 (List.mem_of_getElem? (i := 57) (by decide +kernel)) (by decide +kernel)
theorem wk_Mo_11 : Jvm.Cond.constant "ParcelLineModel" (11 : Nat) (177629253 : Int32) ∈ mzAll := mz_t5 (List.mem_of_getElem? (i := 58) (by decide +kernel)) (by decide +kernel)
theorem wk_Mo_12 : Jvm.Cond.constant "ParcelLineModel" (12 : Nat) (1321924 : Int32) ∈ mzAll := mz_t5 (List.mem_of_getElem? (i := 59) (by decide +kernel)) (by decide +kernel)
theorem wk_Mo_13 : Jvm.Cond.constant "ParcelLineModel" (13 : Nat) (1108932 : Int32) ∈ mzAll := mz_t5 (List.mem_of_getElem? (i := 60) (by decide +kernel)) (by decide +kernel)
theorem wk_Mo_14 : Jvm.Cond.constant "ParcelLineModel" (14 : Nat) (141634256 : Int32) ∈ mzAll := mz_t5 (List.mem_of_getElem? (i := 61) (by decide +kernel)) (by decide +kernel)
theorem wk_Mo_15 : Jvm.Cond.constant "ParcelLineModel" (15 : Nat) (175271237 : Int32) ∈ mzAll := mz_t5 (List.mem_of_getElem? (i := 62) (by decide +kernel)) (by decide +kernel)
theorem wk_Mo_16 : Jvm.Cond.constant "ParcelLineModel" (16 : Nat) (168847830 : Int32) ∈ mzAll := mz_t5 (List.mem_of_getElem? (i := 63) (by decide +kernel)) (by decide +kernel)
theorem wk_Mo_17 : Jvm.Cond.constant "ParcelLineModel" (17 : Nat) (173107668 : Int32) ∈ mzAll := mz_t5 (List.mem_of_getElem? (i := 64) (by decide +kernel)) (by decide +kernel)
theorem wk_Mo_18 : Jvm.Cond.constant "ParcelLineModel" (18 : Nat) (173107794 : Int32) ∈ mzAll := mz_t5 (List.mem_of_getElem? (i := 65) (by decide +kernel)) (by decide +kernel)
theorem wk_Mo_19 : Jvm.Cond.constant "ParcelLineModel" (19 : Nat) (175450066 : Int32) ∈ mzAll := mz_t5 (List.mem_of_getElem? (i := 66) (by decide +kernel)) (by decide +kernel)
theorem wk_Mo_20 : Jvm.Cond.constant "ParcelLineModel" (20 : Nat) (137635909 : Int32) ∈ mzAll := mz_t5 (List.mem_of_getElem? (i := 67) (by decide +kernel)) (by decide +kernel)
theorem wk_Mo_21 : Jvm.Cond.constant "ParcelLineModel" (21 : Nat) (164833748 : Int32) ∈ mzAll := mz_t5 (List.mem_of_getElem? (i := 68) (by decide +kernel)) (by decide +kernel)
theorem wk_Mo_22 : Jvm.Cond.constant "ParcelLineModel" (22 : Nat) (137406418 : Int32) ∈ mzAll := mz_t5 (List.mem_of_getElem? (i := 69) (by decide +kernel)) (by decide +kernel)
theorem wk_Mo_23 : Jvm.Cond.constant "ParcelLineModel" (23 : Nat) (143746629 : Int32) ∈ mzAll := mz_t5 (List.mem_of_getElem? (i := 70) (by decide +kernel)) (by decide +kernel)
theorem wk_Mo_24 : Jvm.Cond.constant "ParcelLineModel" (24 : Nat) (1271236 : Int32) ∈ mzAll := mz_t5 (List.mem_of_getElem? (i := 71) (by decide +kernel)) (by decide +kernel)
theorem wk_Mo_25 : Jvm.Cond.constant "ParcelLineModel" (25 : Nat) (1353412 : Int32) ∈ mzAll := mz_t5 (List.mem_of_getElem? (i := 72) (by decide +kernel)) (by decide +kernel)
theorem wk_Mo_26 : Jvm.Cond.constant "ParcelLineModel" (26 : Nat) (173253458 : Int32) ∈ mzAll := mz_t5 (List.mem_of_getElem? (i := 73) (by decide +kernel)) (by decide +kernel)
theorem wk_Mo_27 : Jvm.Cond.constant "ParcelLineModel" (27 : Nat) (173255247 : Int32) ∈ mzAll := mz_t5 (List.mem_of_getElem? (i := 74) (by decide +kernel)) (by decide +kernel)
theorem wl_Mo_122 : Jvm.Cond.methodLink "ParcelLineModel" (122 : Nat) ({ cls := "ParcelLineModel", name := "beginSession", desc := "(I)V" } : Jvm.MethodName) ∈ mzAll := mz_t5 (List.mem_of_getElem? (i := 75) (by decide +kernel)) (by decide +kernel)
theorem wi_Mo_beginSession : Jvm.Cond.instanceMethod ({ cls := "ParcelLineModel", name := "beginSession", desc := "(I)V" } : Jvm.MethodName) ∈ mzAll := mz_t5 (List.mem_of_getElem? (i := 77) (by decide +kernel)) (by decide +kernel)
theorem wco_Mo_beginSession : Jvm.Cond.code ({ cls := "ParcelLineModel", name := "beginSession", desc := "(I)V" } : Jvm.MethodName) prog_14_method_5_code (2 : Nat) (Option.none : Option Jvm.ClassFile.FieldType) ∈ mzAll := mz_t5 (List.mem_of_getElem? (i := 78) (by decide +kernel)) (by decide +kernel)
theorem wl_Mo_130 : Jvm.Cond.methodLink "ParcelLineModel" (130 : Nat) ({ cls := "ParcelLineModel", name := "endTransfer", desc := "(I)V" } : Jvm.MethodName) ∈ mzAll := mz_t5 (List.mem_of_getElem? (i := 79) (by decide +kernel)) (by decide +kernel)
theorem wi_Mo_endTransfer : Jvm.Cond.instanceMethod ({ cls := "ParcelLineModel", name := "endTransfer", desc := "(I)V" } : Jvm.MethodName) ∈ mzAll := mz_t5 (List.mem_of_getElem? (i := 81) (by decide +kernel)) (by decide +kernel)
theorem wco_Mo_endTransfer : Jvm.Cond.code ({ cls := "ParcelLineModel", name := "endTransfer", desc := "(I)V" } : Jvm.MethodName) prog_14_method_7_code (2 : Nat) (Option.none : Option Jvm.ClassFile.FieldType) ∈ mzAll := mz_t5 (List.mem_of_getElem? (i := 82) (by decide +kernel)) (by decide +kernel)
theorem wl_Mo_133 : Jvm.Cond.methodLink "ParcelLineModel" (133 : Nat) ({ cls := "ParcelLineModel", name := "keep", desc := "(II)V" } : Jvm.MethodName) ∈ mzAll := mz_t5 (List.mem_of_getElem? (i := 83) (by decide +kernel)) (by decide +kernel)
theorem wi_Mo_keep : Jvm.Cond.instanceMethod ({ cls := "ParcelLineModel", name := "keep", desc := "(II)V" } : Jvm.MethodName) ∈ mzAll := mz_t5 (List.mem_of_getElem? (i := 85) (by decide +kernel)) (by decide +kernel)
theorem wco_Mo_keep : Jvm.Cond.code ({ cls := "ParcelLineModel", name := "keep", desc := "(II)V" } : Jvm.MethodName) prog_14_method_6_code (3 : Nat) (Option.none : Option Jvm.ClassFile.FieldType) ∈ mzAll := mz_t5 (List.mem_of_getElem? (i := 86) (by decide +kernel)) (by decide +kernel)
theorem wf_Mo_28 : Jvm.Cond.fieldLink "ParcelLineModel" (28 : Nat) "ParcelLineModel" "words" "[I" ∈ mzAll := mz_t5 (List.mem_of_getElem? (i := 87) (by decide +kernel)) (by decide +kernel)
theorem wf_Mo_126 : Jvm.Cond.fieldLink "ParcelLineModel" (126 : Nat) "ParcelLineModel" "code" "I" ∈ mzAll := mz_t5 (List.mem_of_getElem? (i := 88) (by decide +kernel)) (by decide +kernel)
theorem wf_Mo_34 : Jvm.Cond.fieldLink "ParcelLineModel" (34 : Nat) "ParcelLineModel" "there" "[Z" ∈ mzAll := mz_t5 (List.mem_of_getElem? (i := 89) (by decide +kernel)) (by decide +kernel)
theorem wf_Mo_38 : Jvm.Cond.fieldLink "ParcelLineModel" (38 : Nat) "ParcelLineModel" "isFile" "[Z" ∈ mzAll := mz_t5 (List.mem_of_getElem? (i := 90) (by decide +kernel)) (by decide +kernel)
theorem wf_Mo_41 : Jvm.Cond.fieldLink "ParcelLineModel" (41 : Nat) "ParcelLineModel" "within" "[I" ∈ mzAll := mz_t5 (List.mem_of_getElem? (i := 91) (by decide +kernel)) (by decide +kernel)
theorem wf_Mo_44 : Jvm.Cond.fieldLink "ParcelLineModel" (44 : Nat) "ParcelLineModel" "name" "[I" ∈ mzAll := mz_t5 (List.mem_of_getElem? (i := 92) (by decide +kernel)) (by decide +kernel)
theorem wf_Mo_47 : Jvm.Cond.fieldLink "ParcelLineModel" (47 : Nat) "ParcelLineModel" "size" "[I" ∈ mzAll := mz_t5 (List.mem_of_getElem? (i := 93) (by decide +kernel)) (by decide +kernel)
theorem wf_Mo_50 : Jvm.Cond.fieldLink "ParcelLineModel" (50 : Nat) "ParcelLineModel" "sure" "[Z" ∈ mzAll := mz_t5 (List.mem_of_getElem? (i := 94) (by decide +kernel)) (by decide +kernel)
theorem wf_Mo_53 : Jvm.Cond.fieldLink "ParcelLineModel" (53 : Nat) "ParcelLineModel" "bytes" "[I" ∈ mzAll := mz_t5 (List.mem_of_getElem? (i := 95) (by decide +kernel)) (by decide +kernel)
theorem wf_Mo_56 : Jvm.Cond.fieldLink "ParcelLineModel" (56 : Nat) "ParcelLineModel" "order" "[I" ∈ mzAll := mz_t5 (List.mem_of_getElem? (i := 96) (by decide +kernel)) (by decide +kernel)
theorem wf_Mo_59 : Jvm.Cond.fieldLink "ParcelLineModel" (59 : Nat) "ParcelLineModel" "turned" "[Z" ∈ mzAll := mz_t5 (List.mem_of_getElem? (i := 97) (by decide +kernel)) (by decide +kernel)
theorem wf_Mo_62 : Jvm.Cond.fieldLink "ParcelLineModel" (62 : Nat) "ParcelLineModel" "length" "[I" ∈ mzAll := mz_t5 (List.mem_of_getElem? (i := 98) (by decide +kernel)) (by decide +kernel)
theorem wf_Mo_65 : Jvm.Cond.fieldLink "ParcelLineModel" (65 : Nat) "ParcelLineModel" "tooLong" "[Z" ∈ mzAll := mz_t5 (List.mem_of_getElem? (i := 99) (by decide +kernel)) (by decide +kernel)
theorem wf_Mo_68 : Jvm.Cond.fieldLink "ParcelLineModel" (68 : Nat) "ParcelLineModel" "line" "[I" ∈ mzAll := mz_t5 (List.mem_of_getElem? (i := 100) (by decide +kernel)) (by decide +kernel)
theorem wf_Mo_71 : Jvm.Cond.fieldLink "ParcelLineModel" (71 : Nat) "ParcelLineModel" "waits" "[I" ∈ mzAll := mz_t5 (List.mem_of_getElem? (i := 101) (by decide +kernel)) (by decide +kernel)
theorem wf_Mo_74 : Jvm.Cond.fieldLink "ParcelLineModel" (74 : Nat) "ParcelLineModel" "replies" "[I" ∈ mzAll := mz_t5 (List.mem_of_getElem? (i := 102) (by decide +kernel)) (by decide +kernel)
theorem wf_Mo_77 : Jvm.Cond.fieldLink "ParcelLineModel" (77 : Nat) "ParcelLineModel" "who" "[I" ∈ mzAll := mz_t5 (List.mem_of_getElem? (i := 103) (by decide +kernel)) (by decide +kernel)
theorem wf_Mo_80 : Jvm.Cond.fieldLink "ParcelLineModel" (80 : Nat) "ParcelLineModel" "named" "[I" ∈ mzAll := mz_t5 (List.mem_of_getElem? (i := 104) (by decide +kernel)) (by decide +kernel)
theorem wf_Mo_83 : Jvm.Cond.fieldLink "ParcelLineModel" (83 : Nat) "ParcelLineModel" "renames" "[I" ∈ mzAll := mz_t5 (List.mem_of_getElem? (i := 105) (by decide +kernel)) (by decide +kernel)
theorem wf_Mo_86 : Jvm.Cond.fieldLink "ParcelLineModel" (86 : Nat) "ParcelLineModel" "offset" "[I" ∈ mzAll := mz_t5 (List.mem_of_getElem? (i := 106) (by decide +kernel)) (by decide +kernel)
theorem wf_Mo_89 : Jvm.Cond.fieldLink "ParcelLineModel" (89 : Nat) "ParcelLineModel" "at" "[I" ∈ mzAll := mz_t5 (List.mem_of_getElem? (i := 107) (by decide +kernel)) (by decide +kernel)
theorem wf_Mo_92 : Jvm.Cond.fieldLink "ParcelLineModel" (92 : Nat) "ParcelLineModel" "letters" "[Z" ∈ mzAll := mz_t5 (List.mem_of_getElem? (i := 108) (by decide +kernel)) (by decide +kernel)
theorem wf_Mo_95 : Jvm.Cond.fieldLink "ParcelLineModel" (95 : Nat) "ParcelLineModel" "open" "[Z" ∈ mzAll := mz_t5 (List.mem_of_getElem? (i := 109) (by decide +kernel)) (by decide +kernel)
theorem wf_Mo_98 : Jvm.Cond.fieldLink "ParcelLineModel" (98 : Nat) "ParcelLineModel" "runs" "[I" ∈ mzAll := mz_t5 (List.mem_of_getElem? (i := 110) (by decide +kernel)) (by decide +kernel)
theorem wf_Mo_101 : Jvm.Cond.fieldLink "ParcelLineModel" (101 : Nat) "ParcelLineModel" "file" "[I" ∈ mzAll := mz_t5 (List.mem_of_getElem? (i := 111) (by decide +kernel)) (by decide +kernel)
theorem wf_Mo_104 : Jvm.Cond.fieldLink "ParcelLineModel" (104 : Nat) "ParcelLineModel" "held" "[Z" ∈ mzAll := mz_t5 (List.mem_of_getElem? (i := 112) (by decide +kernel)) (by decide +kernel)
theorem wf_Mo_107 : Jvm.Cond.fieldLink "ParcelLineModel" (107 : Nat) "ParcelLineModel" "outs" "[I" ∈ mzAll := mz_t5 (List.mem_of_getElem? (i := 113) (by decide +kernel)) (by decide +kernel)
theorem wf_Mo_110 : Jvm.Cond.fieldLink "ParcelLineModel" (110 : Nat) "ParcelLineModel" "sent" "[I" ∈ mzAll := mz_t5 (List.mem_of_getElem? (i := 114) (by decide +kernel)) (by decide +kernel)
theorem wf_Mo_113 : Jvm.Cond.fieldLink "ParcelLineModel" (113 : Nat) "ParcelLineModel" "out" "[I" ∈ mzAll := mz_t5 (List.mem_of_getElem? (i := 115) (by decide +kernel)) (by decide +kernel)
theorem wf_Mo_137 : Jvm.Cond.fieldLink "ParcelLineModel" (137 : Nat) "ParcelLineModel" "s" "I" ∈ mzAll := mz_t5 (List.mem_of_getElem? (i := 116) (by decide +kernel)) (by decide +kernel)
theorem wf_Mo_143 : Jvm.Cond.fieldLink "ParcelLineModel" (143 : Nat) "ParcelLineModel" "firstAnswer" "I" ∈ mzAll := mz_t5 (List.mem_of_getElem? (i := 117) (by decide +kernel)) (by decide +kernel)
theorem wf_Mo_159 : Jvm.Cond.fieldLink "ParcelLineModel" (159 : Nat) "ParcelLineModel" "told" "I" ∈ mzAll := mz_t5 (List.mem_of_getElem? (i := 118) (by decide +kernel)) (by decide +kernel)
theorem wf_Mo_192 : Jvm.Cond.fieldLink "ParcelLineModel" (192 : Nat) "ParcelLineModel" "begin" "I" ∈ mzAll := mz_t5 (List.mem_of_getElem? (i := 119) (by decide +kernel)) (by decide +kernel)
theorem wf_Mo_249 : Jvm.Cond.fieldLink "ParcelLineModel" (249 : Nat) "ParcelLineModel" "leads" "I" ∈ mzAll := mz_t5 (List.mem_of_getElem? (i := 120) (by decide +kernel)) (by decide +kernel)
theorem wf_Mo_252 : Jvm.Cond.fieldLink "ParcelLineModel" (252 : Nat) "ParcelLineModel" "place" "I" ∈ mzAll := mz_t5 (List.mem_of_getElem? (i := 121) (by decide +kernel)) (by decide +kernel)
theorem wf_Mo_258 : Jvm.Cond.fieldLink "ParcelLineModel" (258 : Nat) "ParcelLineModel" "newName" "I" ∈ mzAll := mz_t5 (List.mem_of_getElem? (i := 122) (by decide +kernel)) (by decide +kernel)
theorem wf_Mo_116 : Jvm.Cond.fieldLink "ParcelLineModel" (116 : Nat) "ParcelLineModel" "kept" "[I" ∈ mzAll := mz_t5 (List.mem_of_getElem? (i := 123) (by decide +kernel)) (by decide +kernel)
theorem wf_Mo_119 : Jvm.Cond.fieldLink "ParcelLineModel" (119 : Nat) "ParcelLineModel" "shelves" "[I" ∈ mzAll := mz_t5 (List.mem_of_getElem? (i := 124) (by decide +kernel)) (by decide +kernel)
theorem wf_Mo_319 : Jvm.Cond.fieldLink "ParcelLineModel" (319 : Nat) "ParcelLineModel" "on" "Z" ∈ mzAll := mz_t5 (List.mem_of_getElem? (i := 125) (by decide +kernel)) (by decide +kernel)
theorem wf_Mo_340 : Jvm.Cond.fieldLink "ParcelLineModel" (340 : Nat) "ParcelLineModel" "brings" "Z" ∈ mzAll := mz_t5 (List.mem_of_getElem? (i := 126) (by decide +kernel)) (by decide +kernel)
theorem wf_Mo_343 : Jvm.Cond.fieldLink "ParcelLineModel" (343 : Nat) "ParcelLineModel" "shelf" "I" ∈ mzAll := mz_t5 (List.mem_of_getElem? (i := 127) (by decide +kernel)) (by decide +kernel)
theorem wf_Mo_346 : Jvm.Cond.fieldLink "ParcelLineModel" (346 : Nat) "ParcelLineModel" "title" "I" ∈ mzAll := mz_t5 (List.mem_of_getElem? (i := 128) (by decide +kernel)) (by decide +kernel)
theorem wf_Mo_323 : Jvm.Cond.fieldLink "ParcelLineModel" (323 : Nat) "ParcelLineModel" "tries" "I" ∈ mzAll := mz_t5 (List.mem_of_getElem? (i := 129) (by decide +kernel)) (by decide +kernel)
theorem wf_Mo_326 : Jvm.Cond.fieldLink "ParcelLineModel" (326 : Nat) "ParcelLineModel" "next" "I" ∈ mzAll := mz_t5 (List.mem_of_getElem? (i := 130) (by decide +kernel)) (by decide +kernel)
theorem wf_Mo_357 : Jvm.Cond.fieldLink "ParcelLineModel" (357 : Nat) "ParcelLineModel" "expected" "I" ∈ mzAll := mz_t5 (List.mem_of_getElem? (i := 131) (by decide +kernel)) (by decide +kernel)
theorem wa_boolean : Jvm.Cond.arrayClass Jvm.ClassFile.FieldType.boolean ∈ mzAll := mz_t5 (List.mem_of_getElem? (i := 223) (by decide +kernel)) (by decide +kernel)
theorem wl_Law_50 : Jvm.Cond.methodLink "ParcelLineLaw" (50 : Nat) ({ cls := "ParcelLineModel", name := "thrown", desc := "()I" } : Jvm.MethodName) ∈ mzAll := mz_t5 (List.mem_of_getElem? (i := 224) (by decide +kernel)) (by decide +kernel)
theorem wi_Mo_thrown : Jvm.Cond.instanceMethod ({ cls := "ParcelLineModel", name := "thrown", desc := "()I" } : Jvm.MethodName) ∈ mzAll := mz_t5 (List.mem_of_getElem? (i := 225) (by decide +kernel)) (by decide +kernel)
theorem wse_Mo_thrown : Jvm.Cond.selects "ParcelLineModel" ({ cls := "ParcelLineModel", name := "thrown", desc := "()I" } : Jvm.MethodName) ({ cls := "ParcelLineModel", name := "thrown", desc := "()I" } : Jvm.MethodName) ∈ mzAll := mz_t5 (List.mem_of_getElem? (i := 226) (by decide +kernel)) (by decide +kernel)
theorem wco_Mo_thrown : Jvm.Cond.code ({ cls := "ParcelLineModel", name := "thrown", desc := "()I" } : Jvm.MethodName) prog_14_method_2_code (1 : Nat) (Option.some Jvm.ClassFile.FieldType.int) ∈ mzAll := mz_t5 (List.mem_of_getElem? (i := 227) (by decide +kernel)) (by decide +kernel)
theorem wl_Law_43 : Jvm.Cond.methodLink "ParcelLineLaw" (43 : Nat) ({ cls := "ParcelLineModel", name := "feed", desc := "(II)Z" } : Jvm.MethodName) ∈ mzAll := mz_t5 (List.mem_of_getElem? (i := 228) (by decide +kernel)) (by decide +kernel)
theorem wi_Mo_feed : Jvm.Cond.instanceMethod ({ cls := "ParcelLineModel", name := "feed", desc := "(II)Z" } : Jvm.MethodName) ∈ mzAll := mz_t5 (List.mem_of_getElem? (i := 229) (by decide +kernel)) (by decide +kernel)
theorem wse_Mo_feed : Jvm.Cond.selects "ParcelLineModel" ({ cls := "ParcelLineModel", name := "feed", desc := "(II)Z" } : Jvm.MethodName) ({ cls := "ParcelLineModel", name := "feed", desc := "(II)Z" } : Jvm.MethodName) ∈ mzAll := mz_t5 (List.mem_of_getElem? (i := 230) (by decide +kernel)) (by decide +kernel)
theorem wco_Mo_feed : Jvm.Cond.code ({ cls := "ParcelLineModel", name := "feed", desc := "(II)Z" } : Jvm.MethodName) prog_14_method_22_code (3 : Nat) (Option.some Jvm.ClassFile.FieldType.boolean) ∈ mzAll := mz_t5 (List.mem_of_getElem? (i := 231) (by decide +kernel)) (by decide +kernel)
theorem wl_Mo_182 : Jvm.Cond.methodLink "ParcelLineModel" (182 : Nat) ({ cls := "ParcelLineModel", name := "isSession", desc := "(I)Z" } : Jvm.MethodName) ∈ mzAll := mz_t5 (List.mem_of_getElem? (i := 232) (by decide +kernel)) (by decide +kernel)
theorem ws_Mo_isSession : Jvm.Cond.static ({ cls := "ParcelLineModel", name := "isSession", desc := "(I)Z" } : Jvm.MethodName) ∈ mzAll := mz_t5 (List.mem_of_getElem? (i := 233) (by decide +kernel)) (by decide +kernel)
theorem wco_Mo_isSession : Jvm.Cond.code ({ cls := "ParcelLineModel", name := "isSession", desc := "(I)Z" } : Jvm.MethodName) prog_14_method_4_code (1 : Nat) (Option.some Jvm.ClassFile.FieldType.boolean) ∈ mzAll := mz_t5 (List.mem_of_getElem? (i := 234) (by decide +kernel)) (by decide +kernel)
theorem wl_Mo_186 : Jvm.Cond.methodLink "ParcelLineModel" (186 : Nat) ({ cls := "ParcelLineModel", name := "take1", desc := "(II)V" } : Jvm.MethodName) ∈ mzAll := mz_t5 (List.mem_of_getElem? (i := 235) (by decide +kernel)) (by decide +kernel)
theorem wi_Mo_take1 : Jvm.Cond.instanceMethod ({ cls := "ParcelLineModel", name := "take1", desc := "(II)V" } : Jvm.MethodName) ∈ mzAll := mz_t5 (List.mem_of_getElem? (i := 237) (by decide +kernel)) (by decide +kernel)
theorem wco_Mo_take1 : Jvm.Cond.code ({ cls := "ParcelLineModel", name := "take1", desc := "(II)V" } : Jvm.MethodName) prog_14_method_19_code (3 : Nat) (Option.none : Option Jvm.ClassFile.FieldType) ∈ mzAll := mz_t5 (List.mem_of_getElem? (i := 238) (by decide +kernel)) (by decide +kernel)
theorem wl_Mo_149 : Jvm.Cond.methodLink "ParcelLineModel" (149 : Nat) ({ cls := "ParcelLineModel", name := "hasRoom", desc := "(II)Z" } : Jvm.MethodName) ∈ mzAll := mz_t5 (List.mem_of_getElem? (i := 239) (by decide +kernel)) (by decide +kernel)
theorem wi_Mo_hasRoom : Jvm.Cond.instanceMethod ({ cls := "ParcelLineModel", name := "hasRoom", desc := "(II)Z" } : Jvm.MethodName) ∈ mzAll := mz_t6 (List.mem_of_getElem? (i := 1) (by decide +kernel)) (by decide +kernel)
theorem wco_Mo_hasRoom : Jvm.Cond.code ({ cls := "ParcelLineModel", name := "hasRoom", desc := "(II)Z" } : Jvm.MethodName) prog_14_method_9_code (3 : Nat) (Option.some Jvm.ClassFile.FieldType.boolean) ∈ mzAll := mz_t6 (List.mem_of_getElem? (i := 2) (by decide +kernel)) (by decide +kernel)
theorem wl_Mo_140 : Jvm.Cond.methodLink "ParcelLineModel" (140 : Nat) ({ cls := "ParcelLineModel", name := "put", desc := "(II)V" } : Jvm.MethodName) ∈ mzAll := mz_t6 (List.mem_of_getElem? (i := 3) (by decide +kernel)) (by decide +kernel)
theorem wi_Mo_put : Jvm.Cond.instanceMethod ({ cls := "ParcelLineModel", name := "put", desc := "(II)V" } : Jvm.MethodName) ∈ mzAll := mz_t6 (List.mem_of_getElem? (i := 5) (by decide +kernel)) (by decide +kernel)
theorem wco_Mo_put : Jvm.Cond.code ({ cls := "ParcelLineModel", name := "put", desc := "(II)V" } : Jvm.MethodName) prog_14_method_8_code (3 : Nat) (Option.none : Option Jvm.ClassFile.FieldType) ∈ mzAll := mz_t6 (List.mem_of_getElem? (i := 6) (by decide +kernel)) (by decide +kernel)
theorem wl_Mo_173 : Jvm.Cond.methodLink "ParcelLineModel" (173 : Nat) ({ cls := "ParcelLineModel", name := "plain", desc := "(II)V" } : Jvm.MethodName) ∈ mzAll := mz_t6 (List.mem_of_getElem? (i := 7) (by decide +kernel)) (by decide +kernel)
theorem wi_Mo_plain : Jvm.Cond.instanceMethod ({ cls := "ParcelLineModel", name := "plain", desc := "(II)V" } : Jvm.MethodName) ∈ mzAll := mz_t6 (List.mem_of_getElem? (i := 9) (by decide +kernel)) (by decide +kernel)
theorem wco_Mo_plain : Jvm.Cond.code ({ cls := "ParcelLineModel", name := "plain", desc := "(II)V" } : Jvm.MethodName) prog_14_method_20_code (4 : Nat) (Option.none : Option Jvm.ClassFile.FieldType) ∈ mzAll := mz_t6 (List.mem_of_getElem? (i := 10) (by decide +kernel)) (by decide +kernel)
theorem wl_Mo_176 : Jvm.Cond.methodLink "ParcelLineModel" (176 : Nat) ({ cls := "ParcelLineModel", name := "doLine", desc := "()V" } : Jvm.MethodName) ∈ mzAll := mz_t6 (List.mem_of_getElem? (i := 11) (by decide +kernel)) (by decide +kernel)
theorem wi_Mo_doLine : Jvm.Cond.instanceMethod ({ cls := "ParcelLineModel", name := "doLine", desc := "()V" } : Jvm.MethodName) ∈ mzAll := mz_t6 (List.mem_of_getElem? (i := 13) (by decide +kernel)) (by decide +kernel)
theorem wco_Mo_doLine : Jvm.Cond.code ({ cls := "ParcelLineModel", name := "doLine", desc := "()V" } : Jvm.MethodName) prog_14_method_33_code (7 : Nat) (Option.none : Option Jvm.ClassFile.FieldType) ∈ mzAll := mz_t6 (List.mem_of_getElem? (i := 14) (by decide +kernel)) (by decide +kernel)
theorem wl_Mo_215 : Jvm.Cond.methodLink "ParcelLineModel" (215 : Nat) ({ cls := "ParcelLineModel", name := "command", desc := "()I" } : Jvm.MethodName) ∈ mzAll := mz_t6 (List.mem_of_getElem? (i := 15) (by decide +kernel)) (by decide +kernel)
theorem wi_Mo_command : Jvm.Cond.instanceMethod ({ cls := "ParcelLineModel", name := "command", desc := "()I" } : Jvm.MethodName) ∈ mzAll := mz_t6 (List.mem_of_getElem? (i := 17) (by decide +kernel)) (by decide +kernel)
theorem wco_Mo_command : Jvm.Cond.code ({ cls := "ParcelLineModel", name := "command", desc := "()I" } : Jvm.MethodName) prog_14_method_24_code (5 : Nat) (Option.some Jvm.ClassFile.FieldType.int) ∈ mzAll := mz_t6 (List.mem_of_getElem? (i := 18) (by decide +kernel)) (by decide +kernel)
theorem wl_Mo_189 : Jvm.Cond.methodLink "ParcelLineModel" (189 : Nat) ({ cls := "ParcelLineModel", name := "ch", desc := "(I)I" } : Jvm.MethodName) ∈ mzAll := mz_t6 (List.mem_of_getElem? (i := 19) (by decide +kernel)) (by decide +kernel)
theorem wi_Mo_ch : Jvm.Cond.instanceMethod ({ cls := "ParcelLineModel", name := "ch", desc := "(I)I" } : Jvm.MethodName) ∈ mzAll := mz_t6 (List.mem_of_getElem? (i := 21) (by decide +kernel)) (by decide +kernel)
theorem wco_Mo_ch : Jvm.Cond.code ({ cls := "ParcelLineModel", name := "ch", desc := "(I)I" } : Jvm.MethodName) prog_14_method_23_code (2 : Nat) (Option.some Jvm.ClassFile.FieldType.int) ∈ mzAll := mz_t6 (List.mem_of_getElem? (i := 22) (by decide +kernel)) (by decide +kernel)
theorem wl_Mo_218 : Jvm.Cond.methodLink "ParcelLineModel" (218 : Nat) ({ cls := "ParcelLineModel", name := "answer", desc := "(I)V" } : Jvm.MethodName) ∈ mzAll := mz_t6 (List.mem_of_getElem? (i := 23) (by decide +kernel)) (by decide +kernel)
theorem wi_Mo_answer : Jvm.Cond.instanceMethod ({ cls := "ParcelLineModel", name := "answer", desc := "(I)V" } : Jvm.MethodName) ∈ mzAll := mz_t6 (List.mem_of_getElem? (i := 25) (by decide +kernel)) (by decide +kernel)
theorem wco_Mo_answer : Jvm.Cond.code ({ cls := "ParcelLineModel", name := "answer", desc := "(I)V" } : Jvm.MethodName) prog_14_method_13_code (2 : Nat) (Option.none : Option Jvm.ClassFile.FieldType) ∈ mzAll := mz_t6 (List.mem_of_getElem? (i := 26) (by decide +kernel)) (by decide +kernel)
theorem wl_Mo_146 : Jvm.Cond.methodLink "ParcelLineModel" (146 : Nat) ({ cls := "ParcelLineModel", name := "answered", desc := "(I)V" } : Jvm.MethodName) ∈ mzAll := mz_t6 (List.mem_of_getElem? (i := 27) (by decide +kernel)) (by decide +kernel)
theorem wi_Mo_answered : Jvm.Cond.instanceMethod ({ cls := "ParcelLineModel", name := "answered", desc := "(I)V" } : Jvm.MethodName) ∈ mzAll := mz_t6 (List.mem_of_getElem? (i := 29) (by decide +kernel)) (by decide +kernel)
theorem wco_Mo_answered : Jvm.Cond.code ({ cls := "ParcelLineModel", name := "answered", desc := "(I)V" } : Jvm.MethodName) prog_14_method_12_code (2 : Nat) (Option.none : Option Jvm.ClassFile.FieldType) ∈ mzAll := mz_t6 (List.mem_of_getElem? (i := 30) (by decide +kernel)) (by decide +kernel)
theorem wl_Mo_153 : Jvm.Cond.methodLink "ParcelLineModel" (153 : Nat) ({ cls := "ParcelLineModel", name := "putCode", desc := "(I)V" } : Jvm.MethodName) ∈ mzAll := mz_t6 (List.mem_of_getElem? (i := 31) (by decide +kernel)) (by decide +kernel)
theorem wi_Mo_putCode : Jvm.Cond.instanceMethod ({ cls := "ParcelLineModel", name := "putCode", desc := "(I)V" } : Jvm.MethodName) ∈ mzAll := mz_t6 (List.mem_of_getElem? (i := 33) (by decide +kernel)) (by decide +kernel)
theorem wco_Mo_putCode : Jvm.Cond.code ({ cls := "ParcelLineModel", name := "putCode", desc := "(I)V" } : Jvm.MethodName) prog_14_method_10_code (2 : Nat) (Option.none : Option Jvm.ClassFile.FieldType) ∈ mzAll := mz_t6 (List.mem_of_getElem? (i := 34) (by decide +kernel)) (by decide +kernel)
theorem wl_Mo_156 : Jvm.Cond.methodLink "ParcelLineModel" (156 : Nat) ({ cls := "ParcelLineModel", name := "putEnd", desc := "()V" } : Jvm.MethodName) ∈ mzAll := mz_t6 (List.mem_of_getElem? (i := 35) (by decide +kernel)) (by decide +kernel)
theorem wi_Mo_putEnd : Jvm.Cond.instanceMethod ({ cls := "ParcelLineModel", name := "putEnd", desc := "()V" } : Jvm.MethodName) ∈ mzAll := mz_t6 (List.mem_of_getElem? (i := 37) (by decide +kernel)) (by decide +kernel)
theorem wco_Mo_putEnd : Jvm.Cond.code ({ cls := "ParcelLineModel", name := "putEnd", desc := "()V" } : Jvm.MethodName) prog_14_method_11_code (1 : Nat) (Option.none : Option Jvm.ClassFile.FieldType) ∈ mzAll := mz_t6 (List.mem_of_getElem? (i := 38) (by decide +kernel)) (by decide +kernel)
theorem wl_Mo_221 : Jvm.Cond.methodLink "ParcelLineModel" (221 : Nat) ({ cls := "ParcelLineModel", name := "argumentGood", desc := "(I)Z" } : Jvm.MethodName) ∈ mzAll := mz_t6 (List.mem_of_getElem? (i := 39) (by decide +kernel)) (by decide +kernel)
theorem wi_Mo_argumentGood : Jvm.Cond.instanceMethod ({ cls := "ParcelLineModel", name := "argumentGood", desc := "(I)Z" } : Jvm.MethodName) ∈ mzAll := mz_t6 (List.mem_of_getElem? (i := 41) (by decide +kernel)) (by decide +kernel)
theorem wco_Mo_argumentGood : Jvm.Cond.code ({ cls := "ParcelLineModel", name := "argumentGood", desc := "(I)Z" } : Jvm.MethodName) prog_14_method_31_code (2 : Nat) (Option.some Jvm.ClassFile.FieldType.boolean) ∈ mzAll := mz_t6 (List.mem_of_getElem? (i := 42) (by decide +kernel)) (by decide +kernel)
theorem wl_Mo_201 : Jvm.Cond.methodLink "ParcelLineModel" (201 : Nat) ({ cls := "ParcelLineModel", name := "hasArgument", desc := "()Z" } : Jvm.MethodName) ∈ mzAll := mz_t6 (List.mem_of_getElem? (i := 43) (by decide +kernel)) (by decide +kernel)
theorem wi_Mo_hasArgument : Jvm.Cond.instanceMethod ({ cls := "ParcelLineModel", name := "hasArgument", desc := "()Z" } : Jvm.MethodName) ∈ mzAll := mz_t6 (List.mem_of_getElem? (i := 45) (by decide +kernel)) (by decide +kernel)
theorem wco_Mo_hasArgument : Jvm.Cond.code ({ cls := "ParcelLineModel", name := "hasArgument", desc := "()Z" } : Jvm.MethodName) prog_14_method_25_code (1 : Nat) (Option.some Jvm.ClassFile.FieldType.boolean) ∈ mzAll := mz_t6 (List.mem_of_getElem? (i := 46) (by decide +kernel)) (by decide +kernel)
theorem wl_Mo_205 : Jvm.Cond.methodLink "ParcelLineModel" (205 : Nat) ({ cls := "ParcelLineModel", name := "number", desc := "()I" } : Jvm.MethodName) ∈ mzAll := mz_t6 (List.mem_of_getElem? (i := 47) (by decide +kernel)) (by decide +kernel)
theorem wi_Mo_number : Jvm.Cond.instanceMethod ({ cls := "ParcelLineModel", name := "number", desc := "()I" } : Jvm.MethodName) ∈ mzAll := mz_t6 (List.mem_of_getElem? (i := 49) (by decide +kernel)) (by decide +kernel)
theorem wco_Mo_number : Jvm.Cond.code ({ cls := "ParcelLineModel", name := "number", desc := "()I" } : Jvm.MethodName) prog_14_method_29_code (4 : Nat) (Option.some Jvm.ClassFile.FieldType.int) ∈ mzAll := mz_t6 (List.mem_of_getElem? (i := 50) (by decide +kernel)) (by decide +kernel)
theorem wl_Mo_209 : Jvm.Cond.methodLink "ParcelLineModel" (209 : Nat) ({ cls := "ParcelLineModel", name := "isPathCommand", desc := "(I)Z" } : Jvm.MethodName) ∈ mzAll := mz_t6 (List.mem_of_getElem? (i := 51) (by decide +kernel)) (by decide +kernel)
theorem wi_Mo_isPathCommand : Jvm.Cond.instanceMethod ({ cls := "ParcelLineModel", name := "isPathCommand", desc := "(I)Z" } : Jvm.MethodName) ∈ mzAll := mz_t6 (List.mem_of_getElem? (i := 53) (by decide +kernel)) (by decide +kernel)
theorem wco_Mo_isPathCommand : Jvm.Cond.code ({ cls := "ParcelLineModel", name := "isPathCommand", desc := "(I)Z" } : Jvm.MethodName) prog_14_method_30_code (2 : Nat) (Option.some Jvm.ClassFile.FieldType.boolean) ∈ mzAll := mz_t6 (List.mem_of_getElem? (i := 54) (by decide +kernel)) (by decide +kernel)
theorem wl_Mo_212 : Jvm.Cond.methodLink "ParcelLineModel" (212 : Nat) ({ cls := "ParcelLineModel", name := "isPath", desc := "()Z" } : Jvm.MethodName) ∈ mzAll := mz_t6 (List.mem_of_getElem? (i := 55) (by decide +kernel)) (by decide +kernel)
theorem wi_Mo_isPath : Jvm.Cond.instanceMethod ({ cls := "ParcelLineModel", name := "isPath", desc := "()Z" } : Jvm.MethodName) ∈ mzAll := mz_t6 (List.mem_of_getElem? (i := 57) (by decide +kernel)) (by decide +kernel)
theorem wco_Mo_isPath : Jvm.Cond.code ({ cls := "ParcelLineModel", name := "isPath", desc := "()Z" } : Jvm.MethodName) prog_14_method_28_code (6 : Nat) (Option.some Jvm.ClassFile.FieldType.boolean) ∈ mzAll := mz_t6 (List.mem_of_getElem? (i := 58) (by decide +kernel)) (by decide +kernel)
theorem wl_Mo_198 : Jvm.Cond.methodLink "ParcelLineModel" (198 : Nat) ({ cls := "ParcelLineModel", name := "stepEnd", desc := "(I)I" } : Jvm.MethodName) ∈ mzAll := mz_t6 (List.mem_of_getElem? (i := 59) (by decide +kernel)) (by decide +kernel)
theorem wi_Mo_stepEnd : Jvm.Cond.instanceMethod ({ cls := "ParcelLineModel", name := "stepEnd", desc := "(I)I" } : Jvm.MethodName) ∈ mzAll := mz_t6 (List.mem_of_getElem? (i := 61) (by decide +kernel)) (by decide +kernel)
theorem wco_Mo_stepEnd : Jvm.Cond.code ({ cls := "ParcelLineModel", name := "stepEnd", desc := "(I)I" } : Jvm.MethodName) prog_14_method_27_code (3 : Nat) (Option.some Jvm.ClassFile.FieldType.int) ∈ mzAll := mz_t6 (List.mem_of_getElem? (i := 62) (by decide +kernel)) (by decide +kernel)
theorem wl_Mo_195 : Jvm.Cond.methodLink "ParcelLineModel" (195 : Nat) ({ cls := "ParcelLineModel", name := "isLetter", desc := "(I)Z" } : Jvm.MethodName) ∈ mzAll := mz_t6 (List.mem_of_getElem? (i := 63) (by decide +kernel)) (by decide +kernel)
theorem ws_Mo_isLetter : Jvm.Cond.static ({ cls := "ParcelLineModel", name := "isLetter", desc := "(I)Z" } : Jvm.MethodName) ∈ mzAll := mz_t6 (List.mem_of_getElem? (i := 64) (by decide +kernel)) (by decide +kernel)
theorem wco_Mo_isLetter : Jvm.Cond.code ({ cls := "ParcelLineModel", name := "isLetter", desc := "(I)Z" } : Jvm.MethodName) prog_14_method_26_code (1 : Nat) (Option.some Jvm.ClassFile.FieldType.boolean) ∈ mzAll := mz_t6 (List.mem_of_getElem? (i := 65) (by decide +kernel)) (by decide +kernel)
theorem wl_Mo_224 : Jvm.Cond.methodLink "ParcelLineModel" (224 : Nat) ({ cls := "ParcelLineModel", name := "doEarly", desc := "(II)V" } : Jvm.MethodName) ∈ mzAll := mz_t6 (List.mem_of_getElem? (i := 66) (by decide +kernel)) (by decide +kernel)
theorem wi_Mo_doEarly : Jvm.Cond.instanceMethod ({ cls := "ParcelLineModel", name := "doEarly", desc := "(II)V" } : Jvm.MethodName) ∈ mzAll := mz_t6 (List.mem_of_getElem? (i := 68) (by decide +kernel)) (by decide +kernel)
theorem wco_Mo_doEarly : Jvm.Cond.code ({ cls := "ParcelLineModel", name := "doEarly", desc := "(II)V" } : Jvm.MethodName) prog_14_method_34_code (4 : Nat) (Option.none : Option Jvm.ClassFile.FieldType) ∈ mzAll := mz_t6 (List.mem_of_getElem? (i := 69) (by decide +kernel)) (by decide +kernel)
theorem wl_Mo_239 : Jvm.Cond.methodLink "ParcelLineModel" (239 : Nat) ({ cls := "ParcelLineModel", name := "says", desc := "(III)Z" } : Jvm.MethodName) ∈ mzAll := mz_t6 (List.mem_of_getElem? (i := 70) (by decide +kernel)) (by decide +kernel)
theorem wi_Mo_says : Jvm.Cond.instanceMethod ({ cls := "ParcelLineModel", name := "says", desc := "(III)Z" } : Jvm.MethodName) ∈ mzAll := mz_t6 (List.mem_of_getElem? (i := 72) (by decide +kernel)) (by decide +kernel)
theorem wco_Mo_says : Jvm.Cond.code ({ cls := "ParcelLineModel", name := "says", desc := "(III)Z" } : Jvm.MethodName) prog_14_method_32_code (4 : Nat) (Option.some Jvm.ClassFile.FieldType.boolean) ∈ mzAll := mz_t6 (List.mem_of_getElem? (i := 73) (by decide +kernel)) (by decide +kernel)
theorem wl_Mo_227 : Jvm.Cond.methodLink "ParcelLineModel" (227 : Nat) ({ cls := "ParcelLineModel", name := "follow", desc := "()V" } : Jvm.MethodName) ∈ mzAll := mz_t6 (List.mem_of_getElem? (i := 74) (by decide +kernel)) (by decide +kernel)
theorem wi_Mo_follow : Jvm.Cond.instanceMethod ({ cls := "ParcelLineModel", name := "follow", desc := "()V" } : Jvm.MethodName) ∈ mzAll := mz_t6 (List.mem_of_getElem? (i := 76) (by decide +kernel)) (by decide +kernel)
theorem wco_Mo_follow : Jvm.Cond.code ({ cls := "ParcelLineModel", name := "follow", desc := "()V" } : Jvm.MethodName) prog_14_method_38_code (6 : Nat) (Option.none : Option Jvm.ClassFile.FieldType) ∈ mzAll := mz_t6 (List.mem_of_getElem? (i := 77) (by decide +kernel)) (by decide +kernel)
theorem wl_Mo_255 : Jvm.Cond.methodLink "ParcelLineModel" (255 : Nat) ({ cls := "ParcelLineModel", name := "nameAt", desc := "(II)I" } : Jvm.MethodName) ∈ mzAll := mz_t6 (List.mem_of_getElem? (i := 78) (by decide +kernel)) (by decide +kernel)
theorem wi_Mo_nameAt : Jvm.Cond.instanceMethod ({ cls := "ParcelLineModel", name := "nameAt", desc := "(II)I" } : Jvm.MethodName) ∈ mzAll := mz_t6 (List.mem_of_getElem? (i := 80) (by decide +kernel)) (by decide +kernel)
theorem wco_Mo_nameAt : Jvm.Cond.code ({ cls := "ParcelLineModel", name := "nameAt", desc := "(II)I" } : Jvm.MethodName) prog_14_method_37_code (5 : Nat) (Option.some Jvm.ClassFile.FieldType.int) ∈ mzAll := mz_t6 (List.mem_of_getElem? (i := 81) (by decide +kernel)) (by decide +kernel)
theorem wl_Mo_261 : Jvm.Cond.methodLink "ParcelLineModel" (261 : Nat) ({ cls := "ParcelLineModel", name := "child", desc := "(II)I" } : Jvm.MethodName) ∈ mzAll := mz_t6 (List.mem_of_getElem? (i := 82) (by decide +kernel)) (by decide +kernel)
theorem wi_Mo_child : Jvm.Cond.instanceMethod ({ cls := "ParcelLineModel", name := "child", desc := "(II)I" } : Jvm.MethodName) ∈ mzAll := mz_t6 (List.mem_of_getElem? (i := 84) (by decide +kernel)) (by decide +kernel)
theorem wco_Mo_child : Jvm.Cond.code ({ cls := "ParcelLineModel", name := "child", desc := "(II)I" } : Jvm.MethodName) prog_14_method_36_code (4 : Nat) (Option.some Jvm.ClassFile.FieldType.int) ∈ mzAll := mz_t6 (List.mem_of_getElem? (i := 85) (by decide +kernel)) (by decide +kernel)
theorem wl_Mo_230 : Jvm.Cond.methodLink "ParcelLineModel" (230 : Nat) ({ cls := "ParcelLineModel", name := "doTransfer", desc := "(II)V" } : Jvm.MethodName) ∈ mzAll := mz_t6 (List.mem_of_getElem? (i := 86) (by decide +kernel)) (by decide +kernel)
theorem wi_Mo_doTransfer : Jvm.Cond.instanceMethod ({ cls := "ParcelLineModel", name := "doTransfer", desc := "(II)V" } : Jvm.MethodName) ∈ mzAll := mz_t6 (List.mem_of_getElem? (i := 88) (by decide +kernel)) (by decide +kernel)
theorem wco_Mo_doTransfer : Jvm.Cond.code ({ cls := "ParcelLineModel", name := "doTransfer", desc := "(II)V" } : Jvm.MethodName) prog_14_method_53_code (7 : Nat) (Option.none : Option Jvm.ClassFile.FieldType) ∈ mzAll := mz_t6 (List.mem_of_getElem? (i := 89) (by decide +kernel)) (by decide +kernel)
theorem wl_Mo_304 : Jvm.Cond.methodLink "ParcelLineModel" (304 : Nat) ({ cls := "ParcelLineModel", name := "retrieve", desc := "(I)V" } : Jvm.MethodName) ∈ mzAll := mz_t6 (List.mem_of_getElem? (i := 90) (by decide +kernel)) (by decide +kernel)
theorem wi_Mo_retrieve : Jvm.Cond.instanceMethod ({ cls := "ParcelLineModel", name := "retrieve", desc := "(I)V" } : Jvm.MethodName) ∈ mzAll := mz_t6 (List.mem_of_getElem? (i := 92) (by decide +kernel)) (by decide +kernel)
theorem wco_Mo_retrieve : Jvm.Cond.code ({ cls := "ParcelLineModel", name := "retrieve", desc := "(I)V" } : Jvm.MethodName) prog_14_method_52_code (6 : Nat) (Option.none : Option Jvm.ClassFile.FieldType) ∈ mzAll := mz_t6 (List.mem_of_getElem? (i := 93) (by decide +kernel)) (by decide +kernel)
theorem wl_Mo_301 : Jvm.Cond.methodLink "ParcelLineModel" (301 : Nat) ({ cls := "ParcelLineModel", name := "written", desc := "(I)Z" } : Jvm.MethodName) ∈ mzAll := mz_t6 (List.mem_of_getElem? (i := 94) (by decide +kernel)) (by decide +kernel)
theorem wi_Mo_written : Jvm.Cond.instanceMethod ({ cls := "ParcelLineModel", name := "written", desc := "(I)Z" } : Jvm.MethodName) ∈ mzAll := mz_t6 (List.mem_of_getElem? (i := 96) (by decide +kernel)) (by decide +kernel)
theorem wco_Mo_written : Jvm.Cond.code ({ cls := "ParcelLineModel", name := "written", desc := "(I)Z" } : Jvm.MethodName) prog_14_method_40_code (2 : Nat) (Option.some Jvm.ClassFile.FieldType.boolean) ∈ mzAll := mz_t6 (List.mem_of_getElem? (i := 97) (by decide +kernel)) (by decide +kernel)
theorem wl_Mo_295 : Jvm.Cond.methodLink "ParcelLineModel" (295 : Nat) ({ cls := "ParcelLineModel", name := "addOut", desc := "(I)V" } : Jvm.MethodName) ∈ mzAll := mz_t6 (List.mem_of_getElem? (i := 98) (by decide +kernel)) (by decide +kernel)
theorem wi_Mo_addOut : Jvm.Cond.instanceMethod ({ cls := "ParcelLineModel", name := "addOut", desc := "(I)V" } : Jvm.MethodName) ∈ mzAll := mz_t6 (List.mem_of_getElem? (i := 100) (by decide +kernel)) (by decide +kernel)
theorem wco_Mo_addOut : Jvm.Cond.code ({ cls := "ParcelLineModel", name := "addOut", desc := "(I)V" } : Jvm.MethodName) prog_14_method_49_code (2 : Nat) (Option.none : Option Jvm.ClassFile.FieldType) ∈ mzAll := mz_t6 (List.mem_of_getElem? (i := 101) (by decide +kernel)) (by decide +kernel)
theorem wl_Mo_298 : Jvm.Cond.methodLink "ParcelLineModel" (298 : Nat) ({ cls := "ParcelLineModel", name := "beginSending", desc := "(I)V" } : Jvm.MethodName) ∈ mzAll := mz_t6 (List.mem_of_getElem? (i := 102) (by decide +kernel)) (by decide +kernel)
theorem wi_Mo_beginSending : Jvm.Cond.instanceMethod ({ cls := "ParcelLineModel", name := "beginSending", desc := "(I)V" } : Jvm.MethodName) ∈ mzAll := mz_t6 (List.mem_of_getElem? (i := 104) (by decide +kernel)) (by decide +kernel)
theorem wco_Mo_beginSending : Jvm.Cond.code ({ cls := "ParcelLineModel", name := "beginSending", desc := "(I)V" } : Jvm.MethodName) prog_14_method_50_code (2 : Nat) (Option.none : Option Jvm.ClassFile.FieldType) ∈ mzAll := mz_t6 (List.mem_of_getElem? (i := 105) (by decide +kernel)) (by decide +kernel)
theorem wl_Mo_292 : Jvm.Cond.methodLink "ParcelLineModel" (292 : Nat) ({ cls := "ParcelLineModel", name := "finish", desc := "(I)V" } : Jvm.MethodName) ∈ mzAll := mz_t6 (List.mem_of_getElem? (i := 106) (by decide +kernel)) (by decide +kernel)
theorem wi_Mo_finish : Jvm.Cond.instanceMethod ({ cls := "ParcelLineModel", name := "finish", desc := "(I)V" } : Jvm.MethodName) ∈ mzAll := mz_t6 (List.mem_of_getElem? (i := 108) (by decide +kernel)) (by decide +kernel)
theorem wco_Mo_finish : Jvm.Cond.code ({ cls := "ParcelLineModel", name := "finish", desc := "(I)V" } : Jvm.MethodName) prog_14_method_54_code (3 : Nat) (Option.none : Option Jvm.ClassFile.FieldType) ∈ mzAll := mz_t6 (List.mem_of_getElem? (i := 109) (by decide +kernel)) (by decide +kernel)
theorem wl_Mo_273 : Jvm.Cond.methodLink "ParcelLineModel" (273 : Nat) ({ cls := "ParcelLineModel", name := "freeNode", desc := "()I" } : Jvm.MethodName) ∈ mzAll := mz_t6 (List.mem_of_getElem? (i := 110) (by decide +kernel)) (by decide +kernel)
theorem wi_Mo_freeNode : Jvm.Cond.instanceMethod ({ cls := "ParcelLineModel", name := "freeNode", desc := "()I" } : Jvm.MethodName) ∈ mzAll := mz_t6 (List.mem_of_getElem? (i := 112) (by decide +kernel)) (by decide +kernel)
theorem wco_Mo_freeNode : Jvm.Cond.code ({ cls := "ParcelLineModel", name := "freeNode", desc := "()I" } : Jvm.MethodName) prog_14_method_39_code (2 : Nat) (Option.some Jvm.ClassFile.FieldType.int) ∈ mzAll := mz_t6 (List.mem_of_getElem? (i := 113) (by decide +kernel)) (by decide +kernel)
theorem wl_Mo_267 : Jvm.Cond.methodLink "ParcelLineModel" (267 : Nat) ({ cls := "ParcelLineModel", name := "moved", desc := "(I)Z" } : Jvm.MethodName) ∈ mzAll := mz_t6 (List.mem_of_getElem? (i := 114) (by decide +kernel)) (by decide +kernel)
theorem wi_Mo_moved : Jvm.Cond.instanceMethod ({ cls := "ParcelLineModel", name := "moved", desc := "(I)Z" } : Jvm.MethodName) ∈ mzAll := mz_t6 (List.mem_of_getElem? (i := 116) (by decide +kernel)) (by decide +kernel)
theorem wco_Mo_moved : Jvm.Cond.code ({ cls := "ParcelLineModel", name := "moved", desc := "(I)Z" } : Jvm.MethodName) prog_14_method_41_code (2 : Nat) (Option.some Jvm.ClassFile.FieldType.boolean) ∈ mzAll := mz_t6 (List.mem_of_getElem? (i := 117) (by decide +kernel)) (by decide +kernel)
theorem wl_Mo_282 : Jvm.Cond.methodLink "ParcelLineModel" (282 : Nat) ({ cls := "ParcelLineModel", name := "create", desc := "(IZ)V" } : Jvm.MethodName) ∈ mzAll := mz_t6 (List.mem_of_getElem? (i := 118) (by decide +kernel)) (by decide +kernel)
theorem wi_Mo_create : Jvm.Cond.instanceMethod ({ cls := "ParcelLineModel", name := "create", desc := "(IZ)V" } : Jvm.MethodName) ∈ mzAll := mz_t6 (List.mem_of_getElem? (i := 120) (by decide +kernel)) (by decide +kernel)
theorem wco_Mo_create : Jvm.Cond.code ({ cls := "ParcelLineModel", name := "create", desc := "(IZ)V" } : Jvm.MethodName) prog_14_method_43_code (3 : Nat) (Option.none : Option Jvm.ClassFile.FieldType) ∈ mzAll := mz_t6 (List.mem_of_getElem? (i := 121) (by decide +kernel)) (by decide +kernel)
theorem wl_Mo_233 : Jvm.Cond.methodLink "ParcelLineModel" (233 : Nat) ({ cls := "ParcelLineModel", name := "doPath", desc := "(II)V" } : Jvm.MethodName) ∈ mzAll := mz_t6 (List.mem_of_getElem? (i := 122) (by decide +kernel)) (by decide +kernel)
theorem wi_Mo_doPath : Jvm.Cond.instanceMethod ({ cls := "ParcelLineModel", name := "doPath", desc := "(II)V" } : Jvm.MethodName) ∈ mzAll := mz_t6 (List.mem_of_getElem? (i := 124) (by decide +kernel)) (by decide +kernel)
theorem wco_Mo_doPath : Jvm.Cond.code ({ cls := "ParcelLineModel", name := "doPath", desc := "(II)V" } : Jvm.MethodName) prog_14_method_48_code (5 : Nat) (Option.none : Option Jvm.ClassFile.FieldType) ∈ mzAll := mz_t6 (List.mem_of_getElem? (i := 125) (by decide +kernel)) (by decide +kernel)
theorem wl_Mo_276 : Jvm.Cond.methodLink "ParcelLineModel" (276 : Nat) ({ cls := "ParcelLineModel", name := "replySize", desc := "(I)V" } : Jvm.MethodName) ∈ mzAll := mz_t6 (List.mem_of_getElem? (i := 126) (by decide +kernel)) (by decide +kernel)
theorem wi_Mo_replySize : Jvm.Cond.instanceMethod ({ cls := "ParcelLineModel", name := "replySize", desc := "(I)V" } : Jvm.MethodName) ∈ mzAll := mz_t6 (List.mem_of_getElem? (i := 128) (by decide +kernel)) (by decide +kernel)
theorem wco_Mo_replySize : Jvm.Cond.code ({ cls := "ParcelLineModel", name := "replySize", desc := "(I)V" } : Jvm.MethodName) prog_14_method_14_code (2 : Nat) (Option.none : Option Jvm.ClassFile.FieldType) ∈ mzAll := mz_t6 (List.mem_of_getElem? (i := 129) (by decide +kernel)) (by decide +kernel)
theorem wl_Mo_279 : Jvm.Cond.methodLink "ParcelLineModel" (279 : Nat) ({ cls := "ParcelLineModel", name := "deleteFile", desc := "()I" } : Jvm.MethodName) ∈ mzAll := mz_t6 (List.mem_of_getElem? (i := 130) (by decide +kernel)) (by decide +kernel)
theorem wi_Mo_deleteFile : Jvm.Cond.instanceMethod ({ cls := "ParcelLineModel", name := "deleteFile", desc := "()I" } : Jvm.MethodName) ∈ mzAll := mz_t6 (List.mem_of_getElem? (i := 132) (by decide +kernel)) (by decide +kernel)
theorem wco_Mo_deleteFile : Jvm.Cond.code ({ cls := "ParcelLineModel", name := "deleteFile", desc := "()I" } : Jvm.MethodName) prog_14_method_47_code (1 : Nat) (Option.some Jvm.ClassFile.FieldType.int) ∈ mzAll := mz_t6 (List.mem_of_getElem? (i := 133) (by decide +kernel)) (by decide +kernel)
theorem wl_Mo_243 : Jvm.Cond.methodLink "ParcelLineModel" (243 : Nat) ({ cls := "ParcelLineModel", name := "replyPath", desc := "(I)V" } : Jvm.MethodName) ∈ mzAll := mz_t6 (List.mem_of_getElem? (i := 134) (by decide +kernel)) (by decide +kernel)
theorem wi_Mo_replyPath : Jvm.Cond.instanceMethod ({ cls := "ParcelLineModel", name := "replyPath", desc := "(I)V" } : Jvm.MethodName) ∈ mzAll := mz_t6 (List.mem_of_getElem? (i := 136) (by decide +kernel)) (by decide +kernel)
theorem wco_Mo_replyPath : Jvm.Cond.code ({ cls := "ParcelLineModel", name := "replyPath", desc := "(I)V" } : Jvm.MethodName) prog_14_method_18_code (6 : Nat) (Option.none : Option Jvm.ClassFile.FieldType) ∈ mzAll := mz_t6 (List.mem_of_getElem? (i := 137) (by decide +kernel)) (by decide +kernel)
theorem wl_Mo_162 : Jvm.Cond.methodLink "ParcelLineModel" (162 : Nat) ({ cls := "ParcelLineModel", name := "depth", desc := "(I)I" } : Jvm.MethodName) ∈ mzAll := mz_t6 (List.mem_of_getElem? (i := 138) (by decide +kernel)) (by decide +kernel)
theorem wi_Mo_depth : Jvm.Cond.instanceMethod ({ cls := "ParcelLineModel", name := "depth", desc := "(I)I" } : Jvm.MethodName) ∈ mzAll := mz_t6 (List.mem_of_getElem? (i := 140) (by decide +kernel)) (by decide +kernel)
theorem wco_Mo_depth : Jvm.Cond.code ({ cls := "ParcelLineModel", name := "depth", desc := "(I)I" } : Jvm.MethodName) prog_14_method_16_code (4 : Nat) (Option.some Jvm.ClassFile.FieldType.int) ∈ mzAll := mz_t6 (List.mem_of_getElem? (i := 141) (by decide +kernel)) (by decide +kernel)
theorem wl_Mo_166 : Jvm.Cond.methodLink "ParcelLineModel" (166 : Nat) ({ cls := "ParcelLineModel", name := "above", desc := "(II)I" } : Jvm.MethodName) ∈ mzAll := mz_t6 (List.mem_of_getElem? (i := 142) (by decide +kernel)) (by decide +kernel)
theorem wi_Mo_above : Jvm.Cond.instanceMethod ({ cls := "ParcelLineModel", name := "above", desc := "(II)I" } : Jvm.MethodName) ∈ mzAll := mz_t6 (List.mem_of_getElem? (i := 144) (by decide +kernel)) (by decide +kernel)
theorem wco_Mo_above : Jvm.Cond.code ({ cls := "ParcelLineModel", name := "above", desc := "(II)I" } : Jvm.MethodName) prog_14_method_17_code (5 : Nat) (Option.some Jvm.ClassFile.FieldType.int) ∈ mzAll := mz_t6 (List.mem_of_getElem? (i := 145) (by decide +kernel)) (by decide +kernel)
theorem wl_Mo_170 : Jvm.Cond.methodLink "ParcelLineModel" (170 : Nat) ({ cls := "ParcelLineModel", name := "lettersOf", desc := "(I)I" } : Jvm.MethodName) ∈ mzAll := mz_t6 (List.mem_of_getElem? (i := 146) (by decide +kernel)) (by decide +kernel)
theorem ws_Mo_lettersOf : Jvm.Cond.static ({ cls := "ParcelLineModel", name := "lettersOf", desc := "(I)I" } : Jvm.MethodName) ∈ mzAll := mz_t6 (List.mem_of_getElem? (i := 147) (by decide +kernel)) (by decide +kernel)
theorem wco_Mo_lettersOf : Jvm.Cond.code ({ cls := "ParcelLineModel", name := "lettersOf", desc := "(I)I" } : Jvm.MethodName) prog_14_method_15_code (1 : Nat) (Option.some Jvm.ClassFile.FieldType.int) ∈ mzAll := mz_t6 (List.mem_of_getElem? (i := 148) (by decide +kernel)) (by decide +kernel)
theorem wl_Mo_286 : Jvm.Cond.methodLink "ParcelLineModel" (286 : Nat) ({ cls := "ParcelLineModel", name := "removeDirectory", desc := "()I" } : Jvm.MethodName) ∈ mzAll := mz_t6 (List.mem_of_getElem? (i := 149) (by decide +kernel)) (by decide +kernel)
theorem wi_Mo_removeDirectory : Jvm.Cond.instanceMethod ({ cls := "ParcelLineModel", name := "removeDirectory", desc := "()I" } : Jvm.MethodName) ∈ mzAll := mz_t6 (List.mem_of_getElem? (i := 151) (by decide +kernel)) (by decide +kernel)
theorem wco_Mo_removeDirectory : Jvm.Cond.code ({ cls := "ParcelLineModel", name := "removeDirectory", desc := "()I" } : Jvm.MethodName) prog_14_method_46_code (1 : Nat) (Option.some Jvm.ClassFile.FieldType.int) ∈ mzAll := mz_t6 (List.mem_of_getElem? (i := 152) (by decide +kernel)) (by decide +kernel)
theorem wl_Mo_270 : Jvm.Cond.methodLink "ParcelLineModel" (270 : Nat) ({ cls := "ParcelLineModel", name := "inside", desc := "(I)I" } : Jvm.MethodName) ∈ mzAll := mz_t6 (List.mem_of_getElem? (i := 153) (by decide +kernel)) (by decide +kernel)
theorem wi_Mo_inside : Jvm.Cond.instanceMethod ({ cls := "ParcelLineModel", name := "inside", desc := "(I)I" } : Jvm.MethodName) ∈ mzAll := mz_t6 (List.mem_of_getElem? (i := 155) (by decide +kernel)) (by decide +kernel)
theorem wco_Mo_inside : Jvm.Cond.code ({ cls := "ParcelLineModel", name := "inside", desc := "(I)I" } : Jvm.MethodName) prog_14_method_42_code (4 : Nat) (Option.some Jvm.ClassFile.FieldType.int) ∈ mzAll := mz_t6 (List.mem_of_getElem? (i := 156) (by decide +kernel)) (by decide +kernel)
theorem wl_Mo_289 : Jvm.Cond.methodLink "ParcelLineModel" (289 : Nat) ({ cls := "ParcelLineModel", name := "renameTo", desc := "(I)I" } : Jvm.MethodName) ∈ mzAll := mz_t6 (List.mem_of_getElem? (i := 157) (by decide +kernel)) (by decide +kernel)
theorem wi_Mo_renameTo : Jvm.Cond.instanceMethod ({ cls := "ParcelLineModel", name := "renameTo", desc := "(I)I" } : Jvm.MethodName) ∈ mzAll := mz_t6 (List.mem_of_getElem? (i := 159) (by decide +kernel)) (by decide +kernel)
theorem wco_Mo_renameTo : Jvm.Cond.code ({ cls := "ParcelLineModel", name := "renameTo", desc := "(I)I" } : Jvm.MethodName) prog_14_method_45_code (2 : Nat) (Option.some Jvm.ClassFile.FieldType.int) ∈ mzAll := mz_t6 (List.mem_of_getElem? (i := 160) (by decide +kernel)) (by decide +kernel)
theorem wl_Mo_264 : Jvm.Cond.methodLink "ParcelLineModel" (264 : Nat) ({ cls := "ParcelLineModel", name := "isBelow", desc := "(II)Z" } : Jvm.MethodName) ∈ mzAll := mz_t6 (List.mem_of_getElem? (i := 161) (by decide +kernel)) (by decide +kernel)
theorem wi_Mo_isBelow : Jvm.Cond.instanceMethod ({ cls := "ParcelLineModel", name := "isBelow", desc := "(II)Z" } : Jvm.MethodName) ∈ mzAll := mz_t6 (List.mem_of_getElem? (i := 163) (by decide +kernel)) (by decide +kernel)
theorem wco_Mo_isBelow : Jvm.Cond.code ({ cls := "ParcelLineModel", name := "isBelow", desc := "(II)Z" } : Jvm.MethodName) prog_14_method_44_code (4 : Nat) (Option.some Jvm.ClassFile.FieldType.boolean) ∈ mzAll := mz_t6 (List.mem_of_getElem? (i := 164) (by decide +kernel)) (by decide +kernel)
theorem wl_Mo_236 : Jvm.Cond.methodLink "ParcelLineModel" (236 : Nat) ({ cls := "ParcelLineModel", name := "doOther", desc := "(I)V" } : Jvm.MethodName) ∈ mzAll := mz_t6 (List.mem_of_getElem? (i := 165) (by decide +kernel)) (by decide +kernel)
theorem wi_Mo_doOther : Jvm.Cond.instanceMethod ({ cls := "ParcelLineModel", name := "doOther", desc := "(I)V" } : Jvm.MethodName) ∈ mzAll := mz_t6 (List.mem_of_getElem? (i := 167) (by decide +kernel)) (by decide +kernel)
theorem wco_Mo_doOther : Jvm.Cond.code ({ cls := "ParcelLineModel", name := "doOther", desc := "(I)V" } : Jvm.MethodName) prog_14_method_35_code (2 : Nat) (Option.none : Option Jvm.ClassFile.FieldType) ∈ mzAll := mz_t6 (List.mem_of_getElem? (i := 168) (by decide +kernel)) (by decide +kernel)
theorem wl_Mo_246 : Jvm.Cond.methodLink "ParcelLineModel" (246 : Nat) ({ cls := "ParcelLineModel", name := "sendNames", desc := "()V" } : Jvm.MethodName) ∈ mzAll := mz_t6 (List.mem_of_getElem? (i := 169) (by decide +kernel)) (by decide +kernel)
theorem wi_Mo_sendNames : Jvm.Cond.instanceMethod ({ cls := "ParcelLineModel", name := "sendNames", desc := "()V" } : Jvm.MethodName) ∈ mzAll := mz_t6 (List.mem_of_getElem? (i := 171) (by decide +kernel)) (by decide +kernel)
theorem wco_Mo_sendNames : Jvm.Cond.code ({ cls := "ParcelLineModel", name := "sendNames", desc := "()V" } : Jvm.MethodName) prog_14_method_51_code (3 : Nat) (Option.none : Option Jvm.ClassFile.FieldType) ∈ mzAll := mz_t6 (List.mem_of_getElem? (i := 172) (by decide +kernel)) (by decide +kernel)
theorem wl_Mo_179 : Jvm.Cond.methodLink "ParcelLineModel" (179 : Nat) ({ cls := "ParcelLineModel", name := "addToLine", desc := "(II)V" } : Jvm.MethodName) ∈ mzAll := mz_t6 (List.mem_of_getElem? (i := 173) (by decide +kernel)) (by decide +kernel)
theorem wi_Mo_addToLine : Jvm.Cond.instanceMethod ({ cls := "ParcelLineModel", name := "addToLine", desc := "(II)V" } : Jvm.MethodName) ∈ mzAll := mz_t6 (List.mem_of_getElem? (i := 175) (by decide +kernel)) (by decide +kernel)
theorem wco_Mo_addToLine : Jvm.Cond.code ({ cls := "ParcelLineModel", name := "addToLine", desc := "(II)V" } : Jvm.MethodName) prog_14_method_21_code (3 : Nat) (Option.none : Option Jvm.ClassFile.FieldType) ∈ mzAll := mz_t6 (List.mem_of_getElem? (i := 176) (by decide +kernel)) (by decide +kernel)
theorem wl_Law_49 : Jvm.Cond.methodLink "ParcelLineLaw" (49 : Nat) ({ cls := "ParcelLineModel", name := "close", desc := "(I)V" } : Jvm.MethodName) ∈ mzAll := mz_t6 (List.mem_of_getElem? (i := 177) (by decide +kernel)) (by decide +kernel)
theorem wi_Mo_close : Jvm.Cond.instanceMethod ({ cls := "ParcelLineModel", name := "close", desc := "(I)V" } : Jvm.MethodName) ∈ mzAll := mz_t6 (List.mem_of_getElem? (i := 178) (by decide +kernel)) (by decide +kernel)
theorem wse_Mo_close : Jvm.Cond.selects "ParcelLineModel" ({ cls := "ParcelLineModel", name := "close", desc := "(I)V" } : Jvm.MethodName) ({ cls := "ParcelLineModel", name := "close", desc := "(I)V" } : Jvm.MethodName) ∈ mzAll := mz_t6 (List.mem_of_getElem? (i := 179) (by decide +kernel)) (by decide +kernel)
theorem wco_Mo_close : Jvm.Cond.code ({ cls := "ParcelLineModel", name := "close", desc := "(I)V" } : Jvm.MethodName) prog_14_method_56_code (2 : Nat) (Option.none : Option Jvm.ClassFile.FieldType) ∈ mzAll := mz_t6 (List.mem_of_getElem? (i := 180) (by decide +kernel)) (by decide +kernel)
theorem wl_Mo_307 : Jvm.Cond.methodLink "ParcelLineModel" (307 : Nat) ({ cls := "ParcelLineModel", name := "closeWay", desc := "(I)V" } : Jvm.MethodName) ∈ mzAll := mz_t6 (List.mem_of_getElem? (i := 181) (by decide +kernel)) (by decide +kernel)
theorem wi_Mo_closeWay : Jvm.Cond.instanceMethod ({ cls := "ParcelLineModel", name := "closeWay", desc := "(I)V" } : Jvm.MethodName) ∈ mzAll := mz_t6 (List.mem_of_getElem? (i := 183) (by decide +kernel)) (by decide +kernel)
theorem wco_Mo_closeWay : Jvm.Cond.code ({ cls := "ParcelLineModel", name := "closeWay", desc := "(I)V" } : Jvm.MethodName) prog_14_method_55_code (2 : Nat) (Option.none : Option Jvm.ClassFile.FieldType) ∈ mzAll := mz_t6 (List.mem_of_getElem? (i := 184) (by decide +kernel)) (by decide +kernel)
theorem wl_Law_56 : Jvm.Cond.methodLink "ParcelLineLaw" (56 : Nat) ({ cls := "ParcelLineModel", name := "bring", desc := "(II)V" } : Jvm.MethodName) ∈ mzAll := mz_t6 (List.mem_of_getElem? (i := 185) (by decide +kernel)) (by decide +kernel)
theorem wi_Mo_bring : Jvm.Cond.instanceMethod ({ cls := "ParcelLineModel", name := "bring", desc := "(II)V" } : Jvm.MethodName) ∈ mzAll := mz_t6 (List.mem_of_getElem? (i := 186) (by decide +kernel)) (by decide +kernel)
theorem wse_Mo_bring : Jvm.Cond.selects "ParcelLineModel" ({ cls := "ParcelLineModel", name := "bring", desc := "(II)V" } : Jvm.MethodName) ({ cls := "ParcelLineModel", name := "bring", desc := "(II)V" } : Jvm.MethodName) ∈ mzAll := mz_t6 (List.mem_of_getElem? (i := 187) (by decide +kernel)) (by decide +kernel)
theorem wco_Mo_bring : Jvm.Cond.code ({ cls := "ParcelLineModel", name := "bring", desc := "(II)V" } : Jvm.MethodName) prog_14_method_58_code (3 : Nat) (Option.none : Option Jvm.ClassFile.FieldType) ∈ mzAll := mz_t6 (List.mem_of_getElem? (i := 188) (by decide +kernel)) (by decide +kernel)
theorem wl_Mo_310 : Jvm.Cond.methodLink "ParcelLineModel" (310 : Nat) ({ cls := "ParcelLineModel", name := "bringOne", desc := "(II)V" } : Jvm.MethodName) ∈ mzAll := mz_t6 (List.mem_of_getElem? (i := 189) (by decide +kernel)) (by decide +kernel)
theorem wi_Mo_bringOne : Jvm.Cond.instanceMethod ({ cls := "ParcelLineModel", name := "bringOne", desc := "(II)V" } : Jvm.MethodName) ∈ mzAll := mz_t6 (List.mem_of_getElem? (i := 191) (by decide +kernel)) (by decide +kernel)
theorem wco_Mo_bringOne : Jvm.Cond.code ({ cls := "ParcelLineModel", name := "bringOne", desc := "(II)V" } : Jvm.MethodName) prog_14_method_57_code (4 : Nat) (Option.none : Option Jvm.ClassFile.FieldType) ∈ mzAll := mz_t6 (List.mem_of_getElem? (i := 192) (by decide +kernel)) (by decide +kernel)
theorem wl_Law_60 : Jvm.Cond.methodLink "ParcelLineLaw" (60 : Nat) ({ cls := "ParcelLineModel", name := "take", desc := "(I)I" } : Jvm.MethodName) ∈ mzAll := mz_t6 (List.mem_of_getElem? (i := 193) (by decide +kernel)) (by decide +kernel)
theorem wi_Mo_take : Jvm.Cond.instanceMethod ({ cls := "ParcelLineModel", name := "take", desc := "(I)I" } : Jvm.MethodName) ∈ mzAll := mz_t6 (List.mem_of_getElem? (i := 194) (by decide +kernel)) (by decide +kernel)
theorem wse_Mo_take : Jvm.Cond.selects "ParcelLineModel" ({ cls := "ParcelLineModel", name := "take", desc := "(I)I" } : Jvm.MethodName) ({ cls := "ParcelLineModel", name := "take", desc := "(I)I" } : Jvm.MethodName) ∈ mzAll := mz_t6 (List.mem_of_getElem? (i := 195) (by decide +kernel)) (by decide +kernel)
theorem wco_Mo_take : Jvm.Cond.code ({ cls := "ParcelLineModel", name := "take", desc := "(I)I" } : Jvm.MethodName) prog_14_method_60_code (2 : Nat) (Option.some Jvm.ClassFile.FieldType.int) ∈ mzAll := mz_t6 (List.mem_of_getElem? (i := 196) (by decide +kernel)) (by decide +kernel)
theorem wl_Mo_313 : Jvm.Cond.methodLink "ParcelLineModel" (313 : Nat) ({ cls := "ParcelLineModel", name := "fail", desc := "(I)I" } : Jvm.MethodName) ∈ mzAll := mz_t6 (List.mem_of_getElem? (i := 197) (by decide +kernel)) (by decide +kernel)
theorem wi_Mo_fail : Jvm.Cond.instanceMethod ({ cls := "ParcelLineModel", name := "fail", desc := "(I)I" } : Jvm.MethodName) ∈ mzAll := mz_t6 (List.mem_of_getElem? (i := 199) (by decide +kernel)) (by decide +kernel)
theorem wco_Mo_fail : Jvm.Cond.code ({ cls := "ParcelLineModel", name := "fail", desc := "(I)I" } : Jvm.MethodName) prog_14_method_3_code (2 : Nat) (Option.some Jvm.ClassFile.FieldType.int) ∈ mzAll := mz_t6 (List.mem_of_getElem? (i := 200) (by decide +kernel)) (by decide +kernel)
theorem wl_Mo_316 : Jvm.Cond.methodLink "ParcelLineModel" (316 : Nat) ({ cls := "ParcelLineModel", name := "takeOne", desc := "(I)I" } : Jvm.MethodName) ∈ mzAll := mz_t6 (List.mem_of_getElem? (i := 201) (by decide +kernel)) (by decide +kernel)
theorem wi_Mo_takeOne : Jvm.Cond.instanceMethod ({ cls := "ParcelLineModel", name := "takeOne", desc := "(I)I" } : Jvm.MethodName) ∈ mzAll := mz_t6 (List.mem_of_getElem? (i := 203) (by decide +kernel)) (by decide +kernel)
theorem wco_Mo_takeOne : Jvm.Cond.code ({ cls := "ParcelLineModel", name := "takeOne", desc := "(I)I" } : Jvm.MethodName) prog_14_method_59_code (3 : Nat) (Option.some Jvm.ClassFile.FieldType.int) ∈ mzAll := mz_t6 (List.mem_of_getElem? (i := 204) (by decide +kernel)) (by decide +kernel)
theorem wl_Law_65 : Jvm.Cond.methodLink "ParcelLineLaw" (65 : Nat) ({ cls := "ParcelLineModel", name := "cut", desc := "(I)Z" } : Jvm.MethodName) ∈ mzAll := mz_t6 (List.mem_of_getElem? (i := 205) (by decide +kernel)) (by decide +kernel)
theorem wi_Mo_cut : Jvm.Cond.instanceMethod ({ cls := "ParcelLineModel", name := "cut", desc := "(I)Z" } : Jvm.MethodName) ∈ mzAll := mz_t6 (List.mem_of_getElem? (i := 206) (by decide +kernel)) (by decide +kernel)
theorem wse_Mo_cut : Jvm.Cond.selects "ParcelLineModel" ({ cls := "ParcelLineModel", name := "cut", desc := "(I)Z" } : Jvm.MethodName) ({ cls := "ParcelLineModel", name := "cut", desc := "(I)Z" } : Jvm.MethodName) ∈ mzAll := mz_t6 (List.mem_of_getElem? (i := 207) (by decide +kernel)) (by decide +kernel)
theorem wco_Mo_cut : Jvm.Cond.code ({ cls := "ParcelLineModel", name := "cut", desc := "(I)Z" } : Jvm.MethodName) prog_14_method_63_code (2 : Nat) (Option.some Jvm.ClassFile.FieldType.boolean) ∈ mzAll := mz_t6 (List.mem_of_getElem? (i := 208) (by decide +kernel)) (by decide +kernel)
theorem wl_Mo_329 : Jvm.Cond.methodLink "ParcelLineModel" (329 : Nat) ({ cls := "ParcelLineModel", name := "cutSession", desc := "(I)V" } : Jvm.MethodName) ∈ mzAll := mz_t6 (List.mem_of_getElem? (i := 209) (by decide +kernel)) (by decide +kernel)
theorem wi_Mo_cutSession : Jvm.Cond.instanceMethod ({ cls := "ParcelLineModel", name := "cutSession", desc := "(I)V" } : Jvm.MethodName) ∈ mzAll := mz_t6 (List.mem_of_getElem? (i := 211) (by decide +kernel)) (by decide +kernel)
theorem wco_Mo_cutSession : Jvm.Cond.code ({ cls := "ParcelLineModel", name := "cutSession", desc := "(I)V" } : Jvm.MethodName) prog_14_method_61_code (2 : Nat) (Option.none : Option Jvm.ClassFile.FieldType) ∈ mzAll := mz_t6 (List.mem_of_getElem? (i := 212) (by decide +kernel)) (by decide +kernel)
theorem wl_Mo_332 : Jvm.Cond.methodLink "ParcelLineModel" (332 : Nat) ({ cls := "ParcelLineModel", name := "loseTry", desc := "()V" } : Jvm.MethodName) ∈ mzAll := mz_t6 (List.mem_of_getElem? (i := 213) (by decide +kernel)) (by decide +kernel)
theorem wi_Mo_loseTry : Jvm.Cond.instanceMethod ({ cls := "ParcelLineModel", name := "loseTry", desc := "()V" } : Jvm.MethodName) ∈ mzAll := mz_t6 (List.mem_of_getElem? (i := 215) (by decide +kernel)) (by decide +kernel)
theorem wco_Mo_loseTry : Jvm.Cond.code ({ cls := "ParcelLineModel", name := "loseTry", desc := "()V" } : Jvm.MethodName) prog_14_method_62_code (1 : Nat) (Option.none : Option Jvm.ClassFile.FieldType) ∈ mzAll := mz_t6 (List.mem_of_getElem? (i := 216) (by decide +kernel)) (by decide +kernel)
theorem wl_Law_69 : Jvm.Cond.methodLink "ParcelLineLaw" (69 : Nat) ({ cls := "ParcelLineModel", name := "crash", desc := "()V" } : Jvm.MethodName) ∈ mzAll := mz_t6 (List.mem_of_getElem? (i := 217) (by decide +kernel)) (by decide +kernel)
theorem wi_Mo_crash : Jvm.Cond.instanceMethod ({ cls := "ParcelLineModel", name := "crash", desc := "()V" } : Jvm.MethodName) ∈ mzAll := mz_t6 (List.mem_of_getElem? (i := 218) (by decide +kernel)) (by decide +kernel)
theorem wse_Mo_crash : Jvm.Cond.selects "ParcelLineModel" ({ cls := "ParcelLineModel", name := "crash", desc := "()V" } : Jvm.MethodName) ({ cls := "ParcelLineModel", name := "crash", desc := "()V" } : Jvm.MethodName) ∈ mzAll := mz_t6 (List.mem_of_getElem? (i := 219) (by decide +kernel)) (by decide +kernel)
theorem wco_Mo_crash : Jvm.Cond.code ({ cls := "ParcelLineModel", name := "crash", desc := "()V" } : Jvm.MethodName) prog_14_method_64_code (2 : Nat) (Option.none : Option Jvm.ClassFile.FieldType) ∈ mzAll := mz_t6 (List.mem_of_getElem? (i := 220) (by decide +kernel)) (by decide +kernel)
theorem wl_Law_73 : Jvm.Cond.methodLink "ParcelLineLaw" (73 : Nat) ({ cls := "ParcelLineModel", name := "waiting", desc := "(I)I" } : Jvm.MethodName) ∈ mzAll := mz_t6 (List.mem_of_getElem? (i := 221) (by decide +kernel)) (by decide +kernel)
theorem wi_Mo_waiting : Jvm.Cond.instanceMethod ({ cls := "ParcelLineModel", name := "waiting", desc := "(I)I" } : Jvm.MethodName) ∈ mzAll := mz_t6 (List.mem_of_getElem? (i := 222) (by decide +kernel)) (by decide +kernel)
theorem wse_Mo_waiting : Jvm.Cond.selects "ParcelLineModel" ({ cls := "ParcelLineModel", name := "waiting", desc := "(I)I" } : Jvm.MethodName) ({ cls := "ParcelLineModel", name := "waiting", desc := "(I)I" } : Jvm.MethodName) ∈ mzAll := mz_t6 (List.mem_of_getElem? (i := 223) (by decide +kernel)) (by decide +kernel)
theorem wco_Mo_waiting : Jvm.Cond.code ({ cls := "ParcelLineModel", name := "waiting", desc := "(I)I" } : Jvm.MethodName) prog_14_method_65_code (2 : Nat) (Option.some Jvm.ClassFile.FieldType.int) ∈ mzAll := mz_t6 (List.mem_of_getElem? (i := 224) (by decide +kernel)) (by decide +kernel)
theorem wl_Law_77 : Jvm.Cond.methodLink "ParcelLineLaw" (77 : Nat) ({ cls := "ParcelLineModel", name := "reply", desc := "(I)I" } : Jvm.MethodName) ∈ mzAll := mz_t6 (List.mem_of_getElem? (i := 225) (by decide +kernel)) (by decide +kernel)
theorem wi_Mo_reply : Jvm.Cond.instanceMethod ({ cls := "ParcelLineModel", name := "reply", desc := "(I)I" } : Jvm.MethodName) ∈ mzAll := mz_t6 (List.mem_of_getElem? (i := 226) (by decide +kernel)) (by decide +kernel)
theorem wse_Mo_reply : Jvm.Cond.selects "ParcelLineModel" ({ cls := "ParcelLineModel", name := "reply", desc := "(I)I" } : Jvm.MethodName) ({ cls := "ParcelLineModel", name := "reply", desc := "(I)I" } : Jvm.MethodName) ∈ mzAll := mz_t6 (List.mem_of_getElem? (i := 227) (by decide +kernel)) (by decide +kernel)
theorem wco_Mo_reply : Jvm.Cond.code ({ cls := "ParcelLineModel", name := "reply", desc := "(I)I" } : Jvm.MethodName) prog_14_method_66_code (4 : Nat) (Option.some Jvm.ClassFile.FieldType.int) ∈ mzAll := mz_t6 (List.mem_of_getElem? (i := 228) (by decide +kernel)) (by decide +kernel)
theorem wl_Law_82 : Jvm.Cond.methodLink "ParcelLineLaw" (82 : Nat) ({ cls := "ParcelLineModel", name := "node", desc := "(II)I" } : Jvm.MethodName) ∈ mzAll := mz_t6 (List.mem_of_getElem? (i := 229) (by decide +kernel)) (by decide +kernel)
theorem wi_Mo_node : Jvm.Cond.instanceMethod ({ cls := "ParcelLineModel", name := "node", desc := "(II)I" } : Jvm.MethodName) ∈ mzAll := mz_t6 (List.mem_of_getElem? (i := 230) (by decide +kernel)) (by decide +kernel)
theorem wse_Mo_node : Jvm.Cond.selects "ParcelLineModel" ({ cls := "ParcelLineModel", name := "node", desc := "(II)I" } : Jvm.MethodName) ({ cls := "ParcelLineModel", name := "node", desc := "(II)I" } : Jvm.MethodName) ∈ mzAll := mz_t6 (List.mem_of_getElem? (i := 231) (by decide +kernel)) (by decide +kernel)
theorem wco_Mo_node : Jvm.Cond.code ({ cls := "ParcelLineModel", name := "node", desc := "(II)I" } : Jvm.MethodName) prog_14_method_67_code (3 : Nat) (Option.some Jvm.ClassFile.FieldType.int) ∈ mzAll := mz_t6 (List.mem_of_getElem? (i := 232) (by decide +kernel)) (by decide +kernel)
theorem wl_Law_86 : Jvm.Cond.methodLink "ParcelLineLaw" (86 : Nat) ({ cls := "ParcelLineModel", name := "content", desc := "(II)I" } : Jvm.MethodName) ∈ mzAll := mz_t6 (List.mem_of_getElem? (i := 233) (by decide +kernel)) (by decide +kernel)
theorem wi_Mo_content : Jvm.Cond.instanceMethod ({ cls := "ParcelLineModel", name := "content", desc := "(II)I" } : Jvm.MethodName) ∈ mzAll := mz_t6 (List.mem_of_getElem? (i := 234) (by decide +kernel)) (by decide +kernel)
theorem wse_Mo_content : Jvm.Cond.selects "ParcelLineModel" ({ cls := "ParcelLineModel", name := "content", desc := "(II)I" } : Jvm.MethodName) ({ cls := "ParcelLineModel", name := "content", desc := "(II)I" } : Jvm.MethodName) ∈ mzAll := mz_t6 (List.mem_of_getElem? (i := 235) (by decide +kernel)) (by decide +kernel)
theorem wco_Mo_content : Jvm.Cond.code ({ cls := "ParcelLineModel", name := "content", desc := "(II)I" } : Jvm.MethodName) prog_14_method_68_code (3 : Nat) (Option.some Jvm.ClassFile.FieldType.int) ∈ mzAll := mz_t6 (List.mem_of_getElem? (i := 236) (by decide +kernel)) (by decide +kernel)
theorem wl_Law_90 : Jvm.Cond.methodLink "ParcelLineLaw" (90 : Nat) ({ cls := "ParcelLineModel", name := "current", desc := "(I)I" } : Jvm.MethodName) ∈ mzAll := mz_t6 (List.mem_of_getElem? (i := 237) (by decide +kernel)) (by decide +kernel)
theorem wi_Mo_current : Jvm.Cond.instanceMethod ({ cls := "ParcelLineModel", name := "current", desc := "(I)I" } : Jvm.MethodName) ∈ mzAll := mz_t6 (List.mem_of_getElem? (i := 238) (by decide +kernel)) (by decide +kernel)
theorem wse_Mo_current : Jvm.Cond.selects "ParcelLineModel" ({ cls := "ParcelLineModel", name := "current", desc := "(I)I" } : Jvm.MethodName) ({ cls := "ParcelLineModel", name := "current", desc := "(I)I" } : Jvm.MethodName) ∈ mzAll := mz_t6 (List.mem_of_getElem? (i := 239) (by decide +kernel)) (by decide +kernel)
theorem wco_Mo_current : Jvm.Cond.code ({ cls := "ParcelLineModel", name := "current", desc := "(I)I" } : Jvm.MethodName) prog_14_method_69_code (2 : Nat) (Option.some Jvm.ClassFile.FieldType.int) ∈ mzAll := mz_t7 (List.mem_of_getElem? (i := 0) (by decide +kernel)) (by decide +kernel)
theorem wl_Law_94 : Jvm.Cond.methodLink "ParcelLineLaw" (94 : Nat) ({ cls := "ParcelLineModel", name := "running", desc := "(I)I" } : Jvm.MethodName) ∈ mzAll := mz_t7 (List.mem_of_getElem? (i := 1) (by decide +kernel)) (by decide +kernel)
theorem wi_Mo_running : Jvm.Cond.instanceMethod ({ cls := "ParcelLineModel", name := "running", desc := "(I)I" } : Jvm.MethodName) ∈ mzAll := mz_t7 (List.mem_of_getElem? (i := 2) (by decide +kernel)) (by decide +kernel)
theorem wse_Mo_running : Jvm.Cond.selects "ParcelLineModel" ({ cls := "ParcelLineModel", name := "running", desc := "(I)I" } : Jvm.MethodName) ({ cls := "ParcelLineModel", name := "running", desc := "(I)I" } : Jvm.MethodName) ∈ mzAll := mz_t7 (List.mem_of_getElem? (i := 3) (by decide +kernel)) (by decide +kernel)
theorem wco_Mo_running : Jvm.Cond.code ({ cls := "ParcelLineModel", name := "running", desc := "(I)I" } : Jvm.MethodName) prog_14_method_70_code (2 : Nat) (Option.some Jvm.ClassFile.FieldType.int) ∈ mzAll := mz_t7 (List.mem_of_getElem? (i := 4) (by decide +kernel)) (by decide +kernel)
theorem wl_Law_99 : Jvm.Cond.methodLink "ParcelLineLaw" (99 : Nat) ({ cls := "ParcelLineModel", name := "fill", desc := "(IIII)Z" } : Jvm.MethodName) ∈ mzAll := mz_t7 (List.mem_of_getElem? (i := 5) (by decide +kernel)) (by decide +kernel)
theorem wi_Mo_fill : Jvm.Cond.instanceMethod ({ cls := "ParcelLineModel", name := "fill", desc := "(IIII)Z" } : Jvm.MethodName) ∈ mzAll := mz_t7 (List.mem_of_getElem? (i := 6) (by decide +kernel)) (by decide +kernel)
theorem wse_Mo_fill : Jvm.Cond.selects "ParcelLineModel" ({ cls := "ParcelLineModel", name := "fill", desc := "(IIII)Z" } : Jvm.MethodName) ({ cls := "ParcelLineModel", name := "fill", desc := "(IIII)Z" } : Jvm.MethodName) ∈ mzAll := mz_t7 (List.mem_of_getElem? (i := 7) (by decide +kernel)) (by decide +kernel)
theorem wco_Mo_fill : Jvm.Cond.code ({ cls := "ParcelLineModel", name := "fill", desc := "(IIII)Z" } : Jvm.MethodName) prog_14_method_71_code (7 : Nat) (Option.some Jvm.ClassFile.FieldType.boolean) ∈ mzAll := mz_t7 (List.mem_of_getElem? (i := 8) (by decide +kernel)) (by decide +kernel)
theorem wl_Law_103 : Jvm.Cond.methodLink "ParcelLineLaw" (103 : Nat) ({ cls := "ParcelLineModel", name := "shelf", desc := "(II)I" } : Jvm.MethodName) ∈ mzAll := mz_t7 (List.mem_of_getElem? (i := 9) (by decide +kernel)) (by decide +kernel)
theorem wi_Mo_shelf : Jvm.Cond.instanceMethod ({ cls := "ParcelLineModel", name := "shelf", desc := "(II)I" } : Jvm.MethodName) ∈ mzAll := mz_t7 (List.mem_of_getElem? (i := 10) (by decide +kernel)) (by decide +kernel)
theorem wse_Mo_shelf : Jvm.Cond.selects "ParcelLineModel" ({ cls := "ParcelLineModel", name := "shelf", desc := "(II)I" } : Jvm.MethodName) ({ cls := "ParcelLineModel", name := "shelf", desc := "(II)I" } : Jvm.MethodName) ∈ mzAll := mz_t7 (List.mem_of_getElem? (i := 11) (by decide +kernel)) (by decide +kernel)
theorem wco_Mo_shelf : Jvm.Cond.code ({ cls := "ParcelLineModel", name := "shelf", desc := "(II)I" } : Jvm.MethodName) prog_14_method_72_code (3 : Nat) (Option.some Jvm.ClassFile.FieldType.int) ∈ mzAll := mz_t7 (List.mem_of_getElem? (i := 12) (by decide +kernel)) (by decide +kernel)
theorem wl_Law_107 : Jvm.Cond.methodLink "ParcelLineLaw" (107 : Nat) ({ cls := "ParcelLineModel", name := "job", desc := "(ZIII)V" } : Jvm.MethodName) ∈ mzAll := mz_t7 (List.mem_of_getElem? (i := 13) (by decide +kernel)) (by decide +kernel)
theorem wi_Mo_job : Jvm.Cond.instanceMethod ({ cls := "ParcelLineModel", name := "job", desc := "(ZIII)V" } : Jvm.MethodName) ∈ mzAll := mz_t7 (List.mem_of_getElem? (i := 14) (by decide +kernel)) (by decide +kernel)
theorem wse_Mo_job : Jvm.Cond.selects "ParcelLineModel" ({ cls := "ParcelLineModel", name := "job", desc := "(ZIII)V" } : Jvm.MethodName) ({ cls := "ParcelLineModel", name := "job", desc := "(ZIII)V" } : Jvm.MethodName) ∈ mzAll := mz_t7 (List.mem_of_getElem? (i := 15) (by decide +kernel)) (by decide +kernel)
theorem wco_Mo_job : Jvm.Cond.code ({ cls := "ParcelLineModel", name := "job", desc := "(ZIII)V" } : Jvm.MethodName) prog_14_method_74_code (5 : Nat) (Option.none : Option Jvm.ClassFile.FieldType) ∈ mzAll := mz_t7 (List.mem_of_getElem? (i := 16) (by decide +kernel)) (by decide +kernel)
theorem wl_Mo_336 : Jvm.Cond.methodLink "ParcelLineModel" (336 : Nat) ({ cls := "ParcelLineModel", name := "isName", desc := "(I)Z" } : Jvm.MethodName) ∈ mzAll := mz_t7 (List.mem_of_getElem? (i := 17) (by decide +kernel)) (by decide +kernel)
theorem ws_Mo_isName : Jvm.Cond.static ({ cls := "ParcelLineModel", name := "isName", desc := "(I)Z" } : Jvm.MethodName) ∈ mzAll := mz_t7 (List.mem_of_getElem? (i := 18) (by decide +kernel)) (by decide +kernel)
theorem wco_Mo_isName : Jvm.Cond.code ({ cls := "ParcelLineModel", name := "isName", desc := "(I)Z" } : Jvm.MethodName) prog_14_method_73_code (4 : Nat) (Option.some Jvm.ClassFile.FieldType.boolean) ∈ mzAll := mz_t7 (List.mem_of_getElem? (i := 19) (by decide +kernel)) (by decide +kernel)
theorem wk_Mo_335 : Jvm.Cond.constant "ParcelLineModel" (335 : Nat) (2097152 : Int32) ∈ mzAll := mz_t7 (List.mem_of_getElem? (i := 20) (by decide +kernel)) (by decide +kernel)
theorem wk_Mo_339 : Jvm.Cond.constant "ParcelLineModel" (339 : Nat) (1849076 : Int32) ∈ mzAll := mz_t7 (List.mem_of_getElem? (i := 21) (by decide +kernel)) (by decide +kernel)
theorem wl_Law_111 : Jvm.Cond.methodLink "ParcelLineLaw" (111 : Nat) ({ cls := "ParcelLineModel", name := "step", desc := "()I" } : Jvm.MethodName) ∈ mzAll := mz_t7 (List.mem_of_getElem? (i := 22) (by decide +kernel)) (by decide +kernel)
theorem wi_Mo_step : Jvm.Cond.instanceMethod ({ cls := "ParcelLineModel", name := "step", desc := "()I" } : Jvm.MethodName) ∈ mzAll := mz_t7 (List.mem_of_getElem? (i := 23) (by decide +kernel)) (by decide +kernel)
theorem wse_Mo_step : Jvm.Cond.selects "ParcelLineModel" ({ cls := "ParcelLineModel", name := "step", desc := "()I" } : Jvm.MethodName) ({ cls := "ParcelLineModel", name := "step", desc := "()I" } : Jvm.MethodName) ∈ mzAll := mz_t7 (List.mem_of_getElem? (i := 24) (by decide +kernel)) (by decide +kernel)
theorem wco_Mo_step : Jvm.Cond.code ({ cls := "ParcelLineModel", name := "step", desc := "()I" } : Jvm.MethodName) prog_14_method_81_code (1 : Nat) (Option.some Jvm.ClassFile.FieldType.int) ∈ mzAll := mz_t7 (List.mem_of_getElem? (i := 25) (by decide +kernel)) (by decide +kernel)
theorem wl_Mo_360 : Jvm.Cond.methodLink "ParcelLineModel" (360 : Nat) ({ cls := "ParcelLineModel", name := "login", desc := "()I" } : Jvm.MethodName) ∈ mzAll := mz_t7 (List.mem_of_getElem? (i := 26) (by decide +kernel)) (by decide +kernel)
theorem wi_Mo_login : Jvm.Cond.instanceMethod ({ cls := "ParcelLineModel", name := "login", desc := "()I" } : Jvm.MethodName) ∈ mzAll := mz_t7 (List.mem_of_getElem? (i := 28) (by decide +kernel)) (by decide +kernel)
theorem wco_Mo_login : Jvm.Cond.code ({ cls := "ParcelLineModel", name := "login", desc := "()I" } : Jvm.MethodName) prog_14_method_77_code (2 : Nat) (Option.some Jvm.ClassFile.FieldType.int) ∈ mzAll := mz_t7 (List.mem_of_getElem? (i := 29) (by decide +kernel)) (by decide +kernel)
theorem wl_Mo_349 : Jvm.Cond.methodLink "ParcelLineModel" (349 : Nat) ({ cls := "ParcelLineModel", name := "three", desc := "(III)I" } : Jvm.MethodName) ∈ mzAll := mz_t7 (List.mem_of_getElem? (i := 30) (by decide +kernel)) (by decide +kernel)
theorem ws_Mo_three : Jvm.Cond.static ({ cls := "ParcelLineModel", name := "three", desc := "(III)I" } : Jvm.MethodName) ∈ mzAll := mz_t7 (List.mem_of_getElem? (i := 31) (by decide +kernel)) (by decide +kernel)
theorem wco_Mo_three : Jvm.Cond.code ({ cls := "ParcelLineModel", name := "three", desc := "(III)I" } : Jvm.MethodName) prog_14_method_76_code (3 : Nat) (Option.some Jvm.ClassFile.FieldType.int) ∈ mzAll := mz_t7 (List.mem_of_getElem? (i := 32) (by decide +kernel)) (by decide +kernel)
theorem wl_Mo_353 : Jvm.Cond.methodLink "ParcelLineModel" (353 : Nat) ({ cls := "ParcelLineModel", name := "say", desc := "(IIII)I" } : Jvm.MethodName) ∈ mzAll := mz_t7 (List.mem_of_getElem? (i := 33) (by decide +kernel)) (by decide +kernel)
theorem wi_Mo_say : Jvm.Cond.instanceMethod ({ cls := "ParcelLineModel", name := "say", desc := "(IIII)I" } : Jvm.MethodName) ∈ mzAll := mz_t7 (List.mem_of_getElem? (i := 35) (by decide +kernel)) (by decide +kernel)
theorem wco_Mo_say : Jvm.Cond.code ({ cls := "ParcelLineModel", name := "say", desc := "(IIII)I" } : Jvm.MethodName) prog_14_method_75_code (7 : Nat) (Option.some Jvm.ClassFile.FieldType.int) ∈ mzAll := mz_t7 (List.mem_of_getElem? (i := 36) (by decide +kernel)) (by decide +kernel)
theorem wl_Mo_363 : Jvm.Cond.methodLink "ParcelLineModel" (363 : Nat) ({ cls := "ParcelLineModel", name := "askFor", desc := "()I" } : Jvm.MethodName) ∈ mzAll := mz_t7 (List.mem_of_getElem? (i := 37) (by decide +kernel)) (by decide +kernel)
theorem wi_Mo_askFor : Jvm.Cond.instanceMethod ({ cls := "ParcelLineModel", name := "askFor", desc := "()I" } : Jvm.MethodName) ∈ mzAll := mz_t7 (List.mem_of_getElem? (i := 39) (by decide +kernel)) (by decide +kernel)
theorem wco_Mo_askFor : Jvm.Cond.code ({ cls := "ParcelLineModel", name := "askFor", desc := "()I" } : Jvm.MethodName) prog_14_method_78_code (4 : Nat) (Option.some Jvm.ClassFile.FieldType.int) ∈ mzAll := mz_t7 (List.mem_of_getElem? (i := 40) (by decide +kernel)) (by decide +kernel)
theorem wl_Mo_366 : Jvm.Cond.methodLink "ParcelLineModel" (366 : Nat) ({ cls := "ParcelLineModel", name := "moveByte", desc := "()I" } : Jvm.MethodName) ∈ mzAll := mz_t7 (List.mem_of_getElem? (i := 41) (by decide +kernel)) (by decide +kernel)
theorem wi_Mo_moveByte : Jvm.Cond.instanceMethod ({ cls := "ParcelLineModel", name := "moveByte", desc := "()I" } : Jvm.MethodName) ∈ mzAll := mz_t7 (List.mem_of_getElem? (i := 43) (by decide +kernel)) (by decide +kernel)
theorem wco_Mo_moveByte : Jvm.Cond.code ({ cls := "ParcelLineModel", name := "moveByte", desc := "()I" } : Jvm.MethodName) prog_14_method_79_code (2 : Nat) (Option.some Jvm.ClassFile.FieldType.int) ∈ mzAll := mz_t7 (List.mem_of_getElem? (i := 44) (by decide +kernel)) (by decide +kernel)
theorem wl_Mo_369 : Jvm.Cond.methodLink "ParcelLineModel" (369 : Nat) ({ cls := "ParcelLineModel", name := "putName", desc := "()I" } : Jvm.MethodName) ∈ mzAll := mz_t7 (List.mem_of_getElem? (i := 45) (by decide +kernel)) (by decide +kernel)
theorem wi_Mo_putName : Jvm.Cond.instanceMethod ({ cls := "ParcelLineModel", name := "putName", desc := "()I" } : Jvm.MethodName) ∈ mzAll := mz_t7 (List.mem_of_getElem? (i := 47) (by decide +kernel)) (by decide +kernel)
theorem wco_Mo_putName : Jvm.Cond.code ({ cls := "ParcelLineModel", name := "putName", desc := "()I" } : Jvm.MethodName) prog_14_method_80_code (2 : Nat) (Option.some Jvm.ClassFile.FieldType.int) ∈ mzAll := mz_t7 (List.mem_of_getElem? (i := 48) (by decide +kernel)) (by decide +kernel)
theorem wa_long : Jvm.Cond.arrayClass Jvm.ClassFile.FieldType.long ∈ mzAll := mz_t7 (List.mem_of_getElem? (i := 49) (by decide +kernel)) (by decide +kernel)
theorem wf_JS_9 : Jvm.Cond.fieldLink "java/lang/String" (9 : Nat) "java/lang/String" "value" "[B" ∈ mzAll := mz_t7 (List.mem_of_getElem? (i := 52) (by decide +kernel)) (by decide +kernel)
theorem wf_JS_15 : Jvm.Cond.fieldLink "java/lang/String" (15 : Nat) "java/lang/String" "coder" "B" ∈ mzAll := mz_t7 (List.mem_of_getElem? (i := 53) (by decide +kernel)) (by decide +kernel)
theorem wf_JE_7 : Jvm.Cond.fieldLink "java/lang/Enum" (7 : Nat) "java/lang/Enum" "ordinal" "I" ∈ mzAll := mz_t7 (List.mem_of_getElem? (i := 57) (by decide +kernel)) (by decide +kernel)
theorem wse_Lin_readLineByte : Cond.selects "ParcelLine$LineReader" ⟨"ParcelLine$LineReader", "readLineByte", "(I)Z"⟩ ⟨"ParcelLine$LineReader", "readLineByte", "(I)Z"⟩ ∈ mzAll := mz_tp (List.mem_of_getElem? (i := 0) (by decide +kernel)) (by decide +kernel)
theorem wse_Lin_keep : Cond.selects "ParcelLine$LineReader" ⟨"ParcelLine$LineReader", "keep", "(I)V"⟩ ⟨"ParcelLine$LineReader", "keep", "(I)V"⟩ ∈ mzAll := mz_tp (List.mem_of_getElem? (i := 1) (by decide +kernel)) (by decide +kernel)
theorem wse_Lin_answerOrder : Cond.selects "ParcelLine$LineReader" ⟨"ParcelLine$LineReader", "answerOrder", "(II)V"⟩ ⟨"ParcelLine$LineReader", "answerOrder", "(II)V"⟩ ∈ mzAll := mz_tp (List.mem_of_getElem? (i := 2) (by decide +kernel)) (by decide +kernel)
theorem wse_Rep_keepDraft : Cond.selects "ParcelLine$Replies" ⟨"ParcelLine$Replies", "keepDraft", "()V"⟩ ⟨"ParcelLine$Replies", "keepDraft", "()V"⟩ ∈ mzAll := mz_tp (List.mem_of_getElem? (i := 3) (by decide +kernel)) (by decide +kernel)
theorem wse_Path_addStep : Cond.selects "ParcelLine$Path" ⟨"ParcelLine$Path", "addStep", "(I)V"⟩ ⟨"ParcelLine$Path", "addStep", "(I)V"⟩ ∈ mzAll := mz_tp (List.mem_of_getElem? (i := 4) (by decide +kernel)) (by decide +kernel)
theorem wse_Ses_recognise : Cond.selects "ParcelLine$Session" ⟨"ParcelLine$Session", "recognise", "()LParcelLine$Command;"⟩ ⟨"ParcelLine$Session", "recognise", "()LParcelLine$Command;"⟩ ∈ mzAll := mz_tp (List.mem_of_getElem? (i := 5) (by decide +kernel)) (by decide +kernel)
theorem wse_Ses_refusal : Cond.selects "ParcelLine$Session" ⟨"ParcelLine$Session", "refusal", "(LParcelLine$Command;)I"⟩ ⟨"ParcelLine$Session", "refusal", "(LParcelLine$Command;)I"⟩ ∈ mzAll := mz_tp (List.mem_of_getElem? (i := 6) (by decide +kernel)) (by decide +kernel)
theorem wse_Ses_argumentFits : Cond.selects "ParcelLine$Session" ⟨"ParcelLine$Session", "argumentFits", "(I)Z"⟩ ⟨"ParcelLine$Session", "argumentFits", "(I)Z"⟩ ∈ mzAll := mz_tp (List.mem_of_getElem? (i := 7) (by decide +kernel)) (by decide +kernel)
theorem wse_Ses_locate : Cond.selects "ParcelLine$Session" ⟨"ParcelLine$Session", "locate", "()V"⟩ ⟨"ParcelLine$Session", "locate", "()V"⟩ ∈ mzAll := mz_tp (List.mem_of_getElem? (i := 8) (by decide +kernel)) (by decide +kernel)
theorem wse_Ses_obeyPath : Cond.selects "ParcelLine$Session" ⟨"ParcelLine$Session", "obeyPath", "(LParcelLine$Command;)I"⟩ ⟨"ParcelLine$Session", "obeyPath", "(LParcelLine$Command;)I"⟩ ∈ mzAll := mz_tp (List.mem_of_getElem? (i := 9) (by decide +kernel)) (by decide +kernel)
theorem wse_Ses_changeDirectory : Cond.selects "ParcelLine$Session" ⟨"ParcelLine$Session", "changeDirectory", "()I"⟩ ⟨"ParcelLine$Session", "changeDirectory", "()I"⟩ ∈ mzAll := mz_tp (List.mem_of_getElem? (i := 10) (by decide +kernel)) (by decide +kernel)
theorem wse_Ses_tellSize : Cond.selects "ParcelLine$Session" ⟨"ParcelLine$Session", "tellSize", "()I"⟩ ⟨"ParcelLine$Session", "tellSize", "()I"⟩ ∈ mzAll := mz_tp (List.mem_of_getElem? (i := 11) (by decide +kernel)) (by decide +kernel)
theorem wse_Ses_sendFile : Cond.selects "ParcelLine$Session" ⟨"ParcelLine$Session", "sendFile", "()I"⟩ ⟨"ParcelLine$Session", "sendFile", "()I"⟩ ∈ mzAll := mz_tp (List.mem_of_getElem? (i := 12) (by decide +kernel)) (by decide +kernel)
theorem wse_Way_load : Cond.selects "ParcelLine$DataWay" ⟨"ParcelLine$DataWay", "load", "(I)V"⟩ ⟨"ParcelLine$DataWay", "load", "(I)V"⟩ ∈ mzAll := mz_tp (List.mem_of_getElem? (i := 13) (by decide +kernel)) (by decide +kernel)
theorem wse_Ses_receiveFile : Cond.selects "ParcelLine$Session" ⟨"ParcelLine$Session", "receiveFile", "(I)I"⟩ ⟨"ParcelLine$Session", "receiveFile", "(I)I"⟩ ∈ mzAll := mz_tp (List.mem_of_getElem? (i := 14) (by decide +kernel)) (by decide +kernel)
theorem wse_Ses_targetSize : Cond.selects "ParcelLine$Session" ⟨"ParcelLine$Session", "targetSize", "()I"⟩ ⟨"ParcelLine$Session", "targetSize", "()I"⟩ ∈ mzAll := mz_tp (List.mem_of_getElem? (i := 15) (by decide +kernel)) (by decide +kernel)
theorem wse_Ses_removeFile : Cond.selects "ParcelLine$Session" ⟨"ParcelLine$Session", "removeFile", "()I"⟩ ⟨"ParcelLine$Session", "removeFile", "()I"⟩ ∈ mzAll := mz_tp (List.mem_of_getElem? (i := 16) (by decide +kernel)) (by decide +kernel)
theorem wse_Ses_makeDirectory : Cond.selects "ParcelLine$Session" ⟨"ParcelLine$Session", "makeDirectory", "()I"⟩ ⟨"ParcelLine$Session", "makeDirectory", "()I"⟩ ∈ mzAll := mz_tp (List.mem_of_getElem? (i := 17) (by decide +kernel)) (by decide +kernel)
theorem wse_Ses_removeDirectory : Cond.selects "ParcelLine$Session" ⟨"ParcelLine$Session", "removeDirectory", "()I"⟩ ⟨"ParcelLine$Session", "removeDirectory", "()I"⟩ ∈ mzAll := mz_tp (List.mem_of_getElem? (i := 18) (by decide +kernel)) (by decide +kernel)
theorem wse_Ses_chooseForRename : Cond.selects "ParcelLine$Session" ⟨"ParcelLine$Session", "chooseForRename", "()I"⟩ ⟨"ParcelLine$Session", "chooseForRename", "()I"⟩ ∈ mzAll := mz_tp (List.mem_of_getElem? (i := 19) (by decide +kernel)) (by decide +kernel)
theorem wse_Ses_rename : Cond.selects "ParcelLine$Session" ⟨"ParcelLine$Session", "rename", "()I"⟩ ⟨"ParcelLine$Session", "rename", "()I"⟩ ∈ mzAll := mz_tp (List.mem_of_getElem? (i := 20) (by decide +kernel)) (by decide +kernel)
theorem wse_Ses_obeyPlain : Cond.selects "ParcelLine$Session" ⟨"ParcelLine$Session", "obeyPlain", "(LParcelLine$Command;)I"⟩ ⟨"ParcelLine$Session", "obeyPlain", "(LParcelLine$Command;)I"⟩ ∈ mzAll := mz_tp (List.mem_of_getElem? (i := 21) (by decide +kernel)) (by decide +kernel)
theorem wse_Ses_nameUser : Cond.selects "ParcelLine$Session" ⟨"ParcelLine$Session", "nameUser", "()I"⟩ ⟨"ParcelLine$Session", "nameUser", "()I"⟩ ∈ mzAll := mz_tp (List.mem_of_getElem? (i := 22) (by decide +kernel)) (by decide +kernel)
theorem wse_Ses_logOut : Cond.selects "ParcelLine$Session" ⟨"ParcelLine$Session", "logOut", "()V"⟩ ⟨"ParcelLine$Session", "logOut", "()V"⟩ ∈ mzAll := mz_tp (List.mem_of_getElem? (i := 23) (by decide +kernel)) (by decide +kernel)
theorem wse_Ses_logIn : Cond.selects "ParcelLine$Session" ⟨"ParcelLine$Session", "logIn", "()I"⟩ ⟨"ParcelLine$Session", "logIn", "()I"⟩ ∈ mzAll := mz_tp (List.mem_of_getElem? (i := 24) (by decide +kernel)) (by decide +kernel)
theorem wse_Ses_startOver : Cond.selects "ParcelLine$Session" ⟨"ParcelLine$Session", "startOver", "()V"⟩ ⟨"ParcelLine$Session", "startOver", "()V"⟩ ∈ mzAll := mz_tp (List.mem_of_getElem? (i := 25) (by decide +kernel)) (by decide +kernel)
theorem wse_Ses_sendNames : Cond.selects "ParcelLine$Session" ⟨"ParcelLine$Session", "sendNames", "()I"⟩ ⟨"ParcelLine$Session", "sendNames", "()I"⟩ ∈ mzAll := mz_tp (List.mem_of_getElem? (i := 26) (by decide +kernel)) (by decide +kernel)
theorem wse_Ses_abort : Cond.selects "ParcelLine$Session" ⟨"ParcelLine$Session", "abort", "()I"⟩ ⟨"ParcelLine$Session", "abort", "()I"⟩ ∈ mzAll := mz_tp (List.mem_of_getElem? (i := 27) (by decide +kernel)) (by decide +kernel)
theorem wse_Ses_forget : Cond.selects "ParcelLine$Session" ⟨"ParcelLine$Session", "forget", "(LParcelLine$Command;)V"⟩ ⟨"ParcelLine$Session", "forget", "(LParcelLine$Command;)V"⟩ ∈ mzAll := mz_tp (List.mem_of_getElem? (i := 28) (by decide +kernel)) (by decide +kernel)
theorem wse_Ses_answer : Cond.selects "ParcelLine$Session" ⟨"ParcelLine$Session", "answer", "(I)V"⟩ ⟨"ParcelLine$Session", "answer", "(I)V"⟩ ∈ mzAll := mz_tp (List.mem_of_getElem? (i := 29) (by decide +kernel)) (by decide +kernel)
theorem wse_Ses_endIfSpent : Cond.selects "ParcelLine$Session" ⟨"ParcelLine$Session", "endIfSpent", "()V"⟩ ⟨"ParcelLine$Session", "endIfSpent", "()V"⟩ ∈ mzAll := mz_tp (List.mem_of_getElem? (i := 30) (by decide +kernel)) (by decide +kernel)
theorem wse_Cop_say : Cond.selects "ParcelLine$Copier" ⟨"ParcelLine$Copier", "say", "(Ljava/lang/String;I)V"⟩ ⟨"ParcelLine$Copier", "say", "(Ljava/lang/String;I)V"⟩ ∈ mzAll := mz_tp (List.mem_of_getElem? (i := 32) (by decide +kernel)) (by decide +kernel)
theorem wse_Cop_goTo : Cond.selects "ParcelLine$Copier" ⟨"ParcelLine$Copier", "goTo", "(I)I"⟩ ⟨"ParcelLine$Copier", "goTo", "(I)I"⟩ ∈ mzAll := mz_tp (List.mem_of_getElem? (i := 33) (by decide +kernel)) (by decide +kernel)
theorem wse_Mo_beginSession : Cond.selects "ParcelLineModel" ⟨"ParcelLineModel", "beginSession", "(I)V"⟩ ⟨"ParcelLineModel", "beginSession", "(I)V"⟩ ∈ mzAll := mz_tp (List.mem_of_getElem? (i := 34) (by decide +kernel)) (by decide +kernel)
theorem wse_Mo_endTransfer : Cond.selects "ParcelLineModel" ⟨"ParcelLineModel", "endTransfer", "(I)V"⟩ ⟨"ParcelLineModel", "endTransfer", "(I)V"⟩ ∈ mzAll := mz_tp (List.mem_of_getElem? (i := 35) (by decide +kernel)) (by decide +kernel)
theorem wse_Mo_keep : Cond.selects "ParcelLineModel" ⟨"ParcelLineModel", "keep", "(II)V"⟩ ⟨"ParcelLineModel", "keep", "(II)V"⟩ ∈ mzAll := mz_tp (List.mem_of_getElem? (i := 36) (by decide +kernel)) (by decide +kernel)
theorem wse_Mo_take1 : Cond.selects "ParcelLineModel" ⟨"ParcelLineModel", "take1", "(II)V"⟩ ⟨"ParcelLineModel", "take1", "(II)V"⟩ ∈ mzAll := mz_tp (List.mem_of_getElem? (i := 37) (by decide +kernel)) (by decide +kernel)
theorem wse_Mo_hasRoom : Cond.selects "ParcelLineModel" ⟨"ParcelLineModel", "hasRoom", "(II)Z"⟩ ⟨"ParcelLineModel", "hasRoom", "(II)Z"⟩ ∈ mzAll := mz_tp (List.mem_of_getElem? (i := 38) (by decide +kernel)) (by decide +kernel)
theorem wse_Mo_put : Cond.selects "ParcelLineModel" ⟨"ParcelLineModel", "put", "(II)V"⟩ ⟨"ParcelLineModel", "put", "(II)V"⟩ ∈ mzAll := mz_tp (List.mem_of_getElem? (i := 39) (by decide +kernel)) (by decide +kernel)
theorem wse_Mo_plain : Cond.selects "ParcelLineModel" ⟨"ParcelLineModel", "plain", "(II)V"⟩ ⟨"ParcelLineModel", "plain", "(II)V"⟩ ∈ mzAll := mz_tp (List.mem_of_getElem? (i := 40) (by decide +kernel)) (by decide +kernel)
theorem wse_Mo_doLine : Cond.selects "ParcelLineModel" ⟨"ParcelLineModel", "doLine", "()V"⟩ ⟨"ParcelLineModel", "doLine", "()V"⟩ ∈ mzAll := mz_tp (List.mem_of_getElem? (i := 41) (by decide +kernel)) (by decide +kernel)
theorem wse_Mo_command : Cond.selects "ParcelLineModel" ⟨"ParcelLineModel", "command", "()I"⟩ ⟨"ParcelLineModel", "command", "()I"⟩ ∈ mzAll := mz_tp (List.mem_of_getElem? (i := 42) (by decide +kernel)) (by decide +kernel)
theorem wse_Mo_ch : Cond.selects "ParcelLineModel" ⟨"ParcelLineModel", "ch", "(I)I"⟩ ⟨"ParcelLineModel", "ch", "(I)I"⟩ ∈ mzAll := mz_tp (List.mem_of_getElem? (i := 43) (by decide +kernel)) (by decide +kernel)
theorem wse_Mo_answer : Cond.selects "ParcelLineModel" ⟨"ParcelLineModel", "answer", "(I)V"⟩ ⟨"ParcelLineModel", "answer", "(I)V"⟩ ∈ mzAll := mz_tp (List.mem_of_getElem? (i := 44) (by decide +kernel)) (by decide +kernel)
theorem wse_Mo_answered : Cond.selects "ParcelLineModel" ⟨"ParcelLineModel", "answered", "(I)V"⟩ ⟨"ParcelLineModel", "answered", "(I)V"⟩ ∈ mzAll := mz_tp (List.mem_of_getElem? (i := 45) (by decide +kernel)) (by decide +kernel)
theorem wse_Mo_putCode : Cond.selects "ParcelLineModel" ⟨"ParcelLineModel", "putCode", "(I)V"⟩ ⟨"ParcelLineModel", "putCode", "(I)V"⟩ ∈ mzAll := mz_tp (List.mem_of_getElem? (i := 46) (by decide +kernel)) (by decide +kernel)
theorem wse_Mo_putEnd : Cond.selects "ParcelLineModel" ⟨"ParcelLineModel", "putEnd", "()V"⟩ ⟨"ParcelLineModel", "putEnd", "()V"⟩ ∈ mzAll := mz_tp (List.mem_of_getElem? (i := 47) (by decide +kernel)) (by decide +kernel)
theorem wse_Mo_argumentGood : Cond.selects "ParcelLineModel" ⟨"ParcelLineModel", "argumentGood", "(I)Z"⟩ ⟨"ParcelLineModel", "argumentGood", "(I)Z"⟩ ∈ mzAll := mz_tp (List.mem_of_getElem? (i := 48) (by decide +kernel)) (by decide +kernel)
theorem wse_Mo_hasArgument : Cond.selects "ParcelLineModel" ⟨"ParcelLineModel", "hasArgument", "()Z"⟩ ⟨"ParcelLineModel", "hasArgument", "()Z"⟩ ∈ mzAll := mz_tp (List.mem_of_getElem? (i := 49) (by decide +kernel)) (by decide +kernel)
theorem wse_Mo_number : Cond.selects "ParcelLineModel" ⟨"ParcelLineModel", "number", "()I"⟩ ⟨"ParcelLineModel", "number", "()I"⟩ ∈ mzAll := mz_tp (List.mem_of_getElem? (i := 50) (by decide +kernel)) (by decide +kernel)
theorem wse_Mo_isPathCommand : Cond.selects "ParcelLineModel" ⟨"ParcelLineModel", "isPathCommand", "(I)Z"⟩ ⟨"ParcelLineModel", "isPathCommand", "(I)Z"⟩ ∈ mzAll := mz_tp (List.mem_of_getElem? (i := 51) (by decide +kernel)) (by decide +kernel)
theorem wse_Mo_isPath : Cond.selects "ParcelLineModel" ⟨"ParcelLineModel", "isPath", "()Z"⟩ ⟨"ParcelLineModel", "isPath", "()Z"⟩ ∈ mzAll := mz_tp (List.mem_of_getElem? (i := 52) (by decide +kernel)) (by decide +kernel)
theorem wse_Mo_stepEnd : Cond.selects "ParcelLineModel" ⟨"ParcelLineModel", "stepEnd", "(I)I"⟩ ⟨"ParcelLineModel", "stepEnd", "(I)I"⟩ ∈ mzAll := mz_tp (List.mem_of_getElem? (i := 53) (by decide +kernel)) (by decide +kernel)
theorem wse_Mo_doEarly : Cond.selects "ParcelLineModel" ⟨"ParcelLineModel", "doEarly", "(II)V"⟩ ⟨"ParcelLineModel", "doEarly", "(II)V"⟩ ∈ mzAll := mz_tp (List.mem_of_getElem? (i := 54) (by decide +kernel)) (by decide +kernel)
theorem wse_Mo_says : Cond.selects "ParcelLineModel" ⟨"ParcelLineModel", "says", "(III)Z"⟩ ⟨"ParcelLineModel", "says", "(III)Z"⟩ ∈ mzAll := mz_tp (List.mem_of_getElem? (i := 55) (by decide +kernel)) (by decide +kernel)
theorem wse_Mo_follow : Cond.selects "ParcelLineModel" ⟨"ParcelLineModel", "follow", "()V"⟩ ⟨"ParcelLineModel", "follow", "()V"⟩ ∈ mzAll := mz_tp (List.mem_of_getElem? (i := 56) (by decide +kernel)) (by decide +kernel)
theorem wse_Mo_nameAt : Cond.selects "ParcelLineModel" ⟨"ParcelLineModel", "nameAt", "(II)I"⟩ ⟨"ParcelLineModel", "nameAt", "(II)I"⟩ ∈ mzAll := mz_tp (List.mem_of_getElem? (i := 57) (by decide +kernel)) (by decide +kernel)
theorem wse_Mo_child : Cond.selects "ParcelLineModel" ⟨"ParcelLineModel", "child", "(II)I"⟩ ⟨"ParcelLineModel", "child", "(II)I"⟩ ∈ mzAll := mz_tp (List.mem_of_getElem? (i := 58) (by decide +kernel)) (by decide +kernel)
theorem wse_Mo_doTransfer : Cond.selects "ParcelLineModel" ⟨"ParcelLineModel", "doTransfer", "(II)V"⟩ ⟨"ParcelLineModel", "doTransfer", "(II)V"⟩ ∈ mzAll := mz_tp (List.mem_of_getElem? (i := 59) (by decide +kernel)) (by decide +kernel)
theorem wse_Mo_retrieve : Cond.selects "ParcelLineModel" ⟨"ParcelLineModel", "retrieve", "(I)V"⟩ ⟨"ParcelLineModel", "retrieve", "(I)V"⟩ ∈ mzAll := mz_tp (List.mem_of_getElem? (i := 60) (by decide +kernel)) (by decide +kernel)
theorem wse_Mo_written : Cond.selects "ParcelLineModel" ⟨"ParcelLineModel", "written", "(I)Z"⟩ ⟨"ParcelLineModel", "written", "(I)Z"⟩ ∈ mzAll := mz_tp (List.mem_of_getElem? (i := 61) (by decide +kernel)) (by decide +kernel)
theorem wse_Mo_addOut : Cond.selects "ParcelLineModel" ⟨"ParcelLineModel", "addOut", "(I)V"⟩ ⟨"ParcelLineModel", "addOut", "(I)V"⟩ ∈ mzAll := mz_tp (List.mem_of_getElem? (i := 62) (by decide +kernel)) (by decide +kernel)
theorem wse_Mo_beginSending : Cond.selects "ParcelLineModel" ⟨"ParcelLineModel", "beginSending", "(I)V"⟩ ⟨"ParcelLineModel", "beginSending", "(I)V"⟩ ∈ mzAll := mz_tp (List.mem_of_getElem? (i := 63) (by decide +kernel)) (by decide +kernel)
theorem wse_Mo_finish : Cond.selects "ParcelLineModel" ⟨"ParcelLineModel", "finish", "(I)V"⟩ ⟨"ParcelLineModel", "finish", "(I)V"⟩ ∈ mzAll := mz_tp (List.mem_of_getElem? (i := 64) (by decide +kernel)) (by decide +kernel)
theorem wse_Mo_freeNode : Cond.selects "ParcelLineModel" ⟨"ParcelLineModel", "freeNode", "()I"⟩ ⟨"ParcelLineModel", "freeNode", "()I"⟩ ∈ mzAll := mz_tp (List.mem_of_getElem? (i := 65) (by decide +kernel)) (by decide +kernel)
theorem wse_Mo_moved : Cond.selects "ParcelLineModel" ⟨"ParcelLineModel", "moved", "(I)Z"⟩ ⟨"ParcelLineModel", "moved", "(I)Z"⟩ ∈ mzAll := mz_tp (List.mem_of_getElem? (i := 66) (by decide +kernel)) (by decide +kernel)
theorem wse_Mo_create : Cond.selects "ParcelLineModel" ⟨"ParcelLineModel", "create", "(IZ)V"⟩ ⟨"ParcelLineModel", "create", "(IZ)V"⟩ ∈ mzAll := mz_tp (List.mem_of_getElem? (i := 67) (by decide +kernel)) (by decide +kernel)
theorem wse_Mo_doPath : Cond.selects "ParcelLineModel" ⟨"ParcelLineModel", "doPath", "(II)V"⟩ ⟨"ParcelLineModel", "doPath", "(II)V"⟩ ∈ mzAll := mz_tp (List.mem_of_getElem? (i := 68) (by decide +kernel)) (by decide +kernel)
theorem wse_Mo_replySize : Cond.selects "ParcelLineModel" ⟨"ParcelLineModel", "replySize", "(I)V"⟩ ⟨"ParcelLineModel", "replySize", "(I)V"⟩ ∈ mzAll := mz_tp (List.mem_of_getElem? (i := 69) (by decide +kernel)) (by decide +kernel)
theorem wse_Mo_deleteFile : Cond.selects "ParcelLineModel" ⟨"ParcelLineModel", "deleteFile", "()I"⟩ ⟨"ParcelLineModel", "deleteFile", "()I"⟩ ∈ mzAll := mz_tp (List.mem_of_getElem? (i := 70) (by decide +kernel)) (by decide +kernel)
theorem wse_Mo_replyPath : Cond.selects "ParcelLineModel" ⟨"ParcelLineModel", "replyPath", "(I)V"⟩ ⟨"ParcelLineModel", "replyPath", "(I)V"⟩ ∈ mzAll := mz_tp (List.mem_of_getElem? (i := 71) (by decide +kernel)) (by decide +kernel)
theorem wse_Mo_depth : Cond.selects "ParcelLineModel" ⟨"ParcelLineModel", "depth", "(I)I"⟩ ⟨"ParcelLineModel", "depth", "(I)I"⟩ ∈ mzAll := mz_tp (List.mem_of_getElem? (i := 72) (by decide +kernel)) (by decide +kernel)
theorem wse_Mo_above : Cond.selects "ParcelLineModel" ⟨"ParcelLineModel", "above", "(II)I"⟩ ⟨"ParcelLineModel", "above", "(II)I"⟩ ∈ mzAll := mz_tp (List.mem_of_getElem? (i := 73) (by decide +kernel)) (by decide +kernel)
theorem wse_Mo_removeDirectory : Cond.selects "ParcelLineModel" ⟨"ParcelLineModel", "removeDirectory", "()I"⟩ ⟨"ParcelLineModel", "removeDirectory", "()I"⟩ ∈ mzAll := mz_tp (List.mem_of_getElem? (i := 74) (by decide +kernel)) (by decide +kernel)
theorem wse_Mo_inside : Cond.selects "ParcelLineModel" ⟨"ParcelLineModel", "inside", "(I)I"⟩ ⟨"ParcelLineModel", "inside", "(I)I"⟩ ∈ mzAll := mz_tp (List.mem_of_getElem? (i := 75) (by decide +kernel)) (by decide +kernel)
theorem wse_Mo_renameTo : Cond.selects "ParcelLineModel" ⟨"ParcelLineModel", "renameTo", "(I)I"⟩ ⟨"ParcelLineModel", "renameTo", "(I)I"⟩ ∈ mzAll := mz_tp (List.mem_of_getElem? (i := 76) (by decide +kernel)) (by decide +kernel)
theorem wse_Mo_isBelow : Cond.selects "ParcelLineModel" ⟨"ParcelLineModel", "isBelow", "(II)Z"⟩ ⟨"ParcelLineModel", "isBelow", "(II)Z"⟩ ∈ mzAll := mz_tp (List.mem_of_getElem? (i := 77) (by decide +kernel)) (by decide +kernel)
theorem wse_Mo_doOther : Cond.selects "ParcelLineModel" ⟨"ParcelLineModel", "doOther", "(I)V"⟩ ⟨"ParcelLineModel", "doOther", "(I)V"⟩ ∈ mzAll := mz_tp (List.mem_of_getElem? (i := 78) (by decide +kernel)) (by decide +kernel)
theorem wse_Mo_sendNames : Cond.selects "ParcelLineModel" ⟨"ParcelLineModel", "sendNames", "()V"⟩ ⟨"ParcelLineModel", "sendNames", "()V"⟩ ∈ mzAll := mz_tp (List.mem_of_getElem? (i := 79) (by decide +kernel)) (by decide +kernel)
theorem wse_Mo_addToLine : Cond.selects "ParcelLineModel" ⟨"ParcelLineModel", "addToLine", "(II)V"⟩ ⟨"ParcelLineModel", "addToLine", "(II)V"⟩ ∈ mzAll := mz_tp (List.mem_of_getElem? (i := 80) (by decide +kernel)) (by decide +kernel)
theorem wse_Mo_closeWay : Cond.selects "ParcelLineModel" ⟨"ParcelLineModel", "closeWay", "(I)V"⟩ ⟨"ParcelLineModel", "closeWay", "(I)V"⟩ ∈ mzAll := mz_tp (List.mem_of_getElem? (i := 81) (by decide +kernel)) (by decide +kernel)
theorem wse_Mo_bringOne : Cond.selects "ParcelLineModel" ⟨"ParcelLineModel", "bringOne", "(II)V"⟩ ⟨"ParcelLineModel", "bringOne", "(II)V"⟩ ∈ mzAll := mz_tp (List.mem_of_getElem? (i := 82) (by decide +kernel)) (by decide +kernel)
theorem wse_Mo_fail : Cond.selects "ParcelLineModel" ⟨"ParcelLineModel", "fail", "(I)I"⟩ ⟨"ParcelLineModel", "fail", "(I)I"⟩ ∈ mzAll := mz_tp (List.mem_of_getElem? (i := 83) (by decide +kernel)) (by decide +kernel)
theorem wse_Mo_takeOne : Cond.selects "ParcelLineModel" ⟨"ParcelLineModel", "takeOne", "(I)I"⟩ ⟨"ParcelLineModel", "takeOne", "(I)I"⟩ ∈ mzAll := mz_tp (List.mem_of_getElem? (i := 84) (by decide +kernel)) (by decide +kernel)
theorem wse_Mo_cutSession : Cond.selects "ParcelLineModel" ⟨"ParcelLineModel", "cutSession", "(I)V"⟩ ⟨"ParcelLineModel", "cutSession", "(I)V"⟩ ∈ mzAll := mz_tp (List.mem_of_getElem? (i := 85) (by decide +kernel)) (by decide +kernel)
theorem wse_Mo_loseTry : Cond.selects "ParcelLineModel" ⟨"ParcelLineModel", "loseTry", "()V"⟩ ⟨"ParcelLineModel", "loseTry", "()V"⟩ ∈ mzAll := mz_tp (List.mem_of_getElem? (i := 86) (by decide +kernel)) (by decide +kernel)
theorem wse_Mo_login : Cond.selects "ParcelLineModel" ⟨"ParcelLineModel", "login", "()I"⟩ ⟨"ParcelLineModel", "login", "()I"⟩ ∈ mzAll := mz_tp (List.mem_of_getElem? (i := 87) (by decide +kernel)) (by decide +kernel)
theorem wse_Mo_say : Cond.selects "ParcelLineModel" ⟨"ParcelLineModel", "say", "(IIII)I"⟩ ⟨"ParcelLineModel", "say", "(IIII)I"⟩ ∈ mzAll := mz_tp (List.mem_of_getElem? (i := 88) (by decide +kernel)) (by decide +kernel)
theorem wse_Mo_askFor : Cond.selects "ParcelLineModel" ⟨"ParcelLineModel", "askFor", "()I"⟩ ⟨"ParcelLineModel", "askFor", "()I"⟩ ∈ mzAll := mz_tp (List.mem_of_getElem? (i := 89) (by decide +kernel)) (by decide +kernel)
theorem wse_Mo_moveByte : Cond.selects "ParcelLineModel" ⟨"ParcelLineModel", "moveByte", "()I"⟩ ⟨"ParcelLineModel", "moveByte", "()I"⟩ ∈ mzAll := mz_tp (List.mem_of_getElem? (i := 90) (by decide +kernel)) (by decide +kernel)
theorem wse_Mo_putName : Cond.selects "ParcelLineModel" ⟨"ParcelLineModel", "putName", "()I"⟩ ⟨"ParcelLineModel", "putName", "()I"⟩ ∈ mzAll := mz_tp (List.mem_of_getElem? (i := 91) (by decide +kernel)) (by decide +kernel)
theorem wf_Way_35 : mzNw (Jvm.Cond.fieldLinkNest "ParcelLine$DataWay" (35 : Nat) "ParcelLine$ByteRow" "count" "I" "ParcelLine") ∈ mzRo := mz_nest (List.mem_of_getElem? (i := 0) (by decide +kernel))
theorem wf_Cop_85 : mzNw (Jvm.Cond.fieldLinkNest "ParcelLine$Copier" (85 : Nat) "ParcelLine$ByteRow" "count" "I" "ParcelLine") ∈ mzRo := mz_nest (List.mem_of_getElem? (i := 1) (by decide +kernel))
theorem wf_Store_62 : mzNw (Jvm.Cond.fieldLinkNest "ParcelLine$Store" (62 : Nat) "ParcelLine$ByteRow" "count" "I" "ParcelLine") ∈ mzRo := mz_nest (List.mem_of_getElem? (i := 2) (by decide +kernel))
theorem wf_PL_132 : mzNw (Jvm.Cond.fieldLinkNest "ParcelLine" (132 : Nat) "ParcelLine$ByteRow" "count" "I" "ParcelLine") ∈ mzRo := mz_nest (List.mem_of_getElem? (i := 3) (by decide +kernel))
theorem wf_Ses_339 : mzNw (Jvm.Cond.fieldLinkNest "ParcelLine$Session" (339 : Nat) "ParcelLine$ByteRow" "count" "I" "ParcelLine") ∈ mzRo := mz_nest (List.mem_of_getElem? (i := 4) (by decide +kernel))
theorem wf_Way_31 : mzNw (Jvm.Cond.fieldLinkNest "ParcelLine$DataWay" (31 : Nat) "ParcelLine$Node" "bytes" "LParcelLine$ByteRow;" "ParcelLine") ∈ mzRo := mz_nest (List.mem_of_getElem? (i := 5) (by decide +kernel))
theorem wf_Store_58 : mzNw (Jvm.Cond.fieldLinkNest "ParcelLine$Store" (58 : Nat) "ParcelLine$Node" "bytes" "LParcelLine$ByteRow;" "ParcelLine") ∈ mzRo := mz_nest (List.mem_of_getElem? (i := 6) (by decide +kernel))
theorem wf_PL_128 : mzNw (Jvm.Cond.fieldLinkNest "ParcelLine" (128 : Nat) "ParcelLine$Node" "bytes" "LParcelLine$ByteRow;" "ParcelLine") ∈ mzRo := mz_nest (List.mem_of_getElem? (i := 7) (by decide +kernel))
theorem wf_Cop_121 : mzNw (Jvm.Cond.fieldLinkNest "ParcelLine$Copier" (121 : Nat) "ParcelLine$Node" "bytes" "LParcelLine$ByteRow;" "ParcelLine") ∈ mzRo := mz_nest (List.mem_of_getElem? (i := 8) (by decide +kernel))
theorem wf_Ses_335 : mzNw (Jvm.Cond.fieldLinkNest "ParcelLine$Session" (335 : Nat) "ParcelLine$Node" "bytes" "LParcelLine$ByteRow;" "ParcelLine") ∈ mzRo := mz_nest (List.mem_of_getElem? (i := 9) (by decide +kernel))
theorem wf_Store_18 : mzNw (Jvm.Cond.fieldLinkNest "ParcelLine$Store" (18 : Nat) "ParcelLine$Node" "kind" "I" "ParcelLine") ∈ mzRo := mz_nest (List.mem_of_getElem? (i := 10) (by decide +kernel))
theorem wf_PL_125 : mzNw (Jvm.Cond.fieldLinkNest "ParcelLine" (125 : Nat) "ParcelLine$Node" "kind" "I" "ParcelLine") ∈ mzRo := mz_nest (List.mem_of_getElem? (i := 11) (by decide +kernel))
theorem wf_Ses_357 : mzNw (Jvm.Cond.fieldLinkNest "ParcelLine$Session" (357 : Nat) "ParcelLine$Node" "kind" "I" "ParcelLine") ∈ mzRo := mz_nest (List.mem_of_getElem? (i := 12) (by decide +kernel))
theorem wf_Store_22 : mzNw (Jvm.Cond.fieldLinkNest "ParcelLine$Store" (22 : Nat) "ParcelLine$Node" "parent" "I" "ParcelLine") ∈ mzRo := mz_nest (List.mem_of_getElem? (i := 13) (by decide +kernel))
theorem wf_PL_120 : mzNw (Jvm.Cond.fieldLinkNest "ParcelLine" (120 : Nat) "ParcelLine$Node" "parent" "I" "ParcelLine") ∈ mzRo := mz_nest (List.mem_of_getElem? (i := 14) (by decide +kernel))
theorem wf_Ses_373 : mzNw (Jvm.Cond.fieldLinkNest "ParcelLine$Session" (373 : Nat) "ParcelLine$Node" "parent" "I" "ParcelLine") ∈ mzRo := mz_nest (List.mem_of_getElem? (i := 15) (by decide +kernel))
theorem wf_Store_36 : mzNw (Jvm.Cond.fieldLinkNest "ParcelLine$Store" (36 : Nat) "ParcelLine$Node" "name" "I" "ParcelLine") ∈ mzRo := mz_nest (List.mem_of_getElem? (i := 16) (by decide +kernel))
theorem wf_Ses_194 : mzNw (Jvm.Cond.fieldLinkNest "ParcelLine$Session" (194 : Nat) "ParcelLine$Node" "name" "I" "ParcelLine") ∈ mzRo := mz_nest (List.mem_of_getElem? (i := 17) (by decide +kernel))
theorem wf_PL_137 : mzNw (Jvm.Cond.fieldLinkNest "ParcelLine" (137 : Nat) "ParcelLine$Node" "name" "I" "ParcelLine") ∈ mzRo := mz_nest (List.mem_of_getElem? (i := 18) (by decide +kernel))
theorem wf_Way_26 : mzNw (Jvm.Cond.fieldLinkNest "ParcelLine$DataWay" (26 : Nat) "ParcelLine$Node" "readers" "I" "ParcelLine") ∈ mzRo := mz_nest (List.mem_of_getElem? (i := 19) (by decide +kernel))
theorem wf_Way_52 : mzNw (Jvm.Cond.fieldLinkNest "ParcelLine$DataWay" (52 : Nat) "ParcelLine$Node" "isWritten" "Z" "ParcelLine") ∈ mzRo := mz_nest (List.mem_of_getElem? (i := 20) (by decide +kernel))
theorem wf_Ses_342 : mzNw (Jvm.Cond.fieldLinkNest "ParcelLine$Session" (342 : Nat) "ParcelLine$Node" "isWritten" "Z" "ParcelLine") ∈ mzRo := mz_nest (List.mem_of_getElem? (i := 21) (by decide +kernel))
theorem wf_Way_55 : mzNw (Jvm.Cond.fieldLinkNest "ParcelLine$DataWay" (55 : Nat) "ParcelLine$Node" "isUnsafe" "Z" "ParcelLine") ∈ mzRo := mz_nest (List.mem_of_getElem? (i := 22) (by decide +kernel))
theorem wf_Ses_159 : mzNw (Jvm.Cond.fieldLinkNest "ParcelLine$Session" (159 : Nat) "ParcelLine$Node" "isUnsafe" "Z" "ParcelLine") ∈ mzRo := mz_nest (List.mem_of_getElem? (i := 23) (by decide +kernel))
theorem wf_Store_65 : mzNw (Jvm.Cond.fieldLinkNest "ParcelLine$Store" (65 : Nat) "ParcelLine$Node" "isUnsafe" "Z" "ParcelLine") ∈ mzRo := mz_nest (List.mem_of_getElem? (i := 24) (by decide +kernel))
theorem wf_Ses_190 : mzNw (Jvm.Cond.fieldLinkNest "ParcelLine$Session" (190 : Nat) "ParcelLine$Store" "nodes" "[LParcelLine$Node;" "ParcelLine") ∈ mzRo := mz_nest (List.mem_of_getElem? (i := 25) (by decide +kernel))
theorem wf_PL_116 : mzNw (Jvm.Cond.fieldLinkNest "ParcelLine" (116 : Nat) "ParcelLine$Store" "nodes" "[LParcelLine$Node;" "ParcelLine") ∈ mzRo := mz_nest (List.mem_of_getElem? (i := 26) (by decide +kernel))
theorem wf_Ses_143 : mzNw (Jvm.Cond.fieldLinkNest "ParcelLine$Session" (143 : Nat) "ParcelLine$Store" "currents" "[I" "ParcelLine") ∈ mzRo := mz_nest (List.mem_of_getElem? (i := 27) (by decide +kernel))
theorem wf_PL_146 : mzNw (Jvm.Cond.fieldLinkNest "ParcelLine" (146 : Nat) "ParcelLine$Store" "currents" "[I" "ParcelLine") ∈ mzRo := mz_nest (List.mem_of_getElem? (i := 28) (by decide +kernel))
theorem wf_PL_105 : mzNw (Jvm.Cond.fieldLinkNest "ParcelLine" (105 : Nat) "ParcelLine$Replies" "count" "I" "ParcelLine") ∈ mzRo := mz_nest (List.mem_of_getElem? (i := 29) (by decide +kernel))
theorem wf_Ses_69 : mzNw (Jvm.Cond.fieldLinkNest "ParcelLine$Session" (69 : Nat) "ParcelLine$LineReader" "line" "[I" "ParcelLine") ∈ mzRo := mz_nest (List.mem_of_getElem? (i := 30) (by decide +kernel))
theorem wf_Ses_75 : mzNw (Jvm.Cond.fieldLinkNest "ParcelLine$Session" (75 : Nat) "ParcelLine$LineReader" "length" "I" "ParcelLine") ∈ mzRo := mz_nest (List.mem_of_getElem? (i := 31) (by decide +kernel))
theorem wf_Ses_213 : mzNw (Jvm.Cond.fieldLinkNest "ParcelLine$Session" (213 : Nat) "ParcelLine$LineReader" "isTooLong" "Z" "ParcelLine") ∈ mzRo := mz_nest (List.mem_of_getElem? (i := 32) (by decide +kernel))
theorem wf_Ses_72 : mzNw (Jvm.Cond.fieldLinkNest "ParcelLine$Session" (72 : Nat) "ParcelLine$LineReader" "commandLength" "I" "ParcelLine") ∈ mzRo := mz_nest (List.mem_of_getElem? (i := 33) (by decide +kernel))
theorem wf_Store_51 : mzNw (Jvm.Cond.fieldLinkNest "ParcelLine$Store" (51 : Nat) "ParcelLine$Path" "steps" "[I" "ParcelLine") ∈ mzRo := mz_nest (List.mem_of_getElem? (i := 34) (by decide +kernel))
theorem wf_Store_45 : mzNw (Jvm.Cond.fieldLinkNest "ParcelLine$Store" (45 : Nat) "ParcelLine$Path" "count" "I" "ParcelLine") ∈ mzRo := mz_nest (List.mem_of_getElem? (i := 35) (by decide +kernel))
theorem wf_Ses_247 : mzNw (Jvm.Cond.fieldLinkNest "ParcelLine$Session" (247 : Nat) "ParcelLine$Path" "count" "I" "ParcelLine") ∈ mzRo := mz_nest (List.mem_of_getElem? (i := 36) (by decide +kernel))
theorem wf_Store_39 : mzNw (Jvm.Cond.fieldLinkNest "ParcelLine$Store" (39 : Nat) "ParcelLine$Path" "isFromRoot" "Z" "ParcelLine") ∈ mzRo := mz_nest (List.mem_of_getElem? (i := 37) (by decide +kernel))
theorem wf_Ses_237 : mzNw (Jvm.Cond.fieldLinkNest "ParcelLine$Session" (237 : Nat) "ParcelLine$Path" "isValid" "Z" "ParcelLine") ∈ mzRo := mz_nest (List.mem_of_getElem? (i := 38) (by decide +kernel))
theorem wf_PL_60 : mzNw (Jvm.Cond.fieldLinkNest "ParcelLine" (60 : Nat) "ParcelLine$DataWay" "isOpen" "Z" "ParcelLine") ∈ mzRo := mz_nest (List.mem_of_getElem? (i := 39) (by decide +kernel))
theorem wf_Ses_278 : mzNw (Jvm.Cond.fieldLinkNest "ParcelLine$Session" (278 : Nat) "ParcelLine$DataWay" "isOpen" "Z" "ParcelLine") ∈ mzRo := mz_nest (List.mem_of_getElem? (i := 40) (by decide +kernel))
theorem wf_PL_74 : mzNw (Jvm.Cond.fieldLinkNest "ParcelLine" (74 : Nat) "ParcelLine$DataWay" "mode" "I" "ParcelLine") ∈ mzRo := mz_nest (List.mem_of_getElem? (i := 41) (by decide +kernel))
theorem wf_Ses_152 : mzNw (Jvm.Cond.fieldLinkNest "ParcelLine$Session" (152 : Nat) "ParcelLine$DataWay" "mode" "I" "ParcelLine") ∈ mzRo := mz_nest (List.mem_of_getElem? (i := 42) (by decide +kernel))
theorem wf_Cop_106 : mzNw (Jvm.Cond.fieldLinkNest "ParcelLine$Copier" (106 : Nat) "ParcelLine$DataWay" "mode" "I" "ParcelLine") ∈ mzRo := mz_nest (List.mem_of_getElem? (i := 43) (by decide +kernel))
theorem wf_Ses_155 : mzNw (Jvm.Cond.fieldLinkNest "ParcelLine$Session" (155 : Nat) "ParcelLine$DataWay" "file" "LParcelLine$Node;" "ParcelLine") ∈ mzRo := mz_nest (List.mem_of_getElem? (i := 44) (by decide +kernel))
theorem wf_Cop_117 : mzNw (Jvm.Cond.fieldLinkNest "ParcelLine$Copier" (117 : Nat) "ParcelLine$DataWay" "file" "LParcelLine$Node;" "ParcelLine") ∈ mzRo := mz_nest (List.mem_of_getElem? (i := 45) (by decide +kernel))
theorem wf_PL_101 : mzNw (Jvm.Cond.fieldLinkNest "ParcelLine" (101 : Nat) "ParcelLine$Session" "replies" "LParcelLine$Replies;" "ParcelLine") ∈ mzRo := mz_nest (List.mem_of_getElem? (i := 46) (by decide +kernel))
theorem wf_PL_56 : mzNw (Jvm.Cond.fieldLinkNest "ParcelLine" (56 : Nat) "ParcelLine$Session" "way" "LParcelLine$DataWay;" "ParcelLine") ∈ mzRo := mz_nest (List.mem_of_getElem? (i := 47) (by decide +kernel))
theorem wf_Cop_102 : mzNw (Jvm.Cond.fieldLinkNest "ParcelLine$Copier" (102 : Nat) "ParcelLine$Session" "way" "LParcelLine$DataWay;" "ParcelLine") ∈ mzRo := mz_nest (List.mem_of_getElem? (i := 48) (by decide +kernel))
theorem wf_Cop_82 : mzNw (Jvm.Cond.fieldLinkNest "ParcelLine$Copier" (82 : Nat) "ParcelLine$Session" "number" "I" "ParcelLine") ∈ mzRo := mz_nest (List.mem_of_getElem? (i := 49) (by decide +kernel))
theorem wf_Cop_76 : mzNw (Jvm.Cond.fieldLinkNest "ParcelLine$Copier" (76 : Nat) "ParcelLine$Session" "answered" "I" "ParcelLine") ∈ mzRo := mz_nest (List.mem_of_getElem? (i := 50) (by decide +kernel))
theorem wf_PL_153 : mzNw (Jvm.Cond.fieldLinkNest "ParcelLine" (153 : Nat) "ParcelLine$Copier" "isOn" "Z" "ParcelLine") ∈ mzRo := mz_nest (List.mem_of_getElem? (i := 51) (by decide +kernel))
theorem wf_PL_188 : mzNw (Jvm.Cond.fieldLinkNest "ParcelLine" (188 : Nat) "ParcelLine$Copier" "isBringing" "Z" "ParcelLine") ∈ mzRo := mz_nest (List.mem_of_getElem? (i := 52) (by decide +kernel))
theorem wf_PL_182 : mzNw (Jvm.Cond.fieldLinkNest "ParcelLine" (182 : Nat) "ParcelLine$Copier" "next" "I" "ParcelLine") ∈ mzRo := mz_nest (List.mem_of_getElem? (i := 53) (by decide +kernel))
theorem wf_PL_176 : mzNw (Jvm.Cond.fieldLinkNest "ParcelLine" (176 : Nat) "ParcelLine$Copier" "isLost" "Z" "ParcelLine") ∈ mzRo := mz_nest (List.mem_of_getElem? (i := 54) (by decide +kernel))
theorem wl_Path_34 : mzNw (Jvm.Cond.methodLinkNest "ParcelLine$Path" (34 : Nat) ({ cls := "ParcelLine", name := "isNameByte", desc := "(I)Z" } : Jvm.MethodName) "ParcelLine") ∈ mzRo := mz_nest (List.mem_of_getElem? (i := 55) (by decide +kernel))
theorem wf_Ses_201 : mzNw (Jvm.Cond.fieldLinkNest "ParcelLine$Session" (201 : Nat) "ParcelLine$Command" "ALL" "[LParcelLine$Command;" "ParcelLine") ∈ mzRo := mz_nest (List.mem_of_getElem? (i := 56) (by decide +kernel))
theorem wf_Ses_205 : mzNw (Jvm.Cond.fieldLinkNest "ParcelLine$Session" (205 : Nat) "ParcelLine$Command" "word" "Ljava/lang/String;" "ParcelLine") ∈ mzRo := mz_nest (List.mem_of_getElem? (i := 57) (by decide +kernel))
theorem wf_Ses_93 : mzNw (Jvm.Cond.fieldLinkNest "ParcelLine$Session" (93 : Nat) "ParcelLine$Command" "argument" "I" "ParcelLine") ∈ mzRo := mz_nest (List.mem_of_getElem? (i := 58) (by decide +kernel))
theorem wf_Ses_219 : mzNw (Jvm.Cond.fieldLinkNest "ParcelLine$Session" (219 : Nat) "ParcelLine$Command" "who" "I" "ParcelLine") ∈ mzRo := mz_nest (List.mem_of_getElem? (i := 59) (by decide +kernel))
theorem wf_Ses_222 : mzNw (Jvm.Cond.fieldLinkNest "ParcelLine$Session" (222 : Nat) "ParcelLine$Command" "duringTransfer" "Z" "ParcelLine") ∈ mzRo := mz_nest (List.mem_of_getElem? (i := 60) (by decide +kernel))
end
section
theorem cl_0 : mzCl 0 RZ0 TZ0 4 yZ0 := by
  refine ⟨rfl, ?_, by decide +kernel, by decide +kernel, rfl, by decide +kernel⟩
  intro w hw
  have hw : w ∈ [u_lay RZ0 TZ0 0, u_lay RZ0 TZ0 1, u_lay RZ0 TZ0 2, u_lay RZ0 TZ0 3] := hw
  rcases List.mem_cons.mp hw with rfl | hw
  · exact mz_t2 (List.mem_of_getElem? (i := 102) (by decide +kernel)) (by decide +kernel)
  rcases List.mem_cons.mp hw with rfl | hw
  · exact mz_t2 (List.mem_of_getElem? (i := 104) (by decide +kernel)) (by decide +kernel)
  rcases List.mem_cons.mp hw with rfl | hw
  · exact mz_t2 (List.mem_of_getElem? (i := 106) (by decide +kernel)) (by decide +kernel)
  rcases List.mem_cons.mp hw with rfl | hw
  · exact mz_t2 (List.mem_of_getElem? (i := 108) (by decide +kernel)) (by decide +kernel)
  · cases hw
theorem cl_1 : mzCl 1 RZ1 TZ1 2 yZ1 := by
  refine ⟨rfl, ?_, by decide +kernel, by decide +kernel, rfl, by decide +kernel⟩
  intro w hw
  have hw : w ∈ [u_lay RZ1 TZ1 0, u_lay RZ1 TZ1 1] := hw
  rcases List.mem_cons.mp hw with rfl | hw
  · exact mz_t1 (List.mem_of_getElem? (i := 111) (by decide +kernel)) (by decide +kernel)
  rcases List.mem_cons.mp hw with rfl | hw
  · exact mz_t1 (List.mem_of_getElem? (i := 113) (by decide +kernel)) (by decide +kernel)
  · cases hw
theorem cl_2 : mzCl 2 RZ2 TZ2 7 yZ2 := by
  refine ⟨rfl, ?_, by decide +kernel, by decide +kernel, rfl, by decide +kernel⟩
  intro w hw
  have hw : w ∈ [u_lay RZ2 TZ2 0, u_lay RZ2 TZ2 1, u_lay RZ2 TZ2 2, u_lay RZ2 TZ2 3, u_lay RZ2 TZ2 4, u_lay RZ2 TZ2 5, u_lay RZ2 TZ2 6] := hw
  rcases List.mem_cons.mp hw with rfl | hw
  · exact mz_t1 (List.mem_of_getElem? (i := 90) (by decide +kernel)) (by decide +kernel)
  rcases List.mem_cons.mp hw with rfl | hw
  · exact mz_t1 (List.mem_of_getElem? (i := 92) (by decide +kernel)) (by decide +kernel)
  rcases List.mem_cons.mp hw with rfl | hw
  · exact mz_t1 (List.mem_of_getElem? (i := 94) (by decide +kernel)) (by decide +kernel)
  rcases List.mem_cons.mp hw with rfl | hw
  · exact mz_t1 (List.mem_of_getElem? (i := 96) (by decide +kernel)) (by decide +kernel)
  rcases List.mem_cons.mp hw with rfl | hw
  · exact mz_t1 (List.mem_of_getElem? (i := 98) (by decide +kernel)) (by decide +kernel)
  rcases List.mem_cons.mp hw with rfl | hw
  · exact mz_t1 (List.mem_of_getElem? (i := 100) (by decide +kernel)) (by decide +kernel)
  rcases List.mem_cons.mp hw with rfl | hw
  · exact mz_t1 (List.mem_of_getElem? (i := 102) (by decide +kernel)) (by decide +kernel)
  · cases hw
theorem cl_3 : mzCl 3 RZ3 TZ3 2 yZ3 := by
  refine ⟨rfl, ?_, by decide +kernel, by decide +kernel, rfl, by decide +kernel⟩
  intro w hw
  have hw : w ∈ [u_lay RZ3 TZ3 0, u_lay RZ3 TZ3 1] := hw
  rcases List.mem_cons.mp hw with rfl | hw
  · exact mz_t1 (List.mem_of_getElem? (i := 59) (by decide +kernel)) (by decide +kernel)
  rcases List.mem_cons.mp hw with rfl | hw
  · exact mz_t1 (List.mem_of_getElem? (i := 61) (by decide +kernel)) (by decide +kernel)
  · cases hw
theorem cl_4 : mzCl 4 RZ4 TZ4 17 yZ4 := by
  refine ⟨rfl, ?_, by decide +kernel, by decide +kernel, rfl, by decide +kernel⟩
  intro w hw
  have hw : w ∈ [u_lay RZ4 TZ4 0, u_lay RZ4 TZ4 1, u_lay RZ4 TZ4 2, u_lay RZ4 TZ4 3, u_lay RZ4 TZ4 4, u_lay RZ4 TZ4 5, u_lay RZ4 TZ4 6, u_lay RZ4 TZ4 7, u_lay RZ4 TZ4 8, u_lay RZ4 TZ4 9, u_lay RZ4 TZ4 10, u_lay RZ4 TZ4 11, u_lay RZ4 TZ4 12, u_lay RZ4 TZ4 13, u_lay RZ4 TZ4 14, u_lay RZ4 TZ4 15, u_lay RZ4 TZ4 16] := hw
  rcases List.mem_cons.mp hw with rfl | hw
  · exact mz_t2 (List.mem_of_getElem? (i := 22) (by decide +kernel)) (by decide +kernel)
  rcases List.mem_cons.mp hw with rfl | hw
  · exact mz_t2 (List.mem_of_getElem? (i := 24) (by decide +kernel)) (by decide +kernel)
  rcases List.mem_cons.mp hw with rfl | hw
  · exact mz_t2 (List.mem_of_getElem? (i := 26) (by decide +kernel)) (by decide +kernel)
  rcases List.mem_cons.mp hw with rfl | hw
  · exact mz_t2 (List.mem_of_getElem? (i := 28) (by decide +kernel)) (by decide +kernel)
  rcases List.mem_cons.mp hw with rfl | hw
  · exact mz_t2 (List.mem_of_getElem? (i := 30) (by decide +kernel)) (by decide +kernel)
  rcases List.mem_cons.mp hw with rfl | hw
  · exact mz_t2 (List.mem_of_getElem? (i := 32) (by decide +kernel)) (by decide +kernel)
  rcases List.mem_cons.mp hw with rfl | hw
  · exact mz_t2 (List.mem_of_getElem? (i := 34) (by decide +kernel)) (by decide +kernel)
  rcases List.mem_cons.mp hw with rfl | hw
  · exact mz_t2 (List.mem_of_getElem? (i := 36) (by decide +kernel)) (by decide +kernel)
  rcases List.mem_cons.mp hw with rfl | hw
  · exact mz_t2 (List.mem_of_getElem? (i := 38) (by decide +kernel)) (by decide +kernel)
  rcases List.mem_cons.mp hw with rfl | hw
  · exact mz_t2 (List.mem_of_getElem? (i := 40) (by decide +kernel)) (by decide +kernel)
  rcases List.mem_cons.mp hw with rfl | hw
  · exact mz_t2 (List.mem_of_getElem? (i := 42) (by decide +kernel)) (by decide +kernel)
  rcases List.mem_cons.mp hw with rfl | hw
  · exact mz_t2 (List.mem_of_getElem? (i := 44) (by decide +kernel)) (by decide +kernel)
  rcases List.mem_cons.mp hw with rfl | hw
  · exact mz_t2 (List.mem_of_getElem? (i := 46) (by decide +kernel)) (by decide +kernel)
  rcases List.mem_cons.mp hw with rfl | hw
  · exact mz_t2 (List.mem_of_getElem? (i := 48) (by decide +kernel)) (by decide +kernel)
  rcases List.mem_cons.mp hw with rfl | hw
  · exact mz_t2 (List.mem_of_getElem? (i := 50) (by decide +kernel)) (by decide +kernel)
  rcases List.mem_cons.mp hw with rfl | hw
  · exact mz_t2 (List.mem_of_getElem? (i := 52) (by decide +kernel)) (by decide +kernel)
  rcases List.mem_cons.mp hw with rfl | hw
  · exact mz_t2 (List.mem_of_getElem? (i := 54) (by decide +kernel)) (by decide +kernel)
  · cases hw
theorem cl_5 : mzCl 5 RZ5 TZ5 5 yZ5 := by
  refine ⟨rfl, ?_, by decide +kernel, by decide +kernel, rfl, by decide +kernel⟩
  intro w hw
  have hw : w ∈ [u_lay RZ5 TZ5 0, u_lay RZ5 TZ5 1, u_lay RZ5 TZ5 2, u_lay RZ5 TZ5 3, u_lay RZ5 TZ5 4] := hw
  rcases List.mem_cons.mp hw with rfl | hw
  · exact mz_t1 (List.mem_of_getElem? (i := 135) (by decide +kernel)) (by decide +kernel)
  rcases List.mem_cons.mp hw with rfl | hw
  · exact mz_t1 (List.mem_of_getElem? (i := 137) (by decide +kernel)) (by decide +kernel)
  rcases List.mem_cons.mp hw with rfl | hw
  · exact mz_t1 (List.mem_of_getElem? (i := 139) (by decide +kernel)) (by decide +kernel)
  rcases List.mem_cons.mp hw with rfl | hw
  · exact mz_t1 (List.mem_of_getElem? (i := 141) (by decide +kernel)) (by decide +kernel)
  rcases List.mem_cons.mp hw with rfl | hw
  · exact mz_t1 (List.mem_of_getElem? (i := 143) (by decide +kernel)) (by decide +kernel)
  · cases hw
theorem cl_6 : mzCl 6 RZ6 TZ6 7 yZ6 := by
  refine ⟨rfl, ?_, by decide +kernel, by decide +kernel, rfl, by decide +kernel⟩
  intro w hw
  have hw : w ∈ [u_lay RZ6 TZ6 0, u_lay RZ6 TZ6 1, u_lay RZ6 TZ6 2, u_lay RZ6 TZ6 3, u_lay RZ6 TZ6 4, u_lay RZ6 TZ6 5, u_lay RZ6 TZ6 6] := hw
  rcases List.mem_cons.mp hw with rfl | hw
  · exact mz_t1 (List.mem_of_getElem? (i := 163) (by decide +kernel)) (by decide +kernel)
  rcases List.mem_cons.mp hw with rfl | hw
  · exact mz_t1 (List.mem_of_getElem? (i := 165) (by decide +kernel)) (by decide +kernel)
  rcases List.mem_cons.mp hw with rfl | hw
  · exact mz_t1 (List.mem_of_getElem? (i := 167) (by decide +kernel)) (by decide +kernel)
  rcases List.mem_cons.mp hw with rfl | hw
  · exact mz_t1 (List.mem_of_getElem? (i := 169) (by decide +kernel)) (by decide +kernel)
  rcases List.mem_cons.mp hw with rfl | hw
  · exact mz_t1 (List.mem_of_getElem? (i := 171) (by decide +kernel)) (by decide +kernel)
  rcases List.mem_cons.mp hw with rfl | hw
  · exact mz_t1 (List.mem_of_getElem? (i := 173) (by decide +kernel)) (by decide +kernel)
  rcases List.mem_cons.mp hw with rfl | hw
  · exact mz_t1 (List.mem_of_getElem? (i := 175) (by decide +kernel)) (by decide +kernel)
  · cases hw
theorem cl_7 : mzCl 7 RZ7 TZ7 4 yZ7 := by
  refine ⟨rfl, ?_, by decide +kernel, by decide +kernel, rfl, by decide +kernel⟩
  intro w hw
  have hw : w ∈ [u_lay RZ7 TZ7 0, u_lay RZ7 TZ7 1, u_lay RZ7 TZ7 2, u_lay RZ7 TZ7 3] := hw
  rcases List.mem_cons.mp hw with rfl | hw
  · exact mz_t1 (List.mem_of_getElem? (i := 193) (by decide +kernel)) (by decide +kernel)
  rcases List.mem_cons.mp hw with rfl | hw
  · exact mz_t1 (List.mem_of_getElem? (i := 195) (by decide +kernel)) (by decide +kernel)
  rcases List.mem_cons.mp hw with rfl | hw
  · exact mz_t1 (List.mem_of_getElem? (i := 197) (by decide +kernel)) (by decide +kernel)
  rcases List.mem_cons.mp hw with rfl | hw
  · exact mz_t1 (List.mem_of_getElem? (i := 199) (by decide +kernel)) (by decide +kernel)
  · cases hw
theorem cl_8 : mzCl 8 RZ8 TZ8 8 yZ8 := by
  refine ⟨rfl, ?_, by decide +kernel, by decide +kernel, rfl, by decide +kernel⟩
  intro w hw
  have hw : w ∈ [u_lay RZ8 TZ8 0, u_lay RZ8 TZ8 1, u_lay RZ8 TZ8 2, u_lay RZ8 TZ8 3, u_lay RZ8 TZ8 4, u_lay RZ8 TZ8 5, u_lay RZ8 TZ8 6, u_lay RZ8 TZ8 7] := hw
  rcases List.mem_cons.mp hw with rfl | hw
  · exact mz_t1 (List.mem_of_getElem? (i := 223) (by decide +kernel)) (by decide +kernel)
  rcases List.mem_cons.mp hw with rfl | hw
  · exact mz_t1 (List.mem_of_getElem? (i := 225) (by decide +kernel)) (by decide +kernel)
  rcases List.mem_cons.mp hw with rfl | hw
  · exact mz_t1 (List.mem_of_getElem? (i := 227) (by decide +kernel)) (by decide +kernel)
  rcases List.mem_cons.mp hw with rfl | hw
  · exact mz_t1 (List.mem_of_getElem? (i := 229) (by decide +kernel)) (by decide +kernel)
  rcases List.mem_cons.mp hw with rfl | hw
  · exact mz_t1 (List.mem_of_getElem? (i := 231) (by decide +kernel)) (by decide +kernel)
  rcases List.mem_cons.mp hw with rfl | hw
  · exact mz_t1 (List.mem_of_getElem? (i := 233) (by decide +kernel)) (by decide +kernel)
  rcases List.mem_cons.mp hw with rfl | hw
  · exact mz_t1 (List.mem_of_getElem? (i := 235) (by decide +kernel)) (by decide +kernel)
  rcases List.mem_cons.mp hw with rfl | hw
  · exact mz_t1 (List.mem_of_getElem? (i := 237) (by decide +kernel)) (by decide +kernel)
  · cases hw
theorem cl_9 : mzCl 9 RZ9 TZ9 9 yZ9 := by
  refine ⟨rfl, ?_, by decide +kernel, by decide +kernel, rfl, by decide +kernel⟩
  intro w hw
  have hw : w ∈ [u_lay RZ9 TZ9 0, u_lay RZ9 TZ9 1, u_lay RZ9 TZ9 2, u_lay RZ9 TZ9 3, u_lay RZ9 TZ9 4, u_lay RZ9 TZ9 5, u_lay RZ9 TZ9 6, u_lay RZ9 TZ9 7, u_lay RZ9 TZ9 8] := hw
  rcases List.mem_cons.mp hw with rfl | hw
  · exact mz_t2 (List.mem_of_getElem? (i := 79) (by decide +kernel)) (by decide +kernel)
  rcases List.mem_cons.mp hw with rfl | hw
  · exact mz_t2 (List.mem_of_getElem? (i := 81) (by decide +kernel)) (by decide +kernel)
  rcases List.mem_cons.mp hw with rfl | hw
  · exact mz_t2 (List.mem_of_getElem? (i := 83) (by decide +kernel)) (by decide +kernel)
  rcases List.mem_cons.mp hw with rfl | hw
  · exact mz_t2 (List.mem_of_getElem? (i := 85) (by decide +kernel)) (by decide +kernel)
  rcases List.mem_cons.mp hw with rfl | hw
  · exact mz_t2 (List.mem_of_getElem? (i := 87) (by decide +kernel)) (by decide +kernel)
  rcases List.mem_cons.mp hw with rfl | hw
  · exact mz_t2 (List.mem_of_getElem? (i := 89) (by decide +kernel)) (by decide +kernel)
  rcases List.mem_cons.mp hw with rfl | hw
  · exact mz_t2 (List.mem_of_getElem? (i := 91) (by decide +kernel)) (by decide +kernel)
  rcases List.mem_cons.mp hw with rfl | hw
  · exact mz_t2 (List.mem_of_getElem? (i := 93) (by decide +kernel)) (by decide +kernel)
  rcases List.mem_cons.mp hw with rfl | hw
  · exact mz_t2 (List.mem_of_getElem? (i := 95) (by decide +kernel)) (by decide +kernel)
  · cases hw
theorem cl_10 : mzCl 10 RZ10 TZ10 45 yZ10 := by
  refine ⟨rfl, ?_, by decide +kernel, by decide +kernel, rfl, by decide +kernel⟩
  intro w hw
  have hw : w ∈ [u_lay RZ10 TZ10 0, u_lay RZ10 TZ10 1, u_lay RZ10 TZ10 2, u_lay RZ10 TZ10 3, u_lay RZ10 TZ10 4, u_lay RZ10 TZ10 5, u_lay RZ10 TZ10 6, u_lay RZ10 TZ10 7, u_lay RZ10 TZ10 8, u_lay RZ10 TZ10 9, u_lay RZ10 TZ10 10, u_lay RZ10 TZ10 11, u_lay RZ10 TZ10 12, u_lay RZ10 TZ10 13, u_lay RZ10 TZ10 14, u_lay RZ10 TZ10 15, u_lay RZ10 TZ10 16, u_lay RZ10 TZ10 17, u_lay RZ10 TZ10 18, u_lay RZ10 TZ10 19, u_lay RZ10 TZ10 20, u_lay RZ10 TZ10 21, u_lay RZ10 TZ10 22, u_lay RZ10 TZ10 23, u_lay RZ10 TZ10 24, u_lay RZ10 TZ10 25, u_lay RZ10 TZ10 26, u_lay RZ10 TZ10 27, u_lay RZ10 TZ10 28, u_lay RZ10 TZ10 29, u_lay RZ10 TZ10 30, u_lay RZ10 TZ10 31, u_lay RZ10 TZ10 32, u_lay RZ10 TZ10 33, u_lay RZ10 TZ10 34, u_lay RZ10 TZ10 35, u_lay RZ10 TZ10 36, u_lay RZ10 TZ10 37, u_lay RZ10 TZ10 38, u_lay RZ10 TZ10 39, u_lay RZ10 TZ10 40, u_lay RZ10 TZ10 41, u_lay RZ10 TZ10 42, u_lay RZ10 TZ10 43, u_lay RZ10 TZ10 44] := hw
  rcases List.mem_cons.mp hw with rfl | hw
  · exact mz_t5 (List.mem_of_getElem? (i := 132) (by decide +kernel)) (by decide +kernel)
  rcases List.mem_cons.mp hw with rfl | hw
  · exact mz_t5 (List.mem_of_getElem? (i := 134) (by decide +kernel)) (by decide +kernel)
  rcases List.mem_cons.mp hw with rfl | hw
  · exact mz_t5 (List.mem_of_getElem? (i := 136) (by decide +kernel)) (by decide +kernel)
  rcases List.mem_cons.mp hw with rfl | hw
  · exact mz_t5 (List.mem_of_getElem? (i := 138) (by decide +kernel)) (by decide +kernel)
  rcases List.mem_cons.mp hw with rfl | hw
  · exact mz_t5 (List.mem_of_getElem? (i := 140) (by decide +kernel)) (by decide +kernel)
  rcases List.mem_cons.mp hw with rfl | hw
  · exact mz_t5 (List.mem_of_getElem? (i := 142) (by decide +kernel)) (by decide +kernel)
  rcases List.mem_cons.mp hw with rfl | hw
  · exact mz_t5 (List.mem_of_getElem? (i := 144) (by decide +kernel)) (by decide +kernel)
  rcases List.mem_cons.mp hw with rfl | hw
  · exact mz_t5 (List.mem_of_getElem? (i := 146) (by decide +kernel)) (by decide +kernel)
  rcases List.mem_cons.mp hw with rfl | hw
  · exact mz_t5 (List.mem_of_getElem? (i := 148) (by decide +kernel)) (by decide +kernel)
  rcases List.mem_cons.mp hw with rfl | hw
  · exact mz_t5 (List.mem_of_getElem? (i := 150) (by decide +kernel)) (by decide +kernel)
  rcases List.mem_cons.mp hw with rfl | hw
  · exact mz_t5 (List.mem_of_getElem? (i := 152) (by decide +kernel)) (by decide +kernel)
  rcases List.mem_cons.mp hw with rfl | hw
  · exact mz_t5 (List.mem_of_getElem? (i := 154) (by decide +kernel)) (by decide +kernel)
  rcases List.mem_cons.mp hw with rfl | hw
  · exact mz_t5 (List.mem_of_getElem? (i := 156) (by decide +kernel)) (by decide +kernel)
  rcases List.mem_cons.mp hw with rfl | hw
  · exact mz_t5 (List.mem_of_getElem? (i := 158) (by decide +kernel)) (by decide +kernel)
  rcases List.mem_cons.mp hw with rfl | hw
  · exact mz_t5 (List.mem_of_getElem? (i := 160) (by decide +kernel)) (by decide +kernel)
  rcases List.mem_cons.mp hw with rfl | hw
  · exact mz_t5 (List.mem_of_getElem? (i := 162) (by decide +kernel)) (by decide +kernel)
  rcases List.mem_cons.mp hw with rfl | hw
  · exact mz_t5 (List.mem_of_getElem? (i := 164) (by decide +kernel)) (by decide +kernel)
  rcases List.mem_cons.mp hw with rfl | hw
  · exact mz_t5 (List.mem_of_getElem? (i := 166) (by decide +kernel)) (by decide +kernel)
  rcases List.mem_cons.mp hw with rfl | hw
  · exact mz_t5 (List.mem_of_getElem? (i := 168) (by decide +kernel)) (by decide +kernel)
  rcases List.mem_cons.mp hw with rfl | hw
  · exact mz_t5 (List.mem_of_getElem? (i := 170) (by decide +kernel)) (by decide +kernel)
  rcases List.mem_cons.mp hw with rfl | hw
  · exact mz_t5 (List.mem_of_getElem? (i := 172) (by decide +kernel)) (by decide +kernel)
  rcases List.mem_cons.mp hw with rfl | hw
  · exact mz_t5 (List.mem_of_getElem? (i := 174) (by decide +kernel)) (by decide +kernel)
  rcases List.mem_cons.mp hw with rfl | hw
  · exact mz_t5 (List.mem_of_getElem? (i := 176) (by decide +kernel)) (by decide +kernel)
  rcases List.mem_cons.mp hw with rfl | hw
  · exact mz_t5 (List.mem_of_getElem? (i := 178) (by decide +kernel)) (by decide +kernel)
  rcases List.mem_cons.mp hw with rfl | hw
  · exact mz_t5 (List.mem_of_getElem? (i := 180) (by decide +kernel)) (by decide +kernel)
  rcases List.mem_cons.mp hw with rfl | hw
  · exact mz_t5 (List.mem_of_getElem? (i := 182) (by decide +kernel)) (by decide +kernel)
  rcases List.mem_cons.mp hw with rfl | hw
  · exact mz_t5 (List.mem_of_getElem? (i := 184) (by decide +kernel)) (by decide +kernel)
  rcases List.mem_cons.mp hw with rfl | hw
  · exact mz_t5 (List.mem_of_getElem? (i := 186) (by decide +kernel)) (by decide +kernel)
  rcases List.mem_cons.mp hw with rfl | hw
  · exact mz_t5 (List.mem_of_getElem? (i := 188) (by decide +kernel)) (by decide +kernel)
  rcases List.mem_cons.mp hw with rfl | hw
  · exact mz_t5 (List.mem_of_getElem? (i := 190) (by decide +kernel)) (by decide +kernel)
  rcases List.mem_cons.mp hw with rfl | hw
  · exact mz_t5 (List.mem_of_getElem? (i := 192) (by decide +kernel)) (by decide +kernel)
  rcases List.mem_cons.mp hw with rfl | hw
  · exact mz_t5 (List.mem_of_getElem? (i := 194) (by decide +kernel)) (by decide +kernel)
  rcases List.mem_cons.mp hw with rfl | hw
  · exact mz_t5 (List.mem_of_getElem? (i := 196) (by decide +kernel)) (by decide +kernel)
  rcases List.mem_cons.mp hw with rfl | hw
  · exact mz_t5 (List.mem_of_getElem? (i := 198) (by decide +kernel)) (by decide +kernel)
  rcases List.mem_cons.mp hw with rfl | hw
  · exact mz_t5 (List.mem_of_getElem? (i := 200) (by decide +kernel)) (by decide +kernel)
  rcases List.mem_cons.mp hw with rfl | hw
  · exact mz_t5 (List.mem_of_getElem? (i := 202) (by decide +kernel)) (by decide +kernel)
  rcases List.mem_cons.mp hw with rfl | hw
  · exact mz_t5 (List.mem_of_getElem? (i := 204) (by decide +kernel)) (by decide +kernel)
  rcases List.mem_cons.mp hw with rfl | hw
  · exact mz_t5 (List.mem_of_getElem? (i := 206) (by decide +kernel)) (by decide +kernel)
  rcases List.mem_cons.mp hw with rfl | hw
  · exact mz_t5 (List.mem_of_getElem? (i := 208) (by decide +kernel)) (by decide +kernel)
  rcases List.mem_cons.mp hw with rfl | hw
  · exact mz_t5 (List.mem_of_getElem? (i := 210) (by decide +kernel)) (by decide +kernel)
  rcases List.mem_cons.mp hw with rfl | hw
  · exact mz_t5 (List.mem_of_getElem? (i := 212) (by decide +kernel)) (by decide +kernel)
  rcases List.mem_cons.mp hw with rfl | hw
  · exact mz_t5 (List.mem_of_getElem? (i := 214) (by decide +kernel)) (by decide +kernel)
  rcases List.mem_cons.mp hw with rfl | hw
  · exact mz_t5 (List.mem_of_getElem? (i := 216) (by decide +kernel)) (by decide +kernel)
  rcases List.mem_cons.mp hw with rfl | hw
  · exact mz_t5 (List.mem_of_getElem? (i := 218) (by decide +kernel)) (by decide +kernel)
  rcases List.mem_cons.mp hw with rfl | hw
  · exact mz_t5 (List.mem_of_getElem? (i := 220) (by decide +kernel)) (by decide +kernel)
  · cases hw
end
section
section MzRoRules
variable {g : Bool} {G : MzG} {B : MzB} {d : Nat} {mm : MzT} {M : MzM} {bu : Nat × Nat} {Q : MzR → MzB → MzM → Prop} {pc : Nat} {lv : List (Nat × Value)} {st : List Value}
theorem mz_u {f : MzF} {A : Nat → Prop} {s : State} {H : Heap} (hr : mz_ro mzRo G A s H) (hf : f ∈ mzRo) : f G.2 A s H := (hr f hf).2
theorem mz_cmdIn {c : Nat} (h : c < 21) : mzCmd c ∈ mzRo := List.mem_append_right _ (List.mem_append_right _ (List.mem_append_left _ (List.mem_map.mpr ⟨c, List.mem_range.mpr h, rfl⟩)))
theorem mz_strIn {k : Nat} (h : k < 44) : mzStr k ∈ mzRo := List.mem_append_right _ (List.mem_append_right _ (List.mem_append_right _ (List.mem_map.mpr ⟨k, List.mem_range.mpr h, rfl⟩)))
theorem mz_fixIn {f : MzF} (k : Nat) (h : ([mzAo "ParcelLine$Node", mzAo "ParcelLine$Session", mzAo "ParcelLine$ByteRow", mzAllZ, mzSwZ, mzCsZ, mzNeZ, mzRefZ "java/lang/Throwable" "UNASSIGNED_STACK" "[Ljava/lang/StackTraceElement;", mzRefZ "java/lang/Throwable" "SUPPRESSED_SENTINEL" "Ljava/util/List;", mzRefZ "jdk/internal/util/Preconditions" "SIOOBE_FORMATTER" "Ljava/util/function/BiFunction;", mzLs "java/lang/Throwable" "UNASSIGNED_STACK" "[Ljava/lang/StackTraceElement;", mzLs "java/lang/Throwable" "SUPPRESSED_SENTINEL" "Ljava/util/List;"] : List MzF)[k]? = some f) : f ∈ mzRo := List.mem_append_right _ (List.mem_append_left _ (List.mem_of_getElem? h))
theorem mz_getF {o n ds : String} {idx q : Nat} {v : Value} (hd : decode mm.2.1 pc = .ok (.getfield idx, 3)) (hw : Cond.fieldLink mm.1.cls idx o n ds ∈ mzAll) (hf : ∀ (A : Nat → Prop) (s : State), mz_ro mzRo G A s s.heap → va_OF o n ds v q A s s.heap) (h : MzS G B d mm M bu Q (pc + 3) lv (v :: st)) : MzS G B d mm M bu Q pc lv (.ref q :: st) :=
  fun p l e mc ms s m args below meth c A H locs cells slots ls hX hl hI c1 c2 => vk_getf hX.1 hX.2.1 (hf A s hI.2.2.2.2.2) hI.2.2.2.1 hX.2.2.2.2.2.1 (hX.2.2.2.2.1 _ (List.mem_cons_of_mem _ hw)) (fun _ h9 => h9) hd (h p l e mc ms s m args below meth c A H locs cells slots ls hX hl hI c1 c2)
theorem mz_getFN {o n ds host : String} {idx q : Nat} {v : Value} (hd : decode mm.2.1 pc = .ok (.getfield idx, 3)) (hw : mzNw (.fieldLinkNest mm.1.cls idx o n ds host) ∈ mzRo) (hf : ∀ (A : Nat → Prop) (s : State), mz_ro mzRo G A s s.heap → va_OF o n ds v q A s s.heap) (h : MzS G B d mm M bu Q (pc + 3) lv (v :: st)) : MzS G B d mm M bu Q pc lv (.ref q :: st) := by
  intro p l e mc ms s m args below meth c A H locs cells slots ls hX hl hI c1 c2
  obtain ⟨cf, k, fi, f, cell, h1, h2, h3, h4, h5, h6⟩ := (hf A s hI.2.2.2.2.2).kept hI.2.2.2.1.2.1
  exact va_Wgetf hX.1 hX.2.1 hX.2.2.2.2.2.1 (va_Nw.use rfl (hI.2.2.2.2.2 _ hw).2) h1 h2 h3 h4 (v := v) h5 rfl rfl hd (h p l e mc ms s m args below meth c A H locs cells slots ls hX hl hI c1 c2)
theorem mz_gets {C n ds : String} {idx : Nat} {v : Value} (hd : decode mm.2.1 pc = .ok (.getstatic idx, 3)) (hw : Cond.fieldLink mm.1.cls idx C n ds ∈ mzAll) (hz : ∀ (A : Nat → Prop) (s : State), mz_ro mzRo G A s s.heap → va_Z C n ds v A s s.heap) (h : MzS G B d mm M bu Q (pc + 3) lv (v :: st)) : MzS G B d mm M bu Q pc lv st :=
  fun p l e mc ms s m args below meth c A H locs cells slots ls hX hl hI c1 c2 => va_gets hX.1 hX.2.1 (hz A s hI.2.2.2.2.2) hI.2.2.2.1 hX.2.2.2.2.2.1 (hX.2.2.2.2.1 _ (List.mem_cons_of_mem _ hw)) (fun _ h9 => h9) hd (h p l e mc ms s m args below meth c A H locs cells slots ls hX hl hI c1 c2)
theorem mz_getsN {C n ds host : String} {idx : Nat} {v : Value} (hd : decode mm.2.1 pc = .ok (.getstatic idx, 3)) (hw : mzNw (.fieldLinkNest mm.1.cls idx C n ds host) ∈ mzRo) (hz : ∀ (A : Nat → Prop) (s : State), mz_ro mzRo G A s s.heap → va_Z C n ds v A s s.heap) (h : MzS G B d mm M bu Q (pc + 3) lv (v :: st)) : MzS G B d mm M bu Q pc lv st :=
  fun p l e mc ms s m args below meth c A H locs cells slots ls hX hl hI c1 c2 => va_getsN hX.1 hX.2.1 (hz A s hI.2.2.2.2.2) hI.2.2.2.1 hX.2.2.2.2.2.1 (va_Nw.use rfl (hI.2.2.2.2.2 _ hw).2) (fun _ h9 => h9) hd (h p l e mc ms s m args below meth c A H locs cells slots ls hX hl hI c1 c2)
theorem mz_getsX {C n ds : String} {idx : Nat} (hd : decode mm.2.1 pc = .ok (.getstatic idx, 3)) (hw : Cond.fieldLink mm.1.cls idx C n ds ∈ mzAll) (hz : mzRefZ C n ds ∈ mzRo) (h : ∀ v : Value, v.isRef = true → MzS G B d mm M bu Q (pc + 3) lv (v :: st)) : MzS G B d mm M bu Q pc lv st := by
  intro p l e mc ms s m args below meth c A H locs cells slots ls hX hl hI c1 c2
  obtain ⟨v, hv, hz⟩ := mz_u hI.2.2.2.2.2 hz
  exact va_gets hX.1 hX.2.1 hz hI.2.2.2.1 hX.2.2.2.2.2.1 (hX.2.2.2.2.1 _ (List.mem_cons_of_mem _ hw)) (fun _ h9 => h9) hd (h v hv p l e mc ms s m args below meth c A H locs cells slots ls hX hl hI c1 c2)
theorem mz_rlen {ty : FieldType} {t N : Nat} {f : Nat → Value} (v : Int32) (hd : decode mm.2.1 pc = .ok (.arraylength, 1)) (hT : ∀ (A : Nat → Prop) (s : State), mz_ro mzRo G A s s.heap → va_T ty t N f A s s.heap) (hv : Int32.ofNat N = v) (h : MzS G B d mm M bu Q (pc + 1) lv (.int v :: st)) : MzS G B d mm M bu Q pc lv (.ref t :: st) :=
  fun p l e mc ms s m args below meth c A H locs cells slots ls hX hl hI c1 c2 => va_tlen hX.1 hX.2.1 (hT A s hI.2.2.2.2.2) hI.2.2.2.1 hv hd (h p l e mc ms s m args below meth c A H locs cells slots ls hX hl hI c1 c2)
theorem mz_riald {t N : Nat} {f : Nat → Value} {x : Int32} (j : Nat) {v : Value} (hd : decode mm.2.1 pc = .ok (.iaload, 1)) (hT : ∀ (A : Nat → Prop) (s : State), mz_ro mzRo G A s s.heap → va_T .int t N f A s s.heap) (hj : x.toInt = (j : Int)) (hn : j < N) (hv : f j = v) (h : MzS G B d mm M bu Q (pc + 1) lv (v :: st)) : MzS G B d mm M bu Q pc lv (.int x :: .ref t :: st) := by
  intro p l e mc ms s m args below meth c A H locs cells slots ls hX hl hI c1 c2
  obtain ⟨g1, g2⟩ := mz_ix hj hn
  exact va_ti hX.1 hX.2.1 (hT A s hI.2.2.2.2.2) hI.2.2.2.1 g1 (by rw [g2]; exact hv) hd (h p l e mc ms s m args below meth c A H locs cells slots ls hX hl hI c1 c2)
theorem mz_rbald {t N : Nat} {f : Nat → Value} {x : Int32} (j : Nat) {v : Value} (hd : decode mm.2.1 pc = .ok (.baload, 1)) (hT : ∀ (A : Nat → Prop) (s : State), mz_ro mzRo G A s s.heap → va_T .byte t N f A s s.heap) (hj : x.toInt = (j : Int)) (hn : j < N) (hv : f j = v) (h : MzS G B d mm M bu Q (pc + 1) lv (v :: st)) : MzS G B d mm M bu Q pc lv (.int x :: .ref t :: st) := by
  intro p l e mc ms s m args below meth c A H locs cells slots ls hX hl hI c1 c2
  obtain ⟨g1, g2⟩ := mz_ix hj hn
  exact va_tb hX.1 hX.2.1 (hT A s hI.2.2.2.2.2) hI.2.2.2.1 g1 (by rw [g2]; exact hv) hd (h p l e mc ms s m args below meth c A H locs cells slots ls hX hl hI c1 c2)
theorem mz_raald {C : String} {t N : Nat} {f : Nat → Value} {x : Int32} (j : Nat) {v : Value} (hd : decode mm.2.1 pc = .ok (.aaload, 1)) (hT : ∀ (A : Nat → Prop) (s : State), mz_ro mzRo G A s s.heap → va_T (.object C) t N f A s s.heap) (hj : x.toInt = (j : Int)) (hn : j < N) (hv : f j = v) (h : MzS G B d mm M bu Q (pc + 1) lv (v :: st)) : MzS G B d mm M bu Q pc lv (.int x :: .ref t :: st) := by
  intro p l e mc ms s m args below meth c A H locs cells slots ls hX hl hI c1 c2
  obtain ⟨g1, g2⟩ := mz_ix hj hn
  exact vb_tq hX.1 hX.2.1 (hT A s hI.2.2.2.2.2) hI.2.2.2.1 g1 (by rw [g2]; exact hv) hd (h p l e mc ms s m args below meth c A H locs cells slots ls hX hl hI c1 c2)
theorem mz_ldcS {idx q : Nat} {tx : String} (hd : decode mm.2.1 pc = .ok (.ldc idx, 2)) (hz : ∀ (A : Nat → Prop) (s : State), mz_ro mzRo G A s s.heap → vk_R mm.1.cls idx tx q s) (h : MzS G B d mm M bu Q (pc + 2) lv (.ref q :: st)) : MzS G B d mm M bu Q pc lv st :=
  fun p l e mc ms s m args below meth c A H locs cells slots ls hX hl hI c1 c2 => va_ldcS hX.1 hX.2.1 hX.2.2.2.2.2.1 (hz A s hI.2.2.2.2.2) hd (h p l e mc ms s m args below meth c A H locs cells slots ls hX hl hI c1 c2)
theorem mz_ldcwS0 {p : Program} {l : Launch} {e : Env} {R : Room} {s : State} {m : MethodId} {args : Array Value} {below : List Frame} {meth : Method} {c : Code} {T : State} {locs : List Loc} {cells slots : Nat}
    (X : Stand p l e R s m args below meth c T locs cells slots) (hexec : p.tables.exec = Jvm.exec) {own text : String} {index : Nat} {a : Addr} (hown : s.vm.findClass own = some m.cls)
    (hconst : (Cond.stringRef own index text).before args s = true) (hev : (Term.string own index).eval args s none [] s = some (.ref a)) {g : JFrame} (hg : g.method = m) (hdg : decode c.code g.pc = .ok (.ldc_w index, 3)) :
    ∀ target, Steps p.tables e below (T.setTop { g with pc := g.pc + 3, stack := .ref a :: g.stack }) target → Steps p.tables e below (T.setTop g) target := by
  obtain ⟨k, cf, i, a', hk, hcf, hcp, -, hr, hev'⟩ := Cond.stringRef_spec hown hconst
  cases hev.symm.trans hev'
  obtain ⟨k', hk', he⟩ := X.warmed.alike.2.2 _ _ hk
  have hr' : k'.resolved[index]? = some (some (.string a)) := by
    rcases X.warmed.entry hk hk' index with h | ⟨h, -⟩
    · rw [h]; exact hr
    · rw [hr] at h; cases h
  intro target hrest
  subst hg
  jvm_step X.here [hexec, hdg, ldc_w.wp_string (e := e) (s := T) (f := g) X.here.top hk' (by rw [he]; exact hcf) hcp hr']
  exact hrest
theorem mz_ldcwS {idx q : Nat} {tx : String} (hd : decode mm.2.1 pc = .ok (.ldc_w idx, 3)) (hz : ∀ (A : Nat → Prop) (s : State), mz_ro mzRo G A s s.heap → vk_R mm.1.cls idx tx q s) (h : MzS G B d mm M bu Q (pc + 3) lv (.ref q :: st)) : MzS G B d mm M bu Q pc lv st := by
  intro p l e mc ms s m args below meth c A H locs cells slots ls hX hl hI c1 c2 T hT X
  obtain ⟨t, a1, b1⟩ := h p l e mc ms s m args below meth c A H locs cells slots ls hX hl hI c1 c2 T hT X
  have hZ := hz A s hI.2.2.2.2.2
  exact ⟨t, mz_ldcwS0 X hX.1 hX.2.2.2.2.2.1 (text := tx) (a := q) hZ.1 hZ.2 (g := F0 m pc ls st) rfl (by rw [hX.2.1]; exact hd) t a1, b1⟩
theorem mz_callR {mm' : MzT} {idx : Nat} {As : List Value} {q : Nat} (m1 m2 : Nat) (hd : decode mm.2.1 pc = .ok (.invokevirtual idx, 3)) (hcs : mzCall mm mm' As.length) (hw : Cond.methodLink mm.1.cls idx mm'.1 ∈ mzAll) (hin : Cond.instanceMethod mm'.1 ∈ mzAll) (hse : Cond.selects mm'.1.cls mm'.1 mm'.1 ∈ mzAll) (ho : ∀ (A : Nat → Prop) (s : State), mz_ro mzRo G A s s.heap → va_O mm'.1.cls q A s s.heap) (hst : (st.map fun v => v.category).sum ≤ 8) (hb1 : m1 ≤ bu.1) (hb2 : m2 ≤ bu.2)
    (h : MzC G B d mm' (.ref q :: As) M (m1, m2) (fun r B' M' => ∃ v, r = .inl v ∧ MzS G B' (d + 1) mm M' (bu.1 - m1, bu.2 - m2) Q (pc + 3) lv (v.toList ++ st))) : MzS G B (d + 1) mm M bu Q pc lv (As.reverse ++ .ref q :: st) := by
  intro p l e mc ms s m args below meth c A H locs cells slots ls hX hl hI c1 c2
  obtain ⟨cell, k1, k2, k3, -⟩ := (ho A s hI.2.2.2.2.2).kept hI.2.2.2.1.2.1
  refine mz_back hX hl hI c1 c2 hb1 hb2 (va_runV (y := mm'.1) (bytes := mm'.2.1) (maxL := mm'.2.2.1) (ret := mm'.2.2.2) (ws := mzWs mm') (rm := mzRm d m1 m2) (C := mm'.1.cls) (As := As) (rest := st) (nL := mm.2.2.1) (Ts := mzWs mm) (own := mm.1.cls) (n := As.length) ⟨hX.1, hX.2.1, hX.2.2.1, hX.2.2.2.2.2.1, hX.2.2.2.2.1⟩ (h l H.size) ⟨callB_of As.length hX.2.2.2.2.1 (mz_good hcs.2.1) rfl rfl rfl (hX.2.2.2.2.1 _ (List.mem_cons_of_mem _ hcs.1)) (hX.2.2.2.2.1 _ (List.mem_cons_of_mem _ hw)) hcs.2.2.1 ⟨Nat.le_refl _, show 8 + (mm'.2.2.1 + 11) + 46 * d ≤ 46 * (d + 1) by have := hcs.2.2.2; omega⟩, hX.2.2.2.2.1 _ (List.mem_cons_of_mem _ hin), hX.2.2.2.2.1 _ (List.mem_cons_of_mem _ hse)⟩ ⟨mz_pre_blind, ⟨cell, k1, k2, k3⟩, fun U hU hW => mz_preOf hI hU hW⟩ rfl rfl hl.1 rfl (lv_room hst) hd ⟨show cells + m1 ≤ mc by omega, show slots + m2 ≤ ms by omega⟩)
theorem mz_acmpC_eq {c9 e9 : Nat} (hc : c9 < 21) (he : e9 < 21) {off : Int} (tgt : Nat) (hd : decode mm.2.1 pc = .ok (.if_acmp .eq off, 3)) (ht : (pc : Int) + off = (tgt : Int)) (kt : c9 = e9 → MzS G B d mm M bu Q tgt lv st) (kf : ¬ c9 = e9 → MzS G B d mm M bu Q (pc + 3) lv st) : MzS G B d mm M bu Q pc lv (.ref (G.2 e9) :: .ref (G.2 c9) :: st) := by
  intro p l e mc ms s m args below meth c A H locs cells slots ls hX hl hI c1 c2
  have hne : mzNeZ G.2 A s s.heap := mz_u hI.2.2.2.2.2 (mz_fixIn 6 rfl)
  exact lv_acmp_eq (rx := some (G.2 c9)) (ry := some (G.2 e9)) hX.1 hX.2.1 hd ht (fun h => kt (hne _ _ hc he (Option.some.inj h)) p l e mc ms s m args below meth c A H locs cells slots ls hX hl hI c1 c2) (fun h => kf (fun h2 => h (by rw [h2])) p l e mc ms s m args below meth c A H locs cells slots ls hX hl hI c1 c2)
theorem mz_acmpC_ne {c9 e9 : Nat} (hc : c9 < 21) (he : e9 < 21) {off : Int} (tgt : Nat) (hd : decode mm.2.1 pc = .ok (.if_acmp .ne off, 3)) (ht : (pc : Int) + off = (tgt : Int)) (kt : ¬ c9 = e9 → MzS G B d mm M bu Q tgt lv st) (kf : c9 = e9 → MzS G B d mm M bu Q (pc + 3) lv st) : MzS G B d mm M bu Q pc lv (.ref (G.2 e9) :: .ref (G.2 c9) :: st) := by
  intro p l e mc ms s m args below meth c A H locs cells slots ls hX hl hI c1 c2
  have hne : mzNeZ G.2 A s s.heap := mz_u hI.2.2.2.2.2 (mz_fixIn 6 rfl)
  exact lv_acmp_ne (rx := some (G.2 c9)) (ry := some (G.2 e9)) hX.1 hX.2.1 hd ht (fun h => kt (fun h2 => h (by rw [h2])) p l e mc ms s m args below meth c A H locs cells slots ls hX hl hI c1 c2) (fun h => kf (hne _ _ hc he (Option.some.inj h)) p l e mc ms s m args below meth c A H locs cells slots ls hX hl hI c1 c2)
theorem mz_acmpN_eq {e9 : Nat} {off : Int} (hd : decode mm.2.1 pc = .ok (.if_acmp .eq off, 3)) (tgt : Nat) (ht : (pc : Int) + off = (tgt : Int)) (h : MzS G B d mm M bu Q (pc + 3) lv st) : MzS G B d mm M bu Q pc lv (.ref e9 :: .null :: st) :=
  fun p l e mc ms s m args below meth c A H locs cells slots ls hX hl hI c1 c2 => lv_acmp_eq (rx := none) (ry := some e9) hX.1 hX.2.1 hd ht (fun h9 => by cases h9) (fun _ => (h p l e mc ms s m args below meth c A H locs cells slots ls hX hl hI c1 c2))
theorem mz_acmpN_ne {e9 : Nat} {off : Int} (tgt : Nat) (hd : decode mm.2.1 pc = .ok (.if_acmp .ne off, 3)) (ht : (pc : Int) + off = (tgt : Int)) (h : MzS G B d mm M bu Q tgt lv st) : MzS G B d mm M bu Q pc lv (.ref e9 :: .null :: st) :=
  fun p l e mc ms s m args below meth c A H locs cells slots ls hX hl hI c1 c2 => lv_acmp_ne (rx := none) (ry := some e9) hX.1 hX.2.1 hd ht (fun _ => (h p l e mc ms s m args below meth c A H locs cells slots ls hX hl hI c1 c2)) (fun h9 => by cases h9)
def mm_JS_coder : MzT := (⟨"java/lang/String", "coder", "()B"⟩, prog_20_method_152_code, 1, some .byte)
theorem cs_JS_coder {mm : MzT} : mzCall mm mm_JS_coder 0 := ⟨wn_JS, wco_JS_coder, by decide +kernel, by decide⟩
theorem d_JS_coder_0 : decode mm_JS_coder.2.1 0 = .ok (.getstatic 38, 3) := by decide +kernel
theorem d_JS_coder_3 : decode mm_JS_coder.2.1 3 = .ok (.ifCond .eq 10, 3) := by decide +kernel
theorem d_JS_coder_6 : decode mm_JS_coder.2.1 6 = .ok (.aload_n 0, 1) := by decide +kernel
theorem d_JS_coder_7 : decode mm_JS_coder.2.1 7 = .ok (.getfield 15, 3) := by decide +kernel
theorem d_JS_coder_10 : decode mm_JS_coder.2.1 10 = .ok (.goto 4, 3) := by decide +kernel
theorem d_JS_coder_13 : decode mm_JS_coder.2.1 13 = .ok (.iconst 1, 1) := by decide +kernel
theorem d_JS_coder_14 : decode mm_JS_coder.2.1 14 = .ok (.ireturn, 1) := by decide +kernel
def mm_JS_isLatin1 : MzT := (⟨"java/lang/String", "isLatin1", "()Z"⟩, prog_20_method_154_code, 1, some .boolean)
theorem cs_JS_isLatin1 {mm : MzT} : mzCall mm mm_JS_isLatin1 0 := ⟨wn_JS, wco_JS_isLatin1, by decide +kernel, by decide⟩
theorem d_JS_isLatin1_0 : decode mm_JS_isLatin1.2.1 0 = .ok (.getstatic 38, 3) := by decide +kernel
theorem d_JS_isLatin1_3 : decode mm_JS_isLatin1.2.1 3 = .ok (.ifCond .eq 14, 3) := by decide +kernel
theorem d_JS_isLatin1_6 : decode mm_JS_isLatin1.2.1 6 = .ok (.aload_n 0, 1) := by decide +kernel
theorem d_JS_isLatin1_7 : decode mm_JS_isLatin1.2.1 7 = .ok (.getfield 15, 3) := by decide +kernel
theorem d_JS_isLatin1_10 : decode mm_JS_isLatin1.2.1 10 = .ok (.ifCond .ne 7, 3) := by decide +kernel
theorem d_JS_isLatin1_13 : decode mm_JS_isLatin1.2.1 13 = .ok (.iconst 1, 1) := by decide +kernel
theorem d_JS_isLatin1_14 : decode mm_JS_isLatin1.2.1 14 = .ok (.goto 4, 3) := by decide +kernel
theorem d_JS_isLatin1_18 : decode mm_JS_isLatin1.2.1 18 = .ok (.ireturn, 1) := by decide +kernel
def mm_JS_length : MzT := (⟨"java/lang/String", "length", "()I"⟩, prog_20_method_54_code, 1, some .int)
theorem cs_JS_length {mm : MzT} : mzCall mm mm_JS_length 0 := ⟨wn_JS, wco_JS_length, by decide +kernel, by decide⟩
theorem d_JS_length_0 : decode mm_JS_length.2.1 0 = .ok (.aload_n 0, 1) := by decide +kernel
theorem d_JS_length_1 : decode mm_JS_length.2.1 1 = .ok (.getfield 9, 3) := by decide +kernel
theorem d_JS_length_4 : decode mm_JS_length.2.1 4 = .ok (.arraylength, 1) := by decide +kernel
theorem d_JS_length_5 : decode mm_JS_length.2.1 5 = .ok (.aload_n 0, 1) := by decide +kernel
theorem d_JS_length_6 : decode mm_JS_length.2.1 6 = .ok (.invokevirtual 335, 3) := by decide +kernel
theorem d_JS_length_9 : decode mm_JS_length.2.1 9 = .ok (.ishr, 1) := by decide +kernel
theorem d_JS_length_10 : decode mm_JS_length.2.1 10 = .ok (.ireturn, 1) := by decide +kernel
def mm_JP_checkIndex : MzT := (⟨"jdk/internal/util/Preconditions", "checkIndex", "(IILjava/util/function/BiFunction;)I"⟩, prog_25_method_11_code, 3, some .int)
theorem cs_JP_checkIndex {mm : MzT} : mzCall mm mm_JP_checkIndex 3 := ⟨wn_JP, wco_JP_checkIndex, by decide +kernel, by decide⟩
theorem d_JP_checkIndex_0 : decode mm_JP_checkIndex.2.1 0 = .ok (.iload_n 0, 1) := by decide +kernel
theorem d_JP_checkIndex_1 : decode mm_JP_checkIndex.2.1 1 = .ok (.ifCond .lt 8, 3) := by decide +kernel
theorem d_JP_checkIndex_4 : decode mm_JP_checkIndex.2.1 4 = .ok (.iload_n 0, 1) := by decide +kernel
theorem d_JP_checkIndex_5 : decode mm_JP_checkIndex.2.1 5 = .ok (.iload_n 1, 1) := by decide +kernel
theorem d_JP_checkIndex_6 : decode mm_JP_checkIndex.2.1 6 = .ok (.if_icmp .lt 10, 3) := by decide +kernel
theorem d_JP_checkIndex_16 : decode mm_JP_checkIndex.2.1 16 = .ok (.iload_n 0, 1) := by decide +kernel
theorem d_JP_checkIndex_17 : decode mm_JP_checkIndex.2.1 17 = .ok (.ireturn, 1) := by decide +kernel
def mm_JS_checkIndex : MzT := (⟨"java/lang/String", "checkIndex", "(II)V"⟩, prog_20_method_155_code, 2, none)
theorem cs_JS_checkIndex {mm : MzT} : mzCall mm mm_JS_checkIndex 2 := ⟨wn_JS, wco_JS_checkIndex, by decide +kernel, by decide⟩
theorem d_JS_checkIndex_0 : decode mm_JS_checkIndex.2.1 0 = .ok (.iload_n 0, 1) := by decide +kernel
theorem d_JS_checkIndex_1 : decode mm_JS_checkIndex.2.1 1 = .ok (.iload_n 1, 1) := by decide +kernel
theorem d_JS_checkIndex_2 : decode mm_JS_checkIndex.2.1 2 = .ok (.getstatic 1053, 3) := by decide +kernel
theorem d_JS_checkIndex_5 : decode mm_JS_checkIndex.2.1 5 = .ok (.invokestatic 1059, 3) := by decide +kernel
theorem d_JS_checkIndex_8 : decode mm_JS_checkIndex.2.1 8 = .ok (.pop, 1) := by decide +kernel
theorem d_JS_checkIndex_9 : decode mm_JS_checkIndex.2.1 9 = .ok (.return_, 1) := by decide +kernel
def mm_JL_charAt : MzT := (⟨"java/lang/StringLatin1", "charAt", "([BI)C"⟩, prog_21_method_2_code, 2, some .char)
theorem cs_JL_charAt {mm : MzT} : mzCall mm mm_JL_charAt 2 := ⟨wn_JL, wco_JL_charAt, by decide +kernel, by decide⟩
theorem d_JL_charAt_0 : decode mm_JL_charAt.2.1 0 = .ok (.iload_n 1, 1) := by decide +kernel
theorem d_JL_charAt_1 : decode mm_JL_charAt.2.1 1 = .ok (.aload_n 0, 1) := by decide +kernel
theorem d_JL_charAt_2 : decode mm_JL_charAt.2.1 2 = .ok (.arraylength, 1) := by decide +kernel
theorem d_JL_charAt_3 : decode mm_JL_charAt.2.1 3 = .ok (.invokestatic 9, 3) := by decide +kernel
theorem d_JL_charAt_6 : decode mm_JL_charAt.2.1 6 = .ok (.aload_n 0, 1) := by decide +kernel
theorem d_JL_charAt_7 : decode mm_JL_charAt.2.1 7 = .ok (.iload_n 1, 1) := by decide +kernel
theorem d_JL_charAt_8 : decode mm_JL_charAt.2.1 8 = .ok (.baload, 1) := by decide +kernel
theorem d_JL_charAt_9 : decode mm_JL_charAt.2.1 9 = .ok (.sipush 255, 3) := by decide +kernel
theorem d_JL_charAt_12 : decode mm_JL_charAt.2.1 12 = .ok (.iand, 1) := by decide +kernel
theorem d_JL_charAt_13 : decode mm_JL_charAt.2.1 13 = .ok (.i2c, 1) := by decide +kernel
theorem d_JL_charAt_14 : decode mm_JL_charAt.2.1 14 = .ok (.ireturn, 1) := by decide +kernel
def mm_JS_charAt : MzT := (⟨"java/lang/String", "charAt", "(I)C"⟩, prog_20_method_56_code, 2, some .char)
theorem cs_JS_charAt {mm : MzT} : mzCall mm mm_JS_charAt 1 := ⟨wn_JS, wco_JS_charAt, by decide +kernel, by decide⟩
theorem d_JS_charAt_0 : decode mm_JS_charAt.2.1 0 = .ok (.aload_n 0, 1) := by decide +kernel
theorem d_JS_charAt_1 : decode mm_JS_charAt.2.1 1 = .ok (.invokevirtual 492, 3) := by decide +kernel
theorem d_JS_charAt_4 : decode mm_JS_charAt.2.1 4 = .ok (.ifCond .eq 12, 3) := by decide +kernel
theorem d_JS_charAt_7 : decode mm_JS_charAt.2.1 7 = .ok (.aload_n 0, 1) := by decide +kernel
theorem d_JS_charAt_8 : decode mm_JS_charAt.2.1 8 = .ok (.getfield 9, 3) := by decide +kernel
theorem d_JS_charAt_11 : decode mm_JS_charAt.2.1 11 = .ok (.iload_n 1, 1) := by decide +kernel
theorem d_JS_charAt_12 : decode mm_JS_charAt.2.1 12 = .ok (.invokestatic 495, 3) := by decide +kernel
theorem d_JS_charAt_15 : decode mm_JS_charAt.2.1 15 = .ok (.ireturn, 1) := by decide +kernel
def mm_JE_ordinal : MzT := (⟨"java/lang/Enum", "ordinal", "()I"⟩, prog_15_method_2_code, 1, some .int)
theorem cs_JE_ordinal {mm : MzT} : mzCall mm mm_JE_ordinal 0 := ⟨wn_JE, wco_JE_ordinal, by decide +kernel, by decide⟩
theorem d_JE_ordinal_0 : decode mm_JE_ordinal.2.1 0 = .ok (.aload_n 0, 1) := by decide +kernel
theorem d_JE_ordinal_1 : decode mm_JE_ordinal.2.1 1 = .ok (.getfield 7, 3) := by decide +kernel
theorem d_JE_ordinal_4 : decode mm_JE_ordinal.2.1 4 = .ok (.ireturn, 1) := by decide +kernel
theorem tm_JS_coder {K : Int32 → MzM → Prop} {k : Nat} (hk : k < 44) (hL : mzLnk g M) (h : K 0 M) : MzC G B d mm_JS_coder [.ref (G.2 (100 + k))] M (0, 0) (mzK1 g B K) :=
  MzC.of (by decide) (Nat.le_of_ble_eq_true rfl) (show MzS G B d mm_JS_coder M (0, 0) (mzK1 g B K) 0 [(0, .ref (G.2 (100 + k)))] [] from
    mz_gets d_JS_coder_0 wf_JS_38 (fun A s hr => mz_u hr (mz_fixIn 5 rfl)) (mz_if_eq 13 d_JS_coder_3 rfl (fun hc => absurd hc (by decide)) (fun _ => mz_aload_n d_JS_coder_6 rfl (mz_getF d_JS_coder_7 wf_JS_15 (fun A s hr => (mz_u hr (mz_strIn hk)).2.1) (mz_goto 14 d_JS_coder_10 rfl (mz_iret .byte d_JS_coder_14 rfl (by decide) ⟨rfl, hL, _, rfl, h⟩))))))
theorem tm_JS_isLatin1 {K : Int32 → MzM → Prop} {k : Nat} (hk : k < 44) (hL : mzLnk g M) (h : K 1 M) : MzC G B d mm_JS_isLatin1 [.ref (G.2 (100 + k))] M (0, 0) (mzK1 g B K) :=
  MzC.of (by decide) (Nat.le_of_ble_eq_true rfl) (show MzS G B d mm_JS_isLatin1 M (0, 0) (mzK1 g B K) 0 [(0, .ref (G.2 (100 + k)))] [] from
    mz_gets d_JS_isLatin1_0 wf_JS_38 (fun A s hr => mz_u hr (mz_fixIn 5 rfl)) (mz_if_eq 17 d_JS_isLatin1_3 rfl (fun hc => absurd hc (by decide)) (fun _ => mz_aload_n d_JS_isLatin1_6 rfl (mz_getF d_JS_isLatin1_7 wf_JS_15 (fun A s hr => (mz_u hr (mz_strIn hk)).2.1) (mz_if_ne 17 d_JS_isLatin1_10 rfl (fun hc => absurd rfl hc) (fun _ => mz_iconst 1 d_JS_isLatin1_13 (by decide) (mz_goto 18 d_JS_isLatin1_14 rfl (mz_iret .boolean d_JS_isLatin1_18 rfl (by decide) ⟨rfl, hL, _, rfl, h⟩)))))))) 
theorem tm_JS_length {K : Int32 → MzM → Prop} {k : Nat} (hk : k < 44) (hL : mzLnk g M) (h : K (Int32.ofNat (mzStrB.getD k []).length) M) : MzC G B (d + 1) mm_JS_length [.ref (G.2 (100 + k))] M (0, 0) (mzK1 g B K) :=
  MzC.of (by decide) (Nat.le_of_ble_eq_true rfl) (show MzS G B (d + 1) mm_JS_length M (0, 0) (mzK1 g B K) 0 [(0, .ref (G.2 (100 + k)))] [] from
    mz_aload_n d_JS_length_0 rfl (mz_getF d_JS_length_1 wf_JS_9 (fun A s hr => (mz_u hr (mz_strIn hk)).2.2.1) (mz_rlen _ d_JS_length_4 (fun A s hr => (mz_u hr (mz_strIn hk)).2.2.2.1) rfl (mz_aload_n d_JS_length_5 rfl (mz_callR (As := []) (st := [.int (Int32.ofNat (mzStrB.getD k []).length)]) 0 0 d_JS_length_6 cs_JS_coder wl_JS_335 wi_JS_coder wse_JS_coder (fun A s hr => (mz_u hr (mz_strIn hk)).1) (Nat.le_of_ble_eq_true rfl) (Nat.le_refl _) (Nat.le_refl _) (MzC.mono (tm_JS_coder (K := fun v M' => v = 0 ∧ M' = M) hk hL ⟨rfl, rfl⟩) (fun r9 B9 M1 hq => by
      obtain ⟨rfl, hL1, v, rfl, rfl, rfl⟩ := hq
      exact ⟨_, rfl, mz_ishr d_JS_length_9 (mz_iret .int d_JS_length_10 rfl rfl ⟨rfl, hL1, _, rfl, by rw [sb_shr0]; exact h⟩)⟩)))))))
theorem tm_JP_checkIndex {K : Int32 → MzM → Prop} {x n : Int32} {v : Value} (hv : v.isRef = true) (hx : ¬ x < 0) (hn : x < n) (hL : mzLnk g M) (h : K x M) : MzC G B d mm_JP_checkIndex [.int x, .int n, v] M (0, 0) (mzK1 g B K) := by
  cases v <;> first | (cases hv; done) | exact MzC.of (by decide) (Nat.le_of_ble_eq_true rfl) (mz_iload_n d_JP_checkIndex_0 rfl (mz_if_lt 9 d_JP_checkIndex_1 rfl (fun hc => absurd hc hx) (fun _ => mz_iload_n d_JP_checkIndex_4 rfl (mz_iload_n d_JP_checkIndex_5 rfl (mz_icmp_lt 16 d_JP_checkIndex_6 rfl (fun _ => mz_iload_n d_JP_checkIndex_16 rfl (mz_iret .int d_JP_checkIndex_17 rfl rfl ⟨rfl, hL, _, rfl, h⟩)) (fun hc => absurd hn hc))))))
theorem tm_JS_checkIndex {K : MzM → Prop} {x n : Int32} (hx : ¬ x < 0) (hn : x < n) (hL : mzLnk g M) (h : K M) : MzC G B (d + 1) mm_JS_checkIndex [.int x, .int n] M (0, 0) (mzK0 g B K) :=
  MzC.of (by decide) (Nat.le_of_ble_eq_true rfl) (show MzS G B (d + 1) mm_JS_checkIndex M (0, 0) (mzK0 g B K) 0 [(0, .int x), (1, .int n)] [] from
    mz_iload_n d_JS_checkIndex_0 rfl (mz_iload_n d_JS_checkIndex_1 rfl (mz_getsX d_JS_checkIndex_2 wf_JS_1053 (mz_fixIn 9 rfl) (fun v hv => mz_callS (As := [.int x, .int n, v]) (st := []) 0 0 d_JS_checkIndex_5 cs_JP_checkIndex wl_JS_1059 ws_JP_checkIndex (Nat.le_of_ble_eq_true rfl) (Nat.le_refl _) (Nat.le_refl _) (MzC.mono (tm_JP_checkIndex (K := fun _ M' => M' = M) hv hx hn hL rfl) (fun r9 B9 M1 hq => by
      obtain ⟨rfl, hL1, v1, rfl, rfl⟩ := hq
      exact ⟨_, rfl, mz_pop d_JS_checkIndex_8 rfl (mz_vret d_JS_checkIndex_9 rfl ⟨rfl, hL1, rfl, h⟩)⟩))))))
theorem mz_strCh : ∀ k, k < 44 → ∀ j, j < (mzStrB.getD k []).length → (((mzStrB.getD k []).getD j 0 &&& 255).toUInt32 % 65536).toInt32 = (mzStrB.getD k []).getD j 0 ∧ narrow .char (.int ((mzStrB.getD k []).getD j 0)) = .int ((mzStrB.getD k []).getD j 0) := by decide +kernel
theorem mz_strLen : ∀ k, k < 44 → (mzStrB.getD k []).length < 100 := by decide +kernel
theorem tm_JL_charAt {K : Int32 → MzM → Prop} {k : Nat} (hk : k < 44) {x : Int32} (j : Nat) (hj : x.toInt = (j : Int)) (hn : j < (mzStrB.getD k []).length) (hL : mzLnk g M) (h : K ((mzStrB.getD k []).getD j 0) M) : MzC G B (d + 2) mm_JL_charAt [.ref (G.2 (200 + k)), .int x] M (0, 0) (mzK1 g B K) := by
  have hx : ¬ x < 0 := fun h9 => by
    have := Int32.lt_iff_toInt_lt.mp h9
    simp at this
    omega
  have hlen := mz_strLen k hk
  have hlt : x < Int32.ofNat (mzStrB.getD k []).length := by
    rw [Int32.lt_iff_toInt_lt, hj]
    have := nI_toInt (n := (mzStrB.getD k []).length) (by omega)
    unfold nI at this
    omega
  obtain ⟨e1, e2⟩ := mz_strCh k hk j hn
  exact MzC.of (by decide) (Nat.le_of_ble_eq_true rfl) (show MzS G B (d + 2) mm_JL_charAt M (0, 0) (mzK1 g B K) 0 [(0, .ref (G.2 (200 + k))), (1, .int x)] [] from
    mz_iload_n d_JL_charAt_0 rfl (mz_aload_n d_JL_charAt_1 rfl (mz_rlen _ d_JL_charAt_2 (fun A s hr => (mz_u hr (mz_strIn hk)).2.2.2.1) rfl (mz_callS (As := [.int x, .int (Int32.ofNat (mzStrB.getD k []).length)]) (st := []) 0 0 d_JL_charAt_3 cs_JS_checkIndex wl_JL_9 ws_JS_checkIndex (Nat.le_of_ble_eq_true rfl) (Nat.le_refl _) (Nat.le_refl _) (MzC.mono (tm_JS_checkIndex (K := fun M' => M' = M) hx hlt hL rfl) (fun r9 B9 M1 hq => by
      obtain ⟨rfl, hL1, rfl, rfl⟩ := hq
      exact ⟨none, rfl, mz_aload_n d_JL_charAt_6 rfl (mz_iload_n d_JL_charAt_7 rfl (mz_rbald j d_JL_charAt_8 (fun A s hr => (mz_u hr (mz_strIn hk)).2.2.2.1) hj hn rfl (mz_sipush 255 d_JL_charAt_9 (by decide) (mz_iand d_JL_charAt_12 (mz_i2c d_JL_charAt_13 (mz_iret .char d_JL_charAt_14 rfl (by rw [e1]; exact e2) ⟨rfl, hL1, _, rfl, by rw [e1]; exact h⟩))))))⟩))))))
theorem tm_JS_charAt {K : Int32 → MzM → Prop} {k : Nat} (hk : k < 44) {x : Int32} (j : Nat) (hj : x.toInt = (j : Int)) (hn : j < (mzStrB.getD k []).length) (hL : mzLnk g M) (h : K ((mzStrB.getD k []).getD j 0) M) : MzC G B (d + 3) mm_JS_charAt [.ref (G.2 (100 + k)), .int x] M (0, 0) (mzK1 g B K) :=
  MzC.of (by decide) (Nat.le_of_ble_eq_true rfl) (show MzS G B (d + 3) mm_JS_charAt M (0, 0) (mzK1 g B K) 0 [(0, .ref (G.2 (100 + k))), (1, .int x)] [] from
    mz_aload_n d_JS_charAt_0 rfl (mz_callR (As := []) (st := []) 0 0 d_JS_charAt_1 cs_JS_isLatin1 wl_JS_492 wi_JS_isLatin1 wse_JS_isLatin1 (fun A s hr => (mz_u hr (mz_strIn hk)).1) (Nat.le_of_ble_eq_true rfl) (Nat.le_refl _) (Nat.le_refl _) (MzC.mono (tm_JS_isLatin1 (d := d + 2) (K := fun v M' => v = 1 ∧ M' = M) hk hL ⟨rfl, rfl⟩) (fun r9 B9 M1 hq => by
      obtain ⟨rfl, hL1, v, rfl, rfl, rfl⟩ := hq
      exact ⟨_, rfl, mz_if_eq 16 d_JS_charAt_4 rfl (fun hc => absurd hc (by decide)) (fun _ => mz_aload_n d_JS_charAt_7 rfl (mz_getF d_JS_charAt_8 wf_JS_9 (fun A s hr => (mz_u hr (mz_strIn hk)).2.2.1) (mz_iload_n d_JS_charAt_11 rfl (mz_callS (As := [.ref (G.2 (200 + k)), .int x]) (st := []) 0 0 d_JS_charAt_12 cs_JL_charAt wl_JS_495 ws_JL_charAt (Nat.le_of_ble_eq_true rfl) (Nat.le_refl _) (Nat.le_refl _) (MzC.mono (tm_JL_charAt (K := fun v M' => v = (mzStrB.getD k []).getD j 0 ∧ M' = M1) hk j hj hn hL1 ⟨rfl, rfl⟩) (fun r9 B9 M2 hq => by
        obtain ⟨rfl, hL2, v2, rfl, rfl, rfl⟩ := hq
        exact ⟨_, rfl, mz_iret .char d_JS_charAt_15 rfl (mz_strCh k hk j hn).2 ⟨rfl, hL2, _, rfl, h⟩⟩))))))⟩))))
theorem tm_JE_ordinal {K : Int32 → MzM → Prop} {k : Nat} (hk : k < 21) (hL : mzLnk g M) (h : K (Int32.ofNat k) M) : MzC G B d mm_JE_ordinal [.ref (G.2 k)] M (0, 0) (mzK1 g B K) :=
  MzC.of (by decide) (Nat.le_of_ble_eq_true rfl) (show MzS G B d mm_JE_ordinal M (0, 0) (mzK1 g B K) 0 [(0, .ref (G.2 k))] [] from
    mz_aload_n d_JE_ordinal_0 rfl (mz_getF d_JE_ordinal_1 wf_JE_7 (fun A s hr => (mz_u hr (mz_cmdIn hk)).2.1) (mz_iret .int d_JE_ordinal_4 rfl rfl ⟨rfl, hL, _, rfl, h⟩)))
def mzOrd : MethodName := ⟨"ParcelLine$Command", "ordinal", "()I"⟩
/-- command.ordinal(): an inherited method of a constant -/
theorem mz_ordinal {idx k : Nat} (hk : k < 21) (hd : decode mm.2.1 pc = .ok (.invokevirtual idx, 3)) (hw : Cond.methodLink mm.1.cls idx mzOrd ∈ mzAll) (hst : (st.map fun v => v.category).sum ≤ 8) (hL : mzLnk g M) (h : MzS G B (d + 1) mm M bu Q (pc + 3) lv (.int (Int32.ofNat k) :: st)) : MzS G B (d + 1) mm M bu Q pc lv (.ref (G.2 k) :: st) := by
  intro p l e mc ms s m args below meth c A H locs cells slots ls hX hl hI c1 c2
  obtain ⟨cell, k1, k2, k3, -⟩ := (mz_u hI.2.2.2.2.2 (mz_cmdIn hk)).1.kept hI.2.2.2.1.2.1
  have hG : GoodIn (mzWs mm) (va_wsU mm.1.cls idx "ParcelLine$Command" "java/lang/Enum" mzOrd mm_JE_ordinal.1 (mzWs mm_JE_ordinal)) := by
    intro w hw2
    rcases List.mem_append.mp hw2 with hw2 | hw2
    · have hm : w ∈ mzAll := by
        rcases List.mem_cons.mp hw2 with rfl | hw2
        · exact hw
        rcases List.mem_cons.mp hw2 with rfl | hw2
        · exact wsm_ordinal
        rcases List.mem_cons.mp hw2 with rfl | hw2
        · exact wse_ordinal
        rcases List.mem_cons.mp hw2 with rfl | hw2
        · exact wi_JE_ordinal
        rcases List.mem_cons.mp hw2 with rfl | hw2
        · exact wn_JE
        · cases hw2
      exact ⟨List.mem_cons_of_mem _ hm, mzAll_good _ hm⟩
    · exact mz_good wco_JE_ordinal w hw2
  have hc : MzC G B d mm_JE_ordinal [.ref (G.2 k)] M (0, 0) (fun r B' M' => ∃ v, r = .inl v ∧ MzS G B' (d + 1) mm M' (bu.1 - 0, bu.2 - 0) Q (pc + 3) lv (v.toList ++ st)) :=
    MzC.mono (tm_JE_ordinal (K := fun v M' => v = Int32.ofNat k ∧ M' = M) hk hL ⟨rfl, rfl⟩) (fun r9 B9 M1 hq => by
      obtain ⟨rfl, hL1, v, rfl, rfl, rfl⟩ := hq
      exact ⟨_, rfl, h⟩)
  refine mz_back hX hl hI c1 c2 (Nat.zero_le _) (Nat.zero_le _) (va_runU (x := mzOrd) (y := mm_JE_ordinal.1) (bytes := mm_JE_ordinal.2.1) (maxL := mm_JE_ordinal.2.2.1) (ret := mm_JE_ordinal.2.2.2) (ws := mzWs mm_JE_ordinal) (rm := mzRm d 0 0) (C := "ParcelLine$Command") (owner := "java/lang/Enum") (As := []) (rest := st) (nL := mm.2.2.1) (Ts := mzWs mm) (own := mm.1.cls) (n := 0) ⟨hX.1, hX.2.1, hX.2.2.1, hX.2.2.2.2.2.1, hX.2.2.2.2.1⟩ (hc l H.size) (va_cwU 0 hX.2.2.2.2.1 hG rfl rfl rfl rfl (by decide +kernel) ⟨Nat.le_refl _, show 8 + (1 + 11) + 46 * d ≤ 46 * (d + 1) by omega⟩) ⟨mz_pre_blind, ⟨cell, k1, k2, k3⟩, fun U hU hW => mz_preOf hI hU hW⟩ rfl rfl hl.1 rfl (lv_room hst) hd ⟨show cells + 0 ≤ mc by omega, show slots + 0 ≤ ms by omega⟩)
end MzRoRules
theorem mz_cmdW {c : Nat} (h : c < 21) : mzCmdW.getD c 0 < 44 := (by decide +kernel : ∀ c, c < 21 → mzCmdW.getD c 0 < 44) c h
/-- a method's end with a command or null -/
def mzKc (g : Bool) (G : MzG) (B : MzB) (K : Option Nat → MzM → Prop) : MzR → MzB → MzM → Prop := fun r B' M' => B = B' ∧ mzLnk g M' ∧ ∃ o : Option Nat, (∀ c, o = some c → c < 21) ∧ r = .inl (some (va_rf (o.map G.2))) ∧ K o M'
end
section
theorem MzS.cv {G : MzG} {B : MzB} {d : Nat} {mm : MzT} {M : MzM} {bu bu' : Nat × Nat} {Q : MzR → MzB → MzM → Prop} {pc : Nat} {lv lv' : List (Nat × Value)} {st st' : List Value} (hb : bu = bu') (hl : lv' = lv) (hs : st' = st) (h : MzS G B d mm M bu' Q pc lv' st') : MzS G B d mm M bu Q pc lv st := by
  subst hb
  subst hl
  subst hs
  exact h
theorem mzWf.sr {B : MzB} {M : MzM} {i l : MzL} {k : Nat} (h : mzWf B M) (hl : l ∈ mz_dm B) : mzWf B (mz_sr M i k (some l)) := by
  intro a b x hx
  rw [mz_r_sr] at hx
  by_cases hc : a = i ∧ b = k
  · rw [if_pos hc] at hx
    cases hx
    exact hl
  · rw [if_neg hc] at hx
    exact h a b x hx
theorem mzWf.nb {B : MzB} {M : MzM} {i : MzL} {q : Nat} {cA : ClassId} (h : mzWf B M) : mzWf (mz_nb B i q cA) (mz_nm M i) := by
  intro a b x hx
  rw [mz_r_nm] at hx
  by_cases hc : a = i
  · rw [if_pos hc] at hx
    cases hx
  · rw [if_neg hc] at hx
    rw [mz_dm_nb]
    exact List.mem_append_left _ (h a b x hx)
theorem mz_subl {l l' : List MzL} (h : l.all (fun x => decide (x ∈ l')) = true) (j : MzL) : j ∈ l → j ∈ l' := fun hj => by
  have := List.all_eq_true.mp h j hj
  simpa using this
section MzNewO
variable {G : MzG} {B : MzB} {d : Nat} {mm : MzT} {M : MzM} {bu : Nat × Nat} {Q : MzR → MzB → MzM → Prop} {pc : Nat} {lv : List (Nat × Value)} {st : List Value}
theorem mz_ad_old {i : MzL} {q : Nat} {cA : ClassId} (hf : i ∉ mz_dm B) : ∀ j ∈ mz_dm B, mz_ad (mz_nb B i q cA) j = mz_ad B j := fun j hj => by
  rw [mz_ad_nb, if_neg (show ¬ j = i from fun e => hf (by rw [← e]; exact hj))]
theorem mz_newO {i : MzL} {ci idx N : Nat} {C : String} {T : u_T} {ty : Nat → FieldType} (hC : mzCl ci C T N ty) (hd : decode mm.2.1 pc = .ok (.new idx, 3)) (hw : Cond.classLink mm.1.cls idx C ∈ mzAll) (hin : Cond.instantiable C N ∈ mzAll) (hini : Cond.initialized C ∈ mzAll) (hdv : ∀ k, k < N → defaultValue (ty k) = if mzIsR ci k = true then .null else .int 0) (hwf : mzWf B M) (hf : i ∉ mz_dm B) (hkd : mzKd i = .inl ci) (hb1 : 1 ≤ bu.1) (hb2 : N ≤ bu.2) (h : ∀ B' : MzB, mz_dm B' = mz_dm B ++ [i] → (∀ j ∈ mz_dm B, mz_ad B' j = mz_ad B j) → mzWf B' (mz_nm M i) → MzS G B' d mm (mz_nm M i) (bu.1 - 1, bu.2 - N) Q (pc + 3) lv (.ref (mz_ad B' i) :: st)) : MzS G B d mm M bu Q pc lv st :=
  mz_new hC hd hw hin hini hdv hwf hf hkd hb1 hb2 (fun q => h _ rfl (mz_ad_old hf) hwf.nb)
theorem mz_newaO {i : MzL} {n : Nat} {fty : FieldType} {at0 : ArrayType} {x : Int32} (hd : decode mm.2.1 pc = .ok (.newarray at0, 2)) (hw : Cond.arrayClass fty ∈ mzAll) (hty : newarray.typeOf at0 = fty) (hr : mzRT fty = false) (hdv : defaultValue fty = .int 0) (hx : x.toInt = (n : Int)) (hby : n * componentBytes fty ≤ 536870912) (hwf : mzWf B M) (hf : i ∉ mz_dm B) (hkd : mzKd i = .inr (fty, n)) (hb1 : 1 ≤ bu.1) (hb2 : n ≤ bu.2) (h : ∀ B' : MzB, mz_dm B' = mz_dm B ++ [i] → (∀ j ∈ mz_dm B, mz_ad B' j = mz_ad B j) → mzWf B' (mz_nm M i) → MzS G B' d mm (mz_nm M i) (bu.1 - 1, bu.2 - n) Q (pc + 2) lv (.ref (mz_ad B' i) :: st)) : MzS G B d mm M bu Q pc lv (.int x :: st) :=
  mz_newa hd hw hty hr hdv hx hby hwf hf hkd hb1 hb2 (fun q cA => h _ rfl (mz_ad_old hf) hwf.nb)
theorem mz_newqO {i : MzL} {n idx : Nat} {E : String} {x : Int32} (hd : decode mm.2.1 pc = .ok (.anewarray idx, 3)) (hw : Cond.classLink mm.1.cls idx E ∈ mzAll) (hov : mzAo E ∈ mzRo) (hx : x.toInt = (n : Int)) (hby : n * 4 ≤ 536870912) (hwf : mzWf B M) (hf : i ∉ mz_dm B) (hkd : mzKd i = .inr (.object E, n)) (hb1 : 1 ≤ bu.1) (hb2 : n ≤ bu.2) (h : ∀ B' : MzB, mz_dm B' = mz_dm B ++ [i] → (∀ j ∈ mz_dm B, mz_ad B' j = mz_ad B j) → mzWf B' (mz_nm M i) → MzS G B' d mm (mz_nm M i) (bu.1 - 1, bu.2 - n) Q (pc + 3) lv (.ref (mz_ad B' i) :: st)) : MzS G B d mm M bu Q pc lv (.int x :: st) :=
  mz_newq hd hw hov hx hby hwf hf hkd hb1 hb2 (fun q cA => h _ rfl (mz_ad_old hf) hwf.nb)
end MzNewO
theorem wi_Object : Jvm.Cond.instanceMethod ({ cls := "java/lang/Object", name := "<init>", desc := "()V" } : Jvm.MethodName) ∈ mzAll := mz_t1 (List.mem_of_getElem? (i := 31) (by decide +kernel)) (by decide +kernel)
theorem wco_Object : Cond.code Lib.objectInit ⟨#[0xb1]⟩ 1 none ∈ mzAll := mz_t1 (List.mem_of_getElem? (i := 32) (by decide +kernel)) (by decide +kernel)
def mm_Row_init : MzT := (⟨"ParcelLine$ByteRow", "<init>", "()V"⟩, prog_3_method_1_code, 1, (Option.none : Option Jvm.ClassFile.FieldType))
theorem cs_Row_init {mm : MzT} : mzCall mm mm_Row_init 0 := ⟨wn_Row, wco_Row_init, by decide +kernel, by decide⟩
theorem d_Row_init_0 : decode mm_Row_init.2.1 0 = .ok (.aload_n 0, 1) := by decide +kernel
theorem d_Row_init_1 : decode mm_Row_init.2.1 1 = .ok (.invokespecial 3, 3) := by decide +kernel
theorem d_Row_init_4 : decode mm_Row_init.2.1 4 = .ok (.aload_n 0, 1) := by decide +kernel
theorem d_Row_init_5 : decode mm_Row_init.2.1 5 = .ok (.bipush 24, 2) := by decide +kernel
theorem d_Row_init_7 : decode mm_Row_init.2.1 7 = .ok (.newarray .int, 2) := by decide +kernel
theorem d_Row_init_9 : decode mm_Row_init.2.1 9 = .ok (.putfield 9, 3) := by decide +kernel
theorem d_Row_init_12 : decode mm_Row_init.2.1 12 = .ok (.return_, 1) := by decide +kernel
def fm_Row_init4 (n : Nat)  (M : MzM) : MzM := (mz_sr (mz_nm M (5, n)) (4, n) 0 (some (5, n)))
set_option maxRecDepth 20000 in
set_option maxHeartbeats 4000000 in
theorem tc_Row_init4 {G : MzG} {B : MzB} {d : Nat} {n : Nat}  {M : MzM} {Q : MzR → MzB → MzM → Prop} (hw : mzWf B M) {D : List MzL} (hm : mz_dm B = D) (hi0 : (4, n) ∈ D) (hf0 : (5, n) ∉ D) (h : ∀ B9 : MzB, mz_dm B9 = D ++ [(5, n)] → (∀ j ∈ mz_dm B, mz_ad B9 j = mz_ad B j) → mzWf B9 (fm_Row_init4 n  M) → Q (.inl none) B9 (fm_Row_init4 n  M)) : MzC G B (d + 1) mm_Row_init [.ref (mz_ad B (4, n))] M (1, 24) Q :=
  MzC.of rfl (Nat.le_of_ble_eq_true rfl) (show MzS G B (d + 1) mm_Row_init M (1, 24) Q 0 [(0, .ref (mz_ad B (4, n)))] [] from ((mz_aload_n d_Row_init_0 rfl (mz_objInit d_Row_init_1 wl_Row_3 wi_Object wco_Object (Nat.succ_pos _) (Nat.le_of_ble_eq_true rfl) (mz_aload_n d_Row_init_4 rfl (mz_bipush (24 : Int32) d_Row_init_5 (by decide) (mz_newaO (i := (5, n)) (fty := .int) (n := 24) d_Row_init_7 wa_int rfl rfl (by decide) (by decide) (by decide) hw (by rw [hm]; exact hf0) rfl (Nat.le_of_ble_eq_true rfl) (Nat.le_of_ble_eq_true rfl) (fun B1 hmx had3 hw4 => have hm2 : mz_dm B1 = D ++ [(5, n)] := (by rw [hmx, hm]); let M5 : MzM := mz_nm M (5, n); MzS.cv (bu' := (0, 0)) (lv' := [(0, .ref (mz_ad B1 (4, n)))]) (st' := [.ref (mz_ad B1 (5, n)), .ref (mz_ad B1 (4, n))]) rfl (by first | (simp only [had3 (4, n) (by rw [hm]; exact hi0)]; done) | (simp only [had3 (4, n) (by rw [hm]; exact hi0)]; rfl)) (by first | (simp only [had3 (4, n) (by rw [hm]; exact hi0)]; done) | (simp only [had3 (4, n) (by rw [hm]; exact hi0)]; rfl)) (mz_putRF (i := (4, n)) (k := 0) (x := some (5, n)) cl_3 d_Row_init_9 (by decide) wf_Row_9 rfl rfl rfl rfl rfl rfl (by rw [hm2]; exact (List.mem_append_left _ hi0)) rfl (let M6 : MzM := mz_sr M5 (4, n) 0 (some (5, n)); have hw7 : mzWf B1 M6 := mzWf.sr hw4 (by rw [hm2]; exact (by simp)); (mz_vret d_Row_init_12 rfl (h B1 hm2 (fun j hj => (had3 j hj)) hw7))))))))))))
def fm_Row_init20 (k : Nat)  (M : MzM) : MzM := (mz_sr (mz_nm M (21, k)) (20, k) 0 (some (21, k)))
set_option maxRecDepth 20000 in
set_option maxHeartbeats 4000000 in
theorem tc_Row_init20 {G : MzG} {B : MzB} {d : Nat} {k : Nat}  {M : MzM} {Q : MzR → MzB → MzM → Prop} (hw : mzWf B M) {D : List MzL} (hm : mz_dm B = D) (hi0 : (20, k) ∈ D) (hf0 : (21, k) ∉ D) (h : ∀ B9 : MzB, mz_dm B9 = D ++ [(21, k)] → (∀ j ∈ mz_dm B, mz_ad B9 j = mz_ad B j) → mzWf B9 (fm_Row_init20 k  M) → Q (.inl none) B9 (fm_Row_init20 k  M)) : MzC G B (d + 1) mm_Row_init [.ref (mz_ad B (20, k))] M (1, 24) Q :=
  MzC.of rfl (Nat.le_of_ble_eq_true rfl) (show MzS G B (d + 1) mm_Row_init M (1, 24) Q 0 [(0, .ref (mz_ad B (20, k)))] [] from ((mz_aload_n d_Row_init_0 rfl (mz_objInit d_Row_init_1 wl_Row_3 wi_Object wco_Object (Nat.succ_pos _) (Nat.le_of_ble_eq_true rfl) (mz_aload_n d_Row_init_4 rfl (mz_bipush (24 : Int32) d_Row_init_5 (by decide) (mz_newaO (i := (21, k)) (fty := .int) (n := 24) d_Row_init_7 wa_int rfl rfl (by decide) (by decide) (by decide) hw (by rw [hm]; exact hf0) rfl (Nat.le_of_ble_eq_true rfl) (Nat.le_of_ble_eq_true rfl) (fun B1 hmx had3 hw4 => have hm2 : mz_dm B1 = D ++ [(21, k)] := (by rw [hmx, hm]); let M5 : MzM := mz_nm M (21, k); MzS.cv (bu' := (0, 0)) (lv' := [(0, .ref (mz_ad B1 (20, k)))]) (st' := [.ref (mz_ad B1 (21, k)), .ref (mz_ad B1 (20, k))]) rfl (by first | (simp only [had3 (20, k) (by rw [hm]; exact hi0)]; done) | (simp only [had3 (20, k) (by rw [hm]; exact hi0)]; rfl)) (by first | (simp only [had3 (20, k) (by rw [hm]; exact hi0)]; done) | (simp only [had3 (20, k) (by rw [hm]; exact hi0)]; rfl)) (mz_putRF (i := (20, k)) (k := 0) (x := some (21, k)) cl_3 d_Row_init_9 (by decide) wf_Row_9 rfl rfl rfl rfl rfl rfl (by rw [hm2]; exact (List.mem_append_left _ hi0)) rfl (let M6 : MzM := mz_sr M5 (20, k) 0 (some (21, k)); have hw7 : mzWf B1 M6 := mzWf.sr hw4 (by rw [hm2]; exact (by simp)); (mz_vret d_Row_init_12 rfl (h B1 hm2 (fun j hj => (had3 j hj)) hw7))))))))))))
def mm_Node_init : MzT := (⟨"ParcelLine$Node", "<init>", "()V"⟩, prog_8_method_1_code, 1, (Option.none : Option Jvm.ClassFile.FieldType))
theorem cs_Node_init {mm : MzT} : mzCall mm mm_Node_init 0 := ⟨wn_Node, wco_Node_init, by decide +kernel, by decide⟩
theorem d_Node_init_0 : decode mm_Node_init.2.1 0 = .ok (.aload_n 0, 1) := by decide +kernel
theorem d_Node_init_1 : decode mm_Node_init.2.1 1 = .ok (.invokespecial 3, 3) := by decide +kernel
theorem d_Node_init_4 : decode mm_Node_init.2.1 4 = .ok (.aload_n 0, 1) := by decide +kernel
theorem d_Node_init_5 : decode mm_Node_init.2.1 5 = .ok (.new 9, 3) := by decide +kernel
theorem d_Node_init_8 : decode mm_Node_init.2.1 8 = .ok (.dup, 1) := by decide +kernel
theorem d_Node_init_9 : decode mm_Node_init.2.1 9 = .ok (.invokespecial 11, 3) := by decide +kernel
theorem d_Node_init_12 : decode mm_Node_init.2.1 12 = .ok (.putfield 12, 3) := by decide +kernel
theorem d_Node_init_15 : decode mm_Node_init.2.1 15 = .ok (.return_, 1) := by decide +kernel
def fm_Node_init (n : Nat)  (M : MzM) : MzM := (mz_sr (fm_Row_init4 n  (mz_nm M (4, n))) (3, n) 0 (some (4, n)))
set_option maxRecDepth 20000 in
set_option maxHeartbeats 4000000 in
theorem tc_Node_init {G : MzG} {B : MzB} {d : Nat} {n : Nat}  {M : MzM} {Q : MzR → MzB → MzM → Prop} (hw : mzWf B M) {D : List MzL} (hm : mz_dm B = D) (hi0 : (3, n) ∈ D) (hf0 : (4, n) ∉ D) (hf1 : (5, n) ∉ D) (h : ∀ B9 : MzB, mz_dm B9 = D ++ [(4, n), (5, n)] → (∀ j ∈ mz_dm B, mz_ad B9 j = mz_ad B j) → mzWf B9 (fm_Node_init n  M) → Q (.inl none) B9 (fm_Node_init n  M)) : MzC G B (d + 2) mm_Node_init [.ref (mz_ad B (3, n))] M (2, 26) Q :=
  MzC.of rfl (Nat.le_of_ble_eq_true rfl) (show MzS G B (d + 2) mm_Node_init M (2, 26) Q 0 [(0, .ref (mz_ad B (3, n)))] [] from ((mz_aload_n d_Node_init_0 rfl (mz_objInit d_Node_init_1 wl_Node_3 wi_Object wco_Object (Nat.succ_pos _) (Nat.le_of_ble_eq_true rfl) (mz_aload_n d_Node_init_4 rfl (mz_newO (i := (4, n)) cl_3 d_Node_init_5 wc_Node_9 wb_Row wn_Row (by decide) hw (by rw [hm]; exact hf0) rfl (Nat.le_of_ble_eq_true rfl) (Nat.le_of_ble_eq_true rfl) (fun B1 hmx had3 hw4 => have hm2 : mz_dm B1 = D ++ [(4, n)] := (by rw [hmx, hm]); let M5 : MzM := mz_nm M (4, n); MzS.cv (bu' := (1, 24)) (lv' := [(0, .ref (mz_ad B1 (3, n)))]) (st' := [.ref (mz_ad B1 (4, n)), .ref (mz_ad B1 (3, n))]) rfl (by first | (simp only [had3 (3, n) (by rw [hm]; exact hi0)]; done) | (simp only [had3 (3, n) (by rw [hm]; exact hi0)]; rfl)) (by first | (simp only [had3 (3, n) (by rw [hm]; exact hi0)]; done) | (simp only [had3 (3, n) (by rw [hm]; exact hi0)]; rfl)) (mz_dup d_Node_init_8 rfl (mz_callI (As := []) (st := [.ref (mz_ad B1 (4, n)), .ref (mz_ad B1 (3, n))]) 1 24 d_Node_init_9 cs_Row_init wl_Node_11 wi_Row_init rfl rfl (Nat.le_of_ble_eq_true rfl) (Nat.le_of_ble_eq_true rfl) (Nat.le_of_ble_eq_true rfl) (tc_Row_init4 (d := d) (n := n) hw4 (D := D ++ [(4, n)]) hm2 (by simp) (by simp [hf1]) (fun B6 hmx had8 hw9 => have hm7 : mz_dm B6 = D ++ [(4, n), (5, n)] := (by rw [hmx]; exact List.append_assoc _ _ _); let M10 : MzM := fm_Row_init4 n  M5; ⟨none, rfl, MzS.cv (bu' := (0, 0)) (lv' := [(0, .ref (mz_ad B6 (3, n)))]) (st' := [.ref (mz_ad B6 (4, n)), .ref (mz_ad B6 (3, n))]) rfl (by first | (simp only [had8 (3, n) (by rw [hm2]; exact (List.mem_append_left _ hi0)), had8 (4, n) (by rw [hm2]; exact (by simp))]; done) | (simp only [had8 (3, n) (by rw [hm2]; exact (List.mem_append_left _ hi0)), had8 (4, n) (by rw [hm2]; exact (by simp))]; rfl)) (by simp only [had8 (3, n) (by rw [hm2]; exact (List.mem_append_left _ hi0)), had8 (4, n) (by rw [hm2]; exact (by simp)), Option.toList_none, List.nil_append]) (mz_putRF (i := (3, n)) (k := 0) (x := some (4, n)) cl_2 d_Node_init_12 (by decide) wf_Node_12 rfl rfl rfl rfl rfl rfl (by rw [hm7]; exact (List.mem_append_left _ hi0)) rfl (let M11 : MzM := mz_sr M10 (3, n) 0 (some (4, n)); have hw12 : mzWf B6 M11 := mzWf.sr hw9 (by rw [hm7]; exact (by simp)); (mz_vret d_Node_init_15 rfl (h B6 hm7 (fun j hj => ((had8 j (by rw [hm2]; rw [hm] at hj; exact List.mem_append_left _ hj)).trans (had3 j hj))) hw12))))⟩)))))))))))
def mm_Rep_init : MzT := (⟨"ParcelLine$Replies", "<init>", "()V"⟩, prog_10_method_1_code, 1, (Option.none : Option Jvm.ClassFile.FieldType))
theorem cs_Rep_init {mm : MzT} : mzCall mm mm_Rep_init 0 := ⟨wn_Rep, wco_Rep_init, by decide +kernel, by decide⟩
theorem d_Rep_init_0 : decode mm_Rep_init.2.1 0 = .ok (.aload_n 0, 1) := by decide +kernel
theorem d_Rep_init_1 : decode mm_Rep_init.2.1 1 = .ok (.invokespecial 3, 3) := by decide +kernel
theorem d_Rep_init_4 : decode mm_Rep_init.2.1 4 = .ok (.aload_n 0, 1) := by decide +kernel
theorem d_Rep_init_5 : decode mm_Rep_init.2.1 5 = .ok (.sipush 200, 3) := by decide +kernel
theorem d_Rep_init_8 : decode mm_Rep_init.2.1 8 = .ok (.newarray .int, 2) := by decide +kernel
theorem d_Rep_init_10 : decode mm_Rep_init.2.1 10 = .ok (.putfield 9, 3) := by decide +kernel
theorem d_Rep_init_13 : decode mm_Rep_init.2.1 13 = .ok (.aload_n 0, 1) := by decide +kernel
theorem d_Rep_init_14 : decode mm_Rep_init.2.1 14 = .ok (.bipush 66, 2) := by decide +kernel
theorem d_Rep_init_16 : decode mm_Rep_init.2.1 16 = .ok (.newarray .int, 2) := by decide +kernel
theorem d_Rep_init_18 : decode mm_Rep_init.2.1 18 = .ok (.putfield 15, 3) := by decide +kernel
theorem d_Rep_init_21 : decode mm_Rep_init.2.1 21 = .ok (.return_, 1) := by decide +kernel
def fm_Rep_init (x : Nat)  (M : MzM) : MzM := (mz_sr (mz_nm (mz_sr (mz_nm M (10, x)) (9, x) 0 (some (10, x))) (11, x)) (9, x) 3 (some (11, x)))
set_option maxRecDepth 20000 in
set_option maxHeartbeats 4000000 in
theorem tc_Rep_init {G : MzG} {B : MzB} {d : Nat} {x : Nat}  {M : MzM} {Q : MzR → MzB → MzM → Prop} (hw : mzWf B M) {D : List MzL} (hm : mz_dm B = D) (hi0 : (9, x) ∈ D) (hf0 : (10, x) ∉ D) (hf1 : (11, x) ∉ D) (h : ∀ B9 : MzB, mz_dm B9 = D ++ [(10, x), (11, x)] → (∀ j ∈ mz_dm B, mz_ad B9 j = mz_ad B j) → mzWf B9 (fm_Rep_init x  M) → Q (.inl none) B9 (fm_Rep_init x  M)) : MzC G B (d + 1) mm_Rep_init [.ref (mz_ad B (9, x))] M (2, 266) Q :=
  MzC.of rfl (Nat.le_of_ble_eq_true rfl) (show MzS G B (d + 1) mm_Rep_init M (2, 266) Q 0 [(0, .ref (mz_ad B (9, x)))] [] from ((mz_aload_n d_Rep_init_0 rfl (mz_objInit d_Rep_init_1 wl_Rep_3 wi_Object wco_Object (Nat.succ_pos _) (Nat.le_of_ble_eq_true rfl) (mz_aload_n d_Rep_init_4 rfl (mz_sipush (200 : Int32) d_Rep_init_5 (by decide) (mz_newaO (i := (10, x)) (fty := .int) (n := 200) d_Rep_init_8 wa_int rfl rfl (by decide) (by decide) (by decide) hw (by rw [hm]; exact hf0) rfl (Nat.le_of_ble_eq_true rfl) (Nat.le_of_ble_eq_true rfl) (fun B1 hmx had3 hw4 => have hm2 : mz_dm B1 = D ++ [(10, x)] := (by rw [hmx, hm]); let M5 : MzM := mz_nm M (10, x); MzS.cv (bu' := (1, 66)) (lv' := [(0, .ref (mz_ad B1 (9, x)))]) (st' := [.ref (mz_ad B1 (10, x)), .ref (mz_ad B1 (9, x))]) rfl (by first | (simp only [had3 (9, x) (by rw [hm]; exact hi0)]; done) | (simp only [had3 (9, x) (by rw [hm]; exact hi0)]; rfl)) (by first | (simp only [had3 (9, x) (by rw [hm]; exact hi0)]; done) | (simp only [had3 (9, x) (by rw [hm]; exact hi0)]; rfl)) (mz_putRF (i := (9, x)) (k := 0) (x := some (10, x)) cl_5 d_Rep_init_10 (by decide) wf_Rep_9 rfl rfl rfl rfl rfl rfl (by rw [hm2]; exact (List.mem_append_left _ hi0)) rfl (let M6 : MzM := mz_sr M5 (9, x) 0 (some (10, x)); have hw7 : mzWf B1 M6 := mzWf.sr hw4 (by rw [hm2]; exact (by simp)); (mz_aload_n d_Rep_init_13 rfl (mz_bipush (66 : Int32) d_Rep_init_14 (by decide) (mz_newaO (i := (11, x)) (fty := .int) (n := 66) d_Rep_init_16 wa_int rfl rfl (by decide) (by decide) (by decide) hw7 (by rw [hm2]; exact (by simp [hf1])) rfl (Nat.le_of_ble_eq_true rfl) (Nat.le_of_ble_eq_true rfl) (fun B8 hmx had10 hw11 => have hm9 : mz_dm B8 = D ++ [(10, x), (11, x)] := (by rw [hmx, hm2]; exact List.append_assoc _ _ _); let M12 : MzM := mz_nm M6 (11, x); MzS.cv (bu' := (0, 0)) (lv' := [(0, .ref (mz_ad B8 (9, x)))]) (st' := [.ref (mz_ad B8 (11, x)), .ref (mz_ad B8 (9, x))]) rfl (by first | (simp only [had10 (9, x) (by rw [hm2]; exact (List.mem_append_left _ hi0))]; done) | (simp only [had10 (9, x) (by rw [hm2]; exact (List.mem_append_left _ hi0))]; rfl)) (by first | (simp only [had10 (9, x) (by rw [hm2]; exact (List.mem_append_left _ hi0))]; done) | (simp only [had10 (9, x) (by rw [hm2]; exact (List.mem_append_left _ hi0))]; rfl)) (mz_putRF (i := (9, x)) (k := 3) (x := some (11, x)) cl_5 d_Rep_init_18 (by decide) wf_Rep_15 rfl rfl rfl rfl rfl rfl (by rw [hm9]; exact (List.mem_append_left _ hi0)) rfl (let M13 : MzM := mz_sr M12 (9, x) 3 (some (11, x)); have hw14 : mzWf B8 M13 := mzWf.sr hw11 (by rw [hm9]; exact (by simp)); (mz_vret d_Rep_init_21 rfl (h B8 hm9 (fun j hj => ((had10 j (by rw [hm2]; rw [hm] at hj; exact List.mem_append_left _ hj)).trans (had3 j hj))) hw14))))))))))))))))))
def mm_Lin_init : MzT := (⟨"ParcelLine$LineReader", "<init>", "(LParcelLine$Replies;)V"⟩, prog_7_method_1_code, 2, (Option.none : Option Jvm.ClassFile.FieldType))
theorem cs_Lin_init {mm : MzT} : mzCall mm mm_Lin_init 1 := ⟨wn_Lin, wco_Lin_init, by decide +kernel, by decide⟩
theorem d_Lin_init_0 : decode mm_Lin_init.2.1 0 = .ok (.aload_n 0, 1) := by decide +kernel
theorem d_Lin_init_1 : decode mm_Lin_init.2.1 1 = .ok (.invokespecial 3, 3) := by decide +kernel
theorem d_Lin_init_4 : decode mm_Lin_init.2.1 4 = .ok (.aload_n 0, 1) := by decide +kernel
theorem d_Lin_init_5 : decode mm_Lin_init.2.1 5 = .ok (.aload_n 1, 1) := by decide +kernel
theorem d_Lin_init_6 : decode mm_Lin_init.2.1 6 = .ok (.putfield 9, 3) := by decide +kernel
theorem d_Lin_init_9 : decode mm_Lin_init.2.1 9 = .ok (.aload_n 0, 1) := by decide +kernel
theorem d_Lin_init_10 : decode mm_Lin_init.2.1 10 = .ok (.bipush 30, 2) := by decide +kernel
theorem d_Lin_init_12 : decode mm_Lin_init.2.1 12 = .ok (.newarray .int, 2) := by decide +kernel
theorem d_Lin_init_14 : decode mm_Lin_init.2.1 14 = .ok (.putfield 15, 3) := by decide +kernel
theorem d_Lin_init_17 : decode mm_Lin_init.2.1 17 = .ok (.return_, 1) := by decide +kernel
def fm_Lin_init (x : Nat)  (M : MzM) : MzM := (mz_sr (mz_nm (mz_sr M (12, x) 0 (some (9, x))) (13, x)) (12, x) 1 (some (13, x)))
set_option maxRecDepth 20000 in
set_option maxHeartbeats 4000000 in
theorem tc_Lin_init {G : MzG} {B : MzB} {d : Nat} {x : Nat}  {M : MzM} {Q : MzR → MzB → MzM → Prop} (hw : mzWf B M) {D : List MzL} (hm : mz_dm B = D) (hi0 : (12, x) ∈ D) (hi1 : (9, x) ∈ D) (hf0 : (13, x) ∉ D) (h : ∀ B9 : MzB, mz_dm B9 = D ++ [(13, x)] → (∀ j ∈ mz_dm B, mz_ad B9 j = mz_ad B j) → mzWf B9 (fm_Lin_init x  M) → Q (.inl none) B9 (fm_Lin_init x  M)) : MzC G B (d + 1) mm_Lin_init [.ref (mz_ad B (12, x)), .ref (mz_ad B (9, x))] M (1, 30) Q :=
  MzC.of rfl (Nat.le_of_ble_eq_true rfl) (show MzS G B (d + 1) mm_Lin_init M (1, 30) Q 0 [(0, .ref (mz_ad B (12, x))), (1, .ref (mz_ad B (9, x)))] [] from ((mz_aload_n d_Lin_init_0 rfl (mz_objInit d_Lin_init_1 wl_Lin_3 wi_Object wco_Object (Nat.succ_pos _) (Nat.le_of_ble_eq_true rfl) (mz_aload_n d_Lin_init_4 rfl (mz_aload_n d_Lin_init_5 rfl (mz_putRF (i := (12, x)) (k := 0) (x := some (9, x)) cl_6 d_Lin_init_6 (by decide) wf_Lin_9 rfl rfl rfl rfl rfl rfl (by rw [hm]; exact hi0) rfl (let M1 : MzM := mz_sr M (12, x) 0 (some (9, x)); have hw2 : mzWf B M1 := mzWf.sr hw (by rw [hm]; exact hi1); (mz_aload_n d_Lin_init_9 rfl (mz_bipush (30 : Int32) d_Lin_init_10 (by decide) (mz_newaO (i := (13, x)) (fty := .int) (n := 30) d_Lin_init_12 wa_int rfl rfl (by decide) (by decide) (by decide) hw2 (by rw [hm]; exact hf0) rfl (Nat.le_of_ble_eq_true rfl) (Nat.le_of_ble_eq_true rfl) (fun B3 hmx had5 hw6 => have hm4 : mz_dm B3 = D ++ [(13, x)] := (by rw [hmx, hm]); let M7 : MzM := mz_nm M1 (13, x); MzS.cv (bu' := (0, 0)) (lv' := [(0, .ref (mz_ad B3 (12, x))), (1, .ref (mz_ad B3 (9, x)))]) (st' := [.ref (mz_ad B3 (13, x)), .ref (mz_ad B3 (12, x))]) rfl (by first | (simp only [had5 (12, x) (by rw [hm]; exact hi0), had5 (9, x) (by rw [hm]; exact hi1)]; done) | (simp only [had5 (12, x) (by rw [hm]; exact hi0), had5 (9, x) (by rw [hm]; exact hi1)]; rfl)) (by first | (simp only [had5 (12, x) (by rw [hm]; exact hi0), had5 (9, x) (by rw [hm]; exact hi1)]; done) | (simp only [had5 (12, x) (by rw [hm]; exact hi0), had5 (9, x) (by rw [hm]; exact hi1)]; rfl)) (mz_putRF (i := (12, x)) (k := 1) (x := some (13, x)) cl_6 d_Lin_init_14 (by decide) wf_Lin_15 rfl rfl rfl rfl rfl rfl (by rw [hm4]; exact (List.mem_append_left _ hi0)) rfl (let M8 : MzM := mz_sr M7 (12, x) 1 (some (13, x)); have hw9 : mzWf B3 M8 := mzWf.sr hw6 (by rw [hm4]; exact (by simp)); (mz_vret d_Lin_init_17 rfl (h B3 hm4 (fun j hj => (had5 j hj)) hw9))))))))))))))))
def mm_Path_init : MzT := (⟨"ParcelLine$Path", "<init>", "()V"⟩, prog_9_method_1_code, 1, (Option.none : Option Jvm.ClassFile.FieldType))
theorem cs_Path_init {mm : MzT} : mzCall mm mm_Path_init 0 := ⟨wn_Path, wco_Path_init, by decide +kernel, by decide⟩
theorem d_Path_init_0 : decode mm_Path_init.2.1 0 = .ok (.aload_n 0, 1) := by decide +kernel
theorem d_Path_init_1 : decode mm_Path_init.2.1 1 = .ok (.invokespecial 3, 3) := by decide +kernel
theorem d_Path_init_4 : decode mm_Path_init.2.1 4 = .ok (.aload_n 0, 1) := by decide +kernel
theorem d_Path_init_5 : decode mm_Path_init.2.1 5 = .ok (.bipush 30, 2) := by decide +kernel
theorem d_Path_init_7 : decode mm_Path_init.2.1 7 = .ok (.newarray .int, 2) := by decide +kernel
theorem d_Path_init_9 : decode mm_Path_init.2.1 9 = .ok (.putfield 9, 3) := by decide +kernel
theorem d_Path_init_12 : decode mm_Path_init.2.1 12 = .ok (.return_, 1) := by decide +kernel
def fm_Path_init (x : Nat)  (M : MzM) : MzM := (mz_sr (mz_nm M (15, x)) (14, x) 0 (some (15, x)))
set_option maxRecDepth 20000 in
set_option maxHeartbeats 4000000 in
theorem tc_Path_init {G : MzG} {B : MzB} {d : Nat} {x : Nat}  {M : MzM} {Q : MzR → MzB → MzM → Prop} (hw : mzWf B M) {D : List MzL} (hm : mz_dm B = D) (hi0 : (14, x) ∈ D) (hf0 : (15, x) ∉ D) (h : ∀ B9 : MzB, mz_dm B9 = D ++ [(15, x)] → (∀ j ∈ mz_dm B, mz_ad B9 j = mz_ad B j) → mzWf B9 (fm_Path_init x  M) → Q (.inl none) B9 (fm_Path_init x  M)) : MzC G B (d + 1) mm_Path_init [.ref (mz_ad B (14, x))] M (1, 30) Q :=
  MzC.of rfl (Nat.le_of_ble_eq_true rfl) (show MzS G B (d + 1) mm_Path_init M (1, 30) Q 0 [(0, .ref (mz_ad B (14, x)))] [] from ((mz_aload_n d_Path_init_0 rfl (mz_objInit d_Path_init_1 wl_Path_3 wi_Object wco_Object (Nat.succ_pos _) (Nat.le_of_ble_eq_true rfl) (mz_aload_n d_Path_init_4 rfl (mz_bipush (30 : Int32) d_Path_init_5 (by decide) (mz_newaO (i := (15, x)) (fty := .int) (n := 30) d_Path_init_7 wa_int rfl rfl (by decide) (by decide) (by decide) hw (by rw [hm]; exact hf0) rfl (Nat.le_of_ble_eq_true rfl) (Nat.le_of_ble_eq_true rfl) (fun B1 hmx had3 hw4 => have hm2 : mz_dm B1 = D ++ [(15, x)] := (by rw [hmx, hm]); let M5 : MzM := mz_nm M (15, x); MzS.cv (bu' := (0, 0)) (lv' := [(0, .ref (mz_ad B1 (14, x)))]) (st' := [.ref (mz_ad B1 (15, x)), .ref (mz_ad B1 (14, x))]) rfl (by first | (simp only [had3 (14, x) (by rw [hm]; exact hi0)]; done) | (simp only [had3 (14, x) (by rw [hm]; exact hi0)]; rfl)) (by first | (simp only [had3 (14, x) (by rw [hm]; exact hi0)]; done) | (simp only [had3 (14, x) (by rw [hm]; exact hi0)]; rfl)) (mz_putRF (i := (14, x)) (k := 0) (x := some (15, x)) cl_7 d_Path_init_9 (by decide) wf_Path_9 rfl rfl rfl rfl rfl rfl (by rw [hm2]; exact (List.mem_append_left _ hi0)) rfl (let M6 : MzM := mz_sr M5 (14, x) 0 (some (15, x)); have hw7 : mzWf B1 M6 := mzWf.sr hw4 (by rw [hm2]; exact (by simp)); (mz_vret d_Path_init_12 rfl (h B1 hm2 (fun j hj => (had3 j hj)) hw7))))))))))))
def mm_Way_init : MzT := (⟨"ParcelLine$DataWay", "<init>", "()V"⟩, prog_6_method_1_code, 1, (Option.none : Option Jvm.ClassFile.FieldType))
theorem cs_Way_init {mm : MzT} : mzCall mm mm_Way_init 0 := ⟨wn_Way, wco_Way_init, by decide +kernel, by decide⟩
theorem d_Way_init_0 : decode mm_Way_init.2.1 0 = .ok (.aload_n 0, 1) := by decide +kernel
theorem d_Way_init_1 : decode mm_Way_init.2.1 1 = .ok (.invokespecial 3, 3) := by decide +kernel
theorem d_Way_init_4 : decode mm_Way_init.2.1 4 = .ok (.aload_n 0, 1) := by decide +kernel
theorem d_Way_init_5 : decode mm_Way_init.2.1 5 = .ok (.bipush 75, 2) := by decide +kernel
theorem d_Way_init_7 : decode mm_Way_init.2.1 7 = .ok (.newarray .int, 2) := by decide +kernel
theorem d_Way_init_9 : decode mm_Way_init.2.1 9 = .ok (.putfield 9, 3) := by decide +kernel
theorem d_Way_init_12 : decode mm_Way_init.2.1 12 = .ok (.return_, 1) := by decide +kernel
def fm_Way_init (x : Nat)  (M : MzM) : MzM := (mz_sr (mz_nm M (17, x)) (16, x) 5 (some (17, x)))
set_option maxRecDepth 20000 in
set_option maxHeartbeats 4000000 in
theorem tc_Way_init {G : MzG} {B : MzB} {d : Nat} {x : Nat}  {M : MzM} {Q : MzR → MzB → MzM → Prop} (hw : mzWf B M) {D : List MzL} (hm : mz_dm B = D) (hi0 : (16, x) ∈ D) (hf0 : (17, x) ∉ D) (h : ∀ B9 : MzB, mz_dm B9 = D ++ [(17, x)] → (∀ j ∈ mz_dm B, mz_ad B9 j = mz_ad B j) → mzWf B9 (fm_Way_init x  M) → Q (.inl none) B9 (fm_Way_init x  M)) : MzC G B (d + 1) mm_Way_init [.ref (mz_ad B (16, x))] M (1, 75) Q :=
  MzC.of rfl (Nat.le_of_ble_eq_true rfl) (show MzS G B (d + 1) mm_Way_init M (1, 75) Q 0 [(0, .ref (mz_ad B (16, x)))] [] from ((mz_aload_n d_Way_init_0 rfl (mz_objInit d_Way_init_1 wl_Way_3 wi_Object wco_Object (Nat.succ_pos _) (Nat.le_of_ble_eq_true rfl) (mz_aload_n d_Way_init_4 rfl (mz_bipush (75 : Int32) d_Way_init_5 (by decide) (mz_newaO (i := (17, x)) (fty := .int) (n := 75) d_Way_init_7 wa_int rfl rfl (by decide) (by decide) (by decide) hw (by rw [hm]; exact hf0) rfl (Nat.le_of_ble_eq_true rfl) (Nat.le_of_ble_eq_true rfl) (fun B1 hmx had3 hw4 => have hm2 : mz_dm B1 = D ++ [(17, x)] := (by rw [hmx, hm]); let M5 : MzM := mz_nm M (17, x); MzS.cv (bu' := (0, 0)) (lv' := [(0, .ref (mz_ad B1 (16, x)))]) (st' := [.ref (mz_ad B1 (17, x)), .ref (mz_ad B1 (16, x))]) rfl (by first | (simp only [had3 (16, x) (by rw [hm]; exact hi0)]; done) | (simp only [had3 (16, x) (by rw [hm]; exact hi0)]; rfl)) (by first | (simp only [had3 (16, x) (by rw [hm]; exact hi0)]; done) | (simp only [had3 (16, x) (by rw [hm]; exact hi0)]; rfl)) (mz_putRF (i := (16, x)) (k := 5) (x := some (17, x)) cl_8 d_Way_init_9 (by decide) wf_Way_9 rfl rfl rfl rfl rfl rfl (by rw [hm2]; exact (List.mem_append_left _ hi0)) rfl (let M6 : MzM := mz_sr M5 (16, x) 5 (some (17, x)); have hw7 : mzWf B1 M6 := mzWf.sr hw4 (by rw [hm2]; exact (by simp)); (mz_vret d_Way_init_12 rfl (h B1 hm2 (fun j hj => (had3 j hj)) hw7))))))))))))
def mm_Ses_init : MzT := (⟨"ParcelLine$Session", "<init>", "(ILParcelLine$Store;)V"⟩, prog_11_method_1_code, 3, (Option.none : Option Jvm.ClassFile.FieldType))
theorem cs_Ses_init {mm : MzT} : mzCall mm mm_Ses_init 2 := ⟨wn_Ses, wco_Ses_init, by decide +kernel, by decide⟩
theorem d_Ses_init_0 : decode mm_Ses_init.2.1 0 = .ok (.aload_n 0, 1) := by decide +kernel
theorem d_Ses_init_1 : decode mm_Ses_init.2.1 1 = .ok (.invokespecial 3, 3) := by decide +kernel
theorem d_Ses_init_4 : decode mm_Ses_init.2.1 4 = .ok (.aload_n 0, 1) := by decide +kernel
theorem d_Ses_init_5 : decode mm_Ses_init.2.1 5 = .ok (.iload_n 1, 1) := by decide +kernel
theorem d_Ses_init_6 : decode mm_Ses_init.2.1 6 = .ok (.putfield 9, 3) := by decide +kernel
theorem d_Ses_init_9 : decode mm_Ses_init.2.1 9 = .ok (.aload_n 0, 1) := by decide +kernel
theorem d_Ses_init_10 : decode mm_Ses_init.2.1 10 = .ok (.aload_n 2, 1) := by decide +kernel
theorem d_Ses_init_11 : decode mm_Ses_init.2.1 11 = .ok (.putfield 15, 3) := by decide +kernel
theorem d_Ses_init_14 : decode mm_Ses_init.2.1 14 = .ok (.aload_n 0, 1) := by decide +kernel
theorem d_Ses_init_15 : decode mm_Ses_init.2.1 15 = .ok (.new 19, 3) := by decide +kernel
theorem d_Ses_init_18 : decode mm_Ses_init.2.1 18 = .ok (.dup, 1) := by decide +kernel
theorem d_Ses_init_19 : decode mm_Ses_init.2.1 19 = .ok (.invokespecial 21, 3) := by decide +kernel
theorem d_Ses_init_22 : decode mm_Ses_init.2.1 22 = .ok (.putfield 22, 3) := by decide +kernel
theorem d_Ses_init_25 : decode mm_Ses_init.2.1 25 = .ok (.aload_n 0, 1) := by decide +kernel
theorem d_Ses_init_26 : decode mm_Ses_init.2.1 26 = .ok (.new 26, 3) := by decide +kernel
theorem d_Ses_init_29 : decode mm_Ses_init.2.1 29 = .ok (.dup, 1) := by decide +kernel
theorem d_Ses_init_30 : decode mm_Ses_init.2.1 30 = .ok (.aload_n 0, 1) := by decide +kernel
theorem d_Ses_init_31 : decode mm_Ses_init.2.1 31 = .ok (.getfield 22, 3) := by decide +kernel
theorem d_Ses_init_34 : decode mm_Ses_init.2.1 34 = .ok (.invokespecial 28, 3) := by decide +kernel
theorem d_Ses_init_37 : decode mm_Ses_init.2.1 37 = .ok (.putfield 31, 3) := by decide +kernel
theorem d_Ses_init_40 : decode mm_Ses_init.2.1 40 = .ok (.aload_n 0, 1) := by decide +kernel
theorem d_Ses_init_41 : decode mm_Ses_init.2.1 41 = .ok (.new 35, 3) := by decide +kernel
theorem d_Ses_init_44 : decode mm_Ses_init.2.1 44 = .ok (.dup, 1) := by decide +kernel
theorem d_Ses_init_45 : decode mm_Ses_init.2.1 45 = .ok (.invokespecial 37, 3) := by decide +kernel
theorem d_Ses_init_48 : decode mm_Ses_init.2.1 48 = .ok (.putfield 38, 3) := by decide +kernel
theorem d_Ses_init_51 : decode mm_Ses_init.2.1 51 = .ok (.aload_n 0, 1) := by decide +kernel
theorem d_Ses_init_52 : decode mm_Ses_init.2.1 52 = .ok (.new 42, 3) := by decide +kernel
theorem d_Ses_init_55 : decode mm_Ses_init.2.1 55 = .ok (.dup, 1) := by decide +kernel
theorem d_Ses_init_56 : decode mm_Ses_init.2.1 56 = .ok (.invokespecial 44, 3) := by decide +kernel
theorem d_Ses_init_59 : decode mm_Ses_init.2.1 59 = .ok (.putfield 45, 3) := by decide +kernel
theorem d_Ses_init_62 : decode mm_Ses_init.2.1 62 = .ok (.aload_n 0, 1) := by decide +kernel
theorem d_Ses_init_63 : decode mm_Ses_init.2.1 63 = .ok (.bipush 16, 2) := by decide +kernel
theorem d_Ses_init_65 : decode mm_Ses_init.2.1 65 = .ok (.newarray .int, 2) := by decide +kernel
theorem d_Ses_init_67 : decode mm_Ses_init.2.1 67 = .ok (.putfield 49, 3) := by decide +kernel
theorem d_Ses_init_70 : decode mm_Ses_init.2.1 70 = .ok (.aload_n 0, 1) := by decide +kernel
theorem d_Ses_init_71 : decode mm_Ses_init.2.1 71 = .ok (.iconst (-1), 1) := by decide +kernel
theorem d_Ses_init_72 : decode mm_Ses_init.2.1 72 = .ok (.putfield 53, 3) := by decide +kernel
theorem d_Ses_init_75 : decode mm_Ses_init.2.1 75 = .ok (.aload_n 0, 1) := by decide +kernel
theorem d_Ses_init_76 : decode mm_Ses_init.2.1 76 = .ok (.iconst (-1), 1) := by decide +kernel
theorem d_Ses_init_77 : decode mm_Ses_init.2.1 77 = .ok (.putfield 56, 3) := by decide +kernel
theorem d_Ses_init_80 : decode mm_Ses_init.2.1 80 = .ok (.aload_n 0, 1) := by decide +kernel
theorem d_Ses_init_81 : decode mm_Ses_init.2.1 81 = .ok (.iconst (-1), 1) := by decide +kernel
theorem d_Ses_init_82 : decode mm_Ses_init.2.1 82 = .ok (.putfield 59, 3) := by decide +kernel
theorem d_Ses_init_85 : decode mm_Ses_init.2.1 85 = .ok (.return_, 1) := by decide +kernel
def fm_Ses_init (x : Nat) (a1 : Int32) (M : MzM) : MzM := (mz_si (mz_si (mz_si (mz_sr (mz_nm (mz_sr (fm_Way_init x  (mz_nm (mz_sr (fm_Path_init x  (mz_nm (mz_sr (fm_Lin_init x  (mz_nm (mz_sr (fm_Rep_init x  (mz_nm (mz_sr (mz_si M (8, x) 0 a1) (8, x) 1 (some (1, 0))) (9, x))) (8, x) 2 (some (9, x))) (12, x))) (8, x) 3 (some (12, x))) (14, x))) (8, x) 4 (some (14, x))) (16, x))) (8, x) 5 (some (16, x))) (18, x)) (8, x) 6 (some (18, x))) (8, x) 10 (-1 : Int32)) (8, x) 12 (-1 : Int32)) (8, x) 13 (-1 : Int32))
set_option maxRecDepth 20000 in
set_option maxHeartbeats 4000000 in
theorem tc_Ses_init {G : MzG} {B : MzB} {d : Nat} {x : Nat} {a1 : Int32} {M : MzM} {Q : MzR → MzB → MzM → Prop} (hw : mzWf B M) {D : List MzL} (hm : mz_dm B = D) (hi0 : (8, x) ∈ D) (hi1 : (1, 0) ∈ D) (hf0 : (9, x) ∉ D) (hf1 : (10, x) ∉ D) (hf2 : (11, x) ∉ D) (hf3 : (12, x) ∉ D) (hf4 : (13, x) ∉ D) (hf5 : (14, x) ∉ D) (hf6 : (15, x) ∉ D) (hf7 : (16, x) ∉ D) (hf8 : (17, x) ∉ D) (hf9 : (18, x) ∉ D) (h : ∀ B9 : MzB, mz_dm B9 = D ++ [(9, x), (10, x), (11, x), (12, x), (13, x), (14, x), (15, x), (16, x), (17, x), (18, x)] → (∀ j ∈ mz_dm B, mz_ad B9 j = mz_ad B j) → mzWf B9 (fm_Ses_init x a1 M) → Q (.inl none) B9 (fm_Ses_init x a1 M)) : MzC G B (d + 2) mm_Ses_init [.ref (mz_ad B (8, x)), .int a1, .ref (mz_ad B (1, 0))] M (10, 441) Q :=
  MzC.of rfl (Nat.le_of_ble_eq_true rfl) (show MzS G B (d + 2) mm_Ses_init M (10, 441) Q 0 [(0, .ref (mz_ad B (8, x))), (1, .int a1), (2, .ref (mz_ad B (1, 0)))] [] from ((mz_aload_n d_Ses_init_0 rfl (mz_objInit d_Ses_init_1 wl_Ses_3 wi_Object wco_Object (Nat.succ_pos _) (Nat.le_of_ble_eq_true rfl) (mz_aload_n d_Ses_init_4 rfl (mz_iload_n d_Ses_init_5 rfl (mz_putIF (i := (8, x)) (k := 0) cl_4 d_Ses_init_6 (by decide) wf_Ses_9 rfl rfl rfl rfl rfl rfl (by rw [hm]; exact hi0) rfl (let M1 : MzM := mz_si M (8, x) 0 a1; have hw2 : mzWf B M1 := hw; (mz_aload_n d_Ses_init_9 rfl (mz_aload_n d_Ses_init_10 rfl (mz_putRF (i := (8, x)) (k := 1) (x := some (1, 0)) cl_4 d_Ses_init_11 (by decide) wf_Ses_15 rfl rfl rfl rfl rfl rfl (by rw [hm]; exact hi0) rfl (let M3 : MzM := mz_sr M1 (8, x) 1 (some (1, 0)); have hw4 : mzWf B M3 := mzWf.sr hw2 (by rw [hm]; exact hi1); (mz_aload_n d_Ses_init_14 rfl (mz_newO (i := (9, x)) cl_5 d_Ses_init_15 wc_Ses_19 wb_Rep wn_Rep (by decide) hw4 (by rw [hm]; exact hf0) rfl (Nat.le_of_ble_eq_true rfl) (Nat.le_of_ble_eq_true rfl) (fun B5 hmx had7 hw8 => have hm6 : mz_dm B5 = D ++ [(9, x)] := (by rw [hmx, hm]); let M9 : MzM := mz_nm M3 (9, x); MzS.cv (bu' := (9, 436)) (lv' := [(0, .ref (mz_ad B5 (8, x))), (1, .int a1), (2, .ref (mz_ad B5 (1, 0)))]) (st' := [.ref (mz_ad B5 (9, x)), .ref (mz_ad B5 (8, x))]) rfl (by first | (simp only [had7 (8, x) (by rw [hm]; exact hi0), had7 (1, 0) (by rw [hm]; exact hi1)]; done) | (simp only [had7 (8, x) (by rw [hm]; exact hi0), had7 (1, 0) (by rw [hm]; exact hi1)]; rfl)) (by first | (simp only [had7 (8, x) (by rw [hm]; exact hi0), had7 (1, 0) (by rw [hm]; exact hi1)]; done) | (simp only [had7 (8, x) (by rw [hm]; exact hi0), had7 (1, 0) (by rw [hm]; exact hi1)]; rfl)) (mz_dup d_Ses_init_18 rfl (mz_callI (As := []) (st := [.ref (mz_ad B5 (9, x)), .ref (mz_ad B5 (8, x))]) 2 266 d_Ses_init_19 cs_Rep_init wl_Ses_21 wi_Rep_init rfl rfl (Nat.le_of_ble_eq_true rfl) (Nat.le_of_ble_eq_true rfl) (Nat.le_of_ble_eq_true rfl) (tc_Rep_init (d := d) (x := x) hw8 (D := D ++ [(9, x)]) hm6 (by simp) (by simp [hf1]) (by simp [hf2]) (fun B10 hmx had12 hw13 => have hm11 : mz_dm B10 = D ++ [(9, x), (10, x), (11, x)] := (by rw [hmx]; exact List.append_assoc _ _ _); let M14 : MzM := fm_Rep_init x  M9; ⟨none, rfl, MzS.cv (bu' := (7, 170)) (lv' := [(0, .ref (mz_ad B10 (8, x))), (1, .int a1), (2, .ref (mz_ad B10 (1, 0)))]) (st' := [.ref (mz_ad B10 (9, x)), .ref (mz_ad B10 (8, x))]) rfl (by first | (simp only [had12 (8, x) (by rw [hm6]; exact (List.mem_append_left _ hi0)), had12 (1, 0) (by rw [hm6]; exact (List.mem_append_left _ hi1)), had12 (9, x) (by rw [hm6]; exact (by simp))]; done) | (simp only [had12 (8, x) (by rw [hm6]; exact (List.mem_append_left _ hi0)), had12 (1, 0) (by rw [hm6]; exact (List.mem_append_left _ hi1)), had12 (9, x) (by rw [hm6]; exact (by simp))]; rfl)) (by simp only [had12 (8, x) (by rw [hm6]; exact (List.mem_append_left _ hi0)), had12 (1, 0) (by rw [hm6]; exact (List.mem_append_left _ hi1)), had12 (9, x) (by rw [hm6]; exact (by simp)), Option.toList_none, List.nil_append]) (mz_putRF (i := (8, x)) (k := 2) (x := some (9, x)) cl_4 d_Ses_init_22 (by decide) wf_Ses_22 rfl rfl rfl rfl rfl rfl (by rw [hm11]; exact (List.mem_append_left _ hi0)) rfl (let M15 : MzM := mz_sr M14 (8, x) 2 (some (9, x)); have hw16 : mzWf B10 M15 := mzWf.sr hw13 (by rw [hm11]; exact (by simp)); (mz_aload_n d_Ses_init_25 rfl (mz_newO (i := (12, x)) cl_6 d_Ses_init_26 wc_Ses_26 wb_Lin wn_Lin (by decide) hw16 (by rw [hm11]; exact (by simp [hf3])) rfl (Nat.le_of_ble_eq_true rfl) (Nat.le_of_ble_eq_true rfl) (fun B17 hmx had19 hw20 => have hm18 : mz_dm B17 = D ++ [(9, x), (10, x), (11, x), (12, x)] := (by rw [hmx, hm11]; exact List.append_assoc _ _ _); let M21 : MzM := mz_nm M15 (12, x); MzS.cv (bu' := (6, 163)) (lv' := [(0, .ref (mz_ad B17 (8, x))), (1, .int a1), (2, .ref (mz_ad B17 (1, 0)))]) (st' := [.ref (mz_ad B17 (12, x)), .ref (mz_ad B17 (8, x))]) rfl (by first | (simp only [had19 (8, x) (by rw [hm11]; exact (List.mem_append_left _ hi0)), had19 (1, 0) (by rw [hm11]; exact (List.mem_append_left _ hi1))]; done) | (simp only [had19 (8, x) (by rw [hm11]; exact (List.mem_append_left _ hi0)), had19 (1, 0) (by rw [hm11]; exact (List.mem_append_left _ hi1))]; rfl)) (by first | (simp only [had19 (8, x) (by rw [hm11]; exact (List.mem_append_left _ hi0)), had19 (1, 0) (by rw [hm11]; exact (List.mem_append_left _ hi1))]; done) | (simp only [had19 (8, x) (by rw [hm11]; exact (List.mem_append_left _ hi0)), had19 (1, 0) (by rw [hm11]; exact (List.mem_append_left _ hi1))]; rfl)) (mz_dup d_Ses_init_29 rfl (mz_aload_n d_Ses_init_30 rfl (mz_getR (i := (8, x)) (k := 2) (a := (9, x)) cl_4 d_Ses_init_31 (by decide) wf_Ses_22 rfl (by rw [hm18]; exact (List.mem_append_left _ hi0)) rfl (by simp [mz_r_nm, mz_r_sr]) (mz_callI (As := [.ref (mz_ad B17 (9, x))]) (st := [.ref (mz_ad B17 (12, x)), .ref (mz_ad B17 (8, x))]) 1 30 d_Ses_init_34 cs_Lin_init wl_Ses_28 wi_Lin_init rfl rfl (Nat.le_of_ble_eq_true rfl) (Nat.le_of_ble_eq_true rfl) (Nat.le_of_ble_eq_true rfl) (tc_Lin_init (d := d) (x := x) hw20 (D := D ++ [(9, x), (10, x), (11, x), (12, x)]) hm18 (by simp) (by simp) (by simp [hf4]) (fun B22 hmx had24 hw25 => have hm23 : mz_dm B22 = D ++ [(9, x), (10, x), (11, x), (12, x), (13, x)] := (by rw [hmx]; exact List.append_assoc _ _ _); let M26 : MzM := fm_Lin_init x  M21; ⟨none, rfl, MzS.cv (bu' := (5, 133)) (lv' := [(0, .ref (mz_ad B22 (8, x))), (1, .int a1), (2, .ref (mz_ad B22 (1, 0)))]) (st' := [.ref (mz_ad B22 (12, x)), .ref (mz_ad B22 (8, x))]) rfl (by first | (simp only [had24 (8, x) (by rw [hm18]; exact (List.mem_append_left _ hi0)), had24 (1, 0) (by rw [hm18]; exact (List.mem_append_left _ hi1)), had24 (12, x) (by rw [hm18]; exact (by simp))]; done) | (simp only [had24 (8, x) (by rw [hm18]; exact (List.mem_append_left _ hi0)), had24 (1, 0) (by rw [hm18]; exact (List.mem_append_left _ hi1)), had24 (12, x) (by rw [hm18]; exact (by simp))]; rfl)) (by simp only [had24 (8, x) (by rw [hm18]; exact (List.mem_append_left _ hi0)), had24 (1, 0) (by rw [hm18]; exact (List.mem_append_left _ hi1)), had24 (12, x) (by rw [hm18]; exact (by simp)), Option.toList_none, List.nil_append]) (mz_putRF (i := (8, x)) (k := 3) (x := some (12, x)) cl_4 d_Ses_init_37 (by decide) wf_Ses_31 rfl rfl rfl rfl rfl rfl (by rw [hm23]; exact (List.mem_append_left _ hi0)) rfl (let M27 : MzM := mz_sr M26 (8, x) 3 (some (12, x)); have hw28 : mzWf B22 M27 := mzWf.sr hw25 (by rw [hm23]; exact (by simp)); (mz_aload_n d_Ses_init_40 rfl (mz_newO (i := (14, x)) cl_7 d_Ses_init_41 wc_Ses_35 wb_Path wn_Path (by decide) hw28 (by rw [hm23]; exact (by simp [hf5])) rfl (Nat.le_of_ble_eq_true rfl) (Nat.le_of_ble_eq_true rfl) (fun B29 hmx had31 hw32 => have hm30 : mz_dm B29 = D ++ [(9, x), (10, x), (11, x), (12, x), (13, x), (14, x)] := (by rw [hmx, hm23]; exact List.append_assoc _ _ _); let M33 : MzM := mz_nm M27 (14, x); MzS.cv (bu' := (4, 129)) (lv' := [(0, .ref (mz_ad B29 (8, x))), (1, .int a1), (2, .ref (mz_ad B29 (1, 0)))]) (st' := [.ref (mz_ad B29 (14, x)), .ref (mz_ad B29 (8, x))]) rfl (by first | (simp only [had31 (8, x) (by rw [hm23]; exact (List.mem_append_left _ hi0)), had31 (1, 0) (by rw [hm23]; exact (List.mem_append_left _ hi1))]; done) | (simp only [had31 (8, x) (by rw [hm23]; exact (List.mem_append_left _ hi0)), had31 (1, 0) (by rw [hm23]; exact (List.mem_append_left _ hi1))]; rfl)) (by first | (simp only [had31 (8, x) (by rw [hm23]; exact (List.mem_append_left _ hi0)), had31 (1, 0) (by rw [hm23]; exact (List.mem_append_left _ hi1))]; done) | (simp only [had31 (8, x) (by rw [hm23]; exact (List.mem_append_left _ hi0)), had31 (1, 0) (by rw [hm23]; exact (List.mem_append_left _ hi1))]; rfl)) (mz_dup d_Ses_init_44 rfl (mz_callI (As := []) (st := [.ref (mz_ad B29 (14, x)), .ref (mz_ad B29 (8, x))]) 1 30 d_Ses_init_45 cs_Path_init wl_Ses_37 wi_Path_init rfl rfl (Nat.le_of_ble_eq_true rfl) (Nat.le_of_ble_eq_true rfl) (Nat.le_of_ble_eq_true rfl) (tc_Path_init (d := d) (x := x) hw32 (D := D ++ [(9, x), (10, x), (11, x), (12, x), (13, x), (14, x)]) hm30 (by simp) (by simp [hf6]) (fun B34 hmx had36 hw37 => have hm35 : mz_dm B34 = D ++ [(9, x), (10, x), (11, x), (12, x), (13, x), (14, x), (15, x)] := (by rw [hmx]; exact List.append_assoc _ _ _); let M38 : MzM := fm_Path_init x  M33; ⟨none, rfl, MzS.cv (bu' := (3, 99)) (lv' := [(0, .ref (mz_ad B34 (8, x))), (1, .int a1), (2, .ref (mz_ad B34 (1, 0)))]) (st' := [.ref (mz_ad B34 (14, x)), .ref (mz_ad B34 (8, x))]) rfl (by first | (simp only [had36 (8, x) (by rw [hm30]; exact (List.mem_append_left _ hi0)), had36 (1, 0) (by rw [hm30]; exact (List.mem_append_left _ hi1)), had36 (14, x) (by rw [hm30]; exact (by simp))]; done) | (simp only [had36 (8, x) (by rw [hm30]; exact (List.mem_append_left _ hi0)), had36 (1, 0) (by rw [hm30]; exact (List.mem_append_left _ hi1)), had36 (14, x) (by rw [hm30]; exact (by simp))]; rfl)) (by simp only [had36 (8, x) (by rw [hm30]; exact (List.mem_append_left _ hi0)), had36 (1, 0) (by rw [hm30]; exact (List.mem_append_left _ hi1)), had36 (14, x) (by rw [hm30]; exact (by simp)), Option.toList_none, List.nil_append]) (mz_putRF (i := (8, x)) (k := 4) (x := some (14, x)) cl_4 d_Ses_init_48 (by decide) wf_Ses_38 rfl rfl rfl rfl rfl rfl (by rw [hm35]; exact (List.mem_append_left _ hi0)) rfl (let M39 : MzM := mz_sr M38 (8, x) 4 (some (14, x)); have hw40 : mzWf B34 M39 := mzWf.sr hw37 (by rw [hm35]; exact (by simp)); (mz_aload_n d_Ses_init_51 rfl (mz_newO (i := (16, x)) cl_8 d_Ses_init_52 wc_Ses_42 wb_Way wn_Way (by decide) hw40 (by rw [hm35]; exact (by simp [hf7])) rfl (Nat.le_of_ble_eq_true rfl) (Nat.le_of_ble_eq_true rfl) (fun B41 hmx had43 hw44 => have hm42 : mz_dm B41 = D ++ [(9, x), (10, x), (11, x), (12, x), (13, x), (14, x), (15, x), (16, x)] := (by rw [hmx, hm35]; exact List.append_assoc _ _ _); let M45 : MzM := mz_nm M39 (16, x); MzS.cv (bu' := (2, 91)) (lv' := [(0, .ref (mz_ad B41 (8, x))), (1, .int a1), (2, .ref (mz_ad B41 (1, 0)))]) (st' := [.ref (mz_ad B41 (16, x)), .ref (mz_ad B41 (8, x))]) rfl (by first | (simp only [had43 (8, x) (by rw [hm35]; exact (List.mem_append_left _ hi0)), had43 (1, 0) (by rw [hm35]; exact (List.mem_append_left _ hi1))]; done) | (simp only [had43 (8, x) (by rw [hm35]; exact (List.mem_append_left _ hi0)), had43 (1, 0) (by rw [hm35]; exact (List.mem_append_left _ hi1))]; rfl)) (by first | (simp only [had43 (8, x) (by rw [hm35]; exact (List.mem_append_left _ hi0)), had43 (1, 0) (by rw [hm35]; exact (List.mem_append_left _ hi1))]; done) | (simp only [had43 (8, x) (by rw [hm35]; exact (List.mem_append_left _ hi0)), had43 (1, 0) (by rw [hm35]; exact (List.mem_append_left _ hi1))]; rfl)) (mz_dup d_Ses_init_55 rfl (mz_callI (As := []) (st := [.ref (mz_ad B41 (16, x)), .ref (mz_ad B41 (8, x))]) 1 75 d_Ses_init_56 cs_Way_init wl_Ses_44 wi_Way_init rfl rfl (Nat.le_of_ble_eq_true rfl) (Nat.le_of_ble_eq_true rfl) (Nat.le_of_ble_eq_true rfl) (tc_Way_init (d := d) (x := x) hw44 (D := D ++ [(9, x), (10, x), (11, x), (12, x), (13, x), (14, x), (15, x), (16, x)]) hm42 (by simp) (by simp [hf8]) (fun B46 hmx had48 hw49 => have hm47 : mz_dm B46 = D ++ [(9, x), (10, x), (11, x), (12, x), (13, x), (14, x), (15, x), (16, x), (17, x)] := (by rw [hmx]; exact List.append_assoc _ _ _); let M50 : MzM := fm_Way_init x  M45; ⟨none, rfl, MzS.cv (bu' := (1, 16)) (lv' := [(0, .ref (mz_ad B46 (8, x))), (1, .int a1), (2, .ref (mz_ad B46 (1, 0)))]) (st' := [.ref (mz_ad B46 (16, x)), .ref (mz_ad B46 (8, x))]) rfl (by first | (simp only [had48 (8, x) (by rw [hm42]; exact (List.mem_append_left _ hi0)), had48 (1, 0) (by rw [hm42]; exact (List.mem_append_left _ hi1)), had48 (16, x) (by rw [hm42]; exact (by simp))]; done) | (simp only [had48 (8, x) (by rw [hm42]; exact (List.mem_append_left _ hi0)), had48 (1, 0) (by rw [hm42]; exact (List.mem_append_left _ hi1)), had48 (16, x) (by rw [hm42]; exact (by simp))]; rfl)) (by simp only [had48 (8, x) (by rw [hm42]; exact (List.mem_append_left _ hi0)), had48 (1, 0) (by rw [hm42]; exact (List.mem_append_left _ hi1)), had48 (16, x) (by rw [hm42]; exact (by simp)), Option.toList_none, List.nil_append]) (mz_putRF (i := (8, x)) (k := 5) (x := some (16, x)) cl_4 d_Ses_init_59 (by decide) wf_Ses_45 rfl rfl rfl rfl rfl rfl (by rw [hm47]; exact (List.mem_append_left _ hi0)) rfl (let M51 : MzM := mz_sr M50 (8, x) 5 (some (16, x)); have hw52 : mzWf B46 M51 := mzWf.sr hw49 (by rw [hm47]; exact (by simp)); (mz_aload_n d_Ses_init_62 rfl (mz_bipush (16 : Int32) d_Ses_init_63 (by decide) (mz_newaO (i := (18, x)) (fty := .int) (n := 16) d_Ses_init_65 wa_int rfl rfl (by decide) (by decide) (by decide) hw52 (by rw [hm47]; exact (by simp [hf9])) rfl (Nat.le_of_ble_eq_true rfl) (Nat.le_of_ble_eq_true rfl) (fun B53 hmx had55 hw56 => have hm54 : mz_dm B53 = D ++ [(9, x), (10, x), (11, x), (12, x), (13, x), (14, x), (15, x), (16, x), (17, x), (18, x)] := (by rw [hmx, hm47]; exact List.append_assoc _ _ _); let M57 : MzM := mz_nm M51 (18, x); MzS.cv (bu' := (0, 0)) (lv' := [(0, .ref (mz_ad B53 (8, x))), (1, .int a1), (2, .ref (mz_ad B53 (1, 0)))]) (st' := [.ref (mz_ad B53 (18, x)), .ref (mz_ad B53 (8, x))]) rfl (by first | (simp only [had55 (8, x) (by rw [hm47]; exact (List.mem_append_left _ hi0)), had55 (1, 0) (by rw [hm47]; exact (List.mem_append_left _ hi1))]; done) | (simp only [had55 (8, x) (by rw [hm47]; exact (List.mem_append_left _ hi0)), had55 (1, 0) (by rw [hm47]; exact (List.mem_append_left _ hi1))]; rfl)) (by first | (simp only [had55 (8, x) (by rw [hm47]; exact (List.mem_append_left _ hi0)), had55 (1, 0) (by rw [hm47]; exact (List.mem_append_left _ hi1))]; done) | (simp only [had55 (8, x) (by rw [hm47]; exact (List.mem_append_left _ hi0)), had55 (1, 0) (by rw [hm47]; exact (List.mem_append_left _ hi1))]; rfl)) (mz_putRF (i := (8, x)) (k := 6) (x := some (18, x)) cl_4 d_Ses_init_67 (by decide) wf_Ses_49 rfl rfl rfl rfl rfl rfl (by rw [hm54]; exact (List.mem_append_left _ hi0)) rfl (let M58 : MzM := mz_sr M57 (8, x) 6 (some (18, x)); have hw59 : mzWf B53 M58 := mzWf.sr hw56 (by rw [hm54]; exact (by simp)); (mz_aload_n d_Ses_init_70 rfl (mz_iconst (-1 : Int32) d_Ses_init_71 (by decide) (mz_putI (i := (8, x)) (k := 10) cl_4 d_Ses_init_72 (by decide) wf_Ses_53 rfl rfl rfl rfl (by rw [hm54]; exact (List.mem_append_left _ hi0)) rfl (let M60 : MzM := mz_si M58 (8, x) 10 (-1 : Int32); have hw61 : mzWf B53 M60 := hw59; (mz_aload_n d_Ses_init_75 rfl (mz_iconst (-1 : Int32) d_Ses_init_76 (by decide) (mz_putI (i := (8, x)) (k := 12) cl_4 d_Ses_init_77 (by decide) wf_Ses_56 rfl rfl rfl rfl (by rw [hm54]; exact (List.mem_append_left _ hi0)) rfl (let M62 : MzM := mz_si M60 (8, x) 12 (-1 : Int32); have hw63 : mzWf B53 M62 := hw61; (mz_aload_n d_Ses_init_80 rfl (mz_iconst (-1 : Int32) d_Ses_init_81 (by decide) (mz_putI (i := (8, x)) (k := 13) cl_4 d_Ses_init_82 (by decide) wf_Ses_59 rfl rfl rfl rfl (by rw [hm54]; exact (List.mem_append_left _ hi0)) rfl (let M64 : MzM := mz_si M62 (8, x) 13 (-1 : Int32); have hw65 : mzWf B53 M64 := hw63; (mz_vret d_Ses_init_85 rfl (h B53 hm54 (fun j hj => ((had55 j (by rw [hm47]; rw [hm] at hj; exact List.mem_append_left _ hj)).trans ((had48 j (by rw [hm42]; rw [hm] at hj; exact List.mem_append_left _ hj)).trans ((had43 j (by rw [hm35]; rw [hm] at hj; exact List.mem_append_left _ hj)).trans ((had36 j (by rw [hm30]; rw [hm] at hj; exact List.mem_append_left _ hj)).trans ((had31 j (by rw [hm23]; rw [hm] at hj; exact List.mem_append_left _ hj)).trans ((had24 j (by rw [hm18]; rw [hm] at hj; exact List.mem_append_left _ hj)).trans ((had19 j (by rw [hm11]; rw [hm] at hj; exact List.mem_append_left _ hj)).trans ((had12 j (by rw [hm6]; rw [hm] at hj; exact List.mem_append_left _ hj)).trans (had7 j hj)))))))))) hw65))))))))))))))))))))))⟩)))))))))⟩)))))))))⟩)))))))))))⟩)))))))))))))))))))
def mm_Cop_init : MzT := (⟨"ParcelLine$Copier", "<init>", "(LParcelLine$Session;LParcelLine$ByteRow;)V"⟩, prog_5_method_1_code, 3, (Option.none : Option Jvm.ClassFile.FieldType))
theorem cs_Cop_init {mm : MzT} : mzCall mm mm_Cop_init 2 := ⟨wn_Cop, wco_Cop_init, by decide +kernel, by decide⟩
theorem d_Cop_init_0 : decode mm_Cop_init.2.1 0 = .ok (.aload_n 0, 1) := by decide +kernel
theorem d_Cop_init_1 : decode mm_Cop_init.2.1 1 = .ok (.invokespecial 3, 3) := by decide +kernel
theorem d_Cop_init_4 : decode mm_Cop_init.2.1 4 = .ok (.aload_n 0, 1) := by decide +kernel
theorem d_Cop_init_5 : decode mm_Cop_init.2.1 5 = .ok (.aload_n 1, 1) := by decide +kernel
theorem d_Cop_init_6 : decode mm_Cop_init.2.1 6 = .ok (.putfield 9, 3) := by decide +kernel
theorem d_Cop_init_9 : decode mm_Cop_init.2.1 9 = .ok (.aload_n 0, 1) := by decide +kernel
theorem d_Cop_init_10 : decode mm_Cop_init.2.1 10 = .ok (.aload_n 2, 1) := by decide +kernel
theorem d_Cop_init_11 : decode mm_Cop_init.2.1 11 = .ok (.putfield 15, 3) := by decide +kernel
theorem d_Cop_init_14 : decode mm_Cop_init.2.1 14 = .ok (.return_, 1) := by decide +kernel
def fm_Cop_init   (M : MzM) : MzM := (mz_sr (mz_sr M (22, 0) 0 (some (8, 1))) (22, 0) 1 (some (20, 0)))
set_option maxRecDepth 20000 in
set_option maxHeartbeats 4000000 in
theorem tc_Cop_init {G : MzG} {B : MzB} {d : Nat}   {M : MzM} {Q : MzR → MzB → MzM → Prop} (hw : mzWf B M) {D : List MzL} (hm : mz_dm B = D) (hi0 : (22, 0) ∈ D) (hi1 : (8, 1) ∈ D) (hi2 : (20, 0) ∈ D)  (h : ∀ B9 : MzB, mz_dm B9 = D → (∀ j ∈ mz_dm B, mz_ad B9 j = mz_ad B j) → mzWf B9 (fm_Cop_init   M) → Q (.inl none) B9 (fm_Cop_init   M)) : MzC G B (d + 1) mm_Cop_init [.ref (mz_ad B (22, 0)), .ref (mz_ad B (8, 1)), .ref (mz_ad B (20, 0))] M (0, 0) Q :=
  MzC.of rfl (Nat.le_of_ble_eq_true rfl) (show MzS G B (d + 1) mm_Cop_init M (0, 0) Q 0 [(0, .ref (mz_ad B (22, 0))), (1, .ref (mz_ad B (8, 1))), (2, .ref (mz_ad B (20, 0)))] [] from ((mz_aload_n d_Cop_init_0 rfl (mz_objInit d_Cop_init_1 wl_Cop_3 wi_Object wco_Object (Nat.succ_pos _) (Nat.le_of_ble_eq_true rfl) (mz_aload_n d_Cop_init_4 rfl (mz_aload_n d_Cop_init_5 rfl (mz_putRF (i := (22, 0)) (k := 0) (x := some (8, 1)) cl_9 d_Cop_init_6 (by decide) wf_Cop_9 rfl rfl rfl rfl rfl rfl (by rw [hm]; exact hi0) rfl (let M1 : MzM := mz_sr M (22, 0) 0 (some (8, 1)); have hw2 : mzWf B M1 := mzWf.sr hw (by rw [hm]; exact hi1); (mz_aload_n d_Cop_init_9 rfl (mz_aload_n d_Cop_init_10 rfl (mz_putR (i := (22, 0)) (k := 1) (x := some (20, 0)) cl_9 d_Cop_init_11 (by decide) wf_Cop_15 rfl rfl rfl rfl (by rw [hm]; exact hi0) rfl (let M3 : MzM := mz_sr M1 (22, 0) 1 (some (20, 0)); have hw4 : mzWf B M3 := mzWf.sr hw2 (by rw [hm]; exact hi2); (mz_vret d_Cop_init_14 rfl (h B hm (fun _ _ => rfl) hw4))))))))))))))
def mm_Store_init : MzT := (⟨"ParcelLine$Store", "<init>", "()V"⟩, prog_12_method_1_code, 2, (Option.none : Option Jvm.ClassFile.FieldType))
theorem cs_Store_init {mm : MzT} : mzCall mm mm_Store_init 0 := ⟨wn_Store, wco_Store_init, by decide +kernel, by decide⟩
theorem d_Store_init_0 : decode mm_Store_init.2.1 0 = .ok (.aload_n 0, 1) := by decide +kernel
theorem d_Store_init_1 : decode mm_Store_init.2.1 1 = .ok (.invokespecial 3, 3) := by decide +kernel
theorem d_Store_init_4 : decode mm_Store_init.2.1 4 = .ok (.aload_n 0, 1) := by decide +kernel
theorem d_Store_init_5 : decode mm_Store_init.2.1 5 = .ok (.bipush 16, 2) := by decide +kernel
theorem d_Store_init_7 : decode mm_Store_init.2.1 7 = .ok (.anewarray 9, 3) := by decide +kernel
theorem d_Store_init_10 : decode mm_Store_init.2.1 10 = .ok (.putfield 11, 3) := by decide +kernel
theorem d_Store_init_13 : decode mm_Store_init.2.1 13 = .ok (.iconst 0, 1) := by decide +kernel
theorem d_Store_init_14 : decode mm_Store_init.2.1 14 = .ok (.istore_n 1, 1) := by decide +kernel
theorem d_Store_init_15 : decode mm_Store_init.2.1 15 = .ok (.iload_n 1, 1) := by decide +kernel
theorem d_Store_init_16 : decode mm_Store_init.2.1 16 = .ok (.bipush 16, 2) := by decide +kernel
theorem d_Store_init_18 : decode mm_Store_init.2.1 18 = .ok (.if_icmp .ge 22, 3) := by decide +kernel
theorem d_Store_init_21 : decode mm_Store_init.2.1 21 = .ok (.aload_n 0, 1) := by decide +kernel
theorem d_Store_init_22 : decode mm_Store_init.2.1 22 = .ok (.getfield 11, 3) := by decide +kernel
theorem d_Store_init_25 : decode mm_Store_init.2.1 25 = .ok (.iload_n 1, 1) := by decide +kernel
theorem d_Store_init_26 : decode mm_Store_init.2.1 26 = .ok (.new 9, 3) := by decide +kernel
theorem d_Store_init_29 : decode mm_Store_init.2.1 29 = .ok (.dup, 1) := by decide +kernel
theorem d_Store_init_30 : decode mm_Store_init.2.1 30 = .ok (.invokespecial 17, 3) := by decide +kernel
theorem d_Store_init_33 : decode mm_Store_init.2.1 33 = .ok (.aastore, 1) := by decide +kernel
theorem d_Store_init_34 : decode mm_Store_init.2.1 34 = .ok (.iinc 1 1, 3) := by decide +kernel
theorem d_Store_init_37 : decode mm_Store_init.2.1 37 = .ok (.goto (-22), 3) := by decide +kernel
theorem d_Store_init_40 : decode mm_Store_init.2.1 40 = .ok (.aload_n 0, 1) := by decide +kernel
theorem d_Store_init_41 : decode mm_Store_init.2.1 41 = .ok (.getfield 11, 3) := by decide +kernel
theorem d_Store_init_44 : decode mm_Store_init.2.1 44 = .ok (.iconst 0, 1) := by decide +kernel
theorem d_Store_init_45 : decode mm_Store_init.2.1 45 = .ok (.aaload, 1) := by decide +kernel
theorem d_Store_init_46 : decode mm_Store_init.2.1 46 = .ok (.iconst 1, 1) := by decide +kernel
theorem d_Store_init_47 : decode mm_Store_init.2.1 47 = .ok (.putfield 18, 3) := by decide +kernel
theorem d_Store_init_50 : decode mm_Store_init.2.1 50 = .ok (.aload_n 0, 1) := by decide +kernel
theorem d_Store_init_51 : decode mm_Store_init.2.1 51 = .ok (.getfield 11, 3) := by decide +kernel
theorem d_Store_init_54 : decode mm_Store_init.2.1 54 = .ok (.iconst 0, 1) := by decide +kernel
theorem d_Store_init_55 : decode mm_Store_init.2.1 55 = .ok (.aaload, 1) := by decide +kernel
theorem d_Store_init_56 : decode mm_Store_init.2.1 56 = .ok (.iconst 0, 1) := by decide +kernel
theorem d_Store_init_57 : decode mm_Store_init.2.1 57 = .ok (.putfield 22, 3) := by decide +kernel
theorem d_Store_init_60 : decode mm_Store_init.2.1 60 = .ok (.aload_n 0, 1) := by decide +kernel
theorem d_Store_init_61 : decode mm_Store_init.2.1 61 = .ok (.iconst 2, 1) := by decide +kernel
theorem d_Store_init_62 : decode mm_Store_init.2.1 62 = .ok (.newarray .int, 2) := by decide +kernel
theorem d_Store_init_64 : decode mm_Store_init.2.1 64 = .ok (.putfield 25, 3) := by decide +kernel
theorem d_Store_init_67 : decode mm_Store_init.2.1 67 = .ok (.iconst 0, 1) := by decide +kernel
theorem d_Store_init_68 : decode mm_Store_init.2.1 68 = .ok (.istore_n 1, 1) := by decide +kernel
theorem d_Store_init_69 : decode mm_Store_init.2.1 69 = .ok (.iload_n 1, 1) := by decide +kernel
theorem d_Store_init_70 : decode mm_Store_init.2.1 70 = .ok (.iconst 2, 1) := by decide +kernel
theorem d_Store_init_71 : decode mm_Store_init.2.1 71 = .ok (.if_icmp .ge 16, 3) := by decide +kernel
theorem d_Store_init_74 : decode mm_Store_init.2.1 74 = .ok (.aload_n 0, 1) := by decide +kernel
theorem d_Store_init_75 : decode mm_Store_init.2.1 75 = .ok (.getfield 25, 3) := by decide +kernel
theorem d_Store_init_78 : decode mm_Store_init.2.1 78 = .ok (.iload_n 1, 1) := by decide +kernel
theorem d_Store_init_79 : decode mm_Store_init.2.1 79 = .ok (.iconst (-1), 1) := by decide +kernel
theorem d_Store_init_80 : decode mm_Store_init.2.1 80 = .ok (.iastore, 1) := by decide +kernel
theorem d_Store_init_81 : decode mm_Store_init.2.1 81 = .ok (.iinc 1 1, 3) := by decide +kernel
theorem d_Store_init_84 : decode mm_Store_init.2.1 84 = .ok (.goto (-15), 3) := by decide +kernel
theorem d_Store_init_87 : decode mm_Store_init.2.1 87 = .ok (.return_, 1) := by decide +kernel
def fm_StoreC   (M : MzM) : MzM := (mz_si (mz_si (mz_sr (mz_nm (mz_si (mz_si M (3, 0) 1 (1 : Int32)) (3, 0) 2 (0 : Int32)) (6, 0)) (1, 0) 1 (some (6, 0))) (6, 0) 0 (-1 : Int32)) (6, 0) 1 (-1 : Int32))
set_option maxRecDepth 20000 in
set_option maxHeartbeats 4000000 in
theorem tc_StoreC {G : MzG} {B : MzB} {d : Nat} {M : MzM} {Q : MzR → MzB → MzM → Prop} (hw : mzWf B M) {D : List MzL} (hm : mz_dm B = D) (hi0 : (1, 0) ∈ D) (hi1 : (2, 0) ∈ D) (hi2 : (3, 0) ∈ D) (hf0 : (6, 0) ∉ D) (hk0 : mz_r M (1, 0) 0 = some (2, 0)) (hk1 : mz_r M (2, 0) 0 = some (3, 0)) (h : ∀ B9 : MzB, mz_dm B9 = D ++ [(6, 0)] → (∀ j ∈ mz_dm B, mz_ad B9 j = mz_ad B j) → mzWf B9 (fm_StoreC   M) → Q (.inl none) B9 (fm_StoreC   M)) : MzS G B (d + 3) mm_Store_init M (1, 2) Q 40 [(0, .ref (mz_ad B (1, 0)))] [] :=
  (mz_aload_n d_Store_init_40 rfl (mz_getR (i := (1, 0)) (k := 0) (a := (2, 0)) cl_1 d_Store_init_41 (by decide) wf_Store_11 rfl (by rw [hm]; exact hi0) rfl hk0 (mz_iconst (0 : Int32) d_Store_init_44 (by decide) (mz_aald (i := (2, 0)) (a := (3, 0)) 0 d_Store_init_45 (by rw [hm]; exact hi1) rfl (by decide) (by decide) hk1 (mz_iconst (1 : Int32) d_Store_init_46 (by decide) (mz_putIN (i := (3, 0)) (k := 1) cl_2 d_Store_init_47 (by decide) wf_Store_18 rfl rfl rfl rfl (by rw [hm]; exact hi2) rfl (let M1 : MzM := mz_si M (3, 0) 1 (1 : Int32); have hw2 : mzWf B M1 := hw; (mz_aload_n d_Store_init_50 rfl (mz_getR (i := (1, 0)) (k := 0) (a := (2, 0)) cl_1 d_Store_init_51 (by decide) wf_Store_11 rfl (by rw [hm]; exact hi0) rfl hk0 (mz_iconst (0 : Int32) d_Store_init_54 (by decide) (mz_aald (i := (2, 0)) (a := (3, 0)) 0 d_Store_init_55 (by rw [hm]; exact hi1) rfl (by decide) (by decide) hk1 (mz_iconst (0 : Int32) d_Store_init_56 (by decide) (mz_putIN (i := (3, 0)) (k := 2) cl_2 d_Store_init_57 (by decide) wf_Store_22 rfl rfl rfl rfl (by rw [hm]; exact hi2) rfl (let M3 : MzM := mz_si M1 (3, 0) 2 (0 : Int32); have hw4 : mzWf B M3 := hw2; (mz_aload_n d_Store_init_60 rfl (mz_iconst (2 : Int32) d_Store_init_61 (by decide) (mz_newaO (i := (6, 0)) (fty := .int) (n := 2) d_Store_init_62 wa_int rfl rfl (by decide) (by decide) (by decide) hw4 (by rw [hm]; exact hf0) rfl (Nat.le_of_ble_eq_true rfl) (Nat.le_of_ble_eq_true rfl) (fun B5 hmx had7 hw8 => have hm6 : mz_dm B5 = D ++ [(6, 0)] := (by rw [hmx, hm]); let M9 : MzM := mz_nm M3 (6, 0); MzS.cv (bu' := (0, 0)) (lv' := [(0, .ref (mz_ad B5 (1, 0)))]) (st' := [.ref (mz_ad B5 (6, 0)), .ref (mz_ad B5 (1, 0))]) rfl (by first | (simp only [had7 (1, 0) (by rw [hm]; exact hi0)]; done) | (simp only [had7 (1, 0) (by rw [hm]; exact hi0)]; rfl)) (by first | (simp only [had7 (1, 0) (by rw [hm]; exact hi0)]; done) | (simp only [had7 (1, 0) (by rw [hm]; exact hi0)]; rfl)) (mz_putRF (i := (1, 0)) (k := 1) (x := some (6, 0)) cl_1 d_Store_init_64 (by decide) wf_Store_25 rfl rfl rfl rfl rfl rfl (by rw [hm6]; exact (List.mem_append_left _ hi0)) rfl (let M10 : MzM := mz_sr M9 (1, 0) 1 (some (6, 0)); have hw11 : mzWf B5 M10 := mzWf.sr hw8 (by rw [hm6]; exact (by simp)); (mz_iconst (0 : Int32) d_Store_init_67 (by decide) (mz_istore_n d_Store_init_68 (by decide) (mz_iload_n d_Store_init_69 rfl (mz_iconst (2 : Int32) d_Store_init_70 (by decide) (mz_icmp_ge 87 d_Store_init_71 rfl (fun hc => absurd hc (by decide)) (fun _ => (mz_aload_n d_Store_init_74 rfl (mz_getR (i := (1, 0)) (k := 1) (a := (6, 0)) cl_1 d_Store_init_75 (by decide) wf_Store_25 rfl (by rw [hm6]; exact (List.mem_append_left _ hi0)) rfl rfl (mz_iload_n d_Store_init_78 rfl (mz_iconst (-1 : Int32) d_Store_init_79 (by decide) (mz_iast (i := (6, 0)) 0 d_Store_init_80 (by rw [hm6]; exact (by simp)) rfl (by decide) (by decide) (let M12 : MzM := mz_si M10 (6, 0) 0 (-1 : Int32); have hw13 : mzWf B5 M12 := hw11; (mz_iinc (1 : Int32) d_Store_init_81 rfl (by decide) (by decide) (mz_goto 69 d_Store_init_84 rfl (mz_iload_n d_Store_init_69 rfl (mz_iconst (2 : Int32) d_Store_init_70 (by decide) (mz_icmp_ge 87 d_Store_init_71 rfl (fun hc => absurd hc (by decide)) (fun _ => (mz_aload_n d_Store_init_74 rfl (mz_getR (i := (1, 0)) (k := 1) (a := (6, 0)) cl_1 d_Store_init_75 (by decide) wf_Store_25 rfl (by rw [hm6]; exact (List.mem_append_left _ hi0)) rfl rfl (mz_iload_n d_Store_init_78 rfl (mz_iconst (-1 : Int32) d_Store_init_79 (by decide) (mz_iast (i := (6, 0)) 1 d_Store_init_80 (by rw [hm6]; exact (by simp)) rfl (by decide) (by decide) (let M14 : MzM := mz_si M12 (6, 0) 1 (-1 : Int32); have hw15 : mzWf B5 M14 := hw13; (mz_iinc (2 : Int32) d_Store_init_81 rfl (by decide) (by decide) (mz_goto 69 d_Store_init_84 rfl (mz_iload_n d_Store_init_69 rfl (mz_iconst (2 : Int32) d_Store_init_70 (by decide) (mz_icmp_ge 87 d_Store_init_71 rfl (fun _ => (mz_vret d_Store_init_87 rfl (h B5 hm6 (fun j hj => (had7 j hj)) hw15))) (fun hc => absurd (by decide) hc))))))))))))))))))))))))))))))))))))))))))))))))))
def mm_PL_init : MzT := (⟨"ParcelLine", "<init>", "()V"⟩, prog_1_method_1_code, 2, (Option.none : Option Jvm.ClassFile.FieldType))
theorem cs_PL_init {mm : MzT} : mzCall mm mm_PL_init 0 := ⟨wn_PL, wco_PL_init, by decide +kernel, by decide⟩
theorem d_PL_init_0 : decode mm_PL_init.2.1 0 = .ok (.aload_n 0, 1) := by decide +kernel
theorem d_PL_init_1 : decode mm_PL_init.2.1 1 = .ok (.invokespecial 3, 3) := by decide +kernel
theorem d_PL_init_4 : decode mm_PL_init.2.1 4 = .ok (.aload_n 0, 1) := by decide +kernel
theorem d_PL_init_5 : decode mm_PL_init.2.1 5 = .ok (.new 9, 3) := by decide +kernel
theorem d_PL_init_8 : decode mm_PL_init.2.1 8 = .ok (.dup, 1) := by decide +kernel
theorem d_PL_init_9 : decode mm_PL_init.2.1 9 = .ok (.invokespecial 11, 3) := by decide +kernel
theorem d_PL_init_12 : decode mm_PL_init.2.1 12 = .ok (.putfield 12, 3) := by decide +kernel
theorem d_PL_init_15 : decode mm_PL_init.2.1 15 = .ok (.aload_n 0, 1) := by decide +kernel
theorem d_PL_init_16 : decode mm_PL_init.2.1 16 = .ok (.iconst 2, 1) := by decide +kernel
theorem d_PL_init_17 : decode mm_PL_init.2.1 17 = .ok (.anewarray 16, 3) := by decide +kernel
theorem d_PL_init_20 : decode mm_PL_init.2.1 20 = .ok (.putfield 18, 3) := by decide +kernel
theorem d_PL_init_23 : decode mm_PL_init.2.1 23 = .ok (.iconst 0, 1) := by decide +kernel
theorem d_PL_init_24 : decode mm_PL_init.2.1 24 = .ok (.istore_n 1, 1) := by decide +kernel
theorem d_PL_init_25 : decode mm_PL_init.2.1 25 = .ok (.iload_n 1, 1) := by decide +kernel
theorem d_PL_init_26 : decode mm_PL_init.2.1 26 = .ok (.iconst 2, 1) := by decide +kernel
theorem d_PL_init_27 : decode mm_PL_init.2.1 27 = .ok (.if_icmp .ge 27, 3) := by decide +kernel
theorem d_PL_init_30 : decode mm_PL_init.2.1 30 = .ok (.aload_n 0, 1) := by decide +kernel
theorem d_PL_init_31 : decode mm_PL_init.2.1 31 = .ok (.getfield 18, 3) := by decide +kernel
theorem d_PL_init_34 : decode mm_PL_init.2.1 34 = .ok (.iload_n 1, 1) := by decide +kernel
theorem d_PL_init_35 : decode mm_PL_init.2.1 35 = .ok (.new 16, 3) := by decide +kernel
theorem d_PL_init_38 : decode mm_PL_init.2.1 38 = .ok (.dup, 1) := by decide +kernel
theorem d_PL_init_39 : decode mm_PL_init.2.1 39 = .ok (.iload_n 1, 1) := by decide +kernel
theorem d_PL_init_40 : decode mm_PL_init.2.1 40 = .ok (.aload_n 0, 1) := by decide +kernel
theorem d_PL_init_41 : decode mm_PL_init.2.1 41 = .ok (.getfield 12, 3) := by decide +kernel
theorem d_PL_init_44 : decode mm_PL_init.2.1 44 = .ok (.invokespecial 22, 3) := by decide +kernel
theorem d_PL_init_47 : decode mm_PL_init.2.1 47 = .ok (.aastore, 1) := by decide +kernel
theorem d_PL_init_48 : decode mm_PL_init.2.1 48 = .ok (.iinc 1 1, 3) := by decide +kernel
theorem d_PL_init_51 : decode mm_PL_init.2.1 51 = .ok (.goto (-26), 3) := by decide +kernel
theorem d_PL_init_54 : decode mm_PL_init.2.1 54 = .ok (.aload_n 0, 1) := by decide +kernel
theorem d_PL_init_55 : decode mm_PL_init.2.1 55 = .ok (.iconst 3, 1) := by decide +kernel
theorem d_PL_init_56 : decode mm_PL_init.2.1 56 = .ok (.anewarray 25, 3) := by decide +kernel
theorem d_PL_init_59 : decode mm_PL_init.2.1 59 = .ok (.putfield 27, 3) := by decide +kernel
theorem d_PL_init_62 : decode mm_PL_init.2.1 62 = .ok (.iconst 0, 1) := by decide +kernel
theorem d_PL_init_63 : decode mm_PL_init.2.1 63 = .ok (.istore_n 1, 1) := by decide +kernel
theorem d_PL_init_64 : decode mm_PL_init.2.1 64 = .ok (.iload_n 1, 1) := by decide +kernel
theorem d_PL_init_65 : decode mm_PL_init.2.1 65 = .ok (.iconst 3, 1) := by decide +kernel
theorem d_PL_init_66 : decode mm_PL_init.2.1 66 = .ok (.if_icmp .ge 22, 3) := by decide +kernel
theorem d_PL_init_69 : decode mm_PL_init.2.1 69 = .ok (.aload_n 0, 1) := by decide +kernel
theorem d_PL_init_70 : decode mm_PL_init.2.1 70 = .ok (.getfield 27, 3) := by decide +kernel
theorem d_PL_init_73 : decode mm_PL_init.2.1 73 = .ok (.iload_n 1, 1) := by decide +kernel
theorem d_PL_init_74 : decode mm_PL_init.2.1 74 = .ok (.new 25, 3) := by decide +kernel
theorem d_PL_init_77 : decode mm_PL_init.2.1 77 = .ok (.dup, 1) := by decide +kernel
theorem d_PL_init_78 : decode mm_PL_init.2.1 78 = .ok (.invokespecial 31, 3) := by decide +kernel
theorem d_PL_init_81 : decode mm_PL_init.2.1 81 = .ok (.aastore, 1) := by decide +kernel
theorem d_PL_init_82 : decode mm_PL_init.2.1 82 = .ok (.iinc 1 1, 3) := by decide +kernel
theorem d_PL_init_85 : decode mm_PL_init.2.1 85 = .ok (.goto (-21), 3) := by decide +kernel
theorem d_PL_init_88 : decode mm_PL_init.2.1 88 = .ok (.aload_n 0, 1) := by decide +kernel
theorem d_PL_init_89 : decode mm_PL_init.2.1 89 = .ok (.new 32, 3) := by decide +kernel
theorem d_PL_init_92 : decode mm_PL_init.2.1 92 = .ok (.dup, 1) := by decide +kernel
theorem d_PL_init_93 : decode mm_PL_init.2.1 93 = .ok (.aload_n 0, 1) := by decide +kernel
theorem d_PL_init_94 : decode mm_PL_init.2.1 94 = .ok (.getfield 18, 3) := by decide +kernel
theorem d_PL_init_97 : decode mm_PL_init.2.1 97 = .ok (.iconst 1, 1) := by decide +kernel
theorem d_PL_init_98 : decode mm_PL_init.2.1 98 = .ok (.aaload, 1) := by decide +kernel
theorem d_PL_init_99 : decode mm_PL_init.2.1 99 = .ok (.aload_n 0, 1) := by decide +kernel
theorem d_PL_init_100 : decode mm_PL_init.2.1 100 = .ok (.getfield 27, 3) := by decide +kernel
theorem d_PL_init_103 : decode mm_PL_init.2.1 103 = .ok (.iconst 0, 1) := by decide +kernel
theorem d_PL_init_104 : decode mm_PL_init.2.1 104 = .ok (.aaload, 1) := by decide +kernel
theorem d_PL_init_105 : decode mm_PL_init.2.1 105 = .ok (.invokespecial 34, 3) := by decide +kernel
theorem d_PL_init_108 : decode mm_PL_init.2.1 108 = .ok (.putfield 37, 3) := by decide +kernel
theorem d_PL_init_111 : decode mm_PL_init.2.1 111 = .ok (.return_, 1) := by decide +kernel
def fm_PLB   (M : MzM) : MzM := (mz_sr (fm_Cop_init   (mz_nm (mz_sr (fm_Row_init20 2  (mz_nm (mz_sr (fm_Row_init20 1  (mz_nm (mz_sr (fm_Row_init20 0  (mz_nm (mz_sr (mz_nm (mz_sr (fm_Ses_init 1 (1 : Int32) (mz_nm (mz_sr (fm_Ses_init 0 (0 : Int32) (mz_nm (mz_sr (mz_nm M (7, 0)) (0, 0) 1 (some (7, 0))) (8, 0))) (7, 0) 0 (some (8, 0))) (8, 1))) (7, 0) 1 (some (8, 1))) (19, 0)) (0, 0) 2 (some (19, 0))) (20, 0))) (19, 0) 0 (some (20, 0))) (20, 1))) (19, 0) 1 (some (20, 1))) (20, 2))) (19, 0) 2 (some (20, 2))) (22, 0))) (0, 0) 3 (some (22, 0)))
set_option maxRecDepth 20000 in
set_option maxHeartbeats 4000000 in
theorem tc_PLB {G : MzG} {B : MzB} {d : Nat} {M : MzM} {Q : MzR → MzB → MzM → Prop} (hw : mzWf B M) {D : List MzL} (hm : mz_dm B = D) (hi0 : (0, 0) ∈ D) (hi1 : (1, 0) ∈ D) (hf0 : (7, 0) ∉ D) (hf1 : (8, 0) ∉ D) (hf2 : (9, 0) ∉ D) (hf3 : (10, 0) ∉ D) (hf4 : (11, 0) ∉ D) (hf5 : (12, 0) ∉ D) (hf6 : (13, 0) ∉ D) (hf7 : (14, 0) ∉ D) (hf8 : (15, 0) ∉ D) (hf9 : (16, 0) ∉ D) (hf10 : (17, 0) ∉ D) (hf11 : (18, 0) ∉ D) (hf12 : (8, 1) ∉ D) (hf13 : (9, 1) ∉ D) (hf14 : (10, 1) ∉ D) (hf15 : (11, 1) ∉ D) (hf16 : (12, 1) ∉ D) (hf17 : (13, 1) ∉ D) (hf18 : (14, 1) ∉ D) (hf19 : (15, 1) ∉ D) (hf20 : (16, 1) ∉ D) (hf21 : (17, 1) ∉ D) (hf22 : (18, 1) ∉ D) (hf23 : (19, 0) ∉ D) (hf24 : (20, 0) ∉ D) (hf25 : (21, 0) ∉ D) (hf26 : (20, 1) ∉ D) (hf27 : (21, 1) ∉ D) (hf28 : (20, 2) ∉ D) (hf29 : (21, 2) ∉ D) (hf30 : (22, 0) ∉ D) (hk0 : mz_r M (0, 0) 0 = some (1, 0)) (h : ∀ B9 : MzB, mz_dm B9 = D ++ [(7, 0), (8, 0), (9, 0), (10, 0), (11, 0), (12, 0), (13, 0), (14, 0), (15, 0), (16, 0), (17, 0), (18, 0), (8, 1), (9, 1), (10, 1), (11, 1), (12, 1), (13, 1), (14, 1), (15, 1), (16, 1), (17, 1), (18, 1), (19, 0), (20, 0), (21, 0), (20, 1), (21, 1), (20, 2), (21, 2), (22, 0)] → (∀ j ∈ mz_dm B, mz_ad B9 j = mz_ad B j) → mzWf B9 (fm_PLB   M) → Q (.inl none) B9 (fm_PLB   M)) : MzS G B (d + 4) mm_PL_init M (31, 1008) Q 15 [(0, .ref (mz_ad B (0, 0)))] [] :=
  (mz_aload_n d_PL_init_15 rfl (mz_iconst (2 : Int32) d_PL_init_16 (by decide) (mz_newqO (i := (7, 0)) (E := "ParcelLine$Session") (n := 2) d_PL_init_17 wc_PL_16 (mz_fixIn 1 rfl) (by decide) (by decide) hw (by rw [hm]; exact hf0) rfl (Nat.le_of_ble_eq_true rfl) (Nat.le_of_ble_eq_true rfl) (fun B1 hmx had3 hw4 => have hm2 : mz_dm B1 = D ++ [(7, 0)] := (by rw [hmx, hm]); let M5 : MzM := mz_nm M (7, 0); MzS.cv (bu' := (30, 1006)) (lv' := [(0, .ref (mz_ad B1 (0, 0)))]) (st' := [.ref (mz_ad B1 (7, 0)), .ref (mz_ad B1 (0, 0))]) rfl (by first | (simp only [had3 (0, 0) (by rw [hm]; exact hi0)]; done) | (simp only [had3 (0, 0) (by rw [hm]; exact hi0)]; rfl)) (by first | (simp only [had3 (0, 0) (by rw [hm]; exact hi0)]; done) | (simp only [had3 (0, 0) (by rw [hm]; exact hi0)]; rfl)) (mz_putRF (i := (0, 0)) (k := 1) (x := some (7, 0)) cl_0 d_PL_init_20 (by decide) wf_PL_18 rfl rfl rfl rfl rfl rfl (by rw [hm2]; exact (List.mem_append_left _ hi0)) rfl (let M6 : MzM := mz_sr M5 (0, 0) 1 (some (7, 0)); have hw7 : mzWf B1 M6 := mzWf.sr hw4 (by rw [hm2]; exact (by simp)); (mz_iconst (0 : Int32) d_PL_init_23 (by decide) (mz_istore_n d_PL_init_24 (by decide) (mz_iload_n d_PL_init_25 rfl (mz_iconst (2 : Int32) d_PL_init_26 (by decide) (mz_icmp_ge 54 d_PL_init_27 rfl (fun hc => absurd hc (by decide)) (fun _ => (mz_aload_n d_PL_init_30 rfl (mz_getR (i := (0, 0)) (k := 1) (a := (7, 0)) cl_0 d_PL_init_31 (by decide) wf_PL_18 rfl (by rw [hm2]; exact (List.mem_append_left _ hi0)) rfl rfl (mz_iload_n d_PL_init_34 rfl (mz_newO (i := (8, 0)) cl_4 d_PL_init_35 wc_PL_16 wb_Ses wn_Ses (by decide) hw7 (by rw [hm2]; exact (by simp [hf1])) rfl (Nat.le_of_ble_eq_true rfl) (Nat.le_of_ble_eq_true rfl) (fun B8 hmx had10 hw11 => have hm9 : mz_dm B8 = D ++ [(7, 0), (8, 0)] := (by rw [hmx, hm2]; exact List.append_assoc _ _ _); let M12 : MzM := mz_nm M6 (8, 0); MzS.cv (bu' := (29, 989)) (lv' := [(1, .int (0 : Int32)), (0, .ref (mz_ad B8 (0, 0)))]) (st' := [.ref (mz_ad B8 (8, 0)), .int (0 : Int32), .ref (mz_ad B8 (7, 0))]) rfl (by first | (simp only [had10 (0, 0) (by rw [hm2]; exact (List.mem_append_left _ hi0)), had10 (7, 0) (by rw [hm2]; exact (by simp))]; done) | (simp only [had10 (0, 0) (by rw [hm2]; exact (List.mem_append_left _ hi0)), had10 (7, 0) (by rw [hm2]; exact (by simp))]; rfl)) (by first | (simp only [had10 (0, 0) (by rw [hm2]; exact (List.mem_append_left _ hi0)), had10 (7, 0) (by rw [hm2]; exact (by simp))]; done) | (simp only [had10 (0, 0) (by rw [hm2]; exact (List.mem_append_left _ hi0)), had10 (7, 0) (by rw [hm2]; exact (by simp))]; rfl)) (mz_dup d_PL_init_38 rfl (mz_iload_n d_PL_init_39 rfl (mz_aload_n d_PL_init_40 rfl (mz_getR (i := (0, 0)) (k := 0) (a := (1, 0)) cl_0 d_PL_init_41 (by decide) wf_PL_12 rfl (by rw [hm9]; exact (List.mem_append_left _ hi0)) rfl hk0 (mz_callI (As := [.int (0 : Int32), .ref (mz_ad B8 (1, 0))]) (st := [.ref (mz_ad B8 (8, 0)), .int (0 : Int32), .ref (mz_ad B8 (7, 0))]) 10 441 d_PL_init_44 cs_Ses_init wl_PL_22 wi_Ses_init rfl rfl (Nat.le_of_ble_eq_true rfl) (Nat.le_of_ble_eq_true rfl) (Nat.le_of_ble_eq_true rfl) (tc_Ses_init (d := (d + 1)) (x := 0) hw11 (D := D ++ [(7, 0), (8, 0)]) hm9 (by simp) (List.mem_append_left _ hi1) (by simp [hf2]) (by simp [hf3]) (by simp [hf4]) (by simp [hf5]) (by simp [hf6]) (by simp [hf7]) (by simp [hf8]) (by simp [hf9]) (by simp [hf10]) (by simp [hf11]) (fun B13 hmx had15 hw16 => have hm14 : mz_dm B13 = D ++ [(7, 0), (8, 0), (9, 0), (10, 0), (11, 0), (12, 0), (13, 0), (14, 0), (15, 0), (16, 0), (17, 0), (18, 0)] := (by rw [hmx]; exact List.append_assoc _ _ _); let M17 : MzM := fm_Ses_init 0 (0 : Int32) M12; ⟨none, rfl, MzS.cv (bu' := (19, 548)) (lv' := [(1, .int (0 : Int32)), (0, .ref (mz_ad B13 (0, 0)))]) (st' := [.ref (mz_ad B13 (8, 0)), .int (0 : Int32), .ref (mz_ad B13 (7, 0))]) rfl (by first | (simp only [had15 (0, 0) (by rw [hm9]; exact (List.mem_append_left _ hi0)), had15 (8, 0) (by rw [hm9]; exact (by simp)), had15 (7, 0) (by rw [hm9]; exact (by simp))]; done) | (simp only [had15 (0, 0) (by rw [hm9]; exact (List.mem_append_left _ hi0)), had15 (8, 0) (by rw [hm9]; exact (by simp)), had15 (7, 0) (by rw [hm9]; exact (by simp))]; rfl)) (by simp only [had15 (0, 0) (by rw [hm9]; exact (List.mem_append_left _ hi0)), had15 (8, 0) (by rw [hm9]; exact (by simp)), had15 (7, 0) (by rw [hm9]; exact (by simp)), Option.toList_none, List.nil_append]) (mz_aast (i := (7, 0)) (v := (8, 0)) 0 d_PL_init_47 (by rw [hm14]; exact (by simp)) rfl (by decide) (by decide) (by rw [hm14]; exact (by simp)) rfl (mzClOf cl_4) (let M18 : MzM := mz_sr M17 (7, 0) 0 (some (8, 0)); have hw19 : mzWf B13 M18 := mzWf.sr hw16 (by rw [hm14]; exact (by simp)); (mz_iinc (1 : Int32) d_PL_init_48 rfl (by decide) (by decide) (mz_goto 25 d_PL_init_51 rfl (mz_iload_n d_PL_init_25 rfl (mz_iconst (2 : Int32) d_PL_init_26 (by decide) (mz_icmp_ge 54 d_PL_init_27 rfl (fun hc => absurd hc (by decide)) (fun _ => (mz_aload_n d_PL_init_30 rfl (mz_getR (i := (0, 0)) (k := 1) (a := (7, 0)) cl_0 d_PL_init_31 (by decide) wf_PL_18 rfl (by rw [hm14]; exact (List.mem_append_left _ hi0)) rfl rfl (mz_iload_n d_PL_init_34 rfl (mz_newO (i := (8, 1)) cl_4 d_PL_init_35 wc_PL_16 wb_Ses wn_Ses (by decide) hw19 (by rw [hm14]; exact (by simp [hf12])) rfl (Nat.le_of_ble_eq_true rfl) (Nat.le_of_ble_eq_true rfl) (fun B20 hmx had22 hw23 => have hm21 : mz_dm B20 = D ++ [(7, 0), (8, 0), (9, 0), (10, 0), (11, 0), (12, 0), (13, 0), (14, 0), (15, 0), (16, 0), (17, 0), (18, 0), (8, 1)] := (by rw [hmx, hm14]; exact List.append_assoc _ _ _); let M24 : MzM := mz_nm M18 (8, 1); MzS.cv (bu' := (18, 531)) (lv' := [(1, .int (1 : Int32)), (0, .ref (mz_ad B20 (0, 0)))]) (st' := [.ref (mz_ad B20 (8, 1)), .int (1 : Int32), .ref (mz_ad B20 (7, 0))]) rfl (by first | (simp only [had22 (0, 0) (by rw [hm14]; exact (List.mem_append_left _ hi0)), had22 (7, 0) (by rw [hm14]; exact (by simp))]; done) | (simp only [had22 (0, 0) (by rw [hm14]; exact (List.mem_append_left _ hi0)), had22 (7, 0) (by rw [hm14]; exact (by simp))]; rfl)) (by first | (simp only [had22 (0, 0) (by rw [hm14]; exact (List.mem_append_left _ hi0)), had22 (7, 0) (by rw [hm14]; exact (by simp))]; done) | (simp only [had22 (0, 0) (by rw [hm14]; exact (List.mem_append_left _ hi0)), had22 (7, 0) (by rw [hm14]; exact (by simp))]; rfl)) (mz_dup d_PL_init_38 rfl (mz_iload_n d_PL_init_39 rfl (mz_aload_n d_PL_init_40 rfl (mz_getR (i := (0, 0)) (k := 0) (a := (1, 0)) cl_0 d_PL_init_41 (by decide) wf_PL_12 rfl (by rw [hm21]; exact (List.mem_append_left _ hi0)) rfl hk0 (mz_callI (As := [.int (1 : Int32), .ref (mz_ad B20 (1, 0))]) (st := [.ref (mz_ad B20 (8, 1)), .int (1 : Int32), .ref (mz_ad B20 (7, 0))]) 10 441 d_PL_init_44 cs_Ses_init wl_PL_22 wi_Ses_init rfl rfl (Nat.le_of_ble_eq_true rfl) (Nat.le_of_ble_eq_true rfl) (Nat.le_of_ble_eq_true rfl) (tc_Ses_init (d := (d + 1)) (x := 1) hw23 (D := D ++ [(7, 0), (8, 0), (9, 0), (10, 0), (11, 0), (12, 0), (13, 0), (14, 0), (15, 0), (16, 0), (17, 0), (18, 0), (8, 1)]) hm21 (by simp) (List.mem_append_left _ hi1) (by simp [hf13]) (by simp [hf14]) (by simp [hf15]) (by simp [hf16]) (by simp [hf17]) (by simp [hf18]) (by simp [hf19]) (by simp [hf20]) (by simp [hf21]) (by simp [hf22]) (fun B25 hmx had27 hw28 => have hm26 : mz_dm B25 = D ++ [(7, 0), (8, 0), (9, 0), (10, 0), (11, 0), (12, 0), (13, 0), (14, 0), (15, 0), (16, 0), (17, 0), (18, 0), (8, 1), (9, 1), (10, 1), (11, 1), (12, 1), (13, 1), (14, 1), (15, 1), (16, 1), (17, 1), (18, 1)] := (by rw [hmx]; exact List.append_assoc _ _ _); let M29 : MzM := fm_Ses_init 1 (1 : Int32) M24; ⟨none, rfl, MzS.cv (bu' := (8, 90)) (lv' := [(1, .int (1 : Int32)), (0, .ref (mz_ad B25 (0, 0)))]) (st' := [.ref (mz_ad B25 (8, 1)), .int (1 : Int32), .ref (mz_ad B25 (7, 0))]) rfl (by first | (simp only [had27 (0, 0) (by rw [hm21]; exact (List.mem_append_left _ hi0)), had27 (8, 1) (by rw [hm21]; exact (by simp)), had27 (7, 0) (by rw [hm21]; exact (by simp))]; done) | (simp only [had27 (0, 0) (by rw [hm21]; exact (List.mem_append_left _ hi0)), had27 (8, 1) (by rw [hm21]; exact (by simp)), had27 (7, 0) (by rw [hm21]; exact (by simp))]; rfl)) (by simp only [had27 (0, 0) (by rw [hm21]; exact (List.mem_append_left _ hi0)), had27 (8, 1) (by rw [hm21]; exact (by simp)), had27 (7, 0) (by rw [hm21]; exact (by simp)), Option.toList_none, List.nil_append]) (mz_aast (i := (7, 0)) (v := (8, 1)) 1 d_PL_init_47 (by rw [hm26]; exact (by simp)) rfl (by decide) (by decide) (by rw [hm26]; exact (by simp)) rfl (mzClOf cl_4) (let M30 : MzM := mz_sr M29 (7, 0) 1 (some (8, 1)); have hw31 : mzWf B25 M30 := mzWf.sr hw28 (by rw [hm26]; exact (by simp)); (mz_iinc (2 : Int32) d_PL_init_48 rfl (by decide) (by decide) (mz_goto 25 d_PL_init_51 rfl (mz_iload_n d_PL_init_25 rfl (mz_iconst (2 : Int32) d_PL_init_26 (by decide) (mz_icmp_ge 54 d_PL_init_27 rfl (fun _ => (mz_aload_n d_PL_init_54 rfl (mz_iconst (3 : Int32) d_PL_init_55 (by decide) (mz_newqO (i := (19, 0)) (E := "ParcelLine$ByteRow") (n := 3) d_PL_init_56 wc_PL_25 (mz_fixIn 2 rfl) (by decide) (by decide) hw31 (by rw [hm26]; exact (by simp [hf23])) rfl (Nat.le_of_ble_eq_true rfl) (Nat.le_of_ble_eq_true rfl) (fun B32 hmx had34 hw35 => have hm33 : mz_dm B32 = D ++ [(7, 0), (8, 0), (9, 0), (10, 0), (11, 0), (12, 0), (13, 0), (14, 0), (15, 0), (16, 0), (17, 0), (18, 0), (8, 1), (9, 1), (10, 1), (11, 1), (12, 1), (13, 1), (14, 1), (15, 1), (16, 1), (17, 1), (18, 1), (19, 0)] := (by rw [hmx, hm26]; exact List.append_assoc _ _ _); let M36 : MzM := mz_nm M30 (19, 0); MzS.cv (bu' := (7, 87)) (lv' := [(1, .int (2 : Int32)), (0, .ref (mz_ad B32 (0, 0)))]) (st' := [.ref (mz_ad B32 (19, 0)), .ref (mz_ad B32 (0, 0))]) rfl (by first | (simp only [had34 (0, 0) (by rw [hm26]; exact (List.mem_append_left _ hi0))]; done) | (simp only [had34 (0, 0) (by rw [hm26]; exact (List.mem_append_left _ hi0))]; rfl)) (by first | (simp only [had34 (0, 0) (by rw [hm26]; exact (List.mem_append_left _ hi0))]; done) | (simp only [had34 (0, 0) (by rw [hm26]; exact (List.mem_append_left _ hi0))]; rfl)) (mz_putRF (i := (0, 0)) (k := 2) (x := some (19, 0)) cl_0 d_PL_init_59 (by decide) wf_PL_27 rfl rfl rfl rfl rfl rfl (by rw [hm33]; exact (List.mem_append_left _ hi0)) rfl (let M37 : MzM := mz_sr M36 (0, 0) 2 (some (19, 0)); have hw38 : mzWf B32 M37 := mzWf.sr hw35 (by rw [hm33]; exact (by simp)); (mz_iconst (0 : Int32) d_PL_init_62 (by decide) (mz_istore_n d_PL_init_63 (by decide) (mz_iload_n d_PL_init_64 rfl (mz_iconst (3 : Int32) d_PL_init_65 (by decide) (mz_icmp_ge 88 d_PL_init_66 rfl (fun hc => absurd hc (by decide)) (fun _ => (mz_aload_n d_PL_init_69 rfl (mz_getR (i := (0, 0)) (k := 2) (a := (19, 0)) cl_0 d_PL_init_70 (by decide) wf_PL_27 rfl (by rw [hm33]; exact (List.mem_append_left _ hi0)) rfl rfl (mz_iload_n d_PL_init_73 rfl (mz_newO (i := (20, 0)) cl_3 d_PL_init_74 wc_PL_25 wb_Row wn_Row (by decide) hw38 (by rw [hm33]; exact (by simp [hf24])) rfl (Nat.le_of_ble_eq_true rfl) (Nat.le_of_ble_eq_true rfl) (fun B39 hmx had41 hw42 => have hm40 : mz_dm B39 = D ++ [(7, 0), (8, 0), (9, 0), (10, 0), (11, 0), (12, 0), (13, 0), (14, 0), (15, 0), (16, 0), (17, 0), (18, 0), (8, 1), (9, 1), (10, 1), (11, 1), (12, 1), (13, 1), (14, 1), (15, 1), (16, 1), (17, 1), (18, 1), (19, 0), (20, 0)] := (by rw [hmx, hm33]; exact List.append_assoc _ _ _); let M43 : MzM := mz_nm M37 (20, 0); MzS.cv (bu' := (6, 85)) (lv' := [(1, .int (0 : Int32)), (0, .ref (mz_ad B39 (0, 0)))]) (st' := [.ref (mz_ad B39 (20, 0)), .int (0 : Int32), .ref (mz_ad B39 (19, 0))]) rfl (by first | (simp only [had41 (0, 0) (by rw [hm33]; exact (List.mem_append_left _ hi0)), had41 (19, 0) (by rw [hm33]; exact (by simp))]; done) | (simp only [had41 (0, 0) (by rw [hm33]; exact (List.mem_append_left _ hi0)), had41 (19, 0) (by rw [hm33]; exact (by simp))]; rfl)) (by first | (simp only [had41 (0, 0) (by rw [hm33]; exact (List.mem_append_left _ hi0)), had41 (19, 0) (by rw [hm33]; exact (by simp))]; done) | (simp only [had41 (0, 0) (by rw [hm33]; exact (List.mem_append_left _ hi0)), had41 (19, 0) (by rw [hm33]; exact (by simp))]; rfl)) (mz_dup d_PL_init_77 rfl (mz_callI (As := []) (st := [.ref (mz_ad B39 (20, 0)), .int (0 : Int32), .ref (mz_ad B39 (19, 0))]) 1 24 d_PL_init_78 cs_Row_init wl_PL_31 wi_Row_init rfl rfl (Nat.le_of_ble_eq_true rfl) (Nat.le_of_ble_eq_true rfl) (Nat.le_of_ble_eq_true rfl) (tc_Row_init20 (d := (d + 2)) (k := 0) hw42 (D := D ++ [(7, 0), (8, 0), (9, 0), (10, 0), (11, 0), (12, 0), (13, 0), (14, 0), (15, 0), (16, 0), (17, 0), (18, 0), (8, 1), (9, 1), (10, 1), (11, 1), (12, 1), (13, 1), (14, 1), (15, 1), (16, 1), (17, 1), (18, 1), (19, 0), (20, 0)]) hm40 (by simp) (by simp [hf25]) (fun B44 hmx had46 hw47 => have hm45 : mz_dm B44 = D ++ [(7, 0), (8, 0), (9, 0), (10, 0), (11, 0), (12, 0), (13, 0), (14, 0), (15, 0), (16, 0), (17, 0), (18, 0), (8, 1), (9, 1), (10, 1), (11, 1), (12, 1), (13, 1), (14, 1), (15, 1), (16, 1), (17, 1), (18, 1), (19, 0), (20, 0), (21, 0)] := (by rw [hmx]; exact List.append_assoc _ _ _); let M48 : MzM := fm_Row_init20 0  M43; ⟨none, rfl, MzS.cv (bu' := (5, 61)) (lv' := [(1, .int (0 : Int32)), (0, .ref (mz_ad B44 (0, 0)))]) (st' := [.ref (mz_ad B44 (20, 0)), .int (0 : Int32), .ref (mz_ad B44 (19, 0))]) rfl (by first | (simp only [had46 (0, 0) (by rw [hm40]; exact (List.mem_append_left _ hi0)), had46 (20, 0) (by rw [hm40]; exact (by simp)), had46 (19, 0) (by rw [hm40]; exact (by simp))]; done) | (simp only [had46 (0, 0) (by rw [hm40]; exact (List.mem_append_left _ hi0)), had46 (20, 0) (by rw [hm40]; exact (by simp)), had46 (19, 0) (by rw [hm40]; exact (by simp))]; rfl)) (by simp only [had46 (0, 0) (by rw [hm40]; exact (List.mem_append_left _ hi0)), had46 (20, 0) (by rw [hm40]; exact (by simp)), had46 (19, 0) (by rw [hm40]; exact (by simp)), Option.toList_none, List.nil_append]) (mz_aast (i := (19, 0)) (v := (20, 0)) 0 d_PL_init_81 (by rw [hm45]; exact (by simp)) rfl (by decide) (by decide) (by rw [hm45]; exact (by simp)) rfl (mzClOf cl_3) (let M49 : MzM := mz_sr M48 (19, 0) 0 (some (20, 0)); have hw50 : mzWf B44 M49 := mzWf.sr hw47 (by rw [hm45]; exact (by simp)); (mz_iinc (1 : Int32) d_PL_init_82 rfl (by decide) (by decide) (mz_goto 64 d_PL_init_85 rfl (mz_iload_n d_PL_init_64 rfl (mz_iconst (3 : Int32) d_PL_init_65 (by decide) (mz_icmp_ge 88 d_PL_init_66 rfl (fun hc => absurd hc (by decide)) (fun _ => (mz_aload_n d_PL_init_69 rfl (mz_getR (i := (0, 0)) (k := 2) (a := (19, 0)) cl_0 d_PL_init_70 (by decide) wf_PL_27 rfl (by rw [hm45]; exact (List.mem_append_left _ hi0)) rfl rfl (mz_iload_n d_PL_init_73 rfl (mz_newO (i := (20, 1)) cl_3 d_PL_init_74 wc_PL_25 wb_Row wn_Row (by decide) hw50 (by rw [hm45]; exact (by simp [hf26])) rfl (Nat.le_of_ble_eq_true rfl) (Nat.le_of_ble_eq_true rfl) (fun B51 hmx had53 hw54 => have hm52 : mz_dm B51 = D ++ [(7, 0), (8, 0), (9, 0), (10, 0), (11, 0), (12, 0), (13, 0), (14, 0), (15, 0), (16, 0), (17, 0), (18, 0), (8, 1), (9, 1), (10, 1), (11, 1), (12, 1), (13, 1), (14, 1), (15, 1), (16, 1), (17, 1), (18, 1), (19, 0), (20, 0), (21, 0), (20, 1)] := (by rw [hmx, hm45]; exact List.append_assoc _ _ _); let M55 : MzM := mz_nm M49 (20, 1); MzS.cv (bu' := (4, 59)) (lv' := [(1, .int (1 : Int32)), (0, .ref (mz_ad B51 (0, 0)))]) (st' := [.ref (mz_ad B51 (20, 1)), .int (1 : Int32), .ref (mz_ad B51 (19, 0))]) rfl (by first | (simp only [had53 (0, 0) (by rw [hm45]; exact (List.mem_append_left _ hi0)), had53 (19, 0) (by rw [hm45]; exact (by simp))]; done) | (simp only [had53 (0, 0) (by rw [hm45]; exact (List.mem_append_left _ hi0)), had53 (19, 0) (by rw [hm45]; exact (by simp))]; rfl)) (by first | (simp only [had53 (0, 0) (by rw [hm45]; exact (List.mem_append_left _ hi0)), had53 (19, 0) (by rw [hm45]; exact (by simp))]; done) | (simp only [had53 (0, 0) (by rw [hm45]; exact (List.mem_append_left _ hi0)), had53 (19, 0) (by rw [hm45]; exact (by simp))]; rfl)) (mz_dup d_PL_init_77 rfl (mz_callI (As := []) (st := [.ref (mz_ad B51 (20, 1)), .int (1 : Int32), .ref (mz_ad B51 (19, 0))]) 1 24 d_PL_init_78 cs_Row_init wl_PL_31 wi_Row_init rfl rfl (Nat.le_of_ble_eq_true rfl) (Nat.le_of_ble_eq_true rfl) (Nat.le_of_ble_eq_true rfl) (tc_Row_init20 (d := (d + 2)) (k := 1) hw54 (D := D ++ [(7, 0), (8, 0), (9, 0), (10, 0), (11, 0), (12, 0), (13, 0), (14, 0), (15, 0), (16, 0), (17, 0), (18, 0), (8, 1), (9, 1), (10, 1), (11, 1), (12, 1), (13, 1), (14, 1), (15, 1), (16, 1), (17, 1), (18, 1), (19, 0), (20, 0), (21, 0), (20, 1)]) hm52 (by simp) (by simp [hf27]) (fun B56 hmx had58 hw59 => have hm57 : mz_dm B56 = D ++ [(7, 0), (8, 0), (9, 0), (10, 0), (11, 0), (12, 0), (13, 0), (14, 0), (15, 0), (16, 0), (17, 0), (18, 0), (8, 1), (9, 1), (10, 1), (11, 1), (12, 1), (13, 1), (14, 1), (15, 1), (16, 1), (17, 1), (18, 1), (19, 0), (20, 0), (21, 0), (20, 1), (21, 1)] := (by rw [hmx]; exact List.append_assoc _ _ _); let M60 : MzM := fm_Row_init20 1  M55; ⟨none, rfl, MzS.cv (bu' := (3, 35)) (lv' := [(1, .int (1 : Int32)), (0, .ref (mz_ad B56 (0, 0)))]) (st' := [.ref (mz_ad B56 (20, 1)), .int (1 : Int32), .ref (mz_ad B56 (19, 0))]) rfl (by first | (simp only [had58 (0, 0) (by rw [hm52]; exact (List.mem_append_left _ hi0)), had58 (20, 1) (by rw [hm52]; exact (by simp)), had58 (19, 0) (by rw [hm52]; exact (by simp))]; done) | (simp only [had58 (0, 0) (by rw [hm52]; exact (List.mem_append_left _ hi0)), had58 (20, 1) (by rw [hm52]; exact (by simp)), had58 (19, 0) (by rw [hm52]; exact (by simp))]; rfl)) (by simp only [had58 (0, 0) (by rw [hm52]; exact (List.mem_append_left _ hi0)), had58 (20, 1) (by rw [hm52]; exact (by simp)), had58 (19, 0) (by rw [hm52]; exact (by simp)), Option.toList_none, List.nil_append]) (mz_aast (i := (19, 0)) (v := (20, 1)) 1 d_PL_init_81 (by rw [hm57]; exact (by simp)) rfl (by decide) (by decide) (by rw [hm57]; exact (by simp)) rfl (mzClOf cl_3) (let M61 : MzM := mz_sr M60 (19, 0) 1 (some (20, 1)); have hw62 : mzWf B56 M61 := mzWf.sr hw59 (by rw [hm57]; exact (by simp)); (mz_iinc (2 : Int32) d_PL_init_82 rfl (by decide) (by decide) (mz_goto 64 d_PL_init_85 rfl (mz_iload_n d_PL_init_64 rfl (mz_iconst (3 : Int32) d_PL_init_65 (by decide) (mz_icmp_ge 88 d_PL_init_66 rfl (fun hc => absurd hc (by decide)) (fun _ => (mz_aload_n d_PL_init_69 rfl (mz_getR (i := (0, 0)) (k := 2) (a := (19, 0)) cl_0 d_PL_init_70 (by decide) wf_PL_27 rfl (by rw [hm57]; exact (List.mem_append_left _ hi0)) rfl rfl (mz_iload_n d_PL_init_73 rfl (mz_newO (i := (20, 2)) cl_3 d_PL_init_74 wc_PL_25 wb_Row wn_Row (by decide) hw62 (by rw [hm57]; exact (by simp [hf28])) rfl (Nat.le_of_ble_eq_true rfl) (Nat.le_of_ble_eq_true rfl) (fun B63 hmx had65 hw66 => have hm64 : mz_dm B63 = D ++ [(7, 0), (8, 0), (9, 0), (10, 0), (11, 0), (12, 0), (13, 0), (14, 0), (15, 0), (16, 0), (17, 0), (18, 0), (8, 1), (9, 1), (10, 1), (11, 1), (12, 1), (13, 1), (14, 1), (15, 1), (16, 1), (17, 1), (18, 1), (19, 0), (20, 0), (21, 0), (20, 1), (21, 1), (20, 2)] := (by rw [hmx, hm57]; exact List.append_assoc _ _ _); let M67 : MzM := mz_nm M61 (20, 2); MzS.cv (bu' := (2, 33)) (lv' := [(1, .int (2 : Int32)), (0, .ref (mz_ad B63 (0, 0)))]) (st' := [.ref (mz_ad B63 (20, 2)), .int (2 : Int32), .ref (mz_ad B63 (19, 0))]) rfl (by first | (simp only [had65 (0, 0) (by rw [hm57]; exact (List.mem_append_left _ hi0)), had65 (19, 0) (by rw [hm57]; exact (by simp))]; done) | (simp only [had65 (0, 0) (by rw [hm57]; exact (List.mem_append_left _ hi0)), had65 (19, 0) (by rw [hm57]; exact (by simp))]; rfl)) (by first | (simp only [had65 (0, 0) (by rw [hm57]; exact (List.mem_append_left _ hi0)), had65 (19, 0) (by rw [hm57]; exact (by simp))]; done) | (simp only [had65 (0, 0) (by rw [hm57]; exact (List.mem_append_left _ hi0)), had65 (19, 0) (by rw [hm57]; exact (by simp))]; rfl)) (mz_dup d_PL_init_77 rfl (mz_callI (As := []) (st := [.ref (mz_ad B63 (20, 2)), .int (2 : Int32), .ref (mz_ad B63 (19, 0))]) 1 24 d_PL_init_78 cs_Row_init wl_PL_31 wi_Row_init rfl rfl (Nat.le_of_ble_eq_true rfl) (Nat.le_of_ble_eq_true rfl) (Nat.le_of_ble_eq_true rfl) (tc_Row_init20 (d := (d + 2)) (k := 2) hw66 (D := D ++ [(7, 0), (8, 0), (9, 0), (10, 0), (11, 0), (12, 0), (13, 0), (14, 0), (15, 0), (16, 0), (17, 0), (18, 0), (8, 1), (9, 1), (10, 1), (11, 1), (12, 1), (13, 1), (14, 1), (15, 1), (16, 1), (17, 1), (18, 1), (19, 0), (20, 0), (21, 0), (20, 1), (21, 1), (20, 2)]) hm64 (by simp) (by simp [hf29]) (fun B68 hmx had70 hw71 => have hm69 : mz_dm B68 = D ++ [(7, 0), (8, 0), (9, 0), (10, 0), (11, 0), (12, 0), (13, 0), (14, 0), (15, 0), (16, 0), (17, 0), (18, 0), (8, 1), (9, 1), (10, 1), (11, 1), (12, 1), (13, 1), (14, 1), (15, 1), (16, 1), (17, 1), (18, 1), (19, 0), (20, 0), (21, 0), (20, 1), (21, 1), (20, 2), (21, 2)] := (by rw [hmx]; exact List.append_assoc _ _ _); let M72 : MzM := fm_Row_init20 2  M67; ⟨none, rfl, MzS.cv (bu' := (1, 9)) (lv' := [(1, .int (2 : Int32)), (0, .ref (mz_ad B68 (0, 0)))]) (st' := [.ref (mz_ad B68 (20, 2)), .int (2 : Int32), .ref (mz_ad B68 (19, 0))]) rfl (by first | (simp only [had70 (0, 0) (by rw [hm64]; exact (List.mem_append_left _ hi0)), had70 (20, 2) (by rw [hm64]; exact (by simp)), had70 (19, 0) (by rw [hm64]; exact (by simp))]; done) | (simp only [had70 (0, 0) (by rw [hm64]; exact (List.mem_append_left _ hi0)), had70 (20, 2) (by rw [hm64]; exact (by simp)), had70 (19, 0) (by rw [hm64]; exact (by simp))]; rfl)) (by simp only [had70 (0, 0) (by rw [hm64]; exact (List.mem_append_left _ hi0)), had70 (20, 2) (by rw [hm64]; exact (by simp)), had70 (19, 0) (by rw [hm64]; exact (by simp)), Option.toList_none, List.nil_append]) (mz_aast (i := (19, 0)) (v := (20, 2)) 2 d_PL_init_81 (by rw [hm69]; exact (by simp)) rfl (by decide) (by decide) (by rw [hm69]; exact (by simp)) rfl (mzClOf cl_3) (let M73 : MzM := mz_sr M72 (19, 0) 2 (some (20, 2)); have hw74 : mzWf B68 M73 := mzWf.sr hw71 (by rw [hm69]; exact (by simp)); (mz_iinc (3 : Int32) d_PL_init_82 rfl (by decide) (by decide) (mz_goto 64 d_PL_init_85 rfl (mz_iload_n d_PL_init_64 rfl (mz_iconst (3 : Int32) d_PL_init_65 (by decide) (mz_icmp_ge 88 d_PL_init_66 rfl (fun _ => (mz_aload_n d_PL_init_88 rfl (mz_newO (i := (22, 0)) cl_9 d_PL_init_89 wc_PL_32 wb_Cop wn_Cop (by decide) hw74 (by rw [hm69]; exact (by simp [hf30])) rfl (Nat.le_of_ble_eq_true rfl) (Nat.le_of_ble_eq_true rfl) (fun B75 hmx had77 hw78 => have hm76 : mz_dm B75 = D ++ [(7, 0), (8, 0), (9, 0), (10, 0), (11, 0), (12, 0), (13, 0), (14, 0), (15, 0), (16, 0), (17, 0), (18, 0), (8, 1), (9, 1), (10, 1), (11, 1), (12, 1), (13, 1), (14, 1), (15, 1), (16, 1), (17, 1), (18, 1), (19, 0), (20, 0), (21, 0), (20, 1), (21, 1), (20, 2), (21, 2), (22, 0)] := (by rw [hmx, hm69]; exact List.append_assoc _ _ _); let M79 : MzM := mz_nm M73 (22, 0); MzS.cv (bu' := (0, 0)) (lv' := [(1, .int (3 : Int32)), (0, .ref (mz_ad B75 (0, 0)))]) (st' := [.ref (mz_ad B75 (22, 0)), .ref (mz_ad B75 (0, 0))]) rfl (by first | (simp only [had77 (0, 0) (by rw [hm69]; exact (List.mem_append_left _ hi0))]; done) | (simp only [had77 (0, 0) (by rw [hm69]; exact (List.mem_append_left _ hi0))]; rfl)) (by first | (simp only [had77 (0, 0) (by rw [hm69]; exact (List.mem_append_left _ hi0))]; done) | (simp only [had77 (0, 0) (by rw [hm69]; exact (List.mem_append_left _ hi0))]; rfl)) (mz_dup d_PL_init_92 rfl (mz_aload_n d_PL_init_93 rfl (mz_getR (i := (0, 0)) (k := 1) (a := (7, 0)) cl_0 d_PL_init_94 (by decide) wf_PL_18 rfl (by rw [hm76]; exact (List.mem_append_left _ hi0)) rfl rfl (mz_iconst (1 : Int32) d_PL_init_97 (by decide) (mz_aald (i := (7, 0)) (a := (8, 1)) 1 d_PL_init_98 (by rw [hm76]; exact (by simp)) rfl (by decide) (by decide) rfl (mz_aload_n d_PL_init_99 rfl (mz_getR (i := (0, 0)) (k := 2) (a := (19, 0)) cl_0 d_PL_init_100 (by decide) wf_PL_27 rfl (by rw [hm76]; exact (List.mem_append_left _ hi0)) rfl rfl (mz_iconst (0 : Int32) d_PL_init_103 (by decide) (mz_aald (i := (19, 0)) (a := (20, 0)) 0 d_PL_init_104 (by rw [hm76]; exact (by simp)) rfl (by decide) (by decide) rfl (mz_callI (As := [.ref (mz_ad B75 (8, 1)), .ref (mz_ad B75 (20, 0))]) (st := [.ref (mz_ad B75 (22, 0)), .ref (mz_ad B75 (0, 0))]) 0 0 d_PL_init_105 cs_Cop_init wl_PL_34 wi_Cop_init rfl rfl (Nat.le_of_ble_eq_true rfl) (Nat.le_of_ble_eq_true rfl) (Nat.le_of_ble_eq_true rfl) (tc_Cop_init (d := (d + 2)) hw78 (D := D ++ [(7, 0), (8, 0), (9, 0), (10, 0), (11, 0), (12, 0), (13, 0), (14, 0), (15, 0), (16, 0), (17, 0), (18, 0), (8, 1), (9, 1), (10, 1), (11, 1), (12, 1), (13, 1), (14, 1), (15, 1), (16, 1), (17, 1), (18, 1), (19, 0), (20, 0), (21, 0), (20, 1), (21, 1), (20, 2), (21, 2), (22, 0)]) hm76 (by simp) (by simp) (by simp)  (fun B80 hmx had82 hw83 => have hm81 : mz_dm B80 = D ++ [(7, 0), (8, 0), (9, 0), (10, 0), (11, 0), (12, 0), (13, 0), (14, 0), (15, 0), (16, 0), (17, 0), (18, 0), (8, 1), (9, 1), (10, 1), (11, 1), (12, 1), (13, 1), (14, 1), (15, 1), (16, 1), (17, 1), (18, 1), (19, 0), (20, 0), (21, 0), (20, 1), (21, 1), (20, 2), (21, 2), (22, 0)] := hmx; let M84 : MzM := fm_Cop_init   M79; ⟨none, rfl, MzS.cv (bu' := (0, 0)) (lv' := [(1, .int (3 : Int32)), (0, .ref (mz_ad B80 (0, 0)))]) (st' := [.ref (mz_ad B80 (22, 0)), .ref (mz_ad B80 (0, 0))]) rfl (by first | (simp only [had82 (0, 0) (by rw [hm76]; exact (List.mem_append_left _ hi0)), had82 (22, 0) (by rw [hm76]; exact (by simp))]; done) | (simp only [had82 (0, 0) (by rw [hm76]; exact (List.mem_append_left _ hi0)), had82 (22, 0) (by rw [hm76]; exact (by simp))]; rfl)) (by simp only [had82 (0, 0) (by rw [hm76]; exact (List.mem_append_left _ hi0)), had82 (22, 0) (by rw [hm76]; exact (by simp)), Option.toList_none, List.nil_append]) (mz_putRF (i := (0, 0)) (k := 3) (x := some (22, 0)) cl_0 d_PL_init_108 (by decide) wf_PL_37 rfl rfl rfl rfl rfl rfl (by rw [hm81]; exact (List.mem_append_left _ hi0)) rfl (let M85 : MzM := mz_sr M84 (0, 0) 3 (some (22, 0)); have hw86 : mzWf B80 M85 := mzWf.sr hw83 (by rw [hm81]; exact (by simp)); (mz_vret d_PL_init_111 rfl (h B80 hm81 (fun j hj => ((had82 j (by rw [hm76]; rw [hm] at hj; exact List.mem_append_left _ hj)).trans ((had77 j (by rw [hm69]; rw [hm] at hj; exact List.mem_append_left _ hj)).trans ((had70 j (by rw [hm64]; rw [hm] at hj; exact List.mem_append_left _ hj)).trans ((had65 j (by rw [hm57]; rw [hm] at hj; exact List.mem_append_left _ hj)).trans ((had58 j (by rw [hm52]; rw [hm] at hj; exact List.mem_append_left _ hj)).trans ((had53 j (by rw [hm45]; rw [hm] at hj; exact List.mem_append_left _ hj)).trans ((had46 j (by rw [hm40]; rw [hm] at hj; exact List.mem_append_left _ hj)).trans ((had41 j (by rw [hm33]; rw [hm] at hj; exact List.mem_append_left _ hj)).trans ((had34 j (by rw [hm26]; rw [hm] at hj; exact List.mem_append_left _ hj)).trans ((had27 j (by rw [hm21]; rw [hm] at hj; exact List.mem_append_left _ hj)).trans ((had22 j (by rw [hm14]; rw [hm] at hj; exact List.mem_append_left _ hj)).trans ((had15 j (by rw [hm9]; rw [hm] at hj; exact List.mem_append_left _ hj)).trans ((had10 j (by rw [hm2]; rw [hm] at hj; exact List.mem_append_left _ hj)).trans (had3 j hj))))))))))))))) hw86))))⟩)))))))))))))))) (fun hc => absurd (by decide) hc))))))))⟩)))))))))))))))))⟩)))))))))))))))))⟩)))))))))))))))))))))) (fun hc => absurd (by decide) hc))))))))⟩))))))))))))))))))))⟩))))))))))))))))))))))))
def fm_nodes : Nat → MzM → MzM
  | 0, M => M
  | n + 1, M => mz_sr (fm_Node_init n (mz_nm (fm_nodes n M) (3, n))) (2, 0) n (some (3, n))
def mzNodeL : Nat → List MzL
  | 0 => []
  | n + 1 => mzNodeL n ++ [(3, n), (4, n), (5, n)]
theorem mzNodeL_lt : ∀ (n : Nat) (l : MzL), l ∈ mzNodeL n → l.2 < n ∧ 3 ≤ l.1 ∧ l.1 ≤ 5
  | 0, l, h => by cases h
  | n + 1, l, h => by
    rcases List.mem_append.mp h with h | h
    · have := mzNodeL_lt n l h
      exact ⟨by omega, this.2⟩
    · simp at h
      rcases h with rfl | rfl | rfl <;> simp
theorem fm_nodes_r (n : Nat) (M : MzM) : mz_r (fm_nodes n M) (1, 0) 0 = mz_r M (1, 0) 0 := by
  induction n with
  | zero => rfl
  | succ n ih =>
    show mz_r (mz_sr (fm_Node_init n (mz_nm (fm_nodes n M) (3, n))) (2, 0) n (some (3, n))) (1, 0) 0 = _
    rw [← ih]
    rfl
theorem fm_nodes_e (n : Nat) (M : MzM) : ∀ k, k < n → mz_r (fm_nodes n M) (2, 0) k = some (3, k) := by
  induction n with
  | zero => intro k h; omega
  | succ n ih =>
    intro k hk
    show mz_r (mz_sr (fm_Node_init n (mz_nm (fm_nodes n M) (3, n))) (2, 0) n (some (3, n))) (2, 0) k = _
    rw [mz_r_sr]
    by_cases e : k = n
    · subst e; simp
    · rw [if_neg (by simp [e])]
      have := ih k (by omega)
      rw [← this]
      rfl
theorem mz_ofNat {n : Nat} (h : n < 1000) : (Int32.ofNat n).toInt = (n : Int) := nI_toInt (n := n) (by omega)
set_option maxRecDepth 20000 in
set_option maxHeartbeats 4000000 in
theorem tc_StoreL {G : MzG} {d : Nat} {Q : MzR → MzB → MzM → Prop} {M : MzM} {B0 : MzB} {D : List MzL} (hD : (1, 0) ∈ D ∧ (2, 0) ∈ D ∧ ∀ l ∈ D, l.1 < 3) (hB0 : mz_dm B0 = D) (hk0 : mz_r M (1, 0) 0 = some (2, 0))
    (hend : ∀ B9 : MzB, mz_dm B9 = D ++ mzNodeL 16 → (∀ j ∈ D, mz_ad B9 j = mz_ad B0 j) → mzWf B9 (fm_nodes 16 M) → MzS G B9 (d + 3) mm_Store_init (fm_nodes 16 M) (1, 2) Q 40 [(1, .int (Int32.ofNat 16)), (0, .ref (mz_ad B9 (1, 0)))] []) :
    ∀ (m n : Nat), n + m = 16 → ∀ B : MzB, mz_dm B = D ++ mzNodeL n → (∀ j ∈ D, mz_ad B j = mz_ad B0 j) → mzWf B (fm_nodes n M) → MzS G B (d + 3) mm_Store_init (fm_nodes n M) (3 * m + 1, 33 * m + 2) Q 15 [(1, .int (Int32.ofNat n)), (0, .ref (mz_ad B (1, 0)))] [] := by
  intro m
  induction m with
  | zero =>
    intro n hn B hm had hw
    have hn : n = 16 := by omega
    subst hn
    exact mz_iload_n d_Store_init_15 rfl (mz_bipush (16 : Int32) d_Store_init_16 (by decide) (mz_icmp_ge 40 d_Store_init_18 rfl (fun _ => hend B hm had hw) (fun hc => absurd (by decide) hc)))
  | succ m ih =>
    intro n hn B hm had hw
    have hlt : n < 16 := by omega
    have hx : (Int32.ofNat n).toInt = (n : Int) := mz_ofNat (by omega)
    have hnot : ¬ (16 : Int32) ≤ Int32.ofNat n := by
      rw [Int32.le_iff_toInt_le, hx]
      have : (16 : Int32).toInt = 16 := by decide
      omega
    have hinc : Int32.ofNat n + Int32.ofInt 1 = Int32.ofNat (n + 1) := nI_1 n
    have m10 : (1, 0) ∈ mz_dm B := by rw [hm]; exact List.mem_append_left _ hD.1
    have m20 : (2, 0) ∈ mz_dm B := by rw [hm]; exact List.mem_append_left _ hD.2.1
    have fr : ∀ t, 3 ≤ t → t ≤ 5 → (t, n) ∉ D ++ mzNodeL n := by
      intro t h3 h5 h
      rcases List.mem_append.mp h with h | h
      · have h9 := hD.2.2 _ h
        simp at h9
        omega
      · have h9 := (mzNodeL_lt n _ h).1
        simp at h9
    refine mz_iload_n d_Store_init_15 rfl (mz_bipush (16 : Int32) d_Store_init_16 (by decide) (mz_icmp_ge 40 d_Store_init_18 rfl (fun hc => absurd hc hnot) (fun _ => ?_)))
    refine mz_aload_n d_Store_init_21 rfl (mz_getR (i := (1, 0)) (k := 0) (a := (2, 0)) cl_1 d_Store_init_22 (by decide) wf_Store_11 rfl m10 rfl (by rw [fm_nodes_r]; exact hk0) (mz_iload_n d_Store_init_25 rfl ?_))
    refine mz_newO (i := (3, n)) cl_2 d_Store_init_26 wc_Store_9 wb_Node wn_Node (by decide) hw (by rw [hm]; exact fr 3 (by omega) (by omega)) rfl (by show 1 ≤ 3 * (m + 1) + 1; omega) (by show 7 ≤ 33 * (m + 1) + 2; omega) ?_
    intro B1 hm1 had1 hw1
    have hm1 : mz_dm B1 = (D ++ mzNodeL n) ++ [(3, n)] := by rw [hm1, hm]
    refine MzS.cv (bu' := (3 * m + 3, 33 * m + 28)) (lv' := [(1, .int (Int32.ofNat n)), (0, .ref (mz_ad B1 (1, 0)))]) (st' := [.ref (mz_ad B1 (3, n)), .int (Int32.ofNat n), .ref (mz_ad B1 (2, 0))]) (by simp only [Prod.mk.injEq]; omega) (by simp only [had1 _ m10]) (by simp only [had1 _ m20]) ?_
    refine mz_dup d_Store_init_29 rfl ?_
    refine mz_callI (As := []) (st := [.ref (mz_ad B1 (3, n)), .int (Int32.ofNat n), .ref (mz_ad B1 (2, 0))]) 2 26 d_Store_init_30 cs_Node_init wl_Store_17 wi_Node_init rfl rfl (Nat.le_of_ble_eq_true rfl) (by show 2 ≤ 3 * m + 3; omega) (by show 26 ≤ 33 * m + 28; omega) ?_
    refine tc_Node_init (d := d) (n := n) (D := (D ++ mzNodeL n) ++ [(3, n)]) hw1 hm1 (by simp) (by simpa using fr 4 (by omega) (by omega)) (by simpa using fr 5 (by omega) (by omega)) ?_
    intro B2 hm2 had2 hw2
    have a10 : (1, 0) ∈ mz_dm B1 := by rw [hm1]; exact List.mem_append_left _ (List.mem_append_left _ hD.1)
    have a20 : (2, 0) ∈ mz_dm B1 := by rw [hm1]; exact List.mem_append_left _ (List.mem_append_left _ hD.2.1)
    have a3n : (3, n) ∈ mz_dm B1 := by rw [hm1]; simp
    have hm2 : mz_dm B2 = D ++ mzNodeL (n + 1) := by
      rw [hm2]
      simp [mzNodeL]
    have b20 : (2, 0) ∈ mz_dm B2 := by rw [hm2]; exact List.mem_append_left _ hD.2.1
    have b3n : (3, n) ∈ mz_dm B2 := by rw [hm2]; simp [mzNodeL]
    refine ⟨none, rfl, ?_⟩
    refine MzS.cv (bu' := (3 * m + 1, 33 * m + 2)) (lv' := [(1, .int (Int32.ofNat n)), (0, .ref (mz_ad B2 (1, 0)))]) (st' := [.ref (mz_ad B2 (3, n)), .int (Int32.ofNat n), .ref (mz_ad B2 (2, 0))]) (by simp only [Prod.mk.injEq]; omega) (by simp only [had2 _ a10]) (by simp only [had2 _ a20, had2 _ a3n, Option.toList_none, List.nil_append]) ?_
    refine mz_aast (i := (2, 0)) (v := (3, n)) n d_Store_init_33 b20 rfl hx hlt b3n rfl (mzClOf cl_2) ?_
    refine mz_iinc (Int32.ofNat (n + 1)) d_Store_init_34 rfl (by decide) hinc (mz_goto 15 d_Store_init_37 rfl ?_)
    refine ih (n + 1) (by omega) B2 hm2 ?_ (mzWf.sr hw2 b3n)
    intro j hj
    rw [had2 j (by rw [hm1]; exact List.mem_append_left _ (List.mem_append_left _ hj)), had1 j (by rw [hm]; exact List.mem_append_left _ hj), had j hj]
def fm_Store_init (M : MzM) : MzM := fm_StoreC (fm_nodes 16 (mz_sr (mz_nm M (2, 0)) (1, 0) 0 (some (2, 0))))
set_option maxRecDepth 20000 in
set_option maxHeartbeats 4000000 in
theorem tc_Store_init {G : MzG} {B : MzB} {d : Nat} {M : MzM} {Q : MzR → MzB → MzM → Prop} (hw : mzWf B M) {D : List MzL} (hm : mz_dm B = D) (hi : (1, 0) ∈ D) (hD : ∀ l ∈ D, l.1 < 2) (h : ∀ B9 : MzB, mz_dm B9 = D ++ [(2, 0)] ++ mzNodeL 16 ++ [(6, 0)] → (∀ j ∈ mz_dm B, mz_ad B9 j = mz_ad B j) → mzWf B9 (fm_Store_init M) → Q (.inl none) B9 (fm_Store_init M)) : MzC G B (d + 3) mm_Store_init [.ref (mz_ad B (1, 0))] M (50, 546) Q := by
  refine MzC.of rfl (Nat.le_of_ble_eq_true rfl) (show MzS G B (d + 3) mm_Store_init M (50, 546) Q 0 [(0, .ref (mz_ad B (1, 0)))] [] from ?_)
  refine mz_aload_n d_Store_init_0 rfl (mz_objInit d_Store_init_1 wl_Store_3 wi_Object wco_Object (Nat.succ_pos _) (Nat.le_of_ble_eq_true rfl) (mz_aload_n d_Store_init_4 rfl (mz_bipush (16 : Int32) d_Store_init_5 (by decide) ?_)))
  have f20 : (2, 0) ∉ D := fun h9 => by
    have := hD _ h9
    simp at this
  refine mz_newqO (i := (2, 0)) (E := "ParcelLine$Node") (n := 16) d_Store_init_7 wc_Store_9 (mz_fixIn 0 rfl) (by decide) (by decide) hw (by rw [hm]; exact f20) rfl (Nat.le_of_ble_eq_true rfl) (Nat.le_of_ble_eq_true rfl) ?_
  intro B1 hm1 had1 hw1
  have m10 : (1, 0) ∈ mz_dm B := by rw [hm]; exact hi
  have hm1 : mz_dm B1 = D ++ [(2, 0)] := by rw [hm1, hm]
  refine MzS.cv (bu' := (49, 530)) (lv' := [(0, .ref (mz_ad B1 (1, 0)))]) (st' := [.ref (mz_ad B1 (2, 0)), .ref (mz_ad B1 (1, 0))]) rfl (by simp only [had1 _ m10]) (by simp only [had1 _ m10]) ?_
  have a10 : (1, 0) ∈ mz_dm B1 := by rw [hm1]; exact List.mem_append_left _ hi
  have a20 : (2, 0) ∈ mz_dm B1 := by rw [hm1]; simp
  refine mz_putRF (i := (1, 0)) (k := 0) (x := some (2, 0)) cl_1 d_Store_init_10 (by decide) wf_Store_11 rfl rfl rfl rfl rfl rfl a10 rfl ?_
  refine mz_iconst (0 : Int32) d_Store_init_13 (by decide) (mz_istore_n d_Store_init_14 (by decide) ?_)
  refine tc_StoreL (B0 := B1) (D := D ++ [(2, 0)]) ⟨List.mem_append_left _ hi, by simp, ?_⟩ hm1 rfl ?_ 16 0 rfl B1 (by rw [hm1]; simp [mzNodeL]) (fun _ _ => rfl) (mzWf.sr hw1 a20)
  · intro l hl
    rcases List.mem_append.mp hl with hl | hl
    · have := hD l hl
      omega
    · simp at hl
      subst hl
      simp
  · intro B2 hm2 had2 hw2
    refine MzS.loc [(0, .ref (mz_ad B2 (1, 0)))] ⟨rfl, trivial⟩ ?_
    refine tc_StoreC (D := D ++ [(2, 0)] ++ mzNodeL 16) hw2 hm2 (List.mem_append_left _ (List.mem_append_left _ hi)) (List.mem_append_left _ (by simp)) (List.mem_append_right _ (by decide)) ?_ ?_ ?_ ?_
    · intro h9
      rcases List.mem_append.mp h9 with h9 | h9
      · rcases List.mem_append.mp h9 with h9 | h9
        · have := hD _ h9
          simp at this
        · simp at h9
      · have := (mzNodeL_lt 16 _ h9).2.2
        simp at this
    · rw [fm_nodes_r]
      rfl
    · exact fm_nodes_e 16 _ 0 (by decide)
    · intro B9 hm9 had9 hw9
      refine h B9 hm9 ?_ hw9
      intro j hj
      rw [hm] at hj
      rw [had9 j (by rw [hm2]; exact List.mem_append_left _ (List.mem_append_left _ hj)), had2 j (List.mem_append_left _ hj), had1 j (by rw [hm]; exact hj)]
def fm_PL_init (M : MzM) : MzM := fm_PLB (mz_sr (fm_Store_init (mz_nm M (1, 0))) (0, 0) 0 (some (1, 0)))
def mzPLa : List MzL := [(0, 0)] ++ [(1, 0)] ++ [(2, 0)] ++ mzNodeL 16 ++ [(6, 0)]
def mzPLb : List MzL := [(7, 0), (8, 0), (9, 0), (10, 0), (11, 0), (12, 0), (13, 0), (14, 0), (15, 0), (16, 0), (17, 0), (18, 0), (8, 1), (9, 1), (10, 1), (11, 1), (12, 1), (13, 1), (14, 1), (15, 1), (16, 1), (17, 1), (18, 1), (19, 0), (20, 0), (21, 0), (20, 1), (21, 1), (20, 2), (21, 2), (22, 0)]
theorem mzPLa_lt : ∀ l ∈ mzPLa, l.1 < 7 := by decide
set_option maxRecDepth 20000 in
set_option maxHeartbeats 4000000 in
theorem tc_PL_init {G : MzG} {B : MzB} {d : Nat} {M : MzM} {Q : MzR → MzB → MzM → Prop} (hw : mzWf B M) (hm : mz_dm B = [(0, 0)]) (h : ∀ B9 : MzB, mz_dm B9 = mzPLa ++ mzPLb → mz_ad B9 (0, 0) = mz_ad B (0, 0) → mzWf B9 (fm_PL_init M) → Q (.inl none) B9 (fm_PL_init M)) : MzC G B (d + 4) mm_PL_init [.ref (mz_ad B (0, 0))] M (82, 1556) Q := by
  refine MzC.of rfl (Nat.le_of_ble_eq_true rfl) (show MzS G B (d + 4) mm_PL_init M (82, 1556) Q 0 [(0, .ref (mz_ad B (0, 0)))] [] from ?_)
  refine mz_aload_n d_PL_init_0 rfl (mz_objInit d_PL_init_1 wl_PL_3 wi_Object wco_Object (Nat.succ_pos _) (Nat.le_of_ble_eq_true rfl) (mz_aload_n d_PL_init_4 rfl ?_))
  refine mz_newO (i := (1, 0)) cl_1 d_PL_init_5 wc_PL_9 wb_Store wn_Store (by decide) hw (by rw [hm]; decide) rfl (Nat.le_of_ble_eq_true rfl) (Nat.le_of_ble_eq_true rfl) ?_
  intro B1 hm1 had1 hw1
  have m00 : (0, 0) ∈ mz_dm B := by rw [hm]; decide
  have hm1 : mz_dm B1 = [(0, 0)] ++ [(1, 0)] := by rw [hm1, hm]
  refine MzS.cv (bu' := (81, 1554)) (lv' := [(0, .ref (mz_ad B1 (0, 0)))]) (st' := [.ref (mz_ad B1 (1, 0)), .ref (mz_ad B1 (0, 0))]) rfl (by simp only [had1 _ m00]) (by simp only [had1 _ m00]) ?_
  refine mz_dup d_PL_init_8 rfl ?_
  refine mz_callI (As := []) (st := [.ref (mz_ad B1 (1, 0)), .ref (mz_ad B1 (0, 0))]) 50 546 d_PL_init_9 cs_Store_init wl_PL_11 wi_Store_init rfl rfl (Nat.le_of_ble_eq_true rfl) (Nat.le_of_ble_eq_true rfl) (Nat.le_of_ble_eq_true rfl) ?_
  refine tc_Store_init (d := d) (D := [(0, 0)] ++ [(1, 0)]) hw1 hm1 (by decide) (by decide) ?_
  intro B2 hm2 had2 hw2
  have hm2 : mz_dm B2 = mzPLa := hm2
  have a00 : (0, 0) ∈ mz_dm B1 := by rw [hm1]; decide
  have a10 : (1, 0) ∈ mz_dm B1 := by rw [hm1]; decide
  have b00 : (0, 0) ∈ mzPLa := by decide
  have b10 : (1, 0) ∈ mzPLa := by decide
  refine ⟨none, rfl, ?_⟩
  refine MzS.cv (bu' := (31, 1008)) (lv' := [(0, .ref (mz_ad B2 (0, 0)))]) (st' := [.ref (mz_ad B2 (1, 0)), .ref (mz_ad B2 (0, 0))]) rfl (by simp only [had2 _ a00]) (by simp only [had2 _ a00, had2 _ a10, Option.toList_none, List.nil_append]) ?_
  refine mz_putRF (i := (0, 0)) (k := 0) (x := some (1, 0)) cl_0 d_PL_init_12 (by decide) wf_PL_12 rfl rfl rfl rfl rfl rfl (by rw [hm2]; exact b00) rfl ?_
  refine tc_PLB (d := d) (D := mzPLa) (M := mz_sr (fm_Store_init (mz_nm M (1, 0))) (0, 0) 0 (some (1, 0))) (mzWf.sr hw2 (by rw [hm2]; exact b10)) hm2 b00 b10 (fun h9 => absurd (mzPLa_lt _ h9) (by decide)) (fun h9 => absurd (mzPLa_lt _ h9) (by decide)) (fun h9 => absurd (mzPLa_lt _ h9) (by decide)) (fun h9 => absurd (mzPLa_lt _ h9) (by decide)) (fun h9 => absurd (mzPLa_lt _ h9) (by decide)) (fun h9 => absurd (mzPLa_lt _ h9) (by decide)) (fun h9 => absurd (mzPLa_lt _ h9) (by decide)) (fun h9 => absurd (mzPLa_lt _ h9) (by decide)) (fun h9 => absurd (mzPLa_lt _ h9) (by decide)) (fun h9 => absurd (mzPLa_lt _ h9) (by decide)) (fun h9 => absurd (mzPLa_lt _ h9) (by decide)) (fun h9 => absurd (mzPLa_lt _ h9) (by decide)) (fun h9 => absurd (mzPLa_lt _ h9) (by decide)) (fun h9 => absurd (mzPLa_lt _ h9) (by decide)) (fun h9 => absurd (mzPLa_lt _ h9) (by decide)) (fun h9 => absurd (mzPLa_lt _ h9) (by decide)) (fun h9 => absurd (mzPLa_lt _ h9) (by decide)) (fun h9 => absurd (mzPLa_lt _ h9) (by decide)) (fun h9 => absurd (mzPLa_lt _ h9) (by decide)) (fun h9 => absurd (mzPLa_lt _ h9) (by decide)) (fun h9 => absurd (mzPLa_lt _ h9) (by decide)) (fun h9 => absurd (mzPLa_lt _ h9) (by decide)) (fun h9 => absurd (mzPLa_lt _ h9) (by decide)) (fun h9 => absurd (mzPLa_lt _ h9) (by decide)) (fun h9 => absurd (mzPLa_lt _ h9) (by decide)) (fun h9 => absurd (mzPLa_lt _ h9) (by decide)) (fun h9 => absurd (mzPLa_lt _ h9) (by decide)) (fun h9 => absurd (mzPLa_lt _ h9) (by decide)) (fun h9 => absurd (mzPLa_lt _ h9) (by decide)) (fun h9 => absurd (mzPLa_lt _ h9) (by decide)) (fun h9 => absurd (mzPLa_lt _ h9) (by decide)) rfl ?_
  intro B9 hm9 had9 hw9
  refine h B9 hm9 ?_ hw9
  rw [had9 _ (by rw [hm2]; exact b00), had2 _ a00, had1 _ m00]
end
section
def mm_Mo_init : MzT := (⟨"ParcelLineModel", "<init>", "()V"⟩, prog_14_method_1_code, 1, (Option.none : Option Jvm.ClassFile.FieldType))
theorem cs_Mo_init {mm : MzT} : mzCall mm mm_Mo_init 0 := ⟨wn_Mo, wco_Mo_init, by decide +kernel, by decide⟩
theorem d_Mo_init_0 : decode mm_Mo_init.2.1 0 = .ok (.aload_n 0, 1) := by decide +kernel
theorem d_Mo_init_1 : decode mm_Mo_init.2.1 1 = .ok (.invokespecial 1, 3) := by decide +kernel
theorem d_Mo_init_4 : decode mm_Mo_init.2.1 4 = .ok (.aload_n 0, 1) := by decide +kernel
theorem d_Mo_init_5 : decode mm_Mo_init.2.1 5 = .ok (.bipush 22, 2) := by decide +kernel
theorem d_Mo_init_7 : decode mm_Mo_init.2.1 7 = .ok (.newarray .int, 2) := by decide +kernel
theorem d_Mo_init_9 : decode mm_Mo_init.2.1 9 = .ok (.dup, 1) := by decide +kernel
theorem d_Mo_init_10 : decode mm_Mo_init.2.1 10 = .ok (.iconst 0, 1) := by decide +kernel
theorem d_Mo_init_11 : decode mm_Mo_init.2.1 11 = .ok (.iconst 0, 1) := by decide +kernel
theorem d_Mo_init_12 : decode mm_Mo_init.2.1 12 = .ok (.iastore, 1) := by decide +kernel
theorem d_Mo_init_13 : decode mm_Mo_init.2.1 13 = .ok (.dup, 1) := by decide +kernel
theorem d_Mo_init_14 : decode mm_Mo_init.2.1 14 = .ok (.iconst 1, 1) := by decide +kernel
theorem d_Mo_init_15 : decode mm_Mo_init.2.1 15 = .ok (.ldc 7, 2) := by decide +kernel
theorem d_Mo_init_17 : decode mm_Mo_init.2.1 17 = .ok (.iastore, 1) := by decide +kernel
theorem d_Mo_init_18 : decode mm_Mo_init.2.1 18 = .ok (.dup, 1) := by decide +kernel
theorem d_Mo_init_19 : decode mm_Mo_init.2.1 19 = .ok (.iconst 2, 1) := by decide +kernel
theorem d_Mo_init_20 : decode mm_Mo_init.2.1 20 = .ok (.ldc 8, 2) := by decide +kernel
theorem d_Mo_init_22 : decode mm_Mo_init.2.1 22 = .ok (.iastore, 1) := by decide +kernel
theorem d_Mo_init_23 : decode mm_Mo_init.2.1 23 = .ok (.dup, 1) := by decide +kernel
theorem d_Mo_init_24 : decode mm_Mo_init.2.1 24 = .ok (.iconst 3, 1) := by decide +kernel
theorem d_Mo_init_25 : decode mm_Mo_init.2.1 25 = .ok (.ldc 9, 2) := by decide +kernel
theorem d_Mo_init_27 : decode mm_Mo_init.2.1 27 = .ok (.iastore, 1) := by decide +kernel
theorem d_Mo_init_28 : decode mm_Mo_init.2.1 28 = .ok (.dup, 1) := by decide +kernel
theorem d_Mo_init_29 : decode mm_Mo_init.2.1 29 = .ok (.iconst 4, 1) := by decide +kernel
theorem d_Mo_init_30 : decode mm_Mo_init.2.1 30 = .ok (.ldc 10, 2) := by decide +kernel
theorem d_Mo_init_32 : decode mm_Mo_init.2.1 32 = .ok (.iastore, 1) := by decide +kernel
theorem d_Mo_init_33 : decode mm_Mo_init.2.1 33 = .ok (.dup, 1) := by decide +kernel
theorem d_Mo_init_34 : decode mm_Mo_init.2.1 34 = .ok (.iconst 5, 1) := by decide +kernel
theorem d_Mo_init_35 : decode mm_Mo_init.2.1 35 = .ok (.ldc 11, 2) := by decide +kernel
theorem d_Mo_init_37 : decode mm_Mo_init.2.1 37 = .ok (.iastore, 1) := by decide +kernel
theorem d_Mo_init_38 : decode mm_Mo_init.2.1 38 = .ok (.dup, 1) := by decide +kernel
theorem d_Mo_init_39 : decode mm_Mo_init.2.1 39 = .ok (.bipush 6, 2) := by decide +kernel
theorem d_Mo_init_41 : decode mm_Mo_init.2.1 41 = .ok (.ldc 12, 2) := by decide +kernel
theorem d_Mo_init_43 : decode mm_Mo_init.2.1 43 = .ok (.iastore, 1) := by decide +kernel
theorem d_Mo_init_44 : decode mm_Mo_init.2.1 44 = .ok (.dup, 1) := by decide +kernel
theorem d_Mo_init_45 : decode mm_Mo_init.2.1 45 = .ok (.bipush 7, 2) := by decide +kernel
theorem d_Mo_init_47 : decode mm_Mo_init.2.1 47 = .ok (.ldc 13, 2) := by decide +kernel
theorem d_Mo_init_49 : decode mm_Mo_init.2.1 49 = .ok (.iastore, 1) := by decide +kernel
theorem d_Mo_init_50 : decode mm_Mo_init.2.1 50 = .ok (.dup, 1) := by decide +kernel
theorem d_Mo_init_51 : decode mm_Mo_init.2.1 51 = .ok (.bipush 8, 2) := by decide +kernel
theorem d_Mo_init_53 : decode mm_Mo_init.2.1 53 = .ok (.ldc 14, 2) := by decide +kernel
theorem d_Mo_init_55 : decode mm_Mo_init.2.1 55 = .ok (.iastore, 1) := by decide +kernel
theorem d_Mo_init_56 : decode mm_Mo_init.2.1 56 = .ok (.dup, 1) := by decide +kernel
theorem d_Mo_init_57 : decode mm_Mo_init.2.1 57 = .ok (.bipush 9, 2) := by decide +kernel
theorem d_Mo_init_59 : decode mm_Mo_init.2.1 59 = .ok (.ldc 15, 2) := by decide +kernel
theorem d_Mo_init_61 : decode mm_Mo_init.2.1 61 = .ok (.iastore, 1) := by decide +kernel
theorem d_Mo_init_62 : decode mm_Mo_init.2.1 62 = .ok (.dup, 1) := by decide +kernel
theorem d_Mo_init_63 : decode mm_Mo_init.2.1 63 = .ok (.bipush 10, 2) := by decide +kernel
theorem d_Mo_init_65 : decode mm_Mo_init.2.1 65 = .ok (.ldc 16, 2) := by decide +kernel
theorem d_Mo_init_67 : decode mm_Mo_init.2.1 67 = .ok (.iastore, 1) := by decide +kernel
theorem d_Mo_init_68 : decode mm_Mo_init.2.1 68 = .ok (.dup, 1) := by decide +kernel
theorem d_Mo_init_69 : decode mm_Mo_init.2.1 69 = .ok (.bipush 11, 2) := by decide +kernel
theorem d_Mo_init_71 : decode mm_Mo_init.2.1 71 = .ok (.ldc 17, 2) := by decide +kernel
theorem d_Mo_init_73 : decode mm_Mo_init.2.1 73 = .ok (.iastore, 1) := by decide +kernel
theorem d_Mo_init_74 : decode mm_Mo_init.2.1 74 = .ok (.dup, 1) := by decide +kernel
theorem d_Mo_init_75 : decode mm_Mo_init.2.1 75 = .ok (.bipush 12, 2) := by decide +kernel
theorem d_Mo_init_77 : decode mm_Mo_init.2.1 77 = .ok (.ldc 18, 2) := by decide +kernel
theorem d_Mo_init_79 : decode mm_Mo_init.2.1 79 = .ok (.iastore, 1) := by decide +kernel
theorem d_Mo_init_80 : decode mm_Mo_init.2.1 80 = .ok (.dup, 1) := by decide +kernel
theorem d_Mo_init_81 : decode mm_Mo_init.2.1 81 = .ok (.bipush 13, 2) := by decide +kernel
theorem d_Mo_init_83 : decode mm_Mo_init.2.1 83 = .ok (.ldc 19, 2) := by decide +kernel
theorem d_Mo_init_85 : decode mm_Mo_init.2.1 85 = .ok (.iastore, 1) := by decide +kernel
theorem d_Mo_init_86 : decode mm_Mo_init.2.1 86 = .ok (.dup, 1) := by decide +kernel
theorem d_Mo_init_87 : decode mm_Mo_init.2.1 87 = .ok (.bipush 14, 2) := by decide +kernel
theorem d_Mo_init_89 : decode mm_Mo_init.2.1 89 = .ok (.ldc 20, 2) := by decide +kernel
theorem d_Mo_init_91 : decode mm_Mo_init.2.1 91 = .ok (.iastore, 1) := by decide +kernel
theorem d_Mo_init_92 : decode mm_Mo_init.2.1 92 = .ok (.dup, 1) := by decide +kernel
theorem d_Mo_init_93 : decode mm_Mo_init.2.1 93 = .ok (.bipush 15, 2) := by decide +kernel
theorem d_Mo_init_95 : decode mm_Mo_init.2.1 95 = .ok (.ldc 21, 2) := by decide +kernel
theorem d_Mo_init_97 : decode mm_Mo_init.2.1 97 = .ok (.iastore, 1) := by decide +kernel
theorem d_Mo_init_98 : decode mm_Mo_init.2.1 98 = .ok (.dup, 1) := by decide +kernel
theorem d_Mo_init_99 : decode mm_Mo_init.2.1 99 = .ok (.bipush 16, 2) := by decide +kernel
theorem d_Mo_init_101 : decode mm_Mo_init.2.1 101 = .ok (.ldc 22, 2) := by decide +kernel
theorem d_Mo_init_103 : decode mm_Mo_init.2.1 103 = .ok (.iastore, 1) := by decide +kernel
theorem d_Mo_init_104 : decode mm_Mo_init.2.1 104 = .ok (.dup, 1) := by decide +kernel
theorem d_Mo_init_105 : decode mm_Mo_init.2.1 105 = .ok (.bipush 17, 2) := by decide +kernel
theorem d_Mo_init_107 : decode mm_Mo_init.2.1 107 = .ok (.ldc 23, 2) := by decide +kernel
theorem d_Mo_init_109 : decode mm_Mo_init.2.1 109 = .ok (.iastore, 1) := by decide +kernel
theorem d_Mo_init_110 : decode mm_Mo_init.2.1 110 = .ok (.dup, 1) := by decide +kernel
theorem d_Mo_init_111 : decode mm_Mo_init.2.1 111 = .ok (.bipush 18, 2) := by decide +kernel
theorem d_Mo_init_113 : decode mm_Mo_init.2.1 113 = .ok (.ldc 24, 2) := by decide +kernel
theorem d_Mo_init_115 : decode mm_Mo_init.2.1 115 = .ok (.iastore, 1) := by decide +kernel
theorem d_Mo_init_116 : decode mm_Mo_init.2.1 116 = .ok (.dup, 1) := by decide +kernel
theorem d_Mo_init_117 : decode mm_Mo_init.2.1 117 = .ok (.bipush 19, 2) := by decide +kernel
theorem d_Mo_init_119 : decode mm_Mo_init.2.1 119 = .ok (.ldc 25, 2) := by decide +kernel
theorem d_Mo_init_121 : decode mm_Mo_init.2.1 121 = .ok (.iastore, 1) := by decide +kernel
theorem d_Mo_init_122 : decode mm_Mo_init.2.1 122 = .ok (.dup, 1) := by decide +kernel
theorem d_Mo_init_123 : decode mm_Mo_init.2.1 123 = .ok (.bipush 20, 2) := by decide +kernel
theorem d_Mo_init_125 : decode mm_Mo_init.2.1 125 = .ok (.ldc 26, 2) := by decide +kernel
theorem d_Mo_init_127 : decode mm_Mo_init.2.1 127 = .ok (.iastore, 1) := by decide +kernel
theorem d_Mo_init_128 : decode mm_Mo_init.2.1 128 = .ok (.dup, 1) := by decide +kernel
theorem d_Mo_init_129 : decode mm_Mo_init.2.1 129 = .ok (.bipush 21, 2) := by decide +kernel
theorem d_Mo_init_131 : decode mm_Mo_init.2.1 131 = .ok (.ldc 27, 2) := by decide +kernel
theorem d_Mo_init_133 : decode mm_Mo_init.2.1 133 = .ok (.iastore, 1) := by decide +kernel
theorem d_Mo_init_134 : decode mm_Mo_init.2.1 134 = .ok (.putfield 28, 3) := by decide +kernel
theorem d_Mo_init_137 : decode mm_Mo_init.2.1 137 = .ok (.aload_n 0, 1) := by decide +kernel
theorem d_Mo_init_138 : decode mm_Mo_init.2.1 138 = .ok (.bipush 16, 2) := by decide +kernel
theorem d_Mo_init_140 : decode mm_Mo_init.2.1 140 = .ok (.newarray .boolean, 2) := by decide +kernel
theorem d_Mo_init_142 : decode mm_Mo_init.2.1 142 = .ok (.putfield 34, 3) := by decide +kernel
theorem d_Mo_init_145 : decode mm_Mo_init.2.1 145 = .ok (.aload_n 0, 1) := by decide +kernel
theorem d_Mo_init_146 : decode mm_Mo_init.2.1 146 = .ok (.bipush 16, 2) := by decide +kernel
theorem d_Mo_init_148 : decode mm_Mo_init.2.1 148 = .ok (.newarray .boolean, 2) := by decide +kernel
theorem d_Mo_init_150 : decode mm_Mo_init.2.1 150 = .ok (.putfield 38, 3) := by decide +kernel
theorem d_Mo_init_153 : decode mm_Mo_init.2.1 153 = .ok (.aload_n 0, 1) := by decide +kernel
theorem d_Mo_init_154 : decode mm_Mo_init.2.1 154 = .ok (.bipush 16, 2) := by decide +kernel
theorem d_Mo_init_156 : decode mm_Mo_init.2.1 156 = .ok (.newarray .int, 2) := by decide +kernel
theorem d_Mo_init_158 : decode mm_Mo_init.2.1 158 = .ok (.putfield 41, 3) := by decide +kernel
theorem d_Mo_init_161 : decode mm_Mo_init.2.1 161 = .ok (.aload_n 0, 1) := by decide +kernel
theorem d_Mo_init_162 : decode mm_Mo_init.2.1 162 = .ok (.bipush 16, 2) := by decide +kernel
theorem d_Mo_init_164 : decode mm_Mo_init.2.1 164 = .ok (.newarray .int, 2) := by decide +kernel
theorem d_Mo_init_166 : decode mm_Mo_init.2.1 166 = .ok (.putfield 44, 3) := by decide +kernel
theorem d_Mo_init_169 : decode mm_Mo_init.2.1 169 = .ok (.aload_n 0, 1) := by decide +kernel
theorem d_Mo_init_170 : decode mm_Mo_init.2.1 170 = .ok (.bipush 16, 2) := by decide +kernel
theorem d_Mo_init_172 : decode mm_Mo_init.2.1 172 = .ok (.newarray .int, 2) := by decide +kernel
theorem d_Mo_init_174 : decode mm_Mo_init.2.1 174 = .ok (.putfield 47, 3) := by decide +kernel
theorem d_Mo_init_177 : decode mm_Mo_init.2.1 177 = .ok (.aload_n 0, 1) := by decide +kernel
theorem d_Mo_init_178 : decode mm_Mo_init.2.1 178 = .ok (.bipush 16, 2) := by decide +kernel
theorem d_Mo_init_180 : decode mm_Mo_init.2.1 180 = .ok (.newarray .boolean, 2) := by decide +kernel
theorem d_Mo_init_182 : decode mm_Mo_init.2.1 182 = .ok (.putfield 50, 3) := by decide +kernel
theorem d_Mo_init_185 : decode mm_Mo_init.2.1 185 = .ok (.aload_n 0, 1) := by decide +kernel
theorem d_Mo_init_186 : decode mm_Mo_init.2.1 186 = .ok (.sipush 384, 3) := by decide +kernel
theorem d_Mo_init_189 : decode mm_Mo_init.2.1 189 = .ok (.newarray .int, 2) := by decide +kernel
theorem d_Mo_init_191 : decode mm_Mo_init.2.1 191 = .ok (.putfield 53, 3) := by decide +kernel
theorem d_Mo_init_194 : decode mm_Mo_init.2.1 194 = .ok (.aload_n 0, 1) := by decide +kernel
theorem d_Mo_init_195 : decode mm_Mo_init.2.1 195 = .ok (.iconst 2, 1) := by decide +kernel
theorem d_Mo_init_196 : decode mm_Mo_init.2.1 196 = .ok (.newarray .int, 2) := by decide +kernel
theorem d_Mo_init_198 : decode mm_Mo_init.2.1 198 = .ok (.putfield 56, 3) := by decide +kernel
theorem d_Mo_init_201 : decode mm_Mo_init.2.1 201 = .ok (.aload_n 0, 1) := by decide +kernel
theorem d_Mo_init_202 : decode mm_Mo_init.2.1 202 = .ok (.iconst 2, 1) := by decide +kernel
theorem d_Mo_init_203 : decode mm_Mo_init.2.1 203 = .ok (.newarray .boolean, 2) := by decide +kernel
theorem d_Mo_init_205 : decode mm_Mo_init.2.1 205 = .ok (.putfield 59, 3) := by decide +kernel
theorem d_Mo_init_208 : decode mm_Mo_init.2.1 208 = .ok (.aload_n 0, 1) := by decide +kernel
theorem d_Mo_init_209 : decode mm_Mo_init.2.1 209 = .ok (.iconst 2, 1) := by decide +kernel
theorem d_Mo_init_210 : decode mm_Mo_init.2.1 210 = .ok (.newarray .int, 2) := by decide +kernel
theorem d_Mo_init_212 : decode mm_Mo_init.2.1 212 = .ok (.putfield 62, 3) := by decide +kernel
theorem d_Mo_init_215 : decode mm_Mo_init.2.1 215 = .ok (.aload_n 0, 1) := by decide +kernel
theorem d_Mo_init_216 : decode mm_Mo_init.2.1 216 = .ok (.iconst 2, 1) := by decide +kernel
theorem d_Mo_init_217 : decode mm_Mo_init.2.1 217 = .ok (.newarray .boolean, 2) := by decide +kernel
theorem d_Mo_init_219 : decode mm_Mo_init.2.1 219 = .ok (.putfield 65, 3) := by decide +kernel
theorem d_Mo_init_222 : decode mm_Mo_init.2.1 222 = .ok (.aload_n 0, 1) := by decide +kernel
theorem d_Mo_init_223 : decode mm_Mo_init.2.1 223 = .ok (.bipush 60, 2) := by decide +kernel
theorem d_Mo_init_225 : decode mm_Mo_init.2.1 225 = .ok (.newarray .int, 2) := by decide +kernel
theorem d_Mo_init_227 : decode mm_Mo_init.2.1 227 = .ok (.putfield 68, 3) := by decide +kernel
theorem d_Mo_init_230 : decode mm_Mo_init.2.1 230 = .ok (.aload_n 0, 1) := by decide +kernel
theorem d_Mo_init_231 : decode mm_Mo_init.2.1 231 = .ok (.iconst 2, 1) := by decide +kernel
theorem d_Mo_init_232 : decode mm_Mo_init.2.1 232 = .ok (.newarray .int, 2) := by decide +kernel
theorem d_Mo_init_234 : decode mm_Mo_init.2.1 234 = .ok (.putfield 71, 3) := by decide +kernel
theorem d_Mo_init_237 : decode mm_Mo_init.2.1 237 = .ok (.aload_n 0, 1) := by decide +kernel
theorem d_Mo_init_238 : decode mm_Mo_init.2.1 238 = .ok (.sipush 400, 3) := by decide +kernel
theorem d_Mo_init_241 : decode mm_Mo_init.2.1 241 = .ok (.newarray .int, 2) := by decide +kernel
theorem d_Mo_init_243 : decode mm_Mo_init.2.1 243 = .ok (.putfield 74, 3) := by decide +kernel
theorem d_Mo_init_246 : decode mm_Mo_init.2.1 246 = .ok (.aload_n 0, 1) := by decide +kernel
theorem d_Mo_init_247 : decode mm_Mo_init.2.1 247 = .ok (.iconst 2, 1) := by decide +kernel
theorem d_Mo_init_248 : decode mm_Mo_init.2.1 248 = .ok (.newarray .int, 2) := by decide +kernel
theorem d_Mo_init_250 : decode mm_Mo_init.2.1 250 = .ok (.putfield 77, 3) := by decide +kernel
theorem d_Mo_init_253 : decode mm_Mo_init.2.1 253 = .ok (.aload_n 0, 1) := by decide +kernel
theorem d_Mo_init_254 : decode mm_Mo_init.2.1 254 = .ok (.iconst 2, 1) := by decide +kernel
theorem d_Mo_init_255 : decode mm_Mo_init.2.1 255 = .ok (.newarray .int, 2) := by decide +kernel
theorem d_Mo_init_257 : decode mm_Mo_init.2.1 257 = .ok (.putfield 80, 3) := by decide +kernel
theorem d_Mo_init_260 : decode mm_Mo_init.2.1 260 = .ok (.aload_n 0, 1) := by decide +kernel
theorem d_Mo_init_261 : decode mm_Mo_init.2.1 261 = .ok (.iconst 2, 1) := by decide +kernel
theorem d_Mo_init_262 : decode mm_Mo_init.2.1 262 = .ok (.newarray .int, 2) := by decide +kernel
theorem d_Mo_init_264 : decode mm_Mo_init.2.1 264 = .ok (.putfield 83, 3) := by decide +kernel
theorem d_Mo_init_267 : decode mm_Mo_init.2.1 267 = .ok (.aload_n 0, 1) := by decide +kernel
theorem d_Mo_init_268 : decode mm_Mo_init.2.1 268 = .ok (.iconst 2, 1) := by decide +kernel
theorem d_Mo_init_269 : decode mm_Mo_init.2.1 269 = .ok (.newarray .int, 2) := by decide +kernel
theorem d_Mo_init_271 : decode mm_Mo_init.2.1 271 = .ok (.putfield 86, 3) := by decide +kernel
theorem d_Mo_init_274 : decode mm_Mo_init.2.1 274 = .ok (.aload_n 0, 1) := by decide +kernel
theorem d_Mo_init_275 : decode mm_Mo_init.2.1 275 = .ok (.iconst 2, 1) := by decide +kernel
theorem d_Mo_init_276 : decode mm_Mo_init.2.1 276 = .ok (.newarray .int, 2) := by decide +kernel
theorem d_Mo_init_278 : decode mm_Mo_init.2.1 278 = .ok (.putfield 89, 3) := by decide +kernel
theorem d_Mo_init_281 : decode mm_Mo_init.2.1 281 = .ok (.aload_n 0, 1) := by decide +kernel
theorem d_Mo_init_282 : decode mm_Mo_init.2.1 282 = .ok (.iconst 2, 1) := by decide +kernel
theorem d_Mo_init_283 : decode mm_Mo_init.2.1 283 = .ok (.newarray .boolean, 2) := by decide +kernel
theorem d_Mo_init_285 : decode mm_Mo_init.2.1 285 = .ok (.putfield 92, 3) := by decide +kernel
theorem d_Mo_init_288 : decode mm_Mo_init.2.1 288 = .ok (.aload_n 0, 1) := by decide +kernel
theorem d_Mo_init_289 : decode mm_Mo_init.2.1 289 = .ok (.iconst 2, 1) := by decide +kernel
theorem d_Mo_init_290 : decode mm_Mo_init.2.1 290 = .ok (.newarray .boolean, 2) := by decide +kernel
theorem d_Mo_init_292 : decode mm_Mo_init.2.1 292 = .ok (.putfield 95, 3) := by decide +kernel
theorem d_Mo_init_295 : decode mm_Mo_init.2.1 295 = .ok (.aload_n 0, 1) := by decide +kernel
theorem d_Mo_init_296 : decode mm_Mo_init.2.1 296 = .ok (.iconst 2, 1) := by decide +kernel
theorem d_Mo_init_297 : decode mm_Mo_init.2.1 297 = .ok (.newarray .int, 2) := by decide +kernel
theorem d_Mo_init_299 : decode mm_Mo_init.2.1 299 = .ok (.putfield 98, 3) := by decide +kernel
theorem d_Mo_init_302 : decode mm_Mo_init.2.1 302 = .ok (.aload_n 0, 1) := by decide +kernel
theorem d_Mo_init_303 : decode mm_Mo_init.2.1 303 = .ok (.iconst 2, 1) := by decide +kernel
theorem d_Mo_init_304 : decode mm_Mo_init.2.1 304 = .ok (.newarray .int, 2) := by decide +kernel
theorem d_Mo_init_306 : decode mm_Mo_init.2.1 306 = .ok (.putfield 101, 3) := by decide +kernel
theorem d_Mo_init_309 : decode mm_Mo_init.2.1 309 = .ok (.aload_n 0, 1) := by decide +kernel
theorem d_Mo_init_310 : decode mm_Mo_init.2.1 310 = .ok (.iconst 2, 1) := by decide +kernel
theorem d_Mo_init_311 : decode mm_Mo_init.2.1 311 = .ok (.newarray .boolean, 2) := by decide +kernel
theorem d_Mo_init_313 : decode mm_Mo_init.2.1 313 = .ok (.putfield 104, 3) := by decide +kernel
theorem d_Mo_init_316 : decode mm_Mo_init.2.1 316 = .ok (.aload_n 0, 1) := by decide +kernel
theorem d_Mo_init_317 : decode mm_Mo_init.2.1 317 = .ok (.iconst 2, 1) := by decide +kernel
theorem d_Mo_init_318 : decode mm_Mo_init.2.1 318 = .ok (.newarray .int, 2) := by decide +kernel
theorem d_Mo_init_320 : decode mm_Mo_init.2.1 320 = .ok (.putfield 107, 3) := by decide +kernel
theorem d_Mo_init_323 : decode mm_Mo_init.2.1 323 = .ok (.aload_n 0, 1) := by decide +kernel
theorem d_Mo_init_324 : decode mm_Mo_init.2.1 324 = .ok (.iconst 2, 1) := by decide +kernel
theorem d_Mo_init_325 : decode mm_Mo_init.2.1 325 = .ok (.newarray .int, 2) := by decide +kernel
theorem d_Mo_init_327 : decode mm_Mo_init.2.1 327 = .ok (.putfield 110, 3) := by decide +kernel
theorem d_Mo_init_330 : decode mm_Mo_init.2.1 330 = .ok (.aload_n 0, 1) := by decide +kernel
theorem d_Mo_init_331 : decode mm_Mo_init.2.1 331 = .ok (.sipush 192, 3) := by decide +kernel
theorem d_Mo_init_334 : decode mm_Mo_init.2.1 334 = .ok (.newarray .int, 2) := by decide +kernel
theorem d_Mo_init_336 : decode mm_Mo_init.2.1 336 = .ok (.putfield 113, 3) := by decide +kernel
theorem d_Mo_init_339 : decode mm_Mo_init.2.1 339 = .ok (.aload_n 0, 1) := by decide +kernel
theorem d_Mo_init_340 : decode mm_Mo_init.2.1 340 = .ok (.iconst 3, 1) := by decide +kernel
theorem d_Mo_init_341 : decode mm_Mo_init.2.1 341 = .ok (.newarray .int, 2) := by decide +kernel
theorem d_Mo_init_343 : decode mm_Mo_init.2.1 343 = .ok (.putfield 116, 3) := by decide +kernel
theorem d_Mo_init_346 : decode mm_Mo_init.2.1 346 = .ok (.aload_n 0, 1) := by decide +kernel
theorem d_Mo_init_347 : decode mm_Mo_init.2.1 347 = .ok (.bipush 72, 2) := by decide +kernel
theorem d_Mo_init_349 : decode mm_Mo_init.2.1 349 = .ok (.newarray .int, 2) := by decide +kernel
theorem d_Mo_init_351 : decode mm_Mo_init.2.1 351 = .ok (.putfield 119, 3) := by decide +kernel
theorem d_Mo_init_354 : decode mm_Mo_init.2.1 354 = .ok (.aload_n 0, 1) := by decide +kernel
theorem d_Mo_init_355 : decode mm_Mo_init.2.1 355 = .ok (.getfield 34, 3) := by decide +kernel
theorem d_Mo_init_358 : decode mm_Mo_init.2.1 358 = .ok (.iconst 0, 1) := by decide +kernel
theorem d_Mo_init_359 : decode mm_Mo_init.2.1 359 = .ok (.iconst 1, 1) := by decide +kernel
theorem d_Mo_init_360 : decode mm_Mo_init.2.1 360 = .ok (.bastore, 1) := by decide +kernel
theorem d_Mo_init_361 : decode mm_Mo_init.2.1 361 = .ok (.aload_n 0, 1) := by decide +kernel
theorem d_Mo_init_362 : decode mm_Mo_init.2.1 362 = .ok (.getfield 41, 3) := by decide +kernel
theorem d_Mo_init_365 : decode mm_Mo_init.2.1 365 = .ok (.iconst 0, 1) := by decide +kernel
theorem d_Mo_init_366 : decode mm_Mo_init.2.1 366 = .ok (.iconst (-1), 1) := by decide +kernel
theorem d_Mo_init_367 : decode mm_Mo_init.2.1 367 = .ok (.iastore, 1) := by decide +kernel
theorem d_Mo_init_368 : decode mm_Mo_init.2.1 368 = .ok (.aload_n 0, 1) := by decide +kernel
theorem d_Mo_init_369 : decode mm_Mo_init.2.1 369 = .ok (.iconst 0, 1) := by decide +kernel
theorem d_Mo_init_370 : decode mm_Mo_init.2.1 370 = .ok (.invokevirtual 122, 3) := by decide +kernel
theorem d_Mo_init_373 : decode mm_Mo_init.2.1 373 = .ok (.aload_n 0, 1) := by decide +kernel
theorem d_Mo_init_374 : decode mm_Mo_init.2.1 374 = .ok (.iconst 1, 1) := by decide +kernel
theorem d_Mo_init_375 : decode mm_Mo_init.2.1 375 = .ok (.invokevirtual 122, 3) := by decide +kernel
theorem d_Mo_init_378 : decode mm_Mo_init.2.1 378 = .ok (.return_, 1) := by decide +kernel
def fm_MoA   (M : MzM) : MzM := (mz_si (mz_si (mz_sr (mz_nm (mz_sr (mz_nm (mz_sr (mz_nm (mz_sr (mz_nm (mz_sr (mz_nm (mz_sr (mz_nm (mz_sr (mz_nm (mz_sr (mz_nm (mz_sr (mz_nm (mz_sr (mz_nm (mz_sr (mz_nm (mz_sr (mz_nm (mz_sr (mz_nm (mz_sr (mz_nm (mz_sr (mz_nm (mz_sr (mz_nm (mz_sr (mz_nm (mz_sr (mz_nm (mz_sr (mz_nm (mz_sr (mz_nm (mz_sr (mz_nm (mz_sr (mz_nm (mz_sr (mz_nm (mz_sr (mz_nm (mz_sr (mz_nm (mz_sr (mz_nm (mz_sr (mz_nm (mz_sr (mz_nm (mz_sr (mz_nm (mz_sr (mz_si (mz_si (mz_si (mz_si (mz_si (mz_si (mz_si (mz_si (mz_si (mz_si (mz_si (mz_si (mz_si (mz_si (mz_si (mz_si (mz_si (mz_si (mz_si (mz_si (mz_si (mz_si (mz_nm M (31, 0)) (31, 0) 0 (0 : Int32)) (31, 0) 1 (179626706 : Int32)) (31, 0) 2 (168847827 : Int32)) (31, 0) 3 (171271380 : Int32)) (31, 0) 4 (164882384 : Int32)) (31, 0) 5 (177629253 : Int32)) (31, 0) 6 (1321924 : Int32)) (31, 0) 7 (1108932 : Int32)) (31, 0) 8 (141634256 : Int32)) (31, 0) 9 (175271237 : Int32)) (31, 0) 10 (168847830 : Int32)) (31, 0) 11 (173107668 : Int32)) (31, 0) 12 (173107794 : Int32)) (31, 0) 13 (175450066 : Int32)) (31, 0) 14 (137635909 : Int32)) (31, 0) 15 (164833748 : Int32)) (31, 0) 16 (137406418 : Int32)) (31, 0) 17 (143746629 : Int32)) (31, 0) 18 (1271236 : Int32)) (31, 0) 19 (1353412 : Int32)) (31, 0) 20 (173253458 : Int32)) (31, 0) 21 (173255247 : Int32)) (30, 0) 0 (some (31, 0))) (32, 0)) (30, 0) 2 (some (32, 0))) (33, 0)) (30, 0) 3 (some (33, 0))) (34, 0)) (30, 0) 4 (some (34, 0))) (35, 0)) (30, 0) 5 (some (35, 0))) (36, 0)) (30, 0) 6 (some (36, 0))) (37, 0)) (30, 0) 7 (some (37, 0))) (38, 0)) (30, 0) 8 (some (38, 0))) (39, 0)) (30, 0) 9 (some (39, 0))) (40, 0)) (30, 0) 10 (some (40, 0))) (41, 0)) (30, 0) 11 (some (41, 0))) (42, 0)) (30, 0) 12 (some (42, 0))) (43, 0)) (30, 0) 13 (some (43, 0))) (44, 0)) (30, 0) 14 (some (44, 0))) (45, 0)) (30, 0) 15 (some (45, 0))) (46, 0)) (30, 0) 16 (some (46, 0))) (47, 0)) (30, 0) 17 (some (47, 0))) (48, 0)) (30, 0) 18 (some (48, 0))) (49, 0)) (30, 0) 19 (some (49, 0))) (50, 0)) (30, 0) 20 (some (50, 0))) (51, 0)) (30, 0) 21 (some (51, 0))) (52, 0)) (30, 0) 22 (some (52, 0))) (53, 0)) (30, 0) 23 (some (53, 0))) (54, 0)) (30, 0) 24 (some (54, 0))) (55, 0)) (30, 0) 25 (some (55, 0))) (56, 0)) (30, 0) 26 (some (56, 0))) (57, 0)) (30, 0) 27 (some (57, 0))) (58, 0)) (30, 0) 28 (some (58, 0))) (59, 0)) (30, 0) 36 (some (59, 0))) (60, 0)) (30, 0) 37 (some (60, 0))) (32, 0) 0 (1 : Int32)) (34, 0) 0 (-1 : Int32))
set_option maxRecDepth 20000 in
set_option maxHeartbeats 4000000 in
theorem tc_MoA {G : MzG} {B : MzB} {d : Nat} {M : MzM} {Q : MzR → MzB → MzM → Prop} (hw : mzWf B M) {D : List MzL} (hm : mz_dm B = D) (hi0 : (30, 0) ∈ D) (hf0 : (31, 0) ∉ D) (hf1 : (32, 0) ∉ D) (hf2 : (33, 0) ∉ D) (hf3 : (34, 0) ∉ D) (hf4 : (35, 0) ∉ D) (hf5 : (36, 0) ∉ D) (hf6 : (37, 0) ∉ D) (hf7 : (38, 0) ∉ D) (hf8 : (39, 0) ∉ D) (hf9 : (40, 0) ∉ D) (hf10 : (41, 0) ∉ D) (hf11 : (42, 0) ∉ D) (hf12 : (43, 0) ∉ D) (hf13 : (44, 0) ∉ D) (hf14 : (45, 0) ∉ D) (hf15 : (46, 0) ∉ D) (hf16 : (47, 0) ∉ D) (hf17 : (48, 0) ∉ D) (hf18 : (49, 0) ∉ D) (hf19 : (50, 0) ∉ D) (hf20 : (51, 0) ∉ D) (hf21 : (52, 0) ∉ D) (hf22 : (53, 0) ∉ D) (hf23 : (54, 0) ∉ D) (hf24 : (55, 0) ∉ D) (hf25 : (56, 0) ∉ D) (hf26 : (57, 0) ∉ D) (hf27 : (58, 0) ∉ D) (hf28 : (59, 0) ∉ D) (hf29 : (60, 0) ∉ D) (h : ∀ B9 : MzB, mz_dm B9 = D ++ [(31, 0), (32, 0), (33, 0), (34, 0), (35, 0), (36, 0), (37, 0), (38, 0), (39, 0), (40, 0), (41, 0), (42, 0), (43, 0), (44, 0), (45, 0), (46, 0), (47, 0), (48, 0), (49, 0), (50, 0), (51, 0), (52, 0), (53, 0), (54, 0), (55, 0), (56, 0), (57, 0), (58, 0), (59, 0), (60, 0)] → (∀ j ∈ mz_dm B, mz_ad B9 j = mz_ad B j) → mzWf B9 (fm_MoA   M) → MzS G B9 (d + 1) mm_Mo_init (fm_MoA   M) (0, 0) Q 368 [(0, .ref (mz_ad B9 (30, 0)))] []) : MzS G B (d + 1) mm_Mo_init M (30, 1263) Q 0 [(0, .ref (mz_ad B (30, 0)))] [] :=
  (mz_aload_n d_Mo_init_0 rfl (mz_objInit d_Mo_init_1 wl_Mo_1 wi_Object wco_Object (Nat.succ_pos _) (Nat.le_of_ble_eq_true rfl) (mz_aload_n d_Mo_init_4 rfl (mz_bipush (22 : Int32) d_Mo_init_5 (by decide) (mz_newaO (i := (31, 0)) (fty := .int) (n := 22) d_Mo_init_7 wa_int rfl rfl (by decide) (by decide) (by decide) hw (by rw [hm]; exact hf0) rfl (Nat.le_of_ble_eq_true rfl) (Nat.le_of_ble_eq_true rfl) (fun B1 hmx had3 hw4 => have hm2 : mz_dm B1 = D ++ [(31, 0)] := (by rw [hmx, hm]); let M5 : MzM := mz_nm M (31, 0); MzS.cv (bu' := (29, 1241)) (lv' := [(0, .ref (mz_ad B1 (30, 0)))]) (st' := [.ref (mz_ad B1 (31, 0)), .ref (mz_ad B1 (30, 0))]) rfl (by first | (simp only [had3 (30, 0) (by rw [hm]; exact hi0)]; done) | (simp only [had3 (30, 0) (by rw [hm]; exact hi0)]; rfl)) (by first | (simp only [had3 (30, 0) (by rw [hm]; exact hi0)]; done) | (simp only [had3 (30, 0) (by rw [hm]; exact hi0)]; rfl)) (mz_dup d_Mo_init_9 rfl (mz_iconst (0 : Int32) d_Mo_init_10 (by decide) (mz_iconst (0 : Int32) d_Mo_init_11 (by decide) (mz_iast (i := (31, 0)) 0 d_Mo_init_12 (by rw [hm2]; exact (by simp)) rfl (by decide) (by decide) (let M6 : MzM := mz_si M5 (31, 0) 0 (0 : Int32); have hw7 : mzWf B1 M6 := hw4; (mz_dup d_Mo_init_13 rfl (mz_iconst (1 : Int32) d_Mo_init_14 (by decide) (mz_ldc (v := (179626706 : Int32)) d_Mo_init_15 wk_Mo_7 (mz_iast (i := (31, 0)) 1 d_Mo_init_17 (by rw [hm2]; exact (by simp)) rfl (by decide) (by decide) (let M8 : MzM := mz_si M6 (31, 0) 1 (179626706 : Int32); have hw9 : mzWf B1 M8 := hw7; (mz_dup d_Mo_init_18 rfl (mz_iconst (2 : Int32) d_Mo_init_19 (by decide) (mz_ldc (v := (168847827 : Int32)) d_Mo_init_20 wk_Mo_8 (mz_iast (i := (31, 0)) 2 d_Mo_init_22 (by rw [hm2]; exact (by simp)) rfl (by decide) (by decide) (let M10 : MzM := mz_si M8 (31, 0) 2 (168847827 : Int32); have hw11 : mzWf B1 M10 := hw9; (mz_dup d_Mo_init_23 rfl (mz_iconst (3 : Int32) d_Mo_init_24 (by decide) (mz_ldc (v := (171271380 : Int32)) d_Mo_init_25 wk_Mo_9 (mz_iast (i := (31, 0)) 3 d_Mo_init_27 (by rw [hm2]; exact (by simp)) rfl (by decide) (by decide) (let M12 : MzM := mz_si M10 (31, 0) 3 (171271380 : Int32); have hw13 : mzWf B1 M12 := hw11; (mz_dup d_Mo_init_28 rfl (mz_iconst (4 : Int32) d_Mo_init_29 (by decide) (mz_ldc (v := (164882384 : Int32)) d_Mo_init_30 wk_Mo_10 (mz_iast (i := (31, 0)) 4 d_Mo_init_32 (by rw [hm2]; exact (by simp)) rfl (by decide) (by decide) (let M14 : MzM := mz_si M12 (31, 0) 4 (164882384 : Int32); have hw15 : mzWf B1 M14 := hw13; (mz_dup d_Mo_init_33 rfl (mz_iconst (5 : Int32) d_Mo_init_34 (by decide) (mz_ldc (v := (177629253 : Int32)) d_Mo_init_35 wk_Mo_11 (mz_iast (i := (31, 0)) 5 d_Mo_init_37 (by rw [hm2]; exact (by simp)) rfl (by decide) (by decide) (let M16 : MzM := mz_si M14 (31, 0) 5 (177629253 : Int32); have hw17 : mzWf B1 M16 := hw15; (mz_dup d_Mo_init_38 rfl (mz_bipush (6 : Int32) d_Mo_init_39 (by decide) (mz_ldc (v := (1321924 : Int32)) d_Mo_init_41 wk_Mo_12 (mz_iast (i := (31, 0)) 6 d_Mo_init_43 (by rw [hm2]; exact (by simp)) rfl (by decide) (by decide) (let M18 : MzM := mz_si M16 (31, 0) 6 (1321924 : Int32); have hw19 : mzWf B1 M18 := hw17; (mz_dup d_Mo_init_44 rfl (mz_bipush (7 : Int32) d_Mo_init_45 (by decide) (mz_ldc (v := (1108932 : Int32)) d_Mo_init_47 wk_Mo_13 (mz_iast (i := (31, 0)) 7 d_Mo_init_49 (by rw [hm2]; exact (by simp)) rfl (by decide) (by decide) (let M20 : MzM := mz_si M18 (31, 0) 7 (1108932 : Int32); have hw21 : mzWf B1 M20 := hw19; (mz_dup d_Mo_init_50 rfl (mz_bipush (8 : Int32) d_Mo_init_51 (by decide) (mz_ldc (v := (141634256 : Int32)) d_Mo_init_53 wk_Mo_14 (mz_iast (i := (31, 0)) 8 d_Mo_init_55 (by rw [hm2]; exact (by simp)) rfl (by decide) (by decide) (let M22 : MzM := mz_si M20 (31, 0) 8 (141634256 : Int32); have hw23 : mzWf B1 M22 := hw21; (mz_dup d_Mo_init_56 rfl (mz_bipush (9 : Int32) d_Mo_init_57 (by decide) (mz_ldc (v := (175271237 : Int32)) d_Mo_init_59 wk_Mo_15 (mz_iast (i := (31, 0)) 9 d_Mo_init_61 (by rw [hm2]; exact (by simp)) rfl (by decide) (by decide) (let M24 : MzM := mz_si M22 (31, 0) 9 (175271237 : Int32); have hw25 : mzWf B1 M24 := hw23; (mz_dup d_Mo_init_62 rfl (mz_bipush (10 : Int32) d_Mo_init_63 (by decide) (mz_ldc (v := (168847830 : Int32)) d_Mo_init_65 wk_Mo_16 (mz_iast (i := (31, 0)) 10 d_Mo_init_67 (by rw [hm2]; exact (by simp)) rfl (by decide) (by decide) (let M26 : MzM := mz_si M24 (31, 0) 10 (168847830 : Int32); have hw27 : mzWf B1 M26 := hw25; (mz_dup d_Mo_init_68 rfl (mz_bipush (11 : Int32) d_Mo_init_69 (by decide) (mz_ldc (v := (173107668 : Int32)) d_Mo_init_71 wk_Mo_17 (mz_iast (i := (31, 0)) 11 d_Mo_init_73 (by rw [hm2]; exact (by simp)) rfl (by decide) (by decide) (let M28 : MzM := mz_si M26 (31, 0) 11 (173107668 : Int32); have hw29 : mzWf B1 M28 := hw27; (mz_dup d_Mo_init_74 rfl (mz_bipush (12 : Int32) d_Mo_init_75 (by decide) (mz_ldc (v := (173107794 : Int32)) d_Mo_init_77 wk_Mo_18 (mz_iast (i := (31, 0)) 12 d_Mo_init_79 (by rw [hm2]; exact (by simp)) rfl (by decide) (by decide) (let M30 : MzM := mz_si M28 (31, 0) 12 (173107794 : Int32); have hw31 : mzWf B1 M30 := hw29; (mz_dup d_Mo_init_80 rfl (mz_bipush (13 : Int32) d_Mo_init_81 (by decide) (mz_ldc (v := (175450066 : Int32)) d_Mo_init_83 wk_Mo_19 (mz_iast (i := (31, 0)) 13 d_Mo_init_85 (by rw [hm2]; exact (by simp)) rfl (by decide) (by decide) (let M32 : MzM := mz_si M30 (31, 0) 13 (175450066 : Int32); have hw33 : mzWf B1 M32 := hw31; (mz_dup d_Mo_init_86 rfl (mz_bipush (14 : Int32) d_Mo_init_87 (by decide) (mz_ldc (v := (137635909 : Int32)) d_Mo_init_89 wk_Mo_20 (mz_iast (i := (31, 0)) 14 d_Mo_init_91 (by rw [hm2]; exact (by simp)) rfl (by decide) (by decide) (let M34 : MzM := mz_si M32 (31, 0) 14 (137635909 : Int32); have hw35 : mzWf B1 M34 := hw33; (mz_dup d_Mo_init_92 rfl (mz_bipush (15 : Int32) d_Mo_init_93 (by decide) (mz_ldc (v := (164833748 : Int32)) d_Mo_init_95 wk_Mo_21 (mz_iast (i := (31, 0)) 15 d_Mo_init_97 (by rw [hm2]; exact (by simp)) rfl (by decide) (by decide) (let M36 : MzM := mz_si M34 (31, 0) 15 (164833748 : Int32); have hw37 : mzWf B1 M36 := hw35; (mz_dup d_Mo_init_98 rfl (mz_bipush (16 : Int32) d_Mo_init_99 (by decide) (mz_ldc (v := (137406418 : Int32)) d_Mo_init_101 wk_Mo_22 (mz_iast (i := (31, 0)) 16 d_Mo_init_103 (by rw [hm2]; exact (by simp)) rfl (by decide) (by decide) (let M38 : MzM := mz_si M36 (31, 0) 16 (137406418 : Int32); have hw39 : mzWf B1 M38 := hw37; (mz_dup d_Mo_init_104 rfl (mz_bipush (17 : Int32) d_Mo_init_105 (by decide) (mz_ldc (v := (143746629 : Int32)) d_Mo_init_107 wk_Mo_23 (mz_iast (i := (31, 0)) 17 d_Mo_init_109 (by rw [hm2]; exact (by simp)) rfl (by decide) (by decide) (let M40 : MzM := mz_si M38 (31, 0) 17 (143746629 : Int32); have hw41 : mzWf B1 M40 := hw39; (mz_dup d_Mo_init_110 rfl (mz_bipush (18 : Int32) d_Mo_init_111 (by decide) (mz_ldc (v := (1271236 : Int32)) d_Mo_init_113 wk_Mo_24 (mz_iast (i := (31, 0)) 18 d_Mo_init_115 (by rw [hm2]; exact (by simp)) rfl (by decide) (by decide) (let M42 : MzM := mz_si M40 (31, 0) 18 (1271236 : Int32); have hw43 : mzWf B1 M42 := hw41; (mz_dup d_Mo_init_116 rfl (mz_bipush (19 : Int32) d_Mo_init_117 (by decide) (mz_ldc (v := (1353412 : Int32)) d_Mo_init_119 wk_Mo_25 (mz_iast (i := (31, 0)) 19 d_Mo_init_121 (by rw [hm2]; exact (by simp)) rfl (by decide) (by decide) (let M44 : MzM := mz_si M42 (31, 0) 19 (1353412 : Int32); have hw45 : mzWf B1 M44 := hw43; (mz_dup d_Mo_init_122 rfl (mz_bipush (20 : Int32) d_Mo_init_123 (by decide) (mz_ldc (v := (173253458 : Int32)) d_Mo_init_125 wk_Mo_26 (mz_iast (i := (31, 0)) 20 d_Mo_init_127 (by rw [hm2]; exact (by simp)) rfl (by decide) (by decide) (let M46 : MzM := mz_si M44 (31, 0) 20 (173253458 : Int32); have hw47 : mzWf B1 M46 := hw45; (mz_dup d_Mo_init_128 rfl (mz_bipush (21 : Int32) d_Mo_init_129 (by decide) (mz_ldc (v := (173255247 : Int32)) d_Mo_init_131 wk_Mo_27 (mz_iast (i := (31, 0)) 21 d_Mo_init_133 (by rw [hm2]; exact (by simp)) rfl (by decide) (by decide) (let M48 : MzM := mz_si M46 (31, 0) 21 (173255247 : Int32); have hw49 : mzWf B1 M48 := hw47; (mz_putRF (i := (30, 0)) (k := 0) (x := some (31, 0)) cl_10 d_Mo_init_134 (by decide) wf_Mo_28 rfl rfl rfl rfl rfl rfl (by rw [hm2]; exact (List.mem_append_left _ hi0)) rfl (let M50 : MzM := mz_sr M48 (30, 0) 0 (some (31, 0)); have hw51 : mzWf B1 M50 := mzWf.sr hw49 (by rw [hm2]; exact (by simp)); (mz_aload_n d_Mo_init_137 rfl (mz_bipush (16 : Int32) d_Mo_init_138 (by decide) (mz_newaO (i := (32, 0)) (fty := .boolean) (n := 16) d_Mo_init_140 wa_boolean rfl rfl (by decide) (by decide) (by decide) hw51 (by rw [hm2]; exact (by simp [hf1])) rfl (Nat.le_of_ble_eq_true rfl) (Nat.le_of_ble_eq_true rfl) (fun B52 hmx had54 hw55 => have hm53 : mz_dm B52 = D ++ [(31, 0), (32, 0)] := (by rw [hmx, hm2]; exact List.append_assoc _ _ _); let M56 : MzM := mz_nm M50 (32, 0); MzS.cv (bu' := (28, 1225)) (lv' := [(0, .ref (mz_ad B52 (30, 0)))]) (st' := [.ref (mz_ad B52 (32, 0)), .ref (mz_ad B52 (30, 0))]) rfl (by first | (simp only [had54 (30, 0) (by rw [hm2]; exact (List.mem_append_left _ hi0))]; done) | (simp only [had54 (30, 0) (by rw [hm2]; exact (List.mem_append_left _ hi0))]; rfl)) (by first | (simp only [had54 (30, 0) (by rw [hm2]; exact (List.mem_append_left _ hi0))]; done) | (simp only [had54 (30, 0) (by rw [hm2]; exact (List.mem_append_left _ hi0))]; rfl)) (mz_putRF (i := (30, 0)) (k := 2) (x := some (32, 0)) cl_10 d_Mo_init_142 (by decide) wf_Mo_34 rfl rfl rfl rfl rfl rfl (by rw [hm53]; exact (List.mem_append_left _ hi0)) rfl (let M57 : MzM := mz_sr M56 (30, 0) 2 (some (32, 0)); have hw58 : mzWf B52 M57 := mzWf.sr hw55 (by rw [hm53]; exact (by simp)); (mz_aload_n d_Mo_init_145 rfl (mz_bipush (16 : Int32) d_Mo_init_146 (by decide) (mz_newaO (i := (33, 0)) (fty := .boolean) (n := 16) d_Mo_init_148 wa_boolean rfl rfl (by decide) (by decide) (by decide) hw58 (by rw [hm53]; exact (by simp [hf2])) rfl (Nat.le_of_ble_eq_true rfl) (Nat.le_of_ble_eq_true rfl) (fun B59 hmx had61 hw62 => have hm60 : mz_dm B59 = D ++ [(31, 0), (32, 0), (33, 0)] := (by rw [hmx, hm53]; exact List.append_assoc _ _ _); let M63 : MzM := mz_nm M57 (33, 0); MzS.cv (bu' := (27, 1209)) (lv' := [(0, .ref (mz_ad B59 (30, 0)))]) (st' := [.ref (mz_ad B59 (33, 0)), .ref (mz_ad B59 (30, 0))]) rfl (by first | (simp only [had61 (30, 0) (by rw [hm53]; exact (List.mem_append_left _ hi0))]; done) | (simp only [had61 (30, 0) (by rw [hm53]; exact (List.mem_append_left _ hi0))]; rfl)) (by first | (simp only [had61 (30, 0) (by rw [hm53]; exact (List.mem_append_left _ hi0))]; done) | (simp only [had61 (30, 0) (by rw [hm53]; exact (List.mem_append_left _ hi0))]; rfl)) (mz_putRF (i := (30, 0)) (k := 3) (x := some (33, 0)) cl_10 d_Mo_init_150 (by decide) wf_Mo_38 rfl rfl rfl rfl rfl rfl (by rw [hm60]; exact (List.mem_append_left _ hi0)) rfl (let M64 : MzM := mz_sr M63 (30, 0) 3 (some (33, 0)); have hw65 : mzWf B59 M64 := mzWf.sr hw62 (by rw [hm60]; exact (by simp)); (mz_aload_n d_Mo_init_153 rfl (mz_bipush (16 : Int32) d_Mo_init_154 (by decide) (mz_newaO (i := (34, 0)) (fty := .int) (n := 16) d_Mo_init_156 wa_int rfl rfl (by decide) (by decide) (by decide) hw65 (by rw [hm60]; exact (by simp [hf3])) rfl (Nat.le_of_ble_eq_true rfl) (Nat.le_of_ble_eq_true rfl) (fun B66 hmx had68 hw69 => have hm67 : mz_dm B66 = D ++ [(31, 0), (32, 0), (33, 0), (34, 0)] := (by rw [hmx, hm60]; exact List.append_assoc _ _ _); let M70 : MzM := mz_nm M64 (34, 0); MzS.cv (bu' := (26, 1193)) (lv' := [(0, .ref (mz_ad B66 (30, 0)))]) (st' := [.ref (mz_ad B66 (34, 0)), .ref (mz_ad B66 (30, 0))]) rfl (by first | (simp only [had68 (30, 0) (by rw [hm60]; exact (List.mem_append_left _ hi0))]; done) | (simp only [had68 (30, 0) (by rw [hm60]; exact (List.mem_append_left _ hi0))]; rfl)) (by first | (simp only [had68 (30, 0) (by rw [hm60]; exact (List.mem_append_left _ hi0))]; done) | (simp only [had68 (30, 0) (by rw [hm60]; exact (List.mem_append_left _ hi0))]; rfl)) (mz_putRF (i := (30, 0)) (k := 4) (x := some (34, 0)) cl_10 d_Mo_init_158 (by decide) wf_Mo_41 rfl rfl rfl rfl rfl rfl (by rw [hm67]; exact (List.mem_append_left _ hi0)) rfl (let M71 : MzM := mz_sr M70 (30, 0) 4 (some (34, 0)); have hw72 : mzWf B66 M71 := mzWf.sr hw69 (by rw [hm67]; exact (by simp)); (mz_aload_n d_Mo_init_161 rfl (mz_bipush (16 : Int32) d_Mo_init_162 (by decide) (mz_newaO (i := (35, 0)) (fty := .int) (n := 16) d_Mo_init_164 wa_int rfl rfl (by decide) (by decide) (by decide) hw72 (by rw [hm67]; exact (by simp [hf4])) rfl (Nat.le_of_ble_eq_true rfl) (Nat.le_of_ble_eq_true rfl) (fun B73 hmx had75 hw76 => have hm74 : mz_dm B73 = D ++ [(31, 0), (32, 0), (33, 0), (34, 0), (35, 0)] := (by rw [hmx, hm67]; exact List.append_assoc _ _ _); let M77 : MzM := mz_nm M71 (35, 0); MzS.cv (bu' := (25, 1177)) (lv' := [(0, .ref (mz_ad B73 (30, 0)))]) (st' := [.ref (mz_ad B73 (35, 0)), .ref (mz_ad B73 (30, 0))]) rfl (by first | (simp only [had75 (30, 0) (by rw [hm67]; exact (List.mem_append_left _ hi0))]; done) | (simp only [had75 (30, 0) (by rw [hm67]; exact (List.mem_append_left _ hi0))]; rfl)) (by first | (simp only [had75 (30, 0) (by rw [hm67]; exact (List.mem_append_left _ hi0))]; done) | (simp only [had75 (30, 0) (by rw [hm67]; exact (List.mem_append_left _ hi0))]; rfl)) (mz_putRF (i := (30, 0)) (k := 5) (x := some (35, 0)) cl_10 d_Mo_init_166 (by decide) wf_Mo_44 rfl rfl rfl rfl rfl rfl (by rw [hm74]; exact (List.mem_append_left _ hi0)) rfl (let M78 : MzM := mz_sr M77 (30, 0) 5 (some (35, 0)); have hw79 : mzWf B73 M78 := mzWf.sr hw76 (by rw [hm74]; exact (by simp)); (mz_aload_n d_Mo_init_169 rfl (mz_bipush (16 : Int32) d_Mo_init_170 (by decide) (mz_newaO (i := (36, 0)) (fty := .int) (n := 16) d_Mo_init_172 wa_int rfl rfl (by decide) (by decide) (by decide) hw79 (by rw [hm74]; exact (by simp [hf5])) rfl (Nat.le_of_ble_eq_true rfl) (Nat.le_of_ble_eq_true rfl) (fun B80 hmx had82 hw83 => have hm81 : mz_dm B80 = D ++ [(31, 0), (32, 0), (33, 0), (34, 0), (35, 0), (36, 0)] := (by rw [hmx, hm74]; exact List.append_assoc _ _ _); let M84 : MzM := mz_nm M78 (36, 0); MzS.cv (bu' := (24, 1161)) (lv' := [(0, .ref (mz_ad B80 (30, 0)))]) (st' := [.ref (mz_ad B80 (36, 0)), .ref (mz_ad B80 (30, 0))]) rfl (by first | (simp only [had82 (30, 0) (by rw [hm74]; exact (List.mem_append_left _ hi0))]; done) | (simp only [had82 (30, 0) (by rw [hm74]; exact (List.mem_append_left _ hi0))]; rfl)) (by first | (simp only [had82 (30, 0) (by rw [hm74]; exact (List.mem_append_left _ hi0))]; done) | (simp only [had82 (30, 0) (by rw [hm74]; exact (List.mem_append_left _ hi0))]; rfl)) (mz_putRF (i := (30, 0)) (k := 6) (x := some (36, 0)) cl_10 d_Mo_init_174 (by decide) wf_Mo_47 rfl rfl rfl rfl rfl rfl (by rw [hm81]; exact (List.mem_append_left _ hi0)) rfl (let M85 : MzM := mz_sr M84 (30, 0) 6 (some (36, 0)); have hw86 : mzWf B80 M85 := mzWf.sr hw83 (by rw [hm81]; exact (by simp)); (mz_aload_n d_Mo_init_177 rfl (mz_bipush (16 : Int32) d_Mo_init_178 (by decide) (mz_newaO (i := (37, 0)) (fty := .boolean) (n := 16) d_Mo_init_180 wa_boolean rfl rfl (by decide) (by decide) (by decide) hw86 (by rw [hm81]; exact (by simp [hf6])) rfl (Nat.le_of_ble_eq_true rfl) (Nat.le_of_ble_eq_true rfl) (fun B87 hmx had89 hw90 => have hm88 : mz_dm B87 = D ++ [(31, 0), (32, 0), (33, 0), (34, 0), (35, 0), (36, 0), (37, 0)] := (by rw [hmx, hm81]; exact List.append_assoc _ _ _); let M91 : MzM := mz_nm M85 (37, 0); MzS.cv (bu' := (23, 1145)) (lv' := [(0, .ref (mz_ad B87 (30, 0)))]) (st' := [.ref (mz_ad B87 (37, 0)), .ref (mz_ad B87 (30, 0))]) rfl (by first | (simp only [had89 (30, 0) (by rw [hm81]; exact (List.mem_append_left _ hi0))]; done) | (simp only [had89 (30, 0) (by rw [hm81]; exact (List.mem_append_left _ hi0))]; rfl)) (by first | (simp only [had89 (30, 0) (by rw [hm81]; exact (List.mem_append_left _ hi0))]; done) | (simp only [had89 (30, 0) (by rw [hm81]; exact (List.mem_append_left _ hi0))]; rfl)) (mz_putRF (i := (30, 0)) (k := 7) (x := some (37, 0)) cl_10 d_Mo_init_182 (by decide) wf_Mo_50 rfl rfl rfl rfl rfl rfl (by rw [hm88]; exact (List.mem_append_left _ hi0)) rfl (let M92 : MzM := mz_sr M91 (30, 0) 7 (some (37, 0)); have hw93 : mzWf B87 M92 := mzWf.sr hw90 (by rw [hm88]; exact (by simp)); (mz_aload_n d_Mo_init_185 rfl (mz_sipush (384 : Int32) d_Mo_init_186 (by decide) (mz_newaO (i := (38, 0)) (fty := .int) (n := 384) d_Mo_init_189 wa_int rfl rfl (by decide) (by decide) (by decide) hw93 (by rw [hm88]; exact (by simp [hf7])) rfl (Nat.le_of_ble_eq_true rfl) (Nat.le_of_ble_eq_true rfl) (fun B94 hmx had96 hw97 => have hm95 : mz_dm B94 = D ++ [(31, 0), (32, 0), (33, 0), (34, 0), (35, 0), (36, 0), (37, 0), (38, 0)] := (by rw [hmx, hm88]; exact List.append_assoc _ _ _); let M98 : MzM := mz_nm M92 (38, 0); MzS.cv (bu' := (22, 761)) (lv' := [(0, .ref (mz_ad B94 (30, 0)))]) (st' := [.ref (mz_ad B94 (38, 0)), .ref (mz_ad B94 (30, 0))]) rfl (by first | (simp only [had96 (30, 0) (by rw [hm88]; exact (List.mem_append_left _ hi0))]; done) | (simp only [had96 (30, 0) (by rw [hm88]; exact (List.mem_append_left _ hi0))]; rfl)) (by first | (simp only [had96 (30, 0) (by rw [hm88]; exact (List.mem_append_left _ hi0))]; done) | (simp only [had96 (30, 0) (by rw [hm88]; exact (List.mem_append_left _ hi0))]; rfl)) (mz_putRF (i := (30, 0)) (k := 8) (x := some (38, 0)) cl_10 d_Mo_init_191 (by decide) wf_Mo_53 rfl rfl rfl rfl rfl rfl (by rw [hm95]; exact (List.mem_append_left _ hi0)) rfl (let M99 : MzM := mz_sr M98 (30, 0) 8 (some (38, 0)); have hw100 : mzWf B94 M99 := mzWf.sr hw97 (by rw [hm95]; exact (by simp)); (mz_aload_n d_Mo_init_194 rfl (mz_iconst (2 : Int32) d_Mo_init_195 (by decide) (mz_newaO (i := (39, 0)) (fty := .int) (n := 2) d_Mo_init_196 wa_int rfl rfl (by decide) (by decide) (by decide) hw100 (by rw [hm95]; exact (by simp [hf8])) rfl (Nat.le_of_ble_eq_true rfl) (Nat.le_of_ble_eq_true rfl) (fun B101 hmx had103 hw104 => have hm102 : mz_dm B101 = D ++ [(31, 0), (32, 0), (33, 0), (34, 0), (35, 0), (36, 0), (37, 0), (38, 0), (39, 0)] := (by rw [hmx, hm95]; exact List.append_assoc _ _ _); let M105 : MzM := mz_nm M99 (39, 0); MzS.cv (bu' := (21, 759)) (lv' := [(0, .ref (mz_ad B101 (30, 0)))]) (st' := [.ref (mz_ad B101 (39, 0)), .ref (mz_ad B101 (30, 0))]) rfl (by first | (simp only [had103 (30, 0) (by rw [hm95]; exact (List.mem_append_left _ hi0))]; done) | (simp only [had103 (30, 0) (by rw [hm95]; exact (List.mem_append_left _ hi0))]; rfl)) (by first | (simp only [had103 (30, 0) (by rw [hm95]; exact (List.mem_append_left _ hi0))]; done) | (simp only [had103 (30, 0) (by rw [hm95]; exact (List.mem_append_left _ hi0))]; rfl)) (mz_putRF (i := (30, 0)) (k := 9) (x := some (39, 0)) cl_10 d_Mo_init_198 (by decide) wf_Mo_56 rfl rfl rfl rfl rfl rfl (by rw [hm102]; exact (List.mem_append_left _ hi0)) rfl (let M106 : MzM := mz_sr M105 (30, 0) 9 (some (39, 0)); have hw107 : mzWf B101 M106 := mzWf.sr hw104 (by rw [hm102]; exact (by simp)); (mz_aload_n d_Mo_init_201 rfl (mz_iconst (2 : Int32) d_Mo_init_202 (by decide) (mz_newaO (i := (40, 0)) (fty := .boolean) (n := 2) d_Mo_init_203 wa_boolean rfl rfl (by decide) (by decide) (by decide) hw107 (by rw [hm102]; exact (by simp [hf9])) rfl (Nat.le_of_ble_eq_true rfl) (Nat.le_of_ble_eq_true rfl) (fun B108 hmx had110 hw111 => have hm109 : mz_dm B108 = D ++ [(31, 0), (32, 0), (33, 0), (34, 0), (35, 0), (36, 0), (37, 0), (38, 0), (39, 0), (40, 0)] := (by rw [hmx, hm102]; exact List.append_assoc _ _ _); let M112 : MzM := mz_nm M106 (40, 0); MzS.cv (bu' := (20, 757)) (lv' := [(0, .ref (mz_ad B108 (30, 0)))]) (st' := [.ref (mz_ad B108 (40, 0)), .ref (mz_ad B108 (30, 0))]) rfl (by first | (simp only [had110 (30, 0) (by rw [hm102]; exact (List.mem_append_left _ hi0))]; done) | (simp only [had110 (30, 0) (by rw [hm102]; exact (List.mem_append_left _ hi0))]; rfl)) (by first | (simp only [had110 (30, 0) (by rw [hm102]; exact (List.mem_append_left _ hi0))]; done) | (simp only [had110 (30, 0) (by rw [hm102]; exact (List.mem_append_left _ hi0))]; rfl)) (mz_putRF (i := (30, 0)) (k := 10) (x := some (40, 0)) cl_10 d_Mo_init_205 (by decide) wf_Mo_59 rfl rfl rfl rfl rfl rfl (by rw [hm109]; exact (List.mem_append_left _ hi0)) rfl (let M113 : MzM := mz_sr M112 (30, 0) 10 (some (40, 0)); have hw114 : mzWf B108 M113 := mzWf.sr hw111 (by rw [hm109]; exact (by simp)); (mz_aload_n d_Mo_init_208 rfl (mz_iconst (2 : Int32) d_Mo_init_209 (by decide) (mz_newaO (i := (41, 0)) (fty := .int) (n := 2) d_Mo_init_210 wa_int rfl rfl (by decide) (by decide) (by decide) hw114 (by rw [hm109]; exact (by simp [hf10])) rfl (Nat.le_of_ble_eq_true rfl) (Nat.le_of_ble_eq_true rfl) (fun B115 hmx had117 hw118 => have hm116 : mz_dm B115 = D ++ [(31, 0), (32, 0), (33, 0), (34, 0), (35, 0), (36, 0), (37, 0), (38, 0), (39, 0), (40, 0), (41, 0)] := (by rw [hmx, hm109]; exact List.append_assoc _ _ _); let M119 : MzM := mz_nm M113 (41, 0); MzS.cv (bu' := (19, 755)) (lv' := [(0, .ref (mz_ad B115 (30, 0)))]) (st' := [.ref (mz_ad B115 (41, 0)), .ref (mz_ad B115 (30, 0))]) rfl (by first | (simp only [had117 (30, 0) (by rw [hm109]; exact (List.mem_append_left _ hi0))]; done) | (simp only [had117 (30, 0) (by rw [hm109]; exact (List.mem_append_left _ hi0))]; rfl)) (by first | (simp only [had117 (30, 0) (by rw [hm109]; exact (List.mem_append_left _ hi0))]; done) | (simp only [had117 (30, 0) (by rw [hm109]; exact (List.mem_append_left _ hi0))]; rfl)) (mz_putRF (i := (30, 0)) (k := 11) (x := some (41, 0)) cl_10 d_Mo_init_212 (by decide) wf_Mo_62 rfl rfl rfl rfl rfl rfl (by rw [hm116]; exact (List.mem_append_left _ hi0)) rfl (let M120 : MzM := mz_sr M119 (30, 0) 11 (some (41, 0)); have hw121 : mzWf B115 M120 := mzWf.sr hw118 (by rw [hm116]; exact (by simp)); (mz_aload_n d_Mo_init_215 rfl (mz_iconst (2 : Int32) d_Mo_init_216 (by decide) (mz_newaO (i := (42, 0)) (fty := .boolean) (n := 2) d_Mo_init_217 wa_boolean rfl rfl (by decide) (by decide) (by decide) hw121 (by rw [hm116]; exact (by simp [hf11])) rfl (Nat.le_of_ble_eq_true rfl) (Nat.le_of_ble_eq_true rfl) (fun B122 hmx had124 hw125 => have hm123 : mz_dm B122 = D ++ [(31, 0), (32, 0), (33, 0), (34, 0), (35, 0), (36, 0), (37, 0), (38, 0), (39, 0), (40, 0), (41, 0), (42, 0)] := (by rw [hmx, hm116]; exact List.append_assoc _ _ _); let M126 : MzM := mz_nm M120 (42, 0); MzS.cv (bu' := (18, 753)) (lv' := [(0, .ref (mz_ad B122 (30, 0)))]) (st' := [.ref (mz_ad B122 (42, 0)), .ref (mz_ad B122 (30, 0))]) rfl (by first | (simp only [had124 (30, 0) (by rw [hm116]; exact (List.mem_append_left _ hi0))]; done) | (simp only [had124 (30, 0) (by rw [hm116]; exact (List.mem_append_left _ hi0))]; rfl)) (by first | (simp only [had124 (30, 0) (by rw [hm116]; exact (List.mem_append_left _ hi0))]; done) | (simp only [had124 (30, 0) (by rw [hm116]; exact (List.mem_append_left _ hi0))]; rfl)) (mz_putRF (i := (30, 0)) (k := 12) (x := some (42, 0)) cl_10 d_Mo_init_219 (by decide) wf_Mo_65 rfl rfl rfl rfl rfl rfl (by rw [hm123]; exact (List.mem_append_left _ hi0)) rfl (let M127 : MzM := mz_sr M126 (30, 0) 12 (some (42, 0)); have hw128 : mzWf B122 M127 := mzWf.sr hw125 (by rw [hm123]; exact (by simp)); (mz_aload_n d_Mo_init_222 rfl (mz_bipush (60 : Int32) d_Mo_init_223 (by decide) (mz_newaO (i := (43, 0)) (fty := .int) (n := 60) d_Mo_init_225 wa_int rfl rfl (by decide) (by decide) (by decide) hw128 (by rw [hm123]; exact (by simp [hf12])) rfl (Nat.le_of_ble_eq_true rfl) (Nat.le_of_ble_eq_true rfl) (fun B129 hmx had131 hw132 => have hm130 : mz_dm B129 = D ++ [(31, 0), (32, 0), (33, 0), (34, 0), (35, 0), (36, 0), (37, 0), (38, 0), (39, 0), (40, 0), (41, 0), (42, 0), (43, 0)] := (by rw [hmx, hm123]; exact List.append_assoc _ _ _); let M133 : MzM := mz_nm M127 (43, 0); MzS.cv (bu' := (17, 693)) (lv' := [(0, .ref (mz_ad B129 (30, 0)))]) (st' := [.ref (mz_ad B129 (43, 0)), .ref (mz_ad B129 (30, 0))]) rfl (by first | (simp only [had131 (30, 0) (by rw [hm123]; exact (List.mem_append_left _ hi0))]; done) | (simp only [had131 (30, 0) (by rw [hm123]; exact (List.mem_append_left _ hi0))]; rfl)) (by first | (simp only [had131 (30, 0) (by rw [hm123]; exact (List.mem_append_left _ hi0))]; done) | (simp only [had131 (30, 0) (by rw [hm123]; exact (List.mem_append_left _ hi0))]; rfl)) (mz_putRF (i := (30, 0)) (k := 13) (x := some (43, 0)) cl_10 d_Mo_init_227 (by decide) wf_Mo_68 rfl rfl rfl rfl rfl rfl (by rw [hm130]; exact (List.mem_append_left _ hi0)) rfl (let M134 : MzM := mz_sr M133 (30, 0) 13 (some (43, 0)); have hw135 : mzWf B129 M134 := mzWf.sr hw132 (by rw [hm130]; exact (by simp)); (mz_aload_n d_Mo_init_230 rfl (mz_iconst (2 : Int32) d_Mo_init_231 (by decide) (mz_newaO (i := (44, 0)) (fty := .int) (n := 2) d_Mo_init_232 wa_int rfl rfl (by decide) (by decide) (by decide) hw135 (by rw [hm130]; exact (by simp [hf13])) rfl (Nat.le_of_ble_eq_true rfl) (Nat.le_of_ble_eq_true rfl) (fun B136 hmx had138 hw139 => have hm137 : mz_dm B136 = D ++ [(31, 0), (32, 0), (33, 0), (34, 0), (35, 0), (36, 0), (37, 0), (38, 0), (39, 0), (40, 0), (41, 0), (42, 0), (43, 0), (44, 0)] := (by rw [hmx, hm130]; exact List.append_assoc _ _ _); let M140 : MzM := mz_nm M134 (44, 0); MzS.cv (bu' := (16, 691)) (lv' := [(0, .ref (mz_ad B136 (30, 0)))]) (st' := [.ref (mz_ad B136 (44, 0)), .ref (mz_ad B136 (30, 0))]) rfl (by first | (simp only [had138 (30, 0) (by rw [hm130]; exact (List.mem_append_left _ hi0))]; done) | (simp only [had138 (30, 0) (by rw [hm130]; exact (List.mem_append_left _ hi0))]; rfl)) (by first | (simp only [had138 (30, 0) (by rw [hm130]; exact (List.mem_append_left _ hi0))]; done) | (simp only [had138 (30, 0) (by rw [hm130]; exact (List.mem_append_left _ hi0))]; rfl)) (mz_putRF (i := (30, 0)) (k := 14) (x := some (44, 0)) cl_10 d_Mo_init_234 (by decide) wf_Mo_71 rfl rfl rfl rfl rfl rfl (by rw [hm137]; exact (List.mem_append_left _ hi0)) rfl (let M141 : MzM := mz_sr M140 (30, 0) 14 (some (44, 0)); have hw142 : mzWf B136 M141 := mzWf.sr hw139 (by rw [hm137]; exact (by simp)); (mz_aload_n d_Mo_init_237 rfl (mz_sipush (400 : Int32) d_Mo_init_238 (by decide) (mz_newaO (i := (45, 0)) (fty := .int) (n := 400) d_Mo_init_241 wa_int rfl rfl (by decide) (by decide) (by decide) hw142 (by rw [hm137]; exact (by simp [hf14])) rfl (Nat.le_of_ble_eq_true rfl) (Nat.le_of_ble_eq_true rfl) (fun B143 hmx had145 hw146 => have hm144 : mz_dm B143 = D ++ [(31, 0), (32, 0), (33, 0), (34, 0), (35, 0), (36, 0), (37, 0), (38, 0), (39, 0), (40, 0), (41, 0), (42, 0), (43, 0), (44, 0), (45, 0)] := (by rw [hmx, hm137]; exact List.append_assoc _ _ _); let M147 : MzM := mz_nm M141 (45, 0); MzS.cv (bu' := (15, 291)) (lv' := [(0, .ref (mz_ad B143 (30, 0)))]) (st' := [.ref (mz_ad B143 (45, 0)), .ref (mz_ad B143 (30, 0))]) rfl (by first | (simp only [had145 (30, 0) (by rw [hm137]; exact (List.mem_append_left _ hi0))]; done) | (simp only [had145 (30, 0) (by rw [hm137]; exact (List.mem_append_left _ hi0))]; rfl)) (by first | (simp only [had145 (30, 0) (by rw [hm137]; exact (List.mem_append_left _ hi0))]; done) | (simp only [had145 (30, 0) (by rw [hm137]; exact (List.mem_append_left _ hi0))]; rfl)) (mz_putRF (i := (30, 0)) (k := 15) (x := some (45, 0)) cl_10 d_Mo_init_243 (by decide) wf_Mo_74 rfl rfl rfl rfl rfl rfl (by rw [hm144]; exact (List.mem_append_left _ hi0)) rfl (let M148 : MzM := mz_sr M147 (30, 0) 15 (some (45, 0)); have hw149 : mzWf B143 M148 := mzWf.sr hw146 (by rw [hm144]; exact (by simp)); (mz_aload_n d_Mo_init_246 rfl (mz_iconst (2 : Int32) d_Mo_init_247 (by decide) (mz_newaO (i := (46, 0)) (fty := .int) (n := 2) d_Mo_init_248 wa_int rfl rfl (by decide) (by decide) (by decide) hw149 (by rw [hm144]; exact (by simp [hf15])) rfl (Nat.le_of_ble_eq_true rfl) (Nat.le_of_ble_eq_true rfl) (fun B150 hmx had152 hw153 => have hm151 : mz_dm B150 = D ++ [(31, 0), (32, 0), (33, 0), (34, 0), (35, 0), (36, 0), (37, 0), (38, 0), (39, 0), (40, 0), (41, 0), (42, 0), (43, 0), (44, 0), (45, 0), (46, 0)] := (by rw [hmx, hm144]; exact List.append_assoc _ _ _); let M154 : MzM := mz_nm M148 (46, 0); MzS.cv (bu' := (14, 289)) (lv' := [(0, .ref (mz_ad B150 (30, 0)))]) (st' := [.ref (mz_ad B150 (46, 0)), .ref (mz_ad B150 (30, 0))]) rfl (by first | (simp only [had152 (30, 0) (by rw [hm144]; exact (List.mem_append_left _ hi0))]; done) | (simp only [had152 (30, 0) (by rw [hm144]; exact (List.mem_append_left _ hi0))]; rfl)) (by first | (simp only [had152 (30, 0) (by rw [hm144]; exact (List.mem_append_left _ hi0))]; done) | (simp only [had152 (30, 0) (by rw [hm144]; exact (List.mem_append_left _ hi0))]; rfl)) (mz_putRF (i := (30, 0)) (k := 16) (x := some (46, 0)) cl_10 d_Mo_init_250 (by decide) wf_Mo_77 rfl rfl rfl rfl rfl rfl (by rw [hm151]; exact (List.mem_append_left _ hi0)) rfl (let M155 : MzM := mz_sr M154 (30, 0) 16 (some (46, 0)); have hw156 : mzWf B150 M155 := mzWf.sr hw153 (by rw [hm151]; exact (by simp)); (mz_aload_n d_Mo_init_253 rfl (mz_iconst (2 : Int32) d_Mo_init_254 (by decide) (mz_newaO (i := (47, 0)) (fty := .int) (n := 2) d_Mo_init_255 wa_int rfl rfl (by decide) (by decide) (by decide) hw156 (by rw [hm151]; exact (by simp [hf16])) rfl (Nat.le_of_ble_eq_true rfl) (Nat.le_of_ble_eq_true rfl) (fun B157 hmx had159 hw160 => have hm158 : mz_dm B157 = D ++ [(31, 0), (32, 0), (33, 0), (34, 0), (35, 0), (36, 0), (37, 0), (38, 0), (39, 0), (40, 0), (41, 0), (42, 0), (43, 0), (44, 0), (45, 0), (46, 0), (47, 0)] := (by rw [hmx, hm151]; exact List.append_assoc _ _ _); let M161 : MzM := mz_nm M155 (47, 0); MzS.cv (bu' := (13, 287)) (lv' := [(0, .ref (mz_ad B157 (30, 0)))]) (st' := [.ref (mz_ad B157 (47, 0)), .ref (mz_ad B157 (30, 0))]) rfl (by first | (simp only [had159 (30, 0) (by rw [hm151]; exact (List.mem_append_left _ hi0))]; done) | (simp only [had159 (30, 0) (by rw [hm151]; exact (List.mem_append_left _ hi0))]; rfl)) (by first | (simp only [had159 (30, 0) (by rw [hm151]; exact (List.mem_append_left _ hi0))]; done) | (simp only [had159 (30, 0) (by rw [hm151]; exact (List.mem_append_left _ hi0))]; rfl)) (mz_putRF (i := (30, 0)) (k := 17) (x := some (47, 0)) cl_10 d_Mo_init_257 (by decide) wf_Mo_80 rfl rfl rfl rfl rfl rfl (by rw [hm158]; exact (List.mem_append_left _ hi0)) rfl (let M162 : MzM := mz_sr M161 (30, 0) 17 (some (47, 0)); have hw163 : mzWf B157 M162 := mzWf.sr hw160 (by rw [hm158]; exact (by simp)); (mz_aload_n d_Mo_init_260 rfl (mz_iconst (2 : Int32) d_Mo_init_261 (by decide) (mz_newaO (i := (48, 0)) (fty := .int) (n := 2) d_Mo_init_262 wa_int rfl rfl (by decide) (by decide) (by decide) hw163 (by rw [hm158]; exact (by simp [hf17])) rfl (Nat.le_of_ble_eq_true rfl) (Nat.le_of_ble_eq_true rfl) (fun B164 hmx had166 hw167 => have hm165 : mz_dm B164 = D ++ [(31, 0), (32, 0), (33, 0), (34, 0), (35, 0), (36, 0), (37, 0), (38, 0), (39, 0), (40, 0), (41, 0), (42, 0), (43, 0), (44, 0), (45, 0), (46, 0), (47, 0), (48, 0)] := (by rw [hmx, hm158]; exact List.append_assoc _ _ _); let M168 : MzM := mz_nm M162 (48, 0); MzS.cv (bu' := (12, 285)) (lv' := [(0, .ref (mz_ad B164 (30, 0)))]) (st' := [.ref (mz_ad B164 (48, 0)), .ref (mz_ad B164 (30, 0))]) rfl (by first | (simp only [had166 (30, 0) (by rw [hm158]; exact (List.mem_append_left _ hi0))]; done) | (simp only [had166 (30, 0) (by rw [hm158]; exact (List.mem_append_left _ hi0))]; rfl)) (by first | (simp only [had166 (30, 0) (by rw [hm158]; exact (List.mem_append_left _ hi0))]; done) | (simp only [had166 (30, 0) (by rw [hm158]; exact (List.mem_append_left _ hi0))]; rfl)) (mz_putRF (i := (30, 0)) (k := 18) (x := some (48, 0)) cl_10 d_Mo_init_264 (by decide) wf_Mo_83 rfl rfl rfl rfl rfl rfl (by rw [hm165]; exact (List.mem_append_left _ hi0)) rfl (let M169 : MzM := mz_sr M168 (30, 0) 18 (some (48, 0)); have hw170 : mzWf B164 M169 := mzWf.sr hw167 (by rw [hm165]; exact (by simp)); (mz_aload_n d_Mo_init_267 rfl (mz_iconst (2 : Int32) d_Mo_init_268 (by decide) (mz_newaO (i := (49, 0)) (fty := .int) (n := 2) d_Mo_init_269 wa_int rfl rfl (by decide) (by decide) (by decide) hw170 (by rw [hm165]; exact (by simp [hf18])) rfl (Nat.le_of_ble_eq_true rfl) (Nat.le_of_ble_eq_true rfl) (fun B171 hmx had173 hw174 => have hm172 : mz_dm B171 = D ++ [(31, 0), (32, 0), (33, 0), (34, 0), (35, 0), (36, 0), (37, 0), (38, 0), (39, 0), (40, 0), (41, 0), (42, 0), (43, 0), (44, 0), (45, 0), (46, 0), (47, 0), (48, 0), (49, 0)] := (by rw [hmx, hm165]; exact List.append_assoc _ _ _); let M175 : MzM := mz_nm M169 (49, 0); MzS.cv (bu' := (11, 283)) (lv' := [(0, .ref (mz_ad B171 (30, 0)))]) (st' := [.ref (mz_ad B171 (49, 0)), .ref (mz_ad B171 (30, 0))]) rfl (by first | (simp only [had173 (30, 0) (by rw [hm165]; exact (List.mem_append_left _ hi0))]; done) | (simp only [had173 (30, 0) (by rw [hm165]; exact (List.mem_append_left _ hi0))]; rfl)) (by first | (simp only [had173 (30, 0) (by rw [hm165]; exact (List.mem_append_left _ hi0))]; done) | (simp only [had173 (30, 0) (by rw [hm165]; exact (List.mem_append_left _ hi0))]; rfl)) (mz_putRF (i := (30, 0)) (k := 19) (x := some (49, 0)) cl_10 d_Mo_init_271 (by decide) wf_Mo_86 rfl rfl rfl rfl rfl rfl (by rw [hm172]; exact (List.mem_append_left _ hi0)) rfl (let M176 : MzM := mz_sr M175 (30, 0) 19 (some (49, 0)); have hw177 : mzWf B171 M176 := mzWf.sr hw174 (by rw [hm172]; exact (by simp)); (mz_aload_n d_Mo_init_274 rfl (mz_iconst (2 : Int32) d_Mo_init_275 (by decide) (mz_newaO (i := (50, 0)) (fty := .int) (n := 2) d_Mo_init_276 wa_int rfl rfl (by decide) (by decide) (by decide) hw177 (by rw [hm172]; exact (by simp [hf19])) rfl (Nat.le_of_ble_eq_true rfl) (Nat.le_of_ble_eq_true rfl) (fun B178 hmx had180 hw181 => have hm179 : mz_dm B178 = D ++ [(31, 0), (32, 0), (33, 0), (34, 0), (35, 0), (36, 0), (37, 0), (38, 0), (39, 0), (40, 0), (41, 0), (42, 0), (43, 0), (44, 0), (45, 0), (46, 0), (47, 0), (48, 0), (49, 0), (50, 0)] := (by rw [hmx, hm172]; exact List.append_assoc _ _ _); let M182 : MzM := mz_nm M176 (50, 0); MzS.cv (bu' := (10, 281)) (lv' := [(0, .ref (mz_ad B178 (30, 0)))]) (st' := [.ref (mz_ad B178 (50, 0)), .ref (mz_ad B178 (30, 0))]) rfl (by first | (simp only [had180 (30, 0) (by rw [hm172]; exact (List.mem_append_left _ hi0))]; done) | (simp only [had180 (30, 0) (by rw [hm172]; exact (List.mem_append_left _ hi0))]; rfl)) (by first | (simp only [had180 (30, 0) (by rw [hm172]; exact (List.mem_append_left _ hi0))]; done) | (simp only [had180 (30, 0) (by rw [hm172]; exact (List.mem_append_left _ hi0))]; rfl)) (mz_putRF (i := (30, 0)) (k := 20) (x := some (50, 0)) cl_10 d_Mo_init_278 (by decide) wf_Mo_89 rfl rfl rfl rfl rfl rfl (by rw [hm179]; exact (List.mem_append_left _ hi0)) rfl (let M183 : MzM := mz_sr M182 (30, 0) 20 (some (50, 0)); have hw184 : mzWf B178 M183 := mzWf.sr hw181 (by rw [hm179]; exact (by simp)); (mz_aload_n d_Mo_init_281 rfl (mz_iconst (2 : Int32) d_Mo_init_282 (by decide) (mz_newaO (i := (51, 0)) (fty := .boolean) (n := 2) d_Mo_init_283 wa_boolean rfl rfl (by decide) (by decide) (by decide) hw184 (by rw [hm179]; exact (by simp [hf20])) rfl (Nat.le_of_ble_eq_true rfl) (Nat.le_of_ble_eq_true rfl) (fun B185 hmx had187 hw188 => have hm186 : mz_dm B185 = D ++ [(31, 0), (32, 0), (33, 0), (34, 0), (35, 0), (36, 0), (37, 0), (38, 0), (39, 0), (40, 0), (41, 0), (42, 0), (43, 0), (44, 0), (45, 0), (46, 0), (47, 0), (48, 0), (49, 0), (50, 0), (51, 0)] := (by rw [hmx, hm179]; exact List.append_assoc _ _ _); let M189 : MzM := mz_nm M183 (51, 0); MzS.cv (bu' := (9, 279)) (lv' := [(0, .ref (mz_ad B185 (30, 0)))]) (st' := [.ref (mz_ad B185 (51, 0)), .ref (mz_ad B185 (30, 0))]) rfl (by first | (simp only [had187 (30, 0) (by rw [hm179]; exact (List.mem_append_left _ hi0))]; done) | (simp only [had187 (30, 0) (by rw [hm179]; exact (List.mem_append_left _ hi0))]; rfl)) (by first | (simp only [had187 (30, 0) (by rw [hm179]; exact (List.mem_append_left _ hi0))]; done) | (simp only [had187 (30, 0) (by rw [hm179]; exact (List.mem_append_left _ hi0))]; rfl)) (mz_putRF (i := (30, 0)) (k := 21) (x := some (51, 0)) cl_10 d_Mo_init_285 (by decide) wf_Mo_92 rfl rfl rfl rfl rfl rfl (by rw [hm186]; exact (List.mem_append_left _ hi0)) rfl (let M190 : MzM := mz_sr M189 (30, 0) 21 (some (51, 0)); have hw191 : mzWf B185 M190 := mzWf.sr hw188 (by rw [hm186]; exact (by simp)); (mz_aload_n d_Mo_init_288 rfl (mz_iconst (2 : Int32) d_Mo_init_289 (by decide) (mz_newaO (i := (52, 0)) (fty := .boolean) (n := 2) d_Mo_init_290 wa_boolean rfl rfl (by decide) (by decide) (by decide) hw191 (by rw [hm186]; exact (by simp [hf21])) rfl (Nat.le_of_ble_eq_true rfl) (Nat.le_of_ble_eq_true rfl) (fun B192 hmx had194 hw195 => have hm193 : mz_dm B192 = D ++ [(31, 0), (32, 0), (33, 0), (34, 0), (35, 0), (36, 0), (37, 0), (38, 0), (39, 0), (40, 0), (41, 0), (42, 0), (43, 0), (44, 0), (45, 0), (46, 0), (47, 0), (48, 0), (49, 0), (50, 0), (51, 0), (52, 0)] := (by rw [hmx, hm186]; exact List.append_assoc _ _ _); let M196 : MzM := mz_nm M190 (52, 0); MzS.cv (bu' := (8, 277)) (lv' := [(0, .ref (mz_ad B192 (30, 0)))]) (st' := [.ref (mz_ad B192 (52, 0)), .ref (mz_ad B192 (30, 0))]) rfl (by first | (simp only [had194 (30, 0) (by rw [hm186]; exact (List.mem_append_left _ hi0))]; done) | (simp only [had194 (30, 0) (by rw [hm186]; exact (List.mem_append_left _ hi0))]; rfl)) (by first | (simp only [had194 (30, 0) (by rw [hm186]; exact (List.mem_append_left _ hi0))]; done) | (simp only [had194 (30, 0) (by rw [hm186]; exact (List.mem_append_left _ hi0))]; rfl)) (mz_putRF (i := (30, 0)) (k := 22) (x := some (52, 0)) cl_10 d_Mo_init_292 (by decide) wf_Mo_95 rfl rfl rfl rfl rfl rfl (by rw [hm193]; exact (List.mem_append_left _ hi0)) rfl (let M197 : MzM := mz_sr M196 (30, 0) 22 (some (52, 0)); have hw198 : mzWf B192 M197 := mzWf.sr hw195 (by rw [hm193]; exact (by simp)); (mz_aload_n d_Mo_init_295 rfl (mz_iconst (2 : Int32) d_Mo_init_296 (by decide) (mz_newaO (i := (53, 0)) (fty := .int) (n := 2) d_Mo_init_297 wa_int rfl rfl (by decide) (by decide) (by decide) hw198 (by rw [hm193]; exact (by simp [hf22])) rfl (Nat.le_of_ble_eq_true rfl) (Nat.le_of_ble_eq_true rfl) (fun B199 hmx had201 hw202 => have hm200 : mz_dm B199 = D ++ [(31, 0), (32, 0), (33, 0), (34, 0), (35, 0), (36, 0), (37, 0), (38, 0), (39, 0), (40, 0), (41, 0), (42, 0), (43, 0), (44, 0), (45, 0), (46, 0), (47, 0), (48, 0), (49, 0), (50, 0), (51, 0), (52, 0), (53, 0)] := (by rw [hmx, hm193]; exact List.append_assoc _ _ _); let M203 : MzM := mz_nm M197 (53, 0); MzS.cv (bu' := (7, 275)) (lv' := [(0, .ref (mz_ad B199 (30, 0)))]) (st' := [.ref (mz_ad B199 (53, 0)), .ref (mz_ad B199 (30, 0))]) rfl (by first | (simp only [had201 (30, 0) (by rw [hm193]; exact (List.mem_append_left _ hi0))]; done) | (simp only [had201 (30, 0) (by rw [hm193]; exact (List.mem_append_left _ hi0))]; rfl)) (by first | (simp only [had201 (30, 0) (by rw [hm193]; exact (List.mem_append_left _ hi0))]; done) | (simp only [had201 (30, 0) (by rw [hm193]; exact (List.mem_append_left _ hi0))]; rfl)) (mz_putRF (i := (30, 0)) (k := 23) (x := some (53, 0)) cl_10 d_Mo_init_299 (by decide) wf_Mo_98 rfl rfl rfl rfl rfl rfl (by rw [hm200]; exact (List.mem_append_left _ hi0)) rfl (let M204 : MzM := mz_sr M203 (30, 0) 23 (some (53, 0)); have hw205 : mzWf B199 M204 := mzWf.sr hw202 (by rw [hm200]; exact (by simp)); (mz_aload_n d_Mo_init_302 rfl (mz_iconst (2 : Int32) d_Mo_init_303 (by decide) (mz_newaO (i := (54, 0)) (fty := .int) (n := 2) d_Mo_init_304 wa_int rfl rfl (by decide) (by decide) (by decide) hw205 (by rw [hm200]; exact (by simp [hf23])) rfl (Nat.le_of_ble_eq_true rfl) (Nat.le_of_ble_eq_true rfl) (fun B206 hmx had208 hw209 => have hm207 : mz_dm B206 = D ++ [(31, 0), (32, 0), (33, 0), (34, 0), (35, 0), (36, 0), (37, 0), (38, 0), (39, 0), (40, 0), (41, 0), (42, 0), (43, 0), (44, 0), (45, 0), (46, 0), (47, 0), (48, 0), (49, 0), (50, 0), (51, 0), (52, 0), (53, 0), (54, 0)] := (by rw [hmx, hm200]; exact List.append_assoc _ _ _); let M210 : MzM := mz_nm M204 (54, 0); MzS.cv (bu' := (6, 273)) (lv' := [(0, .ref (mz_ad B206 (30, 0)))]) (st' := [.ref (mz_ad B206 (54, 0)), .ref (mz_ad B206 (30, 0))]) rfl (by first | (simp only [had208 (30, 0) (by rw [hm200]; exact (List.mem_append_left _ hi0))]; done) | (simp only [had208 (30, 0) (by rw [hm200]; exact (List.mem_append_left _ hi0))]; rfl)) (by first | (simp only [had208 (30, 0) (by rw [hm200]; exact (List.mem_append_left _ hi0))]; done) | (simp only [had208 (30, 0) (by rw [hm200]; exact (List.mem_append_left _ hi0))]; rfl)) (mz_putRF (i := (30, 0)) (k := 24) (x := some (54, 0)) cl_10 d_Mo_init_306 (by decide) wf_Mo_101 rfl rfl rfl rfl rfl rfl (by rw [hm207]; exact (List.mem_append_left _ hi0)) rfl (let M211 : MzM := mz_sr M210 (30, 0) 24 (some (54, 0)); have hw212 : mzWf B206 M211 := mzWf.sr hw209 (by rw [hm207]; exact (by simp)); (mz_aload_n d_Mo_init_309 rfl (mz_iconst (2 : Int32) d_Mo_init_310 (by decide) (mz_newaO (i := (55, 0)) (fty := .boolean) (n := 2) d_Mo_init_311 wa_boolean rfl rfl (by decide) (by decide) (by decide) hw212 (by rw [hm207]; exact (by simp [hf24])) rfl (Nat.le_of_ble_eq_true rfl) (Nat.le_of_ble_eq_true rfl) (fun B213 hmx had215 hw216 => have hm214 : mz_dm B213 = D ++ [(31, 0), (32, 0), (33, 0), (34, 0), (35, 0), (36, 0), (37, 0), (38, 0), (39, 0), (40, 0), (41, 0), (42, 0), (43, 0), (44, 0), (45, 0), (46, 0), (47, 0), (48, 0), (49, 0), (50, 0), (51, 0), (52, 0), (53, 0), (54, 0), (55, 0)] := (by rw [hmx, hm207]; exact List.append_assoc _ _ _); let M217 : MzM := mz_nm M211 (55, 0); MzS.cv (bu' := (5, 271)) (lv' := [(0, .ref (mz_ad B213 (30, 0)))]) (st' := [.ref (mz_ad B213 (55, 0)), .ref (mz_ad B213 (30, 0))]) rfl (by first | (simp only [had215 (30, 0) (by rw [hm207]; exact (List.mem_append_left _ hi0))]; done) | (simp only [had215 (30, 0) (by rw [hm207]; exact (List.mem_append_left _ hi0))]; rfl)) (by first | (simp only [had215 (30, 0) (by rw [hm207]; exact (List.mem_append_left _ hi0))]; done) | (simp only [had215 (30, 0) (by rw [hm207]; exact (List.mem_append_left _ hi0))]; rfl)) (mz_putRF (i := (30, 0)) (k := 25) (x := some (55, 0)) cl_10 d_Mo_init_313 (by decide) wf_Mo_104 rfl rfl rfl rfl rfl rfl (by rw [hm214]; exact (List.mem_append_left _ hi0)) rfl (let M218 : MzM := mz_sr M217 (30, 0) 25 (some (55, 0)); have hw219 : mzWf B213 M218 := mzWf.sr hw216 (by rw [hm214]; exact (by simp)); (mz_aload_n d_Mo_init_316 rfl (mz_iconst (2 : Int32) d_Mo_init_317 (by decide) (mz_newaO (i := (56, 0)) (fty := .int) (n := 2) d_Mo_init_318 wa_int rfl rfl (by decide) (by decide) (by decide) hw219 (by rw [hm214]; exact (by simp [hf25])) rfl (Nat.le_of_ble_eq_true rfl) (Nat.le_of_ble_eq_true rfl) (fun B220 hmx had222 hw223 => have hm221 : mz_dm B220 = D ++ [(31, 0), (32, 0), (33, 0), (34, 0), (35, 0), (36, 0), (37, 0), (38, 0), (39, 0), (40, 0), (41, 0), (42, 0), (43, 0), (44, 0), (45, 0), (46, 0), (47, 0), (48, 0), (49, 0), (50, 0), (51, 0), (52, 0), (53, 0), (54, 0), (55, 0), (56, 0)] := (by rw [hmx, hm214]; exact List.append_assoc _ _ _); let M224 : MzM := mz_nm M218 (56, 0); MzS.cv (bu' := (4, 269)) (lv' := [(0, .ref (mz_ad B220 (30, 0)))]) (st' := [.ref (mz_ad B220 (56, 0)), .ref (mz_ad B220 (30, 0))]) rfl (by first | (simp only [had222 (30, 0) (by rw [hm214]; exact (List.mem_append_left _ hi0))]; done) | (simp only [had222 (30, 0) (by rw [hm214]; exact (List.mem_append_left _ hi0))]; rfl)) (by first | (simp only [had222 (30, 0) (by rw [hm214]; exact (List.mem_append_left _ hi0))]; done) | (simp only [had222 (30, 0) (by rw [hm214]; exact (List.mem_append_left _ hi0))]; rfl)) (mz_putRF (i := (30, 0)) (k := 26) (x := some (56, 0)) cl_10 d_Mo_init_320 (by decide) wf_Mo_107 rfl rfl rfl rfl rfl rfl (by rw [hm221]; exact (List.mem_append_left _ hi0)) rfl (let M225 : MzM := mz_sr M224 (30, 0) 26 (some (56, 0)); have hw226 : mzWf B220 M225 := mzWf.sr hw223 (by rw [hm221]; exact (by simp)); (mz_aload_n d_Mo_init_323 rfl (mz_iconst (2 : Int32) d_Mo_init_324 (by decide) (mz_newaO (i := (57, 0)) (fty := .int) (n := 2) d_Mo_init_325 wa_int rfl rfl (by decide) (by decide) (by decide) hw226 (by rw [hm221]; exact (by simp [hf26])) rfl (Nat.le_of_ble_eq_true rfl) (Nat.le_of_ble_eq_true rfl) (fun B227 hmx had229 hw230 => have hm228 : mz_dm B227 = D ++ [(31, 0), (32, 0), (33, 0), (34, 0), (35, 0), (36, 0), (37, 0), (38, 0), (39, 0), (40, 0), (41, 0), (42, 0), (43, 0), (44, 0), (45, 0), (46, 0), (47, 0), (48, 0), (49, 0), (50, 0), (51, 0), (52, 0), (53, 0), (54, 0), (55, 0), (56, 0), (57, 0)] := (by rw [hmx, hm221]; exact List.append_assoc _ _ _); let M231 : MzM := mz_nm M225 (57, 0); MzS.cv (bu' := (3, 267)) (lv' := [(0, .ref (mz_ad B227 (30, 0)))]) (st' := [.ref (mz_ad B227 (57, 0)), .ref (mz_ad B227 (30, 0))]) rfl (by first | (simp only [had229 (30, 0) (by rw [hm221]; exact (List.mem_append_left _ hi0))]; done) | (simp only [had229 (30, 0) (by rw [hm221]; exact (List.mem_append_left _ hi0))]; rfl)) (by first | (simp only [had229 (30, 0) (by rw [hm221]; exact (List.mem_append_left _ hi0))]; done) | (simp only [had229 (30, 0) (by rw [hm221]; exact (List.mem_append_left _ hi0))]; rfl)) (mz_putRF (i := (30, 0)) (k := 27) (x := some (57, 0)) cl_10 d_Mo_init_327 (by decide) wf_Mo_110 rfl rfl rfl rfl rfl rfl (by rw [hm228]; exact (List.mem_append_left _ hi0)) rfl (let M232 : MzM := mz_sr M231 (30, 0) 27 (some (57, 0)); have hw233 : mzWf B227 M232 := mzWf.sr hw230 (by rw [hm228]; exact (by simp)); (mz_aload_n d_Mo_init_330 rfl (mz_sipush (192 : Int32) d_Mo_init_331 (by decide) (mz_newaO (i := (58, 0)) (fty := .int) (n := 192) d_Mo_init_334 wa_int rfl rfl (by decide) (by decide) (by decide) hw233 (by rw [hm228]; exact (by simp [hf27])) rfl (Nat.le_of_ble_eq_true rfl) (Nat.le_of_ble_eq_true rfl) (fun B234 hmx had236 hw237 => have hm235 : mz_dm B234 = D ++ [(31, 0), (32, 0), (33, 0), (34, 0), (35, 0), (36, 0), (37, 0), (38, 0), (39, 0), (40, 0), (41, 0), (42, 0), (43, 0), (44, 0), (45, 0), (46, 0), (47, 0), (48, 0), (49, 0), (50, 0), (51, 0), (52, 0), (53, 0), (54, 0), (55, 0), (56, 0), (57, 0), (58, 0)] := (by rw [hmx, hm228]; exact List.append_assoc _ _ _); let M238 : MzM := mz_nm M232 (58, 0); MzS.cv (bu' := (2, 75)) (lv' := [(0, .ref (mz_ad B234 (30, 0)))]) (st' := [.ref (mz_ad B234 (58, 0)), .ref (mz_ad B234 (30, 0))]) rfl (by first | (simp only [had236 (30, 0) (by rw [hm228]; exact (List.mem_append_left _ hi0))]; done) | (simp only [had236 (30, 0) (by rw [hm228]; exact (List.mem_append_left _ hi0))]; rfl)) (by first | (simp only [had236 (30, 0) (by rw [hm228]; exact (List.mem_append_left _ hi0))]; done) | (simp only [had236 (30, 0) (by rw [hm228]; exact (List.mem_append_left _ hi0))]; rfl)) (mz_putRF (i := (30, 0)) (k := 28) (x := some (58, 0)) cl_10 d_Mo_init_336 (by decide) wf_Mo_113 rfl rfl rfl rfl rfl rfl (by rw [hm235]; exact (List.mem_append_left _ hi0)) rfl (let M239 : MzM := mz_sr M238 (30, 0) 28 (some (58, 0)); have hw240 : mzWf B234 M239 := mzWf.sr hw237 (by rw [hm235]; exact (by simp)); (mz_aload_n d_Mo_init_339 rfl (mz_iconst (3 : Int32) d_Mo_init_340 (by decide) (mz_newaO (i := (59, 0)) (fty := .int) (n := 3) d_Mo_init_341 wa_int rfl rfl (by decide) (by decide) (by decide) hw240 (by rw [hm235]; exact (by simp [hf28])) rfl (Nat.le_of_ble_eq_true rfl) (Nat.le_of_ble_eq_true rfl) (fun B241 hmx had243 hw244 => have hm242 : mz_dm B241 = D ++ [(31, 0), (32, 0), (33, 0), (34, 0), (35, 0), (36, 0), (37, 0), (38, 0), (39, 0), (40, 0), (41, 0), (42, 0), (43, 0), (44, 0), (45, 0), (46, 0), (47, 0), (48, 0), (49, 0), (50, 0), (51, 0), (52, 0), (53, 0), (54, 0), (55, 0), (56, 0), (57, 0), (58, 0), (59, 0)] := (by rw [hmx, hm235]; exact List.append_assoc _ _ _); let M245 : MzM := mz_nm M239 (59, 0); MzS.cv (bu' := (1, 72)) (lv' := [(0, .ref (mz_ad B241 (30, 0)))]) (st' := [.ref (mz_ad B241 (59, 0)), .ref (mz_ad B241 (30, 0))]) rfl (by first | (simp only [had243 (30, 0) (by rw [hm235]; exact (List.mem_append_left _ hi0))]; done) | (simp only [had243 (30, 0) (by rw [hm235]; exact (List.mem_append_left _ hi0))]; rfl)) (by first | (simp only [had243 (30, 0) (by rw [hm235]; exact (List.mem_append_left _ hi0))]; done) | (simp only [had243 (30, 0) (by rw [hm235]; exact (List.mem_append_left _ hi0))]; rfl)) (mz_putRF (i := (30, 0)) (k := 36) (x := some (59, 0)) cl_10 d_Mo_init_343 (by decide) wf_Mo_116 rfl rfl rfl rfl rfl rfl (by rw [hm242]; exact (List.mem_append_left _ hi0)) rfl (let M246 : MzM := mz_sr M245 (30, 0) 36 (some (59, 0)); have hw247 : mzWf B241 M246 := mzWf.sr hw244 (by rw [hm242]; exact (by simp)); (mz_aload_n d_Mo_init_346 rfl (mz_bipush (72 : Int32) d_Mo_init_347 (by decide) (mz_newaO (i := (60, 0)) (fty := .int) (n := 72) d_Mo_init_349 wa_int rfl rfl (by decide) (by decide) (by decide) hw247 (by rw [hm242]; exact (by simp [hf29])) rfl (Nat.le_of_ble_eq_true rfl) (Nat.le_of_ble_eq_true rfl) (fun B248 hmx had250 hw251 => have hm249 : mz_dm B248 = D ++ [(31, 0), (32, 0), (33, 0), (34, 0), (35, 0), (36, 0), (37, 0), (38, 0), (39, 0), (40, 0), (41, 0), (42, 0), (43, 0), (44, 0), (45, 0), (46, 0), (47, 0), (48, 0), (49, 0), (50, 0), (51, 0), (52, 0), (53, 0), (54, 0), (55, 0), (56, 0), (57, 0), (58, 0), (59, 0), (60, 0)] := (by rw [hmx, hm242]; exact List.append_assoc _ _ _); let M252 : MzM := mz_nm M246 (60, 0); MzS.cv (bu' := (0, 0)) (lv' := [(0, .ref (mz_ad B248 (30, 0)))]) (st' := [.ref (mz_ad B248 (60, 0)), .ref (mz_ad B248 (30, 0))]) rfl (by first | (simp only [had250 (30, 0) (by rw [hm242]; exact (List.mem_append_left _ hi0))]; done) | (simp only [had250 (30, 0) (by rw [hm242]; exact (List.mem_append_left _ hi0))]; rfl)) (by first | (simp only [had250 (30, 0) (by rw [hm242]; exact (List.mem_append_left _ hi0))]; done) | (simp only [had250 (30, 0) (by rw [hm242]; exact (List.mem_append_left _ hi0))]; rfl)) (mz_putRF (i := (30, 0)) (k := 37) (x := some (60, 0)) cl_10 d_Mo_init_351 (by decide) wf_Mo_119 rfl rfl rfl rfl rfl rfl (by rw [hm249]; exact (List.mem_append_left _ hi0)) rfl (let M253 : MzM := mz_sr M252 (30, 0) 37 (some (60, 0)); have hw254 : mzWf B248 M253 := mzWf.sr hw251 (by rw [hm249]; exact (by simp)); (mz_aload_n d_Mo_init_354 rfl (mz_getR (i := (30, 0)) (k := 2) (a := (32, 0)) cl_10 d_Mo_init_355 (by decide) wf_Mo_34 rfl (by rw [hm249]; exact (List.mem_append_left _ hi0)) rfl rfl (mz_iconst (0 : Int32) d_Mo_init_358 (by decide) (mz_iconst (1 : Int32) d_Mo_init_359 (by decide) (mz_zast (i := (32, 0)) 0 d_Mo_init_360 (by rw [hm249]; exact (by simp)) rfl (by decide) (by decide) (by decide) (let M255 : MzM := mz_si M253 (32, 0) 0 (1 : Int32); have hw256 : mzWf B248 M255 := hw254; (mz_aload_n d_Mo_init_361 rfl (mz_getR (i := (30, 0)) (k := 4) (a := (34, 0)) cl_10 d_Mo_init_362 (by decide) wf_Mo_41 rfl (by rw [hm249]; exact (List.mem_append_left _ hi0)) rfl rfl (mz_iconst (0 : Int32) d_Mo_init_365 (by decide) (mz_iconst (-1 : Int32) d_Mo_init_366 (by decide) (mz_iast (i := (34, 0)) 0 d_Mo_init_367 (by rw [hm249]; exact (by simp)) rfl (by decide) (by decide) (let M257 : MzM := mz_si M255 (34, 0) 0 (-1 : Int32); have hw258 : mzWf B248 M257 := hw256; (h B248 hm249 (fun j hj => ((had250 j (by rw [hm242]; rw [hm] at hj; exact List.mem_append_left _ hj)).trans ((had243 j (by rw [hm235]; rw [hm] at hj; exact List.mem_append_left _ hj)).trans ((had236 j (by rw [hm228]; rw [hm] at hj; exact List.mem_append_left _ hj)).trans ((had229 j (by rw [hm221]; rw [hm] at hj; exact List.mem_append_left _ hj)).trans ((had222 j (by rw [hm214]; rw [hm] at hj; exact List.mem_append_left _ hj)).trans ((had215 j (by rw [hm207]; rw [hm] at hj; exact List.mem_append_left _ hj)).trans ((had208 j (by rw [hm200]; rw [hm] at hj; exact List.mem_append_left _ hj)).trans ((had201 j (by rw [hm193]; rw [hm] at hj; exact List.mem_append_left _ hj)).trans ((had194 j (by rw [hm186]; rw [hm] at hj; exact List.mem_append_left _ hj)).trans ((had187 j (by rw [hm179]; rw [hm] at hj; exact List.mem_append_left _ hj)).trans ((had180 j (by rw [hm172]; rw [hm] at hj; exact List.mem_append_left _ hj)).trans ((had173 j (by rw [hm165]; rw [hm] at hj; exact List.mem_append_left _ hj)).trans ((had166 j (by rw [hm158]; rw [hm] at hj; exact List.mem_append_left _ hj)).trans ((had159 j (by rw [hm151]; rw [hm] at hj; exact List.mem_append_left _ hj)).trans ((had152 j (by rw [hm144]; rw [hm] at hj; exact List.mem_append_left _ hj)).trans ((had145 j (by rw [hm137]; rw [hm] at hj; exact List.mem_append_left _ hj)).trans ((had138 j (by rw [hm130]; rw [hm] at hj; exact List.mem_append_left _ hj)).trans ((had131 j (by rw [hm123]; rw [hm] at hj; exact List.mem_append_left _ hj)).trans ((had124 j (by rw [hm116]; rw [hm] at hj; exact List.mem_append_left _ hj)).trans ((had117 j (by rw [hm109]; rw [hm] at hj; exact List.mem_append_left _ hj)).trans ((had110 j (by rw [hm102]; rw [hm] at hj; exact List.mem_append_left _ hj)).trans ((had103 j (by rw [hm95]; rw [hm] at hj; exact List.mem_append_left _ hj)).trans ((had96 j (by rw [hm88]; rw [hm] at hj; exact List.mem_append_left _ hj)).trans ((had89 j (by rw [hm81]; rw [hm] at hj; exact List.mem_append_left _ hj)).trans ((had82 j (by rw [hm74]; rw [hm] at hj; exact List.mem_append_left _ hj)).trans ((had75 j (by rw [hm67]; rw [hm] at hj; exact List.mem_append_left _ hj)).trans ((had68 j (by rw [hm60]; rw [hm] at hj; exact List.mem_append_left _ hj)).trans ((had61 j (by rw [hm53]; rw [hm] at hj; exact List.mem_append_left _ hj)).trans ((had54 j (by rw [hm2]; rw [hm] at hj; exact List.mem_append_left _ hj)).trans (had3 j hj))))))))))))))))))))))))))))))) hw258)))))))))))))))))))))))))))))))))))))))))))))))))))))))))))))))))))))))))))))))))))))))))))))))))))))))))))))))))))))))))))))))))))))))))))))))))))))))))))))))))))))))))))))))))))))))))))))))))))))))))))))))))))))))))))))))))))))))))))))))))))))))))))))))))))))))))))))))))))))))))))))))))))))))))))))))))
end
section
abbrev MzJG : Type := (Launch → Prop) × (List Frame → Array Value → State → Nat → Nat → (Nat → Prop) → State → Prop)
def MzJ (Γ : MzJG) (G : MzG) (B : MzB) (d : Nat) (mm : MzT) (M : MzM) (bu : Nat × Nat) (pc : Nat) (lv : List (Nat × Value)) (st : List Value) : Prop :=
  ∀ (p : Program) (l : Launch) (e : Env) (mc ms : Nat) (s : State) (m : MethodId) (args : Array Value) (below : List Frame) (meth : Method) (c : Code) (A : Nat → Prop) (cells slots : Nat) (ls : Array Slot),
    Γ.1 l → c.exceptionTable.isEmpty = true → mzX mm p s m args meth c → lv_has ls mm.2.2.1 lv → mzI G B M A s s.heap [] → cells + bu.1 ≤ mc → slots + bu.2 ≤ ms →
    W p l e (mzRm d mc ms) s m args below meth c s.heap [] cells slots (Γ.2 below args s mc ms A) (F0 m pc ls st)
/-- a method that may throw -/
def mzGP (G : MzG) (Q : MzR → MzB → MzM → Prop) : MzJG := (fun l => l.stackTraces = false, fun below args s mc ms A t => ∃ o, t.status = .running ∧ Ended t below o ∧ mzQ G Q A args s o t ∧ ((∃ L, FrameEnd s o t L mc ms ∧ ∀ q ∈ L, A q.base) ∨ (∃ a, o = .threw a ∧ s.WarmedH t.vm ∧ s.sameButNew ({ t with vm := s.vm } : State) [] mc ms)))
/-- a method that only answers an int -/
def mzZQ (K : Int32 → Prop) : Array Value → State → Outcome → State → Prop := fun _ st oc t => ∃ v : Int32, oc = .returned (some (.int v)) ∧ K v ∧ t.heap = st.heap
def mzGZ (K : Int32 → Prop) : MzJG := (fun _ => True, fun below args s mc ms _ => MQ below (mzZQ K) args s mc ms (fun _ => False))
def MzCX (G : MzG) (B : MzB) (d : Nat) (mm : MzT) (av : List Value) (M : MzM) (bu : Nat × Nat) (Q : MzR → MzB → MzM → Prop) : Prop :=
  ∀ (l : Launch) (sz : Nat), l.stackTraces = false → MetFree l mm.1 (headSpec (mzWs mm) (mzRm d bu.1 bu.2)) (va_Pc av (mzPre G B M sz)) (fun _ _ _ _ _ => True) (fun a st o t => mzQ G Q (va_A (mz_w B M) sz) a st o t ∧ ((∃ L, FrameEnd st o t L bu.1 bu.2 ∧ ∀ q ∈ L, va_A (mz_w B M) sz q.base) ∨ (∃ x, o = .threw x ∧ st.WarmedH t.vm ∧ st.sameButNew ({ t with vm := st.vm } : State) [] bu.1 bu.2)))
def MzCp (G : MzG) (B : MzB) (d : Nat) (mm : MzT) (av : List Value) (M : MzM) (K : Int32 → Prop) : Prop :=
  ∀ (l : Launch) (sz : Nat), Met l mm.1 (mzWs mm) (mzRm d 0 0) (va_Pc av (mzPre G B M sz)) (mzZQ K) 0 0 (fun _ => False)
theorem mz_exc {mm : MzT} {args : Array Value} {s : State} {m : MethodId} {meth : Method} {c : Code} (hn : s.methodNamed? mm.1 = some m) (hm : s.vm.method? m = some meth) (hc : meth.code = some c) (h : (Cond.code mm.1 mm.2.1 mm.2.2.1 mm.2.2.2).before args s = true) : c.exceptionTable.isEmpty = true := by
  obtain ⟨meth', c', h1, h2, -, -, -, -, h7, -⟩ := Cond.code_spec hn h
  cases hm.symm.trans h1
  cases hc.symm.trans h2
  exact h7
theorem mz_codeOf {T : State} {m : MethodId} {c : Code} {below : List Frame} {meth : Method} (h : At T m c below) (hm : T.vm.method? m = some meth) : meth.code = some c := by
  have h1 := h.code
  rw [State.code?_eq, hm] at h1
  exact h1
set_option maxHeartbeats 4000000 in
theorem MzCX.of {G : MzG} {B : MzB} {d : Nat} {mm : MzT} {av : List Value} {M : MzM} {bu : Nat × Nat} {Q : MzR → MzB → MzM → Prop} (hpl : plainName mm.1.cls = true) (hlen : (lg_sl av).length ≤ mm.2.2.1) (h : MzJ (mzGP G Q) G B d mm M bu 0 (lv_args 0 av) []) : MzCX G B d mm av M bu Q := by
  intro l sz hst
  refine MetFree.of_bodyS (code := mm.2.1) (maxLocals := mm.2.2.1) (ret := mm.2.2.2) hpl ?_ ?_
  · intro args s m h hn
    obtain ⟨meth, c, h1, h2, h3, h4, h5, h6, -, -⟩ := Cond.code_spec hn (atoms_spec (ws := mzWs mm) h _ List.mem_cons_self)
    exact ⟨meth, c, h1, h2, h3, h4, h5, h6⟩
  · intro p e s m args below meth c s₁ B0 hml hP _
    obtain ⟨rfl, hsz, hPw, hK, hD0, hR⟩ := hP
    have hl := lv_entry av (n := mm.2.2.1) hlen
    have hh0 : s₁.heap = s.heap := by rw [B0.state]; rfl
    have hts := atoms_spec (ws := mzWs mm) B0.pre
    have hmc : meth.code = some c := mz_codeOf B0.here (by rw [B0.state]; exact B0.method)
    subst hsz
    rw [lg_entry_eq]
    obtain ⟨t, a1, o, b1, b2, b3, b4⟩ := h p l e bu.1 bu.2 s m _ below meth c (va_A (mz_w B M) s.heap.size) 0 0 _ hst (mz_exc B0.named B0.method hmc (hts _ List.mem_cons_self)) ⟨B0.exec, B0.bytes, hml, B0.returns, hts, findClass_of_methodNamed B0.named, B0.notSynchronized, (name_of_methodNamed B0.named B0.method).1⟩ hl ⟨hK, hPw, hD0.self, va_S.rf, fun q hq => Or.inr hq, hR⟩ (by omega) (by omega) s₁ hh0 (Stand.of_body B0)
    exact ⟨t, o, a1, b1, b2, b3, b4⟩
set_option maxHeartbeats 4000000 in
theorem MzCp.of {G : MzG} {B : MzB} {d : Nat} {mm : MzT} {av : List Value} {M : MzM} {K : Int32 → Prop} (hpl : plainName mm.1.cls = true) (hlen : (lg_sl av).length ≤ mm.2.2.1) (h : MzJ (mzGZ K) G B d mm M (0, 0) 0 (lv_args 0 av) []) : MzCp G B d mm av M K := by
  intro l sz
  refine Met.ofW (cc := mm.2.1) (maxL := mm.2.2.1) (ret := mm.2.2.2) hpl rfl ?_
  intro p e s m args below meth c s₁ B0 hml hv
  obtain ⟨rfl, hsz, hP, hK, hD0, hR⟩ := hv
  have hl := lv_entry av (n := mm.2.2.1) hlen
  have hts := atoms_spec (ws := mzWs mm) B0.pre
  have hmc : meth.code = some c := mz_codeOf B0.here (by rw [B0.state]; exact B0.method)
  rw [lg_entry_eq]
  subst hsz
  exact h p l e 0 0 s m _ below meth c (va_A (mz_w B M) s.heap.size) 0 0 _ trivial (mz_exc B0.named B0.method hmc (hts _ List.mem_cons_self)) ⟨B0.exec, B0.bytes, hml, B0.returns, hts, findClass_of_methodNamed B0.named, B0.notSynchronized, (name_of_methodNamed B0.named B0.method).1⟩ hl ⟨hK, hP, hD0.self, va_S.rf, fun q hq => Or.inr hq, hR⟩ (by omega) (by omega)
theorem MzCp.mono {G : MzG} {B : MzB} {d : Nat} {mm : MzT} {av : List Value} {M : MzM} {K K' : Int32 → Prop} (h : MzCp G B d mm av M K) (hK : ∀ v, K v → K' v) : MzCp G B d mm av M K' := by
  intro l sz
  refine MetFree.mono (h l sz) (fun _ _ h => h) (fun _ _ _ _ _ h => h) ?_
  intro a st o t _ h1
  obtain ⟨⟨v, q1, q2, q3⟩, q5⟩ := h1
  exact ⟨⟨v, q1, hK v q2, q3⟩, q5⟩
def mzX0 (g : Bool) (B : MzB) (K : MzM → Prop) (KX : String → MzM → Prop) : MzR → MzB → MzM → Prop := fun r B' M' => B = B' ∧ mzLnk g M' ∧ ((r = .inl none ∧ K M') ∨ ∃ X, r = .inr X ∧ KX X M')
def mzX1 (g : Bool) (B : MzB) (K : Int32 → MzM → Prop) (KX : String → MzM → Prop) : MzR → MzB → MzM → Prop := fun r B' M' => B = B' ∧ mzLnk g M' ∧ ((∃ v : Int32, r = .inl (some (.int v)) ∧ K v M') ∨ ∃ X, r = .inr X ∧ KX X M')
section MzJRules
variable {Γ : MzJG} {G : MzG} {B : MzB} {d : Nat} {mm : MzT} {M : MzM} {bu : Nat × Nat} {pc : Nat} {lv : List (Nat × Value)} {st : List Value}
theorem MzJ.ofS {Q : MzR → MzB → MzM → Prop} (h : MzS G B d mm M bu Q pc lv st) : MzJ (mzGP G Q) G B d mm M bu pc lv st := by
  intro p l e mc ms s m args below meth c A cells slots ls hg hex hX hl hI c1 c2 T hT X
  obtain ⟨t, a1, o, b1, b2, b3, b4⟩ := h p l e mc ms s m args below meth c A s.heap [] cells slots ls hX hl hI c1 c2 T hT X
  exact ⟨t, a1, o, b1, b2, b3, Or.inl b4⟩
theorem MzJ.loc (lv' : List (Nat × Value)) (hs : mzSub lv lv') (h : MzJ Γ G B d mm M bu pc lv' st) : MzJ Γ G B d mm M bu pc lv st :=
  fun p l e mc ms s m args below meth c A cells slots ls hg hex hX hl hI c1 c2 => h p l e mc ms s m args below meth c A cells slots ls hg hex hX ⟨hl.1, hl.2.1, fun q hq => hl.2.2 q (mz_lk_mem (mzSub_all hs q hq))⟩ hI c1 c2
theorem mj_iconst {n : Int} (v : Int32) (hd : decode mm.2.1 pc = .ok (.iconst n, 1)) (hv : Int32.ofInt n = v) (h : MzJ Γ G B d mm M bu (pc + 1) lv (.int v :: st)) : MzJ Γ G B d mm M bu pc lv st :=
  fun p l e mc ms s m args below meth c A cells slots ls hg hex hX hl hI c1 c2 => lv_iconst hX.1 hX.2.1 hd hv (h p l e mc ms s m args below meth c A cells slots ls hg hex hX hl hI c1 c2)
theorem mj_bipush {n : Int} (v : Int32) (hd : decode mm.2.1 pc = .ok (.bipush n, 2)) (hv : (Int8.ofInt n).toInt32 = v) (h : MzJ Γ G B d mm M bu (pc + 2) lv (.int v :: st)) : MzJ Γ G B d mm M bu pc lv st :=
  fun p l e mc ms s m args below meth c A cells slots ls hg hex hX hl hI c1 c2 => lv_bipush hX.1 hX.2.1 hd hv (h p l e mc ms s m args below meth c A cells slots ls hg hex hX hl hI c1 c2)
theorem mj_sipush {n : Int} (v : Int32) (hd : decode mm.2.1 pc = .ok (.sipush n, 3)) (hv : (Int16.ofInt n).toInt32 = v) (h : MzJ Γ G B d mm M bu (pc + 3) lv (.int v :: st)) : MzJ Γ G B d mm M bu pc lv st :=
  fun p l e mc ms s m args below meth c A cells slots ls hg hex hX hl hI c1 c2 => lv_sipush hX.1 hX.2.1 hd hv (h p l e mc ms s m args below meth c A cells slots ls hg hex hX hl hI c1 c2)
theorem mj_idiv {x y : Int32} (hd : decode mm.2.1 pc = .ok (.idiv, 1)) (hne : ¬ y = 0) (h : MzJ Γ G B d mm M bu (pc + 1) lv (.int (x / y) :: st)) : MzJ Γ G B d mm M bu pc lv (.int y :: .int x :: st) :=
  fun p l e mc ms s m args below meth c A cells slots ls hg hex hX hl hI c1 c2 => lv_idiv hX.1 hX.2.1 hd hne (h p l e mc ms s m args below meth c A cells slots ls hg hex hX hl hI c1 c2)
theorem mj_irem {x y : Int32} (hd : decode mm.2.1 pc = .ok (.irem, 1)) (hne : ¬ y = 0) (h : MzJ Γ G B d mm M bu (pc + 1) lv (.int (x - x / y * y) :: st)) : MzJ Γ G B d mm M bu pc lv (.int y :: .int x :: st) :=
  fun p l e mc ms s m args below meth c A cells slots ls hg hex hX hl hI c1 c2 => lv_irem hX.1 hX.2.1 hd hne (h p l e mc ms s m args below meth c A cells slots ls hg hex hX hl hI c1 c2)
theorem mj_iload_n {k : Fin 4} {x : Int32} (hd : decode mm.2.1 pc = .ok (.iload_n k, 1)) (hk : mz_lk lv k.val = some (.int x)) (h : MzJ Γ G B d mm M bu (pc + 1) lv ((.int x) :: st)) : MzJ Γ G B d mm M bu pc lv st :=
  fun p l e mc ms s m args below meth c A cells slots ls hg hex hX hl hI c1 c2 => lv_iload_n hX.1 hX.2.1 hd rfl (mz_lk_at hl hk) (h p l e mc ms s m args below meth c A cells slots ls hg hex hX hl hI c1 c2)
theorem mj_iload {k : Nat} {x : Int32} (hd : decode mm.2.1 pc = .ok (.iload k, 2)) (hk : mz_lk lv k = some (.int x)) (h : MzJ Γ G B d mm M bu (pc + 2) lv ((.int x) :: st)) : MzJ Γ G B d mm M bu pc lv st :=
  fun p l e mc ms s m args below meth c A cells slots ls hg hex hX hl hI c1 c2 => lv_iload hX.1 hX.2.1 hd (mz_lk_at hl hk) (h p l e mc ms s m args below meth c A cells slots ls hg hex hX hl hI c1 c2)
theorem mj_aload_n {k : Fin 4} {x : Nat} (hd : decode mm.2.1 pc = .ok (.aload_n k, 1)) (hk : mz_lk lv k.val = some (.ref x)) (h : MzJ Γ G B d mm M bu (pc + 1) lv ((.ref x) :: st)) : MzJ Γ G B d mm M bu pc lv st :=
  fun p l e mc ms s m args below meth c A cells slots ls hg hex hX hl hI c1 c2 => lv_aload_n hX.1 hX.2.1 hd rfl (mz_lk_at hl hk) (h p l e mc ms s m args below meth c A cells slots ls hg hex hX hl hI c1 c2)
theorem mj_istore_n {k : Fin 4} {x : Int32} (hd : decode mm.2.1 pc = .ok (.istore_n k, 1)) (hn : k.val < mm.2.2.1) (h : MzJ Γ G B d mm M bu (pc + 1) (mz_st lv k.val (.int x)) st) : MzJ Γ G B d mm M bu pc lv ((.int x) :: st) :=
  fun p l e mc ms s m args below meth c A cells slots ls hg hex hX hl hI c1 c2 => lv_istore_n hX.1 hX.2.1 hd rfl hl hn rfl (fun ls' hl' => h p l e mc ms s m args below meth c A cells slots ls' hg hex hX hl' hI c1 c2)
theorem mj_iinc {i : Nat} {n : Int} {x : Int32} (v : Int32) (hd : decode mm.2.1 pc = .ok (.iinc i n, 3)) (hk : mz_lk lv i = some (.int x)) (hn : i < mm.2.2.1) (hv : x + Int32.ofInt n = v) (h : MzJ Γ G B d mm M bu (pc + 3) (mz_st lv i (.int v)) st) : MzJ Γ G B d mm M bu pc lv st := by
  intro p l e mc ms s m args below meth c A cells slots ls hg hex hX hl hI c1 c2
  obtain ⟨k, hk'⟩ := List.getElem?_of_mem (mz_lk_mem hk)
  exact lv_iinc hX.1 hX.2.1 hd hl hk' hv hn rfl (fun ls' hl' => h p l e mc ms s m args below meth c A cells slots ls' hg hex hX hl' hI c1 c2)
theorem mj_if_eq {x : Int32} {off : Int} (tgt : Nat) (hd : decode mm.2.1 pc = .ok (.ifCond .eq off, 3)) (ht : (pc : Int) + off = (tgt : Int)) (kt : x = 0 → MzJ Γ G B d mm M bu tgt lv st) (kf : ¬ x = 0 → MzJ Γ G B d mm M bu (pc + 3) lv st) : MzJ Γ G B d mm M bu pc lv (.int x :: st) :=
  fun p l e mc ms s m args below meth c A cells slots ls hg hex hX hl hI c1 c2 => lv_if_eq hX.1 hX.2.1 hd ht (fun hc => kt hc p l e mc ms s m args below meth c A cells slots ls hg hex hX hl hI c1 c2) (fun hc => kf hc p l e mc ms s m args below meth c A cells slots ls hg hex hX hl hI c1 c2)
theorem mj_if_lt {x : Int32} {off : Int} (tgt : Nat) (hd : decode mm.2.1 pc = .ok (.ifCond .lt off, 3)) (ht : (pc : Int) + off = (tgt : Int)) (kt : x < 0 → MzJ Γ G B d mm M bu tgt lv st) (kf : ¬ x < 0 → MzJ Γ G B d mm M bu (pc + 3) lv st) : MzJ Γ G B d mm M bu pc lv (.int x :: st) :=
  fun p l e mc ms s m args below meth c A cells slots ls hg hex hX hl hI c1 c2 => lv_if_lt hX.1 hX.2.1 hd ht (fun hc => kt hc p l e mc ms s m args below meth c A cells slots ls hg hex hX hl hI c1 c2) (fun hc => kf hc p l e mc ms s m args below meth c A cells slots ls hg hex hX hl hI c1 c2)
theorem mj_if_ge {x : Int32} {off : Int} (tgt : Nat) (hd : decode mm.2.1 pc = .ok (.ifCond .ge off, 3)) (ht : (pc : Int) + off = (tgt : Int)) (kt : 0 ≤ x → MzJ Γ G B d mm M bu tgt lv st) (kf : ¬ 0 ≤ x → MzJ Γ G B d mm M bu (pc + 3) lv st) : MzJ Γ G B d mm M bu pc lv (.int x :: st) :=
  fun p l e mc ms s m args below meth c A cells slots ls hg hex hX hl hI c1 c2 => lv_if_ge hX.1 hX.2.1 hd ht (fun hc => kt hc p l e mc ms s m args below meth c A cells slots ls hg hex hX hl hI c1 c2) (fun hc => kf hc p l e mc ms s m args below meth c A cells slots ls hg hex hX hl hI c1 c2)
theorem mj_if_gt {x : Int32} {off : Int} (tgt : Nat) (hd : decode mm.2.1 pc = .ok (.ifCond .gt off, 3)) (ht : (pc : Int) + off = (tgt : Int)) (kt : 0 < x → MzJ Γ G B d mm M bu tgt lv st) (kf : ¬ 0 < x → MzJ Γ G B d mm M bu (pc + 3) lv st) : MzJ Γ G B d mm M bu pc lv (.int x :: st) :=
  fun p l e mc ms s m args below meth c A cells slots ls hg hex hX hl hI c1 c2 => lv_if_gt hX.1 hX.2.1 hd ht (fun hc => kt hc p l e mc ms s m args below meth c A cells slots ls hg hex hX hl hI c1 c2) (fun hc => kf hc p l e mc ms s m args below meth c A cells slots ls hg hex hX hl hI c1 c2)
theorem mj_if_le {x : Int32} {off : Int} (tgt : Nat) (hd : decode mm.2.1 pc = .ok (.ifCond .le off, 3)) (ht : (pc : Int) + off = (tgt : Int)) (kt : x ≤ 0 → MzJ Γ G B d mm M bu tgt lv st) (kf : ¬ x ≤ 0 → MzJ Γ G B d mm M bu (pc + 3) lv st) : MzJ Γ G B d mm M bu pc lv (.int x :: st) :=
  fun p l e mc ms s m args below meth c A cells slots ls hg hex hX hl hI c1 c2 => lv_if_le hX.1 hX.2.1 hd ht (fun hc => kt hc p l e mc ms s m args below meth c A cells slots ls hg hex hX hl hI c1 c2) (fun hc => kf hc p l e mc ms s m args below meth c A cells slots ls hg hex hX hl hI c1 c2)
theorem mj_if_ne {x : Int32} {off : Int} (tgt : Nat) (hd : decode mm.2.1 pc = .ok (.ifCond .ne off, 3)) (ht : (pc : Int) + off = (tgt : Int)) (kt : ¬ x = 0 → MzJ Γ G B d mm M bu tgt lv st) (kf : x = 0 → MzJ Γ G B d mm M bu (pc + 3) lv st) : MzJ Γ G B d mm M bu pc lv (.int x :: st) :=
  fun p l e mc ms s m args below meth c A cells slots ls hg hex hX hl hI c1 c2 => lv_if_ne hX.1 hX.2.1 hd ht (fun hc => kt hc p l e mc ms s m args below meth c A cells slots ls hg hex hX hl hI c1 c2) (fun hc => kf hc p l e mc ms s m args below meth c A cells slots ls hg hex hX hl hI c1 c2)
theorem mj_icmp_eq {x y : Int32} {off : Int} (tgt : Nat) (hd : decode mm.2.1 pc = .ok (.if_icmp .eq off, 3)) (ht : (pc : Int) + off = (tgt : Int)) (kt : x = y → MzJ Γ G B d mm M bu tgt lv st) (kf : ¬ x = y → MzJ Γ G B d mm M bu (pc + 3) lv st) : MzJ Γ G B d mm M bu pc lv (.int y :: .int x :: st) :=
  fun p l e mc ms s m args below meth c A cells slots ls hg hex hX hl hI c1 c2 => lv_icmp_eq hX.1 hX.2.1 hd ht (fun hc => kt hc p l e mc ms s m args below meth c A cells slots ls hg hex hX hl hI c1 c2) (fun hc => kf hc p l e mc ms s m args below meth c A cells slots ls hg hex hX hl hI c1 c2)
theorem mj_icmp_lt {x y : Int32} {off : Int} (tgt : Nat) (hd : decode mm.2.1 pc = .ok (.if_icmp .lt off, 3)) (ht : (pc : Int) + off = (tgt : Int)) (kt : x < y → MzJ Γ G B d mm M bu tgt lv st) (kf : ¬ x < y → MzJ Γ G B d mm M bu (pc + 3) lv st) : MzJ Γ G B d mm M bu pc lv (.int y :: .int x :: st) :=
  fun p l e mc ms s m args below meth c A cells slots ls hg hex hX hl hI c1 c2 => lv_icmp_lt hX.1 hX.2.1 hd ht (fun hc => kt hc p l e mc ms s m args below meth c A cells slots ls hg hex hX hl hI c1 c2) (fun hc => kf hc p l e mc ms s m args below meth c A cells slots ls hg hex hX hl hI c1 c2)
theorem mj_icmp_ge {x y : Int32} {off : Int} (tgt : Nat) (hd : decode mm.2.1 pc = .ok (.if_icmp .ge off, 3)) (ht : (pc : Int) + off = (tgt : Int)) (kt : y ≤ x → MzJ Γ G B d mm M bu tgt lv st) (kf : ¬ y ≤ x → MzJ Γ G B d mm M bu (pc + 3) lv st) : MzJ Γ G B d mm M bu pc lv (.int y :: .int x :: st) :=
  fun p l e mc ms s m args below meth c A cells slots ls hg hex hX hl hI c1 c2 => lv_icmp_ge hX.1 hX.2.1 hd ht (fun hc => kt hc p l e mc ms s m args below meth c A cells slots ls hg hex hX hl hI c1 c2) (fun hc => kf hc p l e mc ms s m args below meth c A cells slots ls hg hex hX hl hI c1 c2)
theorem mj_icmp_gt {x y : Int32} {off : Int} (tgt : Nat) (hd : decode mm.2.1 pc = .ok (.if_icmp .gt off, 3)) (ht : (pc : Int) + off = (tgt : Int)) (kt : y < x → MzJ Γ G B d mm M bu tgt lv st) (kf : ¬ y < x → MzJ Γ G B d mm M bu (pc + 3) lv st) : MzJ Γ G B d mm M bu pc lv (.int y :: .int x :: st) :=
  fun p l e mc ms s m args below meth c A cells slots ls hg hex hX hl hI c1 c2 => lv_icmp_gt hX.1 hX.2.1 hd ht (fun hc => kt hc p l e mc ms s m args below meth c A cells slots ls hg hex hX hl hI c1 c2) (fun hc => kf hc p l e mc ms s m args below meth c A cells slots ls hg hex hX hl hI c1 c2)
theorem mj_icmp_le {x y : Int32} {off : Int} (tgt : Nat) (hd : decode mm.2.1 pc = .ok (.if_icmp .le off, 3)) (ht : (pc : Int) + off = (tgt : Int)) (kt : x ≤ y → MzJ Γ G B d mm M bu tgt lv st) (kf : ¬ x ≤ y → MzJ Γ G B d mm M bu (pc + 3) lv st) : MzJ Γ G B d mm M bu pc lv (.int y :: .int x :: st) :=
  fun p l e mc ms s m args below meth c A cells slots ls hg hex hX hl hI c1 c2 => lv_icmp_le hX.1 hX.2.1 hd ht (fun hc => kt hc p l e mc ms s m args below meth c A cells slots ls hg hex hX hl hI c1 c2) (fun hc => kf hc p l e mc ms s m args below meth c A cells slots ls hg hex hX hl hI c1 c2)
theorem mj_icmp_ne {x y : Int32} {off : Int} (tgt : Nat) (hd : decode mm.2.1 pc = .ok (.if_icmp .ne off, 3)) (ht : (pc : Int) + off = (tgt : Int)) (kt : ¬ x = y → MzJ Γ G B d mm M bu tgt lv st) (kf : x = y → MzJ Γ G B d mm M bu (pc + 3) lv st) : MzJ Γ G B d mm M bu pc lv (.int y :: .int x :: st) :=
  fun p l e mc ms s m args below meth c A cells slots ls hg hex hX hl hI c1 c2 => lv_icmp_ne hX.1 hX.2.1 hd ht (fun hc => kt hc p l e mc ms s m args below meth c A cells slots ls hg hex hX hl hI c1 c2) (fun hc => kf hc p l e mc ms s m args below meth c A cells slots ls hg hex hX hl hI c1 c2)
theorem mj_goto {off : Int} (tgt : Nat) (hd : decode mm.2.1 pc = .ok (.goto off, 3)) (ht : (pc : Int) + off = (tgt : Int)) (h : MzJ Γ G B d mm M bu tgt lv st) : MzJ Γ G B d mm M bu pc lv st :=
  fun p l e mc ms s m args below meth c A cells slots ls hg hex hX hl hI c1 c2 => lv_goto hX.1 hX.2.1 hd ht (h p l e mc ms s m args below meth c A cells slots ls hg hex hX hl hI c1 c2)
theorem mj_ldc {idx : Nat} {v : Int32} (hd : decode mm.2.1 pc = .ok (.ldc idx, 2)) (hw : Jvm.Cond.constant mm.1.cls idx v ∈ mzAll) (h : MzJ Γ G B d mm M bu (pc + 2) lv (.int v :: st)) : MzJ Γ G B d mm M bu pc lv st :=
  fun p l e mc ms s m args below meth c A cells slots ls hg hex hX hl hI c1 c2 => lv_ldc hX.1 hX.2.1 hX.2.2.2.2.2.1 (hX.2.2.2.2.1 _ (List.mem_cons_of_mem _ hw)) hd (h p l e mc ms s m args below meth c A cells slots ls hg hex hX hl hI c1 c2)
theorem mj_iretZ {K : Int32 → Prop} {v : Int32} (ty : FieldType) (hd : decode mm.2.1 pc = .ok (.ireturn, 1)) (hr : mm.2.2.2 = some ty) (hn : narrow ty (.int v) = .int v) (h : K v) : MzJ (mzGZ K) G B d mm M (0, 0) pc lv [.int v] := by
  intro p l e mc ms s m args below meth c A cells slots ls hg hex hX hl hI c1 c2
  have hlocks : meth.locks = false := hX.2.2.2.2.2.2.1
  refine W.widen (k := mc) (n := ms) (by omega) (by omega) ?_
  exact W.zret (Qc := mzZQ K) (free := fun _ => False) (locs := []) hX.1 hX.2.1 (hX.2.2.2.1.trans hr) hn (fun t ht hW => ⟨v, rfl, h, ht⟩) (fun q hq => by cases hq) hd hlocks
theorem mj_getV {i : MzL} {ci k idx N : Nat} {C : String} {T : u_T} {ty : Nat → FieldType} (hC : mzCl ci C T N ty) (hd : decode mm.2.1 pc = .ok (.getfield idx, 3)) (hk : k < N) (hw : Cond.fieldLink mm.1.cls idx (T k).1 (T k).2.1 (T k).2.2.1 ∈ mzAll) (hi : i ∈ mz_dm B) (hkd : mzKd i = .inl ci) (h : MzJ Γ G B d mm M bu (pc + 3) lv (mz_fv B M i ci k :: st)) : MzJ Γ G B d mm M bu pc lv (.ref (mz_ad B i) :: st) := by
  intro p l e mc ms s m args below meth c A cells slots ls hg hex hX hl hI c1 c2
  obtain ⟨q0, -, hq0⟩ := mz_pl M hi
  rw [mz_ce_o hkd] at hq0
  exact va_get (D := G.1) (cl := vwCl) (ci := ci) (C := C) (T := T) (N := N) (Ts := mzWs mm) hX.1 hX.2.1 hX.2.2.2.2.1 (fun w hw => List.mem_cons_of_mem _ (hC.2.1 w hw)) hX.2.2.2.2.2.1 hI.1 hI.2.1 q0 hq0 hC.1 k hk (hX.2.2.2.2.1 _ (List.mem_cons_of_mem _ hw)) (fun _ h9 => h9) (mz_fs_at (by rw [hC.2.2.2.2.1]; exact hk)) hd (h p l e mc ms s m args below meth c A cells slots ls hg hex hX hl hI c1 c2)
theorem mj_getI {i : MzL} {ci k idx N : Nat} {C : String} {T : u_T} {ty : Nat → FieldType} (hC : mzCl ci C T N ty) (hd : decode mm.2.1 pc = .ok (.getfield idx, 3)) (hk : k < N) (hw : Cond.fieldLink mm.1.cls idx (T k).1 (T k).2.1 (T k).2.2.1 ∈ mzAll) (hR : mzIsR ci k = false) (hi : i ∈ mz_dm B) (hkd : mzKd i = .inl ci) (h : MzJ Γ G B d mm M bu (pc + 3) lv (.int (mz_i M i k) :: st)) : MzJ Γ G B d mm M bu pc lv (.ref (mz_ad B i) :: st) :=
  mj_getV hC hd hk hw hi hkd (by simpa [mz_fv, hR] using h)
theorem mj_getR {i : MzL} {ci k idx N : Nat} {C : String} {T : u_T} {ty : Nat → FieldType} (hC : mzCl ci C T N ty) (hd : decode mm.2.1 pc = .ok (.getfield idx, 3)) (hk : k < N) (hw : Cond.fieldLink mm.1.cls idx (T k).1 (T k).2.1 (T k).2.2.1 ∈ mzAll) (hR : mzIsR ci k = true) (hi : i ∈ mz_dm B) (hkd : mzKd i = .inl ci) {a : MzL} (hr : mz_r M i k = some a) (h : MzJ Γ G B d mm M bu (pc + 3) lv (.ref (mz_ad B a) :: st)) : MzJ Γ G B d mm M bu pc lv (.ref (mz_ad B i) :: st) :=
  mj_getV hC hd hk hw hi hkd (by simpa [mz_fv, hR, hr, va_rf, mz_ar] using h)
theorem mj_getVN {i : MzL} {ci k idx N : Nat} {C : String} {T : u_T} {ty : Nat → FieldType} (hC : mzCl ci C T N ty) (hd : decode mm.2.1 pc = .ok (.getfield idx, 3)) (hk : k < N) {host : String} (hw : mzNw (.fieldLinkNest mm.1.cls idx (T k).1 (T k).2.1 (T k).2.2.1 host) ∈ mzRo) (hi : i ∈ mz_dm B) (hkd : mzKd i = .inl ci) (h : MzJ Γ G B d mm M bu (pc + 3) lv (mz_fv B M i ci k :: st)) : MzJ Γ G B d mm M bu pc lv (.ref (mz_ad B i) :: st) := by
  intro p l e mc ms s m args below meth c A cells slots ls hg hex hX hl hI c1 c2
  obtain ⟨q0, -, hq0⟩ := mz_pl M hi
  rw [mz_ce_o hkd] at hq0
  exact va_getN (D := G.1) (cl := vwCl) (ci := ci) (C := C) (T := T) (N := N) (Ts := mzWs mm) hX.1 hX.2.1 hX.2.2.2.2.1 (fun w hw => List.mem_cons_of_mem _ (hC.2.1 w hw)) hX.2.2.2.2.2.1 hI.1 hI.2.1 q0 hq0 hC.1 k hk (va_Nw.use rfl (hI.2.2.2.2.2 _ hw).2) (fun _ h9 => h9) (mz_fs_at (by rw [hC.2.2.2.2.1]; exact hk)) hd (h p l e mc ms s m args below meth c A cells slots ls hg hex hX hl hI c1 c2)
theorem mj_getIN {i : MzL} {ci k idx N : Nat} {C : String} {T : u_T} {ty : Nat → FieldType} (hC : mzCl ci C T N ty) (hd : decode mm.2.1 pc = .ok (.getfield idx, 3)) (hk : k < N) {host : String} (hw : mzNw (.fieldLinkNest mm.1.cls idx (T k).1 (T k).2.1 (T k).2.2.1 host) ∈ mzRo) (hR : mzIsR ci k = false) (hi : i ∈ mz_dm B) (hkd : mzKd i = .inl ci) (h : MzJ Γ G B d mm M bu (pc + 3) lv (.int (mz_i M i k) :: st)) : MzJ Γ G B d mm M bu pc lv (.ref (mz_ad B i) :: st) :=
  mj_getVN hC hd hk hw hi hkd (by simpa [mz_fv, hR] using h)
theorem mj_getRN {i : MzL} {ci k idx N : Nat} {C : String} {T : u_T} {ty : Nat → FieldType} (hC : mzCl ci C T N ty) (hd : decode mm.2.1 pc = .ok (.getfield idx, 3)) (hk : k < N) {host : String} (hw : mzNw (.fieldLinkNest mm.1.cls idx (T k).1 (T k).2.1 (T k).2.2.1 host) ∈ mzRo) (hR : mzIsR ci k = true) (hi : i ∈ mz_dm B) (hkd : mzKd i = .inl ci) {a : MzL} (hr : mz_r M i k = some a) (h : MzJ Γ G B d mm M bu (pc + 3) lv (.ref (mz_ad B a) :: st)) : MzJ Γ G B d mm M bu pc lv (.ref (mz_ad B i) :: st) :=
  mj_getVN hC hd hk hw hi hkd (by simpa [mz_fv, hR, hr, va_rf, mz_ar] using h)
theorem mj_aald {i : MzL} {n : Nat} {E : String} {x : Int32} (j : Nat) {a : MzL} (hd : decode mm.2.1 pc = .ok (.aaload, 1)) (hi : i ∈ mz_dm B) (hkd : mzKd i = .inr (.object E, n)) (hj : x.toInt = (j : Int)) (hn : j < n) (hr : mz_r M i j = some a) (h : MzJ Γ G B d mm M bu (pc + 1) lv (.ref (mz_ad B a) :: st)) : MzJ Γ G B d mm M bu pc lv (.int x :: .ref (mz_ad B i) :: st) := by
  intro p l e mc ms s m args below meth c A cells slots ls hg hex hX hl hI c1 c2
  obtain ⟨q0, -, hq0⟩ := mz_pl M hi
  obtain ⟨t0, ht0⟩ := mz_tyl hi hkd
  rw [mz_ce_r hkd rfl] at hq0
  obtain ⟨g1, g2⟩ := mz_ix hj hn
  refine va_aldq hX.1 hX.2.1 hI.1 hI.2.1 q0 t0 hq0 ht0 g1 hd ?_
  rw [g2, hr]
  exact h p l e mc ms s m args below meth c A cells slots ls hg hex hX hl hI c1 c2
theorem mj_callS {mm' : MzT} {idx : Nat} {As : List Value} (hd : decode mm.2.1 pc = .ok (.invokestatic idx, 3)) (hcs : mzCall mm mm' As.length) (hw : Cond.methodLink mm.1.cls idx mm'.1 ∈ mzAll) (hin : Cond.static mm'.1 ∈ mzAll) (hst : (st.map fun v => v.category).sum ≤ 8)
    (h : MzCp G B d mm' As M (fun v => MzJ Γ G B (d + 1) mm M bu (pc + 3) lv (.int v :: st))) : MzJ Γ G B (d + 1) mm M bu pc lv (As.reverse ++ st) := by
  intro p l e mc ms s m args below meth c A cells slots ls hg hex hX hl hI c1 c2
  have hr := va_runS (p := p) (l := l) (e := e) (R := mzRm (d + 1) mc ms) (s := s) (m := m) (args := args) (below := below) (meth := meth) (c := c) (H := s.heap) (locs := []) (cells := cells) (slots := slots) (g := F0 m pc ls (As.reverse ++ st)) (y := mm'.1) (bytes := mm'.2.1) (maxL := mm'.2.2.1) (ret := mm'.2.2.2) (ws := mzWs mm') (rm := mzRm d 0 0) (As := As) (rest := st) (nL := mm.2.2.1) (Ts := mzWs mm) (own := mm.1.cls) (n := As.length) ⟨hX.1, hX.2.1, hX.2.2.1, hX.2.2.2.2.2.1, hX.2.2.2.2.1⟩ (h l s.heap.size) ⟨callB_of As.length hX.2.2.2.2.1 (mz_good hcs.2.1) rfl rfl rfl (hX.2.2.2.2.1 _ (List.mem_cons_of_mem _ hcs.1)) (hX.2.2.2.2.1 _ (List.mem_cons_of_mem _ hw)) hcs.2.2.1 ⟨Nat.le_refl _, show 8 + (mm'.2.2.1 + 11) + 46 * d ≤ 46 * (d + 1) by have := hcs.2.2.2; omega⟩, hX.2.2.2.2.1 _ (List.mem_cons_of_mem _ hin)⟩ ⟨mz_pre_blind, fun U hU hW => mz_preOf hI hU hW⟩ rfl rfl hl.1 rfl (lv_room hst) hd ⟨show cells + 0 ≤ mc by omega, show slots + 0 ≤ ms by omega⟩
  intro T hT X
  obtain ⟨v, st₀, t, T', L, h0, X', hL, e1, e2, ⟨v', hv', hK, hh⟩, stp⟩ := hr T hT X
  cases hv'
  have hL0 : L = [] := by
    cases L with
    | nil => rfl
    | cons q r => exact (hL q List.mem_cons_self).elim
  subst hL0
  have hT' : T'.heap = s.heap := by rw [e1, hh, h0]
  obtain ⟨t2, a1, b1⟩ := hK p l e mc ms s m args below meth c A cells slots ls hg hex hX hl hI c1 c2 T' hT' X'
  exact ⟨t2, stp t2 a1, b1⟩
end MzJRules
theorem mz_same0 {s t : State} {k n : Nat} (h : s.sameButNew t [] k n) : ∀ q : Nat, q < s.heap.size → t.heap[q]? = s.heap[q]? := by
  intro q hq
  obtain ⟨-, -, -, -, -, h6⟩ := h
  have hc : s.heap[q]? = some s.heap[q] := Array.getElem?_eq_getElem hq
  obtain ⟨c', g1, g2, g3, g4⟩ := h6 q _ hc
  rw [g1, hc]
  congr 1
  rw [g2]
  have : c'.slots = s.heap[q].slots := by
    apply Array.ext_getElem?
    intro i
    exact g4 i (by simp)
  rw [this]
theorem mz_isRef {C n ds : String} {A : Nat → Prop} {args : Array Value} {s : State} {ra : Nat → Nat} (h : mzRefZ C n ds ra A s s.heap) : (Cond.isRef (.static C n ds)).before args s = true := by
  obtain ⟨v, hv, cf, kf, fi, f, a, cell, h1, h2, h3, h4, h5, h6, h7, h8⟩ := h
  have he : (Term.static C n ds).eval args s none [] s = some v := Term.static_eval h1 h2 h4 h5 h6 h7
  cases v <;> simp_all [Cond.before, Cond.holds, Cond.value, Value.isRef]
theorem mz_lays {C n ds : String} {A : Nat → Prop} {args : Array Value} {s : State} {ra : Nat → Nat} (h : mzLs C n ds ra A s s.heap) : (Cond.laysStatic C n ds).before args s = true := by
  obtain ⟨cf, kf, fi, f, a, cell, h1, h2, h3, h4, h5, h6, h7, h8, h9, -⟩ := h
  simp [Cond.before, Cond.holds, Cond.value, h1, h2, h3, h4, h5, h6, h7, h8, h9]
def mzLU : Cond := .laysStatic "java/lang/Throwable" "UNASSIGNED_STACK" "[Ljava/lang/StackTraceElement;"
def mzLS : Cond := .laysStatic "java/lang/Throwable" "SUPPRESSED_SENTINEL" "Ljava/util/List;"
theorem mz_decl {x : MethodName} {b : ByteArray} {m : Nat} {ret : Option FieldType} {args : Array Value} {s : State} (hi : (Cond.instanceMethod x).before args s = true) (hc : (Cond.code x b m ret).before args s = true) : (Cond.declares x).before args s = true := by
  obtain ⟨r0, r, hn, hrm, hst, -⟩ := Cond.instanceMethod_spec hi
  obtain ⟨r', c0, hrm', -, -, -, -, -, -, hsig⟩ := Cond.code_spec hn hc
  cases hrm.symm.trans hrm'
  simp [Cond.before, Cond.holds, Cond.value, hn, hrm, hst, hsig]
def mzDW : List (MethodName × ByteArray) := [(Bundle.initS "java/lang/RuntimeException", prog_19_method_2_code), (Bundle.initS "java/lang/Exception", prog_16_method_2_code), (Bundle.initS "java/lang/Throwable", prog_23_method_2_code)]
theorem mzDW_ok : ∀ x ∈ mzDW, Cond.instanceMethod x.1 ∈ mzAll ∧ Cond.code x.1 x.2 2 none ∈ mzAll := by
  intro x hx
  have h : mzDW.all (fun x => decide (Cond.instanceMethod x.1 ∈ tables_1_4) && decide (Cond.code x.1 x.2 2 none ∈ tables_1_4)) = true := by decide +kernel
  have h1 := List.all_eq_true.mp h x hx
  simp only [Bool.and_eq_true, decide_eq_true_eq] at h1
  exact ⟨mz_t4 h1.1 rfl, mz_t4 h1.2 rfl⟩
def mzRU : Cond := .isRef (.static "java/lang/Throwable" "UNASSIGNED_STACK" "[Ljava/lang/StackTraceElement;")
def mzRS : Cond := .isRef (.static "java/lang/Throwable" "SUPPRESSED_SENTINEL" "Ljava/util/List;")
/-- the words that a throw of a fresh exception with a message reads; the first constructor's bytes and its call's number are free -/
def mzThr (own : String) (cc : Nat) (X : String) (ix : Nat) (by0 : ByteArray) (Y : String) (names : List String) : List Cond :=
  Bundle.throwableAtoms ++ (Bundle.throwableSAtoms ++ (Bundle.passSAtoms X Y ix by0 ++ (Bundle.chainSAtoms Y names ++
  [.methodLink own cc (Bundle.initS X), .instantiable X 6, .selects X Bundle.tFill0 Bundle.tFill0, .selects X Bundle.tFill Bundle.tFill, .lays X Bundle.tN "cause" "Ljava/lang/Throwable;", .lays X Bundle.tN "stackTrace" Bundle.steD, .lays X Bundle.tN "suppressedExceptions" Bundle.listD, .lays X Bundle.tN "detailMessage" "Ljava/lang/String;", .lays X Bundle.tN "backtrace" "Ljava/lang/Object;", .fieldLink Bundle.tN 198 Bundle.tN "backtrace" "Ljava/lang/Object;", .lays Bundle.tN Bundle.tN "backtrace" "Ljava/lang/Object;", mzRU, mzRS])))
def mzThrOk (own : String) (cc : Nat) (X : String) (ix : Nat) (by0 : ByteArray) (Y : String) (names : List String) : Prop := decode by0 0 = .ok (.aload_n 0, 1) ∧ decode by0 1 = .ok (.aload_n 1, 1) ∧ decode by0 2 = .ok (.invokespecial ix, 3) ∧ decode by0 5 = .ok (.return_, 1) ∧ ∀ w ∈ mzThr own cc X ix by0 Y names, w ∈ mzAll ∨ w = mzRU ∨ w = mzRS ∨ w = mzLU ∨ w = mzLS ∨ ∃ x ∈ mzDW, w = .declares x.1
set_option maxHeartbeats 4000000 in
theorem mz_ctorThrow {p : Program} {l : Launch} {e : Env} {R : Room} {s : State} {m₀ : MethodId} {args : Array Value} {below : List Frame} {meth : Method} {c : Code} {W : State} {cells slots : Nat}
    (X : Stand p l e R s m₀ args below meth c W [] cells slots) (hexec : p.tables.exec = Jvm.exec) (htr : e.platform.stackTraces = false) {own cls Y : String} {names : List String} {ic ix : Nat} {by0 : ByteArray} (hown : s.vm.findClass own = some m₀.cls) (hcls : Bundle.fit cls = true) (hY : Bundle.fit Y = true) (hnames : ∀ n ∈ names, Bundle.fit n = true)
    (hb0 : decode by0 0 = .ok (.aload_n 0, 1)) (hb1 : decode by0 1 = .ok (.aload_n 1, 1)) (hb2 : decode by0 2 = .ok (.invokespecial ix, 3)) (hb5 : decode by0 5 = .ok (.return_, 1)) (h : ∀ w ∈ mzThr own ic cls ix by0 Y names, w.before args s = true)
    {a : Addr} {cX : ClassId} {kX : Class} (hfoundX : s.vm.findClass cls = some cX) (hkX : s.vm.classes[cX]? = some kX) (hcell : W.heap[a]? = some (freshCell cX kX)) (hnew : s.heap.size ≤ a) {msg : Value} (hmsg : msg.isRef = true)
    {g : JFrame} (hg : g.method = m₀) (hsize : g.locals.size = c.maxLocals) (hlocked : g.locked = none) (hentered : g.entered = []) {rest : List Value} (hstack : g.stack = msg :: .ref a :: .ref a :: rest)
    (hd6 : decode c.code g.pc = .ok (.invokespecial ic, 3)) (hd9 : decode c.code (g.pc + 3) = .ok (.athrow, 1)) (hout : ∀ x ∈ c.exceptionTable.toList, covers x (g.pc + 3) = false)
    (hfr : names.length + 4 < R.frames) (hlo : 2 * g.monitorRoom + ((Value.ref a :: rest).map fun v => v.category).sum + (13 * (names.length + 2) + 42) ≤ R.locals) (hlocks : meth.locks = false) :
    ∃ U : State, Steps p.tables e below (W.setTop g) U ∧ U.status = .running ∧ Ended U below (.threw a) ∧ s.WarmedH U.vm ∧ s.sameButNew ({ U with vm := s.vm } : State) [] cells slots ∧ ∃ ce, U.heap[a]? = some ce ∧ ce.vm = .none ∧ ce.cls = cX := by
  have howns : e.platform.frameOwnsMonitors = true := by rw [X.admits.platform]
  have hfin : e.platform.finalization = false := by rw [X.admits.platform]
  have hpl : e.platform.magicAccessors = ({} : Platform).magicAccessors := by rw [X.admits.platform]
  have last : ∀ w, w ∈ [.methodLink own ic (Bundle.initS cls), .instantiable cls 6, .selects cls Bundle.tFill0 Bundle.tFill0, .selects cls Bundle.tFill Bundle.tFill, .lays cls Bundle.tN "cause" "Ljava/lang/Throwable;", .lays cls Bundle.tN "stackTrace" Bundle.steD, .lays cls Bundle.tN "suppressedExceptions" Bundle.listD, .lays cls Bundle.tN "detailMessage" "Ljava/lang/String;", .lays cls Bundle.tN "backtrace" "Ljava/lang/Object;", .fieldLink Bundle.tN 198 Bundle.tN "backtrace" "Ljava/lang/Object;", .lays Bundle.tN Bundle.tN "backtrace" "Ljava/lang/Object;", mzRU, mzRS] → w.before args s = true :=
    fun w hw => h w (List.mem_append_right _ (List.mem_append_right _ (List.mem_append_right _ (List.mem_append_right _ hw))))
  have pass : ∀ w ∈ Bundle.passSAtoms cls Y ix by0, w.before args s = true := fun w hw => h w (List.mem_append_right _ (List.mem_append_right _ (List.mem_append_left _ hw)))
  obtain ⟨T, Z0, L, -, Y0⟩ := ThrowableC.of_atoms (args := args) howns hfin hpl (fun x hx => h x (List.mem_append_left _ hx))
  obtain ⟨Z, Mc, LZ, LM, hnZ⟩ := Init0T.ofS_atoms (args := args) hpl L Y0 (fun x hx => h x (List.mem_append_right _ (List.mem_append_left _ hx)))
  obtain ⟨P2, Ps, hlen, L2, hL, hP2m, hlink1, hlink⟩ := Bundle.chainS (args := args) hpl hnZ names Y hY hnames (fun x hx => h x (List.mem_append_right _ (List.mem_append_right _ (List.mem_append_right _ (List.mem_append_left _ hx)))))
  obtain ⟨P1, L1, hP1m, hP1s⟩ := PassC.ofS_atoms (args := args) (s := s) hpl (X := cls) (Y := Y) (Bundle.fit_spec hcls).1 (Bundle.fit_spec hY).2 hb0 hb1 hb2 hb5 pass
  have hsup : P1.sup = P2.m := Option.some.inj (hP1s.symm.trans hP2m)
  have hfound : s.vm.findClass cls = some P1.m.cls := findClass_of_methodNamed hP1m
  cases Option.some.inj (hfoundX.symm.trans hfound)
  obtain ⟨c1, kX', hc1, hk, hord, -, -, hn6⟩ := Cond.instantiable_spec (last (.instantiable cls 6) (by simp))
  cases Option.some.inj (hc1.symm.trans hfound)
  cases Option.some.inj (hkX.symm.trans hk)
  have hsel : ∀ y : MethodName, ∀ tm, s.methodNamed? y = some tm → y.cls = Bundle.tN → (Cond.selects cls y y).before args s = true → selectMethod e.platform s.vm P1.m.cls tm = .method tm := by
    intro y tm hy hyc hw
    obtain ⟨c2, r2, m2, q1, q2, q3, q4, -⟩ := Cond.selects_spec hw
    cases Option.some.inj (q1.symm.trans hfound)
    cases Option.some.inj (q2.symm.trans (State.methodFound?_of_named hy (by rw [hyc]; decide)))
    cases Option.some.inj (q3.symm.trans hy)
    rw [Launch.admits_selectMethod X.admits]; exact q4
  have hsel0 := hsel Bundle.tFill0 T.fill0 Y0.fill0 rfl (last _ (by simp))
  have hselF := hsel Bundle.tFill T.fill Y0.fill rfl (last _ (by simp))
  obtain ⟨cellS0, hcS0, hiss⟩ := Y0.statics
  obtain ⟨u0, hu0⟩ := Cond.staticRefV Y0.unassigned L.unassignedStatic L.statics hcS0 hiss (last mzRU (by simp))
  obtain ⟨sen, hsen⟩ := Cond.staticRefV Y0.sentinel L.sentinelStatic L.statics hcS0 hiss (last mzRS (by simp))
  obtain ⟨ci198, i198, fB, hk198, hg198, ha198, hsB, -, hnB, htB, hffB⟩ := Cond.ownField (t := .object "java/lang/Object") Y0.found L.cls (by decide +kernel) (last (.fieldLink Bundle.tN 198 Bundle.tN "backtrace" "Ljava/lang/Object;") (by simp)) (last (.lays Bundle.tN Bundle.tN "backtrace" "Ljava/lang/Object;") (by simp)) e.platform hpl
  obtain ⟨cellS, hcS', heS, -, hkeep⟩ := X.same.2.2.2.2.2 T.aS cellS0 hcS0
  have hcellS : W.heap[T.aS]? = some cellS := hcS'
  have hkeep' : ∀ i, cellS.slots[i]? = cellS0.slots[i]? := fun i => hkeep i (by simp)
  have hknownS : cellS.vm ≠ .unknown := by
    intro hu
    rw [heS] at hu
    rw [show cellS0.vm = .unknown from hu] at hiss
    cases hiss
  have hneS : T.aS ≠ a := Nat.ne_of_lt (Nat.lt_of_lt_of_le (Array.getElem?_eq_some_iff.mp hcS0).1 hnew)
  obtain ⟨iM, hffM⟩ := Y0.msg
  obtain ⟨tyC, dC, hdC, hdnC⟩ := Cond.laysAt hfound hk Y0.cause (last (.lays cls Bundle.tN "cause" "Ljava/lang/Throwable;") (by simp))
  obtain ⟨tyS, dS, hdS, hdnS⟩ := Cond.laysAt hfound hk Y0.stack (last (.lays cls Bundle.tN "stackTrace" Bundle.steD) (by simp))
  obtain ⟨tyP, dP, hdP, hdnP⟩ := Cond.laysAt hfound hk Y0.supp (last (.lays cls Bundle.tN "suppressedExceptions" Bundle.listD) (by simp))
  obtain ⟨tyM, dM, hdM, hdnM⟩ := Cond.laysAt hfound hk hffM (last (.lays cls Bundle.tN "detailMessage" "Ljava/lang/String;") (by simp))
  obtain ⟨tyB, dB, hdB, hdnB⟩ := Cond.laysAt hfound hk hffB (last (.lays cls Bundle.tN "backtrace" "Ljava/lang/Object;") (by simp))
  have bC := Cond.laysApart hdB hdC hdnB hdnC (by rw [hnB, Y0.causeName]; decide)
  have bS := Cond.laysApart hdB hdS hdnB hdnS (by rw [hnB, Y0.stackName]; decide)
  have bP := Cond.laysApart hdB hdP hdnB hdnP (by rw [hnB, Y0.suppName]; decide)
  have hskip : SkipFacts T e.platform s (fun u => u) u0 ((preparedCellV T.toThrowableT (freshCell P1.m.cls kX) a u0 sen).withEntry W.cur) :=
    ⟨{ ci198 := ci198, i198 := i198, fBack := fB }, ⟨hk198, hg198, ha198, hsB⟩, by
      have hz := fresh_default (c := P1.m.cls) tyB
      rw [htB] at hz
      simpa [preparedCellV, Cell.setSlot, Cell.withEntry, Array.getElem?_setIfInBounds, bC, bS, bP, bC.symm, bS.symm, bP.symm, defaultValue] using hz, fun _ _ => rfl⟩
  obtain ⟨tm, methC, cdC, kC, vm₁, hnC, -, -, -, -, -, -, -, hW₁, st1⟩ := Steps.initColdS (tb := p.tables) (e := e) (below := below) (s := s) (U := W) X.here hexec X.warmed hpl hown (t := Bundle.initS cls) rfl rfl (Bundle.fit_spec hcls).2 (last (.methodLink own ic (Bundle.initS cls)) (by simp)) (pass (.instanceMethod (Bundle.initS cls)) (by simp [Bundle.passSAtoms])) (bytes := by0) (maxL := 2) (pass (.code (Bundle.initS cls) by0 2 none) (by simp [Bundle.passSAtoms])) (f := g) hg (a := a) (msg := msg) (rest := .ref a :: rest) hstack hd6
  cases Option.some.inj (hnC.symm.trans hP1m)
  obtain ⟨vm₂, X₂, st2⟩ := (X.noted hW₁).ctorMessageOffV hexec (g := { g with stack := .ref a :: rest }) hg hsize T L Z LZ Mc LM (P1 :: P2 :: Ps)
    (fun P hP => by
      rcases List.mem_cons.mp hP with rfl | hP
      · exact L1
      · rcases List.mem_cons.mp hP with rfl | hP
        · exact L2
        · exact hL P hP) ⟨hsup, hlink1, hlink⟩ (u0 := u0) (sen := sen) (self := a) hmsg (cell := freshCell P1.m.cls kX) (cellS := cellS)
    hcell (fun _ => by simp) (by simp) rfl rfl hsel0 hselF hcellS hneS hknownS (by rw [hkeep']; exact hu0) (by rw [hkeep']; exact hsen)
    (Takes.of_laid hk hord tyC (by rw [Y0.causeType]; rfl)) (Takes.of_laid hk hord tyS (by rw [Y0.stackType]; exact fits_refV_array _ u0)) (Takes.of_laid hk hord tyP (by rw [Y0.suppType]; exact fits_refV_object _ sen))
    (Takes.of_laid hk hord tyM (by rw [Y0.msgType]; exact fits_refV_object _ ⟨msg, hmsg⟩)) Y0.objLocals hskip htr [] hd6
    (by simp only [List.length_cons, hlen]; omega) (by simp only [List.length_cons, hlen]; exact hlo)
  obtain ⟨hwalk, hrun, hended, hWU, hsame⟩ := X₂.athrowLeaves hexec (g := { g with stack := .ref a :: rest, pc := g.pc + 3 }) hg hlocked hentered hout (a := a) (rest := rest) rfl hd9
  have hlt : a < ((W.setVm vm₁).setVm vm₂).heap.size := (Array.getElem?_eq_some_iff.mp hcell).1
  have hU := heapAt_setCell_self (s := (W.setVm vm₁).setVm vm₂) (plainBareV T.toThrowableT (freshCell P1.m.cls kX) a u0 sen msg) hlt
  refine ⟨_, st1 _ (fun acts => ?_), hrun, hended, hWU, hsame.weaken (fun y hy hlt' => ?_) (Nat.le_refl _) (Nat.le_refl _), _, hU, rfl, rfl⟩
  · rw [doInvoke_state]
    exact st2 _ hwalk
  · exfalso
    rw [List.nil_append] at hy
    have hb : y.base = a := by
      simp only [List.mem_cons, List.not_mem_nil, or_false] at hy
      rcases hy with rfl | rfl | rfl | rfl | rfl <;> rfl
    rw [hb] at hlt'
    exact Nat.not_lt.mpr hnew hlt'
set_option maxHeartbeats 4000000 in
theorem mj_throw {G : MzG} {B : MzB} {d : Nat} {mm : MzT} {M : MzM} {bu : Nat × Nat} {pc : Nat} {lv : List (Nat × Value)} {Q : MzR → MzB → MzM → Prop} {X Y : String} {names : List String} {ic ks cc q ix : Nat} {by0 : ByteArray} {tx : String} (hd0 : decode mm.2.1 pc = .ok (.new ic, 3)) (hd3 : decode mm.2.1 (pc + 3) = .ok (.dup, 1)) (hd4 : decode mm.2.1 (pc + 4) = .ok (.ldc ks, 2)) (hd6 : decode mm.2.1 (pc + 6) = .ok (.invokespecial cc, 3)) (hd9 : decode mm.2.1 (pc + 9) = .ok (.athrow, 1))
    (hz : ∀ (A : Nat → Prop) (s : State), mz_ro mzRo G A s s.heap → vk_R mm.1.cls ks tx q s) (hcl : Cond.classLink mm.1.cls ic X ∈ mzAll) (hins : Cond.instantiable X 6 ∈ mzAll) (hini : Cond.initialized X ∈ mzAll) (hfit : Bundle.fit X = true) (hfY : Bundle.fit Y = true) (hnm : ∀ n ∈ names, Bundle.fit n = true) (hat : mzThrOk mm.1.cls cc X ix by0 Y names) (hn2 : names.length = 1) (hd6' : 6 ≤ d) (hb1 : 1 ≤ bu.1) (hb2 : 6 ≤ bu.2) (h : Q (.inr X) B M) : MzJ (mzGP G Q) G B d mm M bu pc lv [] := by
  intro p l e mc ms s m args below meth c A cells slots ls hg hex hX hl hI c1 c2
  have hg : l.stackTraces = false := hg
  have hlocks : meth.locks = false := hX.2.2.2.2.2.2.1
  refine W.newc (g := F0 m pc ls []) hX.1 hX.2.1 hX.2.2.2.2.2.1 (hX.2.2.2.2.1 _ (List.mem_cons_of_mem _ hcl)) (hX.2.2.2.2.1 _ (List.mem_cons_of_mem _ hins)) (hX.2.2.2.2.1 _ (List.mem_cons_of_mem _ hini)) rfl hd0 (show cells + 1 ≤ mc by omega) (show slots + 6 ≤ ms by omega) ?_
  intro cC kC f1 f2 f3 f4
  refine lv_dup (pc := pc + 3) (ls := ls) hX.1 hX.2.1 hd3 rfl ?_
  refine va_ldcS hX.1 hX.2.1 hX.2.2.2.2.2.1 (hz A s hI.2.2.2.2.2) hd4 ?_
  intro T hT XS
  obtain ⟨o0, o1, o2, o5, hat⟩ := hat
  have hatoms : ∀ w ∈ mzThr mm.1.cls cc X ix by0 Y names, w.before args s = true := by
    intro w hw
    rcases hat w hw with hw | rfl | rfl | rfl | rfl | ⟨x, hx, rfl⟩
    · exact hX.2.2.2.2.1 _ (List.mem_cons_of_mem _ hw)
    · exact mz_isRef (mz_u hI.2.2.2.2.2 (mz_fixIn 7 rfl))
    · exact mz_isRef (mz_u hI.2.2.2.2.2 (mz_fixIn 8 rfl))
    · exact mz_lays (mz_u hI.2.2.2.2.2 (mz_fixIn 10 rfl))
    · exact mz_lays (mz_u hI.2.2.2.2.2 (mz_fixIn 11 rfl))
    · exact mz_decl (hX.2.2.2.2.1 _ (List.mem_cons_of_mem _ (mzDW_ok x hx).1)) (hX.2.2.2.2.1 _ (List.mem_cons_of_mem _ (mzDW_ok x hx).2))
  have hcell : T.heap[s.heap.size]? = some (freshCell cC kC) := by rw [hT]; simp
  obtain ⟨U, hsteps, hrun, hend, hW, hsame, ce, hce, hvm0, hcls0⟩ := mz_ctorThrow XS hX.1 (by rw [XS.admits.platform]; exact hg) hX.2.2.2.2.2.1 hfit hfY hnm o0 o1 o2 o5 hatoms f1 f2 hcell (Nat.le_refl _) (msg := .ref q) rfl (g := F0 m (pc + 3 + 1 + 2) ls [.ref q, .ref s.heap.size, .ref s.heap.size]) rfl (by rw [hX.2.2.1]; exact hl.1) rfl rfl (rest := []) rfl (by rw [hX.2.1]; exact hd6) (by rw [hX.2.1]; exact hd9) (fun x hx => by
      rw [Array.isEmpty_iff.mp hex] at hx
      cases hx) (show names.length + 4 < d by omega) (show 2 * 0 + 1 + (13 * (names.length + 2) + 42) ≤ 46 * d by omega) hlocks
  have hsame' : s.sameButNew ({ U with vm := s.vm } : State) [] mc ms := hsame.mono (by omega) (by omega)
  have hkeep : ∀ q : Nat, q < s.heap.size → U.heap[q]? = s.heap[q]? := mz_same0 (t := ({ U with vm := s.vm } : State)) hsame'
  refine ⟨U, hsteps, .threw s.heap.size, hrun, hend, ⟨⟨.inr X, B, M, h, ⟨s.heap.size, rfl, ce, hce, by rw [hvm0]; rfl, by rw [hW.alike.findClass, hcls0]; exact f1, hI.2.2.2.2.1 _ (Nat.le_refl _)⟩, hI.2.1.kept (fun k q hq => hkeep _ (hI.2.1 k q hq).lt), va_K.moved hW.alike hI.1, hI.2.2.1⟩, hsame'.2.1, fun q hq _ => hkeep q hq⟩, Or.inr ⟨_, rfl, hW, hsame'⟩⟩
def mzThrC (ws : List Cond) : Bool := ws.all fun w => (goodWord w && (decide (w ∈ tables_1_4) || decide (w ∈ tables_1_1) || decide (w ∈ tables_1_7) || decide (w ∈ tables_1_2) || decide (w ∈ tables_1_3) || decide (w ∈ tables_1_5) || decide (w ∈ tables_1_6))) || decide (w = mzRU) || decide (w = mzRS) || decide (w = mzLU) || decide (w = mzLS) || mzDW.any (fun x => decide (w = .declares x.1))
theorem mzThrC_ok {ws : List Cond} (h : mzThrC ws = true) : ∀ w ∈ ws, w ∈ mzAll ∨ w = mzRU ∨ w = mzRS ∨ w = mzLU ∨ w = mzLS ∨ ∃ x ∈ mzDW, w = .declares x.1 := by
  intro w hw
  have h1 := List.all_eq_true.mp h w hw
  simp only [Bool.or_eq_true, Bool.and_eq_true, decide_eq_true_eq, List.any_eq_true] at h1
  rcases h1 with ((((⟨g, h1⟩ | h1) | h1) | h1) | h1) | h1
  · left
    rcases h1 with (((((h1 | h1) | h1) | h1) | h1) | h1) | h1
    · exact mz_t4 h1 g
    · exact mz_t1 h1 g
    · exact mz_t7 h1 g
    · exact mz_t2 h1 g
    · exact mz_t3 h1 g
    · exact mz_t5 h1 g
    · exact mz_t6 h1 g
  · exact Or.inr (Or.inl h1)
  · exact Or.inr (Or.inr (Or.inl h1))
  · exact Or.inr (Or.inr (Or.inr (Or.inl h1)))
  · exact Or.inr (Or.inr (Or.inr (Or.inr (Or.inl h1))))
  · exact Or.inr (Or.inr (Or.inr (Or.inr (Or.inr h1))))
theorem wn_IllegalArgumentException : Jvm.Cond.initialized "java/lang/IllegalArgumentException" ∈ mzAll := mz_t1 (List.mem_of_getElem? (i := 22) (by decide +kernel)) (by decide +kernel)
theorem wb_IllegalArgumentException : Jvm.Cond.instantiable "java/lang/IllegalArgumentException" (6 : Nat) ∈ mzAll := mz_t4 (List.mem_of_getElem? (i := 71) (by decide +kernel)) (by decide +kernel)
theorem thr_IllegalArgumentException : mzThrOk "ParcelLine" 53 "java/lang/IllegalArgumentException" 7 prog_17_method_2_code "java/lang/RuntimeException" ["java/lang/Exception"] := ⟨by decide +kernel, by decide +kernel, by decide +kernel, by decide +kernel, mzThrC_ok (by decide +kernel)⟩
theorem wn_IllegalStateException : Jvm.Cond.initialized "java/lang/IllegalStateException" ∈ mzAll := mz_t1 (List.mem_of_getElem? (i := 23) (by decide +kernel)) (by decide +kernel)
theorem wb_IllegalStateException : Jvm.Cond.instantiable "java/lang/IllegalStateException" (6 : Nat) ∈ mzAll := mz_t4 (List.mem_of_getElem? (i := 138) (by decide +kernel)) (by decide +kernel)
theorem thr_IllegalStateException : mzThrOk "ParcelLine" 70 "java/lang/IllegalStateException" 7 prog_18_method_2_code "java/lang/RuntimeException" ["java/lang/Exception"] := ⟨by decide +kernel, by decide +kernel, by decide +kernel, by decide +kernel, mzThrC_ok (by decide +kernel)⟩
theorem wn_NoSuchElementException : Jvm.Cond.initialized "java/util/NoSuchElementException" ∈ mzAll := mz_t1 (List.mem_of_getElem? (i := 24) (by decide +kernel)) (by decide +kernel)
theorem wb_NoSuchElementException : Jvm.Cond.instantiable "java/util/NoSuchElementException" (6 : Nat) ∈ mzAll := mz_t4 (List.mem_of_getElem? (i := 178) (by decide +kernel)) (by decide +kernel)
theorem thr_NoSuchElementException : mzThrOk "ParcelLine" 87 "java/util/NoSuchElementException" 13 prog_24_method_4_code "java/lang/RuntimeException" ["java/lang/Exception"] := ⟨by decide +kernel, by decide +kernel, by decide +kernel, by decide +kernel, mzThrC_ok (by decide +kernel)⟩
def mm_PL_isSession : MzT := (⟨"ParcelLine", "isSession", "(I)Z"⟩, prog_1_method_18_code, 1, (Option.some Jvm.ClassFile.FieldType.boolean))
theorem cs_PL_isSession {mm : MzT} : mzCall mm mm_PL_isSession 1 := ⟨wn_PL, wco_PL_isSession, by decide +kernel, by decide⟩
theorem d_PL_isSession_0 : decode mm_PL_isSession.2.1 0 = .ok (.iload_n 0, 1) := by decide +kernel
theorem d_PL_isSession_1 : decode mm_PL_isSession.2.1 1 = .ok (.ifCond .lt 12, 3) := by decide +kernel
theorem d_PL_isSession_4 : decode mm_PL_isSession.2.1 4 = .ok (.iload_n 0, 1) := by decide +kernel
theorem d_PL_isSession_5 : decode mm_PL_isSession.2.1 5 = .ok (.iconst 2, 1) := by decide +kernel
theorem d_PL_isSession_6 : decode mm_PL_isSession.2.1 6 = .ok (.if_icmp .ge 7, 3) := by decide +kernel
theorem d_PL_isSession_9 : decode mm_PL_isSession.2.1 9 = .ok (.iconst 1, 1) := by decide +kernel
theorem d_PL_isSession_10 : decode mm_PL_isSession.2.1 10 = .ok (.goto 4, 3) := by decide +kernel
theorem d_PL_isSession_13 : decode mm_PL_isSession.2.1 13 = .ok (.iconst 0, 1) := by decide +kernel
theorem d_PL_isSession_14 : decode mm_PL_isSession.2.1 14 = .ok (.ireturn, 1) := by decide +kernel
def wz_PL_isSession (a0 : Int32) (K : Int32 → Prop) : Prop := ((a0 < 0 → K (0 : Int32)) ∧ (¬ a0 < 0 → (((2 : Int32) ≤ a0 → K (0 : Int32)) ∧ (¬ (2 : Int32) ≤ a0 → K (1 : Int32)))))
theorem tz_PL_isSession {G : MzG} {B : MzB} {d : Nat} {K : Int32 → Prop} {a0 : Int32} {M : MzM} (h : wz_PL_isSession a0 K) : MzCp G B d mm_PL_isSession [.int a0] M K := by
  unfold wz_PL_isSession at h
  exact MzCp.of rfl (Nat.le_of_ble_eq_true rfl) (show MzJ (mzGZ K) G B d mm_PL_isSession M (0, 0) 0 [(0, .int a0)] [] from (mj_iload_n d_PL_isSession_0 rfl (mj_if_lt 13 d_PL_isSession_1 rfl (fun hc2 => (mj_iconst (0 : Int32) d_PL_isSession_13 (by decide) (mj_iretZ .boolean d_PL_isSession_14 rfl rfl (h.1 hc2)))) (fun hc2 => (mj_iload_n d_PL_isSession_4 rfl (mj_iconst (2 : Int32) d_PL_isSession_5 (by decide) (mj_icmp_ge 13 d_PL_isSession_6 rfl (fun hc1 => (mj_iconst (0 : Int32) d_PL_isSession_13 (by decide) (mj_iretZ .boolean d_PL_isSession_14 rfl rfl ((h.2 hc2).1 hc1)))) (fun hc1 => (mj_iconst (1 : Int32) d_PL_isSession_9 (by decide) (mj_goto 14 d_PL_isSession_10 rfl (mj_iretZ .boolean d_PL_isSession_14 rfl rfl ((h.2 hc2).2 hc1))))))))))))
def mm_PL_isShelf : MzT := (⟨"ParcelLine", "isShelf", "(I)Z"⟩, prog_1_method_19_code, 1, (Option.some Jvm.ClassFile.FieldType.boolean))
theorem cs_PL_isShelf {mm : MzT} : mzCall mm mm_PL_isShelf 1 := ⟨wn_PL, wco_PL_isShelf, by decide +kernel, by decide⟩
theorem d_PL_isShelf_0 : decode mm_PL_isShelf.2.1 0 = .ok (.iload_n 0, 1) := by decide +kernel
theorem d_PL_isShelf_1 : decode mm_PL_isShelf.2.1 1 = .ok (.ifCond .lt 12, 3) := by decide +kernel
theorem d_PL_isShelf_4 : decode mm_PL_isShelf.2.1 4 = .ok (.iload_n 0, 1) := by decide +kernel
theorem d_PL_isShelf_5 : decode mm_PL_isShelf.2.1 5 = .ok (.iconst 3, 1) := by decide +kernel
theorem d_PL_isShelf_6 : decode mm_PL_isShelf.2.1 6 = .ok (.if_icmp .ge 7, 3) := by decide +kernel
theorem d_PL_isShelf_9 : decode mm_PL_isShelf.2.1 9 = .ok (.iconst 1, 1) := by decide +kernel
theorem d_PL_isShelf_10 : decode mm_PL_isShelf.2.1 10 = .ok (.goto 4, 3) := by decide +kernel
theorem d_PL_isShelf_13 : decode mm_PL_isShelf.2.1 13 = .ok (.iconst 0, 1) := by decide +kernel
theorem d_PL_isShelf_14 : decode mm_PL_isShelf.2.1 14 = .ok (.ireturn, 1) := by decide +kernel
def wz_PL_isShelf (a0 : Int32) (K : Int32 → Prop) : Prop := ((a0 < 0 → K (0 : Int32)) ∧ (¬ a0 < 0 → (((3 : Int32) ≤ a0 → K (0 : Int32)) ∧ (¬ (3 : Int32) ≤ a0 → K (1 : Int32)))))
theorem tz_PL_isShelf {G : MzG} {B : MzB} {d : Nat} {K : Int32 → Prop} {a0 : Int32} {M : MzM} (h : wz_PL_isShelf a0 K) : MzCp G B d mm_PL_isShelf [.int a0] M K := by
  unfold wz_PL_isShelf at h
  exact MzCp.of rfl (Nat.le_of_ble_eq_true rfl) (show MzJ (mzGZ K) G B d mm_PL_isShelf M (0, 0) 0 [(0, .int a0)] [] from (mj_iload_n d_PL_isShelf_0 rfl (mj_if_lt 13 d_PL_isShelf_1 rfl (fun hc2 => (mj_iconst (0 : Int32) d_PL_isShelf_13 (by decide) (mj_iretZ .boolean d_PL_isShelf_14 rfl rfl (h.1 hc2)))) (fun hc2 => (mj_iload_n d_PL_isShelf_4 rfl (mj_iconst (3 : Int32) d_PL_isShelf_5 (by decide) (mj_icmp_ge 13 d_PL_isShelf_6 rfl (fun hc1 => (mj_iconst (0 : Int32) d_PL_isShelf_13 (by decide) (mj_iretZ .boolean d_PL_isShelf_14 rfl rfl ((h.2 hc2).1 hc1)))) (fun hc1 => (mj_iconst (1 : Int32) d_PL_isShelf_9 (by decide) (mj_goto 14 d_PL_isShelf_10 rfl (mj_iretZ .boolean d_PL_isShelf_14 rfl rfl ((h.2 hc2).2 hc1))))))))))))
def mm_PL_isNameByte : MzT := (⟨"ParcelLine", "isNameByte", "(I)Z"⟩, prog_1_method_20_code, 1, (Option.some Jvm.ClassFile.FieldType.boolean))
theorem cs_PL_isNameByte {mm : MzT} : mzCall mm mm_PL_isNameByte 1 := ⟨wn_PL, wco_PL_isNameByte, by decide +kernel, by decide⟩
theorem d_PL_isNameByte_0 : decode mm_PL_isNameByte.2.1 0 = .ok (.iload_n 0, 1) := by decide +kernel
theorem d_PL_isNameByte_1 : decode mm_PL_isNameByte.2.1 1 = .ok (.bipush 97, 2) := by decide +kernel
theorem d_PL_isNameByte_3 : decode mm_PL_isNameByte.2.1 3 = .ok (.if_icmp .lt 9, 3) := by decide +kernel
theorem d_PL_isNameByte_6 : decode mm_PL_isNameByte.2.1 6 = .ok (.iload_n 0, 1) := by decide +kernel
theorem d_PL_isNameByte_7 : decode mm_PL_isNameByte.2.1 7 = .ok (.bipush 122, 2) := by decide +kernel
theorem d_PL_isNameByte_9 : decode mm_PL_isNameByte.2.1 9 = .ok (.if_icmp .le 15, 3) := by decide +kernel
theorem d_PL_isNameByte_12 : decode mm_PL_isNameByte.2.1 12 = .ok (.iload_n 0, 1) := by decide +kernel
theorem d_PL_isNameByte_13 : decode mm_PL_isNameByte.2.1 13 = .ok (.bipush 48, 2) := by decide +kernel
theorem d_PL_isNameByte_15 : decode mm_PL_isNameByte.2.1 15 = .ok (.if_icmp .lt 13, 3) := by decide +kernel
theorem d_PL_isNameByte_18 : decode mm_PL_isNameByte.2.1 18 = .ok (.iload_n 0, 1) := by decide +kernel
theorem d_PL_isNameByte_19 : decode mm_PL_isNameByte.2.1 19 = .ok (.bipush 57, 2) := by decide +kernel
theorem d_PL_isNameByte_21 : decode mm_PL_isNameByte.2.1 21 = .ok (.if_icmp .gt 7, 3) := by decide +kernel
theorem d_PL_isNameByte_24 : decode mm_PL_isNameByte.2.1 24 = .ok (.iconst 1, 1) := by decide +kernel
theorem d_PL_isNameByte_25 : decode mm_PL_isNameByte.2.1 25 = .ok (.goto 4, 3) := by decide +kernel
theorem d_PL_isNameByte_28 : decode mm_PL_isNameByte.2.1 28 = .ok (.iconst 0, 1) := by decide +kernel
theorem d_PL_isNameByte_29 : decode mm_PL_isNameByte.2.1 29 = .ok (.ireturn, 1) := by decide +kernel
def wz_PL_isNameByte (a0 : Int32) (K : Int32 → Prop) : Prop := ((a0 < (97 : Int32) → ((a0 < (48 : Int32) → K (0 : Int32)) ∧ (¬ a0 < (48 : Int32) → (((57 : Int32) < a0 → K (0 : Int32)) ∧ (¬ (57 : Int32) < a0 → K (1 : Int32)))))) ∧ (¬ a0 < (97 : Int32) → ((a0 ≤ (122 : Int32) → K (1 : Int32)) ∧ (¬ a0 ≤ (122 : Int32) → ((a0 < (48 : Int32) → K (0 : Int32)) ∧ (¬ a0 < (48 : Int32) → (((57 : Int32) < a0 → K (0 : Int32)) ∧ (¬ (57 : Int32) < a0 → K (1 : Int32)))))))))
theorem tz_PL_isNameByte {G : MzG} {B : MzB} {d : Nat} {K : Int32 → Prop} {a0 : Int32} {M : MzM} (h : wz_PL_isNameByte a0 K) : MzCp G B d mm_PL_isNameByte [.int a0] M K := by
  unfold wz_PL_isNameByte at h
  exact MzCp.of rfl (Nat.le_of_ble_eq_true rfl) (show MzJ (mzGZ K) G B d mm_PL_isNameByte M (0, 0) 0 [(0, .int a0)] [] from (mj_iload_n d_PL_isNameByte_0 rfl (mj_bipush (97 : Int32) d_PL_isNameByte_1 (by decide) (mj_icmp_lt 12 d_PL_isNameByte_3 rfl (fun hc6 => (mj_iload_n d_PL_isNameByte_12 rfl (mj_bipush (48 : Int32) d_PL_isNameByte_13 (by decide) (mj_icmp_lt 28 d_PL_isNameByte_15 rfl (fun hc2 => (mj_iconst (0 : Int32) d_PL_isNameByte_28 (by decide) (mj_iretZ .boolean d_PL_isNameByte_29 rfl rfl ((h.1 hc6).1 hc2)))) (fun hc2 => (mj_iload_n d_PL_isNameByte_18 rfl (mj_bipush (57 : Int32) d_PL_isNameByte_19 (by decide) (mj_icmp_gt 28 d_PL_isNameByte_21 rfl (fun hc1 => (mj_iconst (0 : Int32) d_PL_isNameByte_28 (by decide) (mj_iretZ .boolean d_PL_isNameByte_29 rfl rfl (((h.1 hc6).2 hc2).1 hc1)))) (fun hc1 => (mj_iconst (1 : Int32) d_PL_isNameByte_24 (by decide) (mj_goto 29 d_PL_isNameByte_25 rfl (mj_iretZ .boolean d_PL_isNameByte_29 rfl rfl (((h.1 hc6).2 hc2).2 hc1))))))))))))) (fun hc6 => (mj_iload_n d_PL_isNameByte_6 rfl (mj_bipush (122 : Int32) d_PL_isNameByte_7 (by decide) (mj_icmp_le 24 d_PL_isNameByte_9 rfl (fun hc5 => (mj_iconst (1 : Int32) d_PL_isNameByte_24 (by decide) (mj_goto 29 d_PL_isNameByte_25 rfl (mj_iretZ .boolean d_PL_isNameByte_29 rfl rfl ((h.2 hc6).1 hc5))))) (fun hc5 => (mj_iload_n d_PL_isNameByte_12 rfl (mj_bipush (48 : Int32) d_PL_isNameByte_13 (by decide) (mj_icmp_lt 28 d_PL_isNameByte_15 rfl (fun hc4 => (mj_iconst (0 : Int32) d_PL_isNameByte_28 (by decide) (mj_iretZ .boolean d_PL_isNameByte_29 rfl rfl (((h.2 hc6).2 hc5).1 hc4)))) (fun hc4 => (mj_iload_n d_PL_isNameByte_18 rfl (mj_bipush (57 : Int32) d_PL_isNameByte_19 (by decide) (mj_icmp_gt 28 d_PL_isNameByte_21 rfl (fun hc3 => (mj_iconst (0 : Int32) d_PL_isNameByte_28 (by decide) (mj_iretZ .boolean d_PL_isNameByte_29 rfl rfl ((((h.2 hc6).2 hc5).2 hc4).1 hc3)))) (fun hc3 => (mj_iconst (1 : Int32) d_PL_isNameByte_24 (by decide) (mj_goto 29 d_PL_isNameByte_25 rfl (mj_iretZ .boolean d_PL_isNameByte_29 rfl rfl ((((h.2 hc6).2 hc5).2 hc4).2 hc3)))))))))))))))))))))
def mm_PL_isName : MzT := (⟨"ParcelLine", "isName", "(I)Z"⟩, prog_1_method_21_code, 3, (Option.some Jvm.ClassFile.FieldType.boolean))
theorem cs_PL_isName {mm : MzT} : mzCall mm mm_PL_isName 1 := ⟨wn_PL, wco_PL_isName, by decide +kernel, by decide⟩
theorem d_PL_isName_0 : decode mm_PL_isName.2.1 0 = .ok (.iload_n 0, 1) := by decide +kernel
theorem d_PL_isName_1 : decode mm_PL_isName.2.1 1 = .ok (.istore_n 1, 1) := by decide +kernel
theorem d_PL_isName_2 : decode mm_PL_isName.2.1 2 = .ok (.iconst 0, 1) := by decide +kernel
theorem d_PL_isName_3 : decode mm_PL_isName.2.1 3 = .ok (.istore_n 2, 1) := by decide +kernel
theorem d_PL_isName_4 : decode mm_PL_isName.2.1 4 = .ok (.iload_n 2, 1) := by decide +kernel
theorem d_PL_isName_5 : decode mm_PL_isName.2.1 5 = .ok (.iconst 3, 1) := by decide +kernel
theorem d_PL_isName_6 : decode mm_PL_isName.2.1 6 = .ok (.if_icmp .ge 32, 3) := by decide +kernel
theorem d_PL_isName_9 : decode mm_PL_isName.2.1 9 = .ok (.iload_n 1, 1) := by decide +kernel
theorem d_PL_isName_10 : decode mm_PL_isName.2.1 10 = .ok (.ifCond .le 28, 3) := by decide +kernel
theorem d_PL_isName_13 : decode mm_PL_isName.2.1 13 = .ok (.iload_n 1, 1) := by decide +kernel
theorem d_PL_isName_14 : decode mm_PL_isName.2.1 14 = .ok (.sipush 128, 3) := by decide +kernel
theorem d_PL_isName_17 : decode mm_PL_isName.2.1 17 = .ok (.irem, 1) := by decide +kernel
theorem d_PL_isName_18 : decode mm_PL_isName.2.1 18 = .ok (.invokestatic 206, 3) := by decide +kernel
theorem d_PL_isName_21 : decode mm_PL_isName.2.1 21 = .ok (.ifCond .ne 5, 3) := by decide +kernel
theorem d_PL_isName_24 : decode mm_PL_isName.2.1 24 = .ok (.iconst 0, 1) := by decide +kernel
theorem d_PL_isName_25 : decode mm_PL_isName.2.1 25 = .ok (.ireturn, 1) := by decide +kernel
theorem d_PL_isName_26 : decode mm_PL_isName.2.1 26 = .ok (.iload_n 1, 1) := by decide +kernel
theorem d_PL_isName_27 : decode mm_PL_isName.2.1 27 = .ok (.sipush 128, 3) := by decide +kernel
theorem d_PL_isName_30 : decode mm_PL_isName.2.1 30 = .ok (.idiv, 1) := by decide +kernel
theorem d_PL_isName_31 : decode mm_PL_isName.2.1 31 = .ok (.istore_n 1, 1) := by decide +kernel
theorem d_PL_isName_32 : decode mm_PL_isName.2.1 32 = .ok (.iinc 2 1, 3) := by decide +kernel
theorem d_PL_isName_35 : decode mm_PL_isName.2.1 35 = .ok (.goto (-31), 3) := by decide +kernel
theorem d_PL_isName_38 : decode mm_PL_isName.2.1 38 = .ok (.iload_n 0, 1) := by decide +kernel
theorem d_PL_isName_39 : decode mm_PL_isName.2.1 39 = .ok (.ifCond .le 11, 3) := by decide +kernel
theorem d_PL_isName_42 : decode mm_PL_isName.2.1 42 = .ok (.iload_n 1, 1) := by decide +kernel
theorem d_PL_isName_43 : decode mm_PL_isName.2.1 43 = .ok (.ifCond .ne 7, 3) := by decide +kernel
theorem d_PL_isName_46 : decode mm_PL_isName.2.1 46 = .ok (.iconst 1, 1) := by decide +kernel
theorem d_PL_isName_47 : decode mm_PL_isName.2.1 47 = .ok (.goto 4, 3) := by decide +kernel
theorem d_PL_isName_50 : decode mm_PL_isName.2.1 50 = .ok (.iconst 0, 1) := by decide +kernel
theorem d_PL_isName_51 : decode mm_PL_isName.2.1 51 = .ok (.ireturn, 1) := by decide +kernel
def wz_PL_isName_4 (K : Int32 → Prop) : Nat → Int32 → Int32 → Int32 → Prop
  | 0, _, _, _ => False
  | r0 + 1, y0, y1, y2 => (((3 : Int32) ≤ y2 → ((y0 ≤ 0 → K (0 : Int32)) ∧ (¬ y0 ≤ 0 → ((¬ y1 = 0 → K (0 : Int32)) ∧ (y1 = 0 → K (1 : Int32)))))) ∧ (¬ (3 : Int32) ≤ y2 → ((y1 ≤ 0 → ((y0 ≤ 0 → K (0 : Int32)) ∧ (¬ y0 ≤ 0 → ((¬ y1 = 0 → K (0 : Int32)) ∧ (y1 = 0 → K (1 : Int32)))))) ∧ (¬ y1 ≤ 0 → wz_PL_isNameByte (y1 - y1 / (128 : Int32) * (128 : Int32)) (fun v7 => ((¬ v7 = 0 → (wz_PL_isName_4 K r0 y0 (y1 / (128 : Int32)) (y2 + (1 : Int32)))) ∧ (v7 = 0 → K (0 : Int32))))))))
def wz_PL_isName (a0 : Int32) (K : Int32 → Prop) : Prop := (∃ r1 : Nat, wz_PL_isName_4 K r1 a0 a0 (0 : Int32))
theorem tz_PL_isName_4 {G : MzG} {B : MzB} {d : Nat} {K : Int32 → Prop} {M : MzM} : ∀ (r0 : Nat) (y0 : Int32) (y1 : Int32) (y2 : Int32), wz_PL_isName_4 K r0 y0 y1 y2 → MzJ (mzGZ K) G B (d + 1) mm_PL_isName M (0, 0) 4 [(0, .int y0), (1, .int y1), (2, .int y2)] [] := by
  intro r0
  induction r0 with
  | zero => intro y0 y1 y2 h; exact False.elim h
  | succ r0 hH4 =>
    intro y0 y1 y2 h
    unfold wz_PL_isName_4 at h
    exact (mj_iload_n d_PL_isName_4 rfl (mj_iconst (3 : Int32) d_PL_isName_5 (by decide) (mj_icmp_ge 38 d_PL_isName_6 rfl (fun hc11 => (mj_iload_n d_PL_isName_38 rfl (mj_if_le 50 d_PL_isName_39 rfl (fun hc4 => (mj_iconst (0 : Int32) d_PL_isName_50 (by decide) (mj_iretZ .boolean d_PL_isName_51 rfl rfl ((h.1 hc11).1 hc4)))) (fun hc4 => (mj_iload_n d_PL_isName_42 rfl (mj_if_ne 50 d_PL_isName_43 rfl (fun hc3 => (mj_iconst (0 : Int32) d_PL_isName_50 (by decide) (mj_iretZ .boolean d_PL_isName_51 rfl rfl (((h.1 hc11).2 hc4).1 hc3)))) (fun hc3 => (mj_iconst (1 : Int32) d_PL_isName_46 (by decide) (mj_goto 51 d_PL_isName_47 rfl (mj_iretZ .boolean d_PL_isName_51 rfl rfl (((h.1 hc11).2 hc4).2 hc3))))))))))) (fun hc11 => (mj_iload_n d_PL_isName_9 rfl (mj_if_le 38 d_PL_isName_10 rfl (fun hc10 => (mj_iload_n d_PL_isName_38 rfl (mj_if_le 50 d_PL_isName_39 rfl (fun hc6 => (mj_iconst (0 : Int32) d_PL_isName_50 (by decide) (mj_iretZ .boolean d_PL_isName_51 rfl rfl (((h.2 hc11).1 hc10).1 hc6)))) (fun hc6 => (mj_iload_n d_PL_isName_42 rfl (mj_if_ne 50 d_PL_isName_43 rfl (fun hc5 => (mj_iconst (0 : Int32) d_PL_isName_50 (by decide) (mj_iretZ .boolean d_PL_isName_51 rfl rfl ((((h.2 hc11).1 hc10).2 hc6).1 hc5)))) (fun hc5 => (mj_iconst (1 : Int32) d_PL_isName_46 (by decide) (mj_goto 51 d_PL_isName_47 rfl (mj_iretZ .boolean d_PL_isName_51 rfl rfl ((((h.2 hc11).1 hc10).2 hc6).2 hc5))))))))))) (fun hc10 => (mj_iload_n d_PL_isName_13 rfl (mj_sipush (128 : Int32) d_PL_isName_14 (by decide) (mj_irem d_PL_isName_17 (by decide) (mj_callS (As := [.int (y1 - y1 / (128 : Int32) * (128 : Int32))]) (st := []) d_PL_isName_18 cs_PL_isNameByte wl_PL_206 ws_PL_isNameByte (Nat.le_of_ble_eq_true rfl) (MzCp.mono (tz_PL_isNameByte (d := d) ((h.2 hc11).2 hc10)) (fun v7 h9 => (mj_if_ne 26 d_PL_isName_21 rfl (fun hc8 => (mj_iload_n d_PL_isName_26 rfl (mj_sipush (128 : Int32) d_PL_isName_27 (by decide) (mj_idiv d_PL_isName_30 (by decide) (mj_istore_n d_PL_isName_31 (by decide) (mj_iinc (y2 + (1 : Int32)) d_PL_isName_32 rfl (by decide) rfl (mj_goto 4 d_PL_isName_35 rfl (MzJ.loc [(0, .int y0), (1, .int (y1 / (128 : Int32))), (2, .int (y2 + (1 : Int32)))] ⟨rfl, rfl, rfl, trivial⟩ (hH4 y0 (y1 / (128 : Int32)) (y2 + (1 : Int32)) (h9.1 hc8)))))))))) (fun hc8 => (mj_iconst (0 : Int32) d_PL_isName_24 (by decide) (mj_iretZ .boolean d_PL_isName_25 rfl rfl (h9.2 hc8))))))))))))))))))
theorem tz_PL_isName {G : MzG} {B : MzB} {d : Nat} {K : Int32 → Prop} {a0 : Int32} {M : MzM} (h : wz_PL_isName a0 K) : MzCp G B (d + 1) mm_PL_isName [.int a0] M K := by
  unfold wz_PL_isName at h
  exact MzCp.of rfl (Nat.le_of_ble_eq_true rfl) (show MzJ (mzGZ K) G B (d + 1) mm_PL_isName M (0, 0) 0 [(0, .int a0)] [] from (mj_iload_n d_PL_isName_0 rfl (mj_istore_n d_PL_isName_1 (by decide) (mj_iconst (0 : Int32) d_PL_isName_2 (by decide) (mj_istore_n d_PL_isName_3 (by decide) (MzJ.loc [(0, .int a0), (1, .int a0), (2, .int (0 : Int32))] ⟨rfl, rfl, rfl, trivial⟩ (match h with | ⟨r1, h2⟩ => tz_PL_isName_4 r1 a0 a0 (0 : Int32) h2)))))))
end
