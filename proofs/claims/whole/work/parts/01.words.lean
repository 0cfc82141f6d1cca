-- ===== PART A: goes FIRST, ahead of the names: the tables' words, and 'selects' of the private methods out of them =====
/-- a private method of a class that the tables say can be made, by its rows of tables_1 -/
def lw_okq (q : MethodName × Nat) : Prop := (q.1.cls ≠ "java/lang/invoke/MethodHandle" ∧ q.1.cls ≠ "java/lang/invoke/VarHandle") ∧ Cond.instantiable q.1.cls q.2 ∈ tables_1 ∧ Cond.privateMethod q.1 ∈ tables_1 ∧ Cond.instanceMethod q.1 ∈ tables_1
theorem lw_p0 : lw_okq (⟨"WireHosts", "endpointAt", "(II)LWireHosts$Endpoint;"⟩, 3) := ⟨⟨by decide +kernel, by decide +kernel⟩, List.mem_of_getElem? (i := 17) (by decide +kernel), List.mem_of_getElem? (i := 335) (by decide +kernel), List.mem_of_getElem? (i := 336) (by decide +kernel)⟩
theorem lw_p1 : lw_okq (⟨"WireHosts", "isHost", "(I)Z"⟩, 3) := ⟨⟨by decide +kernel, by decide +kernel⟩, List.mem_of_getElem? (i := 17) (by decide +kernel), List.mem_of_getElem? (i := 339) (by decide +kernel), List.mem_of_getElem? (i := 340) (by decide +kernel)⟩
theorem lw_p2 : lw_okq (⟨"WireHosts$Endpoint", "begin", "(I)V"⟩, 10) := ⟨⟨by decide +kernel, by decide +kernel⟩, List.mem_of_getElem? (i := 180) (by decide +kernel), List.mem_of_getElem? (i := 359) (by decide +kernel), List.mem_of_getElem? (i := 360) (by decide +kernel)⟩
theorem lw_p3 : lw_okq (⟨"WireHosts$Endpoint", "emit", "(II)V"⟩, 10) := ⟨⟨by decide +kernel, by decide +kernel⟩, List.mem_of_getElem? (i := 180) (by decide +kernel), List.mem_of_getElem? (i := 368) (by decide +kernel), List.mem_of_getElem? (i := 369) (by decide +kernel)⟩
theorem lw_p4 : lw_okq (⟨"WireHosts$Endpoint", "emitWhole", "(IIIII)V"⟩, 10) := ⟨⟨by decide +kernel, by decide +kernel⟩, List.mem_of_getElem? (i := 180) (by decide +kernel), List.mem_of_getElem? (i := 372) (by decide +kernel), List.mem_of_getElem? (i := 373) (by decide +kernel)⟩
theorem lw_p5 : lw_okq (⟨"WireHosts$Host", "sendPacket", "(IIZ)V"⟩, 14) := ⟨⟨by decide +kernel, by decide +kernel⟩, List.mem_of_getElem? (i := 50) (by decide +kernel), List.mem_of_getElem? (i := 424) (by decide +kernel), List.mem_of_getElem? (i := 425) (by decide +kernel)⟩
theorem lw_p6 : lw_okq (⟨"WireHosts$Link", "sendFrame", "(III)V"⟩, 7) := ⟨⟨by decide +kernel, by decide +kernel⟩, List.mem_of_getElem? (i := 58) (by decide +kernel), List.mem_of_getElem? (i := 437) (by decide +kernel), List.mem_of_getElem? (i := 438) (by decide +kernel)⟩
theorem lw_p7 : lw_okq (⟨"WireHosts$Link", "sendAsk", "(II)V"⟩, 7) := ⟨⟨by decide +kernel, by decide +kernel⟩, List.mem_of_getElem? (i := 58) (by decide +kernel), List.mem_of_getElem? (i := 442) (by decide +kernel), List.mem_of_getElem? (i := 443) (by decide +kernel)⟩
theorem lw_p8 : lw_okq (⟨"WireHosts$Endpoint", "isSendingState", "()Z"⟩, 10) := ⟨⟨by decide +kernel, by decide +kernel⟩, List.mem_of_getElem? (i := 180) (by decide +kernel), List.mem_of_getElem? (i := 455) (by decide +kernel), List.mem_of_getElem? (i := 456) (by decide +kernel)⟩
theorem lw_p9 : lw_okq (⟨"WireHosts$Endpoint", "push", "()V"⟩, 10) := ⟨⟨by decide +kernel, by decide +kernel⟩, List.mem_of_getElem? (i := 180) (by decide +kernel), List.mem_of_getElem? (i := 467) (by decide +kernel), List.mem_of_getElem? (i := 468) (by decide +kernel)⟩
theorem lw_p10 : lw_okq (⟨"WireHosts$Endpoint", "pushBytes", "()V"⟩, 10) := ⟨⟨by decide +kernel, by decide +kernel⟩, List.mem_of_getElem? (i := 180) (by decide +kernel), List.mem_of_getElem? (i := 471) (by decide +kernel), List.mem_of_getElem? (i := 472) (by decide +kernel)⟩
theorem lw_p11 : lw_okq (⟨"WireHosts$Endpoint", "isReceivingState", "()Z"⟩, 10) := ⟨⟨by decide +kernel, by decide +kernel⟩, List.mem_of_getElem? (i := 180) (by decide +kernel), List.mem_of_getElem? (i := 510) (by decide +kernel), List.mem_of_getElem? (i := 511) (by decide +kernel)⟩
theorem lw_p12 : lw_okq (⟨"WireHosts$Endpoint", "emitAck", "()V"⟩, 10) := ⟨⟨by decide +kernel, by decide +kernel⟩, List.mem_of_getElem? (i := 180) (by decide +kernel), List.mem_of_getElem? (i := 514) (by decide +kernel), List.mem_of_getElem? (i := 515) (by decide +kernel)⟩
theorem lw_p13 : lw_okq (⟨"WireHosts$Endpoint", "shut", "()V"⟩, 10) := ⟨⟨by decide +kernel, by decide +kernel⟩, List.mem_of_getElem? (i := 180) (by decide +kernel), List.mem_of_getElem? (i := 526) (by decide +kernel), List.mem_of_getElem? (i := 527) (by decide +kernel)⟩
theorem lw_p14 : lw_okq (⟨"WireHosts$Host", "leaveEcho", "(I)V"⟩, 14) := ⟨⟨by decide +kernel, by decide +kernel⟩, List.mem_of_getElem? (i := 50) (by decide +kernel), List.mem_of_getElem? (i := 554) (by decide +kernel), List.mem_of_getElem? (i := 555) (by decide +kernel)⟩
theorem lw_p15 : lw_okq (⟨"WireHosts$Link", "isRightAsk", "([II)Z"⟩, 7) := ⟨⟨by decide +kernel, by decide +kernel⟩, List.mem_of_getElem? (i := 58) (by decide +kernel), List.mem_of_getElem? (i := 588) (by decide +kernel), List.mem_of_getElem? (i := 589) (by decide +kernel)⟩
def lw_privs_1 : List (MethodName × Nat) := [(⟨"WireHosts", "endpointAt", "(II)LWireHosts$Endpoint;"⟩, 3), (⟨"WireHosts", "isHost", "(I)Z"⟩, 3), (⟨"WireHosts$Endpoint", "begin", "(I)V"⟩, 10), (⟨"WireHosts$Endpoint", "emit", "(II)V"⟩, 10), (⟨"WireHosts$Endpoint", "emitWhole", "(IIIII)V"⟩, 10), (⟨"WireHosts$Host", "sendPacket", "(IIZ)V"⟩, 14), (⟨"WireHosts$Link", "sendFrame", "(III)V"⟩, 7), (⟨"WireHosts$Link", "sendAsk", "(II)V"⟩, 7), (⟨"WireHosts$Endpoint", "isSendingState", "()Z"⟩, 10), (⟨"WireHosts$Endpoint", "push", "()V"⟩, 10), (⟨"WireHosts$Endpoint", "pushBytes", "()V"⟩, 10), (⟨"WireHosts$Endpoint", "isReceivingState", "()Z"⟩, 10), (⟨"WireHosts$Endpoint", "emitAck", "()V"⟩, 10), (⟨"WireHosts$Endpoint", "shut", "()V"⟩, 10), (⟨"WireHosts$Host", "leaveEcho", "(I)V"⟩, 14), (⟨"WireHosts$Link", "isRightAsk", "([II)Z"⟩, 7)]
theorem lw_r1 : ∀ q ∈ lw_privs_1, lw_okq q := List.forall_mem_cons.mpr ⟨lw_p0, List.forall_mem_cons.mpr ⟨lw_p1, List.forall_mem_cons.mpr ⟨lw_p2, List.forall_mem_cons.mpr ⟨lw_p3, List.forall_mem_cons.mpr ⟨lw_p4, List.forall_mem_cons.mpr ⟨lw_p5, List.forall_mem_cons.mpr ⟨lw_p6, List.forall_mem_cons.mpr ⟨lw_p7, List.forall_mem_cons.mpr ⟨lw_p8, List.forall_mem_cons.mpr ⟨lw_p9, List.forall_mem_cons.mpr ⟨lw_p10, List.forall_mem_cons.mpr ⟨lw_p11, List.forall_mem_cons.mpr ⟨lw_p12, List.forall_mem_cons.mpr ⟨lw_p13, List.forall_mem_cons.mpr ⟨lw_p14, List.forall_mem_cons.mpr ⟨lw_p15, fun _ h => absurd h List.not_mem_nil⟩⟩⟩⟩⟩⟩⟩⟩⟩⟩⟩⟩⟩⟩⟩⟩
theorem lw_p16 : lw_okq (⟨"WireHosts$Host", "takePacket", "(I)Z"⟩, 14) := ⟨⟨by decide +kernel, by decide +kernel⟩, List.mem_of_getElem? (i := 50) (by decide +kernel), List.mem_of_getElem? (i := 594) (by decide +kernel), List.mem_of_getElem? (i := 595) (by decide +kernel)⟩
theorem lw_p17 : lw_okq (⟨"WireHosts$Pieces", "keepMessage", "([IIII)V"⟩, 5) := ⟨⟨by decide +kernel, by decide +kernel⟩, List.mem_of_getElem? (i := 92) (by decide +kernel), List.mem_of_getElem? (i := 602) (by decide +kernel), List.mem_of_getElem? (i := 603) (by decide +kernel)⟩
theorem lw_p18 : lw_okq (⟨"WireHosts$Pieces", "slotFor", "(II)LWireHosts$Slot;"⟩, 5) := ⟨⟨by decide +kernel, by decide +kernel⟩, List.mem_of_getElem? (i := 92) (by decide +kernel), List.mem_of_getElem? (i := 607) (by decide +kernel), List.mem_of_getElem? (i := 608) (by decide +kernel)⟩
theorem lw_p19 : lw_okq (⟨"WireHosts$Pieces", "slotToBegin", "()LWireHosts$Slot;"⟩, 5) := ⟨⟨by decide +kernel, by decide +kernel⟩, List.mem_of_getElem? (i := 92) (by decide +kernel), List.mem_of_getElem? (i := 615) (by decide +kernel), List.mem_of_getElem? (i := 616) (by decide +kernel)⟩
theorem lw_p20 : lw_okq (⟨"WireHosts$Host", "takeEcho", "(I)V"⟩, 14) := ⟨⟨by decide +kernel, by decide +kernel⟩, List.mem_of_getElem? (i := 50) (by decide +kernel), List.mem_of_getElem? (i := 636) (by decide +kernel), List.mem_of_getElem? (i := 637) (by decide +kernel)⟩
theorem lw_p21 : lw_okq (⟨"WireHosts$Endpoint", "answerWhenClosed", "(LWireHosts$Segment;)V"⟩, 10) := ⟨⟨by decide +kernel, by decide +kernel⟩, List.mem_of_getElem? (i := 180) (by decide +kernel), List.mem_of_getElem? (i := 654) (by decide +kernel), List.mem_of_getElem? (i := 655) (by decide +kernel)⟩
theorem lw_p22 : lw_okq (⟨"WireHosts$Endpoint", "answerWhenListening", "(LWireHosts$Segment;I)V"⟩, 10) := ⟨⟨by decide +kernel, by decide +kernel⟩, List.mem_of_getElem? (i := 180) (by decide +kernel), List.mem_of_getElem? (i := 667) (by decide +kernel), List.mem_of_getElem? (i := 668) (by decide +kernel)⟩
theorem lw_p23 : lw_okq (⟨"WireHosts$Endpoint", "answerWhenSynSent", "(LWireHosts$Segment;)V"⟩, 10) := ⟨⟨by decide +kernel, by decide +kernel⟩, List.mem_of_getElem? (i := 180) (by decide +kernel), List.mem_of_getElem? (i := 676) (by decide +kernel), List.mem_of_getElem? (i := 677) (by decide +kernel)⟩
theorem lw_p24 : lw_okq (⟨"WireHosts$Endpoint", "restartTimer", "()V"⟩, 10) := ⟨⟨by decide +kernel, by decide +kernel⟩, List.mem_of_getElem? (i := 180) (by decide +kernel), List.mem_of_getElem? (i := 684) (by decide +kernel), List.mem_of_getElem? (i := 685) (by decide +kernel)⟩
theorem lw_p25 : lw_okq (⟨"WireHosts$Endpoint", "isAdmitted", "(LWireHosts$Segment;)Z"⟩, 10) := ⟨⟨by decide +kernel, by decide +kernel⟩, List.mem_of_getElem? (i := 180) (by decide +kernel), List.mem_of_getElem? (i := 688) (by decide +kernel), List.mem_of_getElem? (i := 689) (by decide +kernel)⟩
theorem lw_p26 : lw_okq (⟨"WireHosts$Receiving", "isNear", "(II)Z"⟩, 5) := ⟨⟨by decide +kernel, by decide +kernel⟩, List.mem_of_getElem? (i := 220) (by decide +kernel), List.mem_of_getElem? (i := 698) (by decide +kernel), List.mem_of_getElem? (i := 699) (by decide +kernel)⟩
theorem lw_p27 : lw_okq (⟨"WireHosts$Endpoint", "isOpenFor", "(LWireHosts$Segment;)Z"⟩, 10) := ⟨⟨by decide +kernel, by decide +kernel⟩, List.mem_of_getElem? (i := 180) (by decide +kernel), List.mem_of_getElem? (i := 702) (by decide +kernel), List.mem_of_getElem? (i := 703) (by decide +kernel)⟩
theorem lw_p28 : lw_okq (⟨"WireHosts$Endpoint", "takeConfirmation", "(LWireHosts$Segment;)Z"⟩, 10) := ⟨⟨by decide +kernel, by decide +kernel⟩, List.mem_of_getElem? (i := 180) (by decide +kernel), List.mem_of_getElem? (i := 706) (by decide +kernel), List.mem_of_getElem? (i := 707) (by decide +kernel)⟩
theorem lw_p29 : lw_okq (⟨"WireHosts$Endpoint", "allIsConfirmed", "()V"⟩, 10) := ⟨⟨by decide +kernel, by decide +kernel⟩, List.mem_of_getElem? (i := 180) (by decide +kernel), List.mem_of_getElem? (i := 718) (by decide +kernel), List.mem_of_getElem? (i := 719) (by decide +kernel)⟩
theorem lw_p30 : lw_okq (⟨"WireHosts$Endpoint", "startTime", "()V"⟩, 10) := ⟨⟨by decide +kernel, by decide +kernel⟩, List.mem_of_getElem? (i := 180) (by decide +kernel), List.mem_of_getElem? (i := 722) (by decide +kernel), List.mem_of_getElem? (i := 723) (by decide +kernel)⟩
theorem lw_p31 : lw_okq (⟨"WireHosts$Endpoint", "takeContents", "(LWireHosts$Segment;)V"⟩, 10) := ⟨⟨by decide +kernel, by decide +kernel⟩, List.mem_of_getElem? (i := 180) (by decide +kernel), List.mem_of_getElem? (i := 726) (by decide +kernel), List.mem_of_getElem? (i := 727) (by decide +kernel)⟩
def lw_privs_2 : List (MethodName × Nat) := [(⟨"WireHosts$Host", "takePacket", "(I)Z"⟩, 14), (⟨"WireHosts$Pieces", "keepMessage", "([IIII)V"⟩, 5), (⟨"WireHosts$Pieces", "slotFor", "(II)LWireHosts$Slot;"⟩, 5), (⟨"WireHosts$Pieces", "slotToBegin", "()LWireHosts$Slot;"⟩, 5), (⟨"WireHosts$Host", "takeEcho", "(I)V"⟩, 14), (⟨"WireHosts$Endpoint", "answerWhenClosed", "(LWireHosts$Segment;)V"⟩, 10), (⟨"WireHosts$Endpoint", "answerWhenListening", "(LWireHosts$Segment;I)V"⟩, 10), (⟨"WireHosts$Endpoint", "answerWhenSynSent", "(LWireHosts$Segment;)V"⟩, 10), (⟨"WireHosts$Endpoint", "restartTimer", "()V"⟩, 10), (⟨"WireHosts$Endpoint", "isAdmitted", "(LWireHosts$Segment;)Z"⟩, 10), (⟨"WireHosts$Receiving", "isNear", "(II)Z"⟩, 5), (⟨"WireHosts$Endpoint", "isOpenFor", "(LWireHosts$Segment;)Z"⟩, 10), (⟨"WireHosts$Endpoint", "takeConfirmation", "(LWireHosts$Segment;)Z"⟩, 10), (⟨"WireHosts$Endpoint", "allIsConfirmed", "()V"⟩, 10), (⟨"WireHosts$Endpoint", "startTime", "()V"⟩, 10), (⟨"WireHosts$Endpoint", "takeContents", "(LWireHosts$Segment;)V"⟩, 10)]
theorem lw_r2 : ∀ q ∈ lw_privs_2, lw_okq q := List.forall_mem_cons.mpr ⟨lw_p16, List.forall_mem_cons.mpr ⟨lw_p17, List.forall_mem_cons.mpr ⟨lw_p18, List.forall_mem_cons.mpr ⟨lw_p19, List.forall_mem_cons.mpr ⟨lw_p20, List.forall_mem_cons.mpr ⟨lw_p21, List.forall_mem_cons.mpr ⟨lw_p22, List.forall_mem_cons.mpr ⟨lw_p23, List.forall_mem_cons.mpr ⟨lw_p24, List.forall_mem_cons.mpr ⟨lw_p25, List.forall_mem_cons.mpr ⟨lw_p26, List.forall_mem_cons.mpr ⟨lw_p27, List.forall_mem_cons.mpr ⟨lw_p28, List.forall_mem_cons.mpr ⟨lw_p29, List.forall_mem_cons.mpr ⟨lw_p30, List.forall_mem_cons.mpr ⟨lw_p31, fun _ h => absurd h List.not_mem_nil⟩⟩⟩⟩⟩⟩⟩⟩⟩⟩⟩⟩⟩⟩⟩⟩
theorem lw_p32 : lw_okq (⟨"WireHosts$Endpoint", "otherIsAtEnd", "()V"⟩, 10) := ⟨⟨by decide +kernel, by decide +kernel⟩, List.mem_of_getElem? (i := 180) (by decide +kernel), List.mem_of_getElem? (i := 743) (by decide +kernel), List.mem_of_getElem? (i := 744) (by decide +kernel)⟩
theorem lw_p33 : lw_okq (⟨"WireHosts$Rows", "copyFirstToEnd", "()V"⟩, 5) := ⟨⟨by decide +kernel, by decide +kernel⟩, List.mem_of_getElem? (i := 25) (by decide +kernel), List.mem_of_getElem? (i := 756) (by decide +kernel), List.mem_of_getElem? (i := 757) (by decide +kernel)⟩
theorem lw_p34 : lw_okq (⟨"WireHosts$Endpoint", "timeIsOver", "()V"⟩, 10) := ⟨⟨by decide +kernel, by decide +kernel⟩, List.mem_of_getElem? (i := 180) (by decide +kernel), List.mem_of_getElem? (i := 796) (by decide +kernel), List.mem_of_getElem? (i := 797) (by decide +kernel)⟩
theorem lw_p35 : lw_okq (⟨"WireHosts$Endpoint", "sendAgain", "()V"⟩, 10) := ⟨⟨by decide +kernel, by decide +kernel⟩, List.mem_of_getElem? (i := 180) (by decide +kernel), List.mem_of_getElem? (i := 801) (by decide +kernel), List.mem_of_getElem? (i := 802) (by decide +kernel)⟩
theorem lw_p36 : lw_okq (⟨"WireHostsModel", "sendEcho", "(II)V"⟩, 50) := ⟨⟨by decide +kernel, by decide +kernel⟩, List.mem_of_getElem? (i := 831) (by decide +kernel), List.mem_of_getElem? (i := 996) (by decide +kernel), List.mem_of_getElem? (i := 997) (by decide +kernel)⟩
theorem lw_p37 : lw_okq (⟨"WireHostsModel", "copyRow", "([II)V"⟩, 50) := ⟨⟨by decide +kernel, by decide +kernel⟩, List.mem_of_getElem? (i := 831) (by decide +kernel), List.mem_of_getElem? (i := 1000) (by decide +kernel), List.mem_of_getElem? (i := 1001) (by decide +kernel)⟩
theorem lw_p38 : lw_okq (⟨"WireHostsModel", "check", "()I"⟩, 50) := ⟨⟨by decide +kernel, by decide +kernel⟩, List.mem_of_getElem? (i := 831) (by decide +kernel), List.mem_of_getElem? (i := 1004) (by decide +kernel), List.mem_of_getElem? (i := 1005) (by decide +kernel)⟩
theorem lw_p39 : lw_okq (⟨"WireHostsModel", "sends", "(II)V"⟩, 50) := ⟨⟨by decide +kernel, by decide +kernel⟩, List.mem_of_getElem? (i := 831) (by decide +kernel), List.mem_of_getElem? (i := 1010) (by decide +kernel), List.mem_of_getElem? (i := 1011) (by decide +kernel)⟩
theorem lw_p40 : lw_okq (⟨"WireHostsModel", "part", "(IIIIZ)V"⟩, 50) := ⟨⟨by decide +kernel, by decide +kernel⟩, List.mem_of_getElem? (i := 831) (by decide +kernel), List.mem_of_getElem? (i := 1014) (by decide +kernel), List.mem_of_getElem? (i := 1015) (by decide +kernel)⟩
theorem lw_p41 : lw_okq (⟨"WireHostsModel", "sendPacket", "(I)V"⟩, 50) := ⟨⟨by decide +kernel, by decide +kernel⟩, List.mem_of_getElem? (i := 831) (by decide +kernel), List.mem_of_getElem? (i := 1018) (by decide +kernel), List.mem_of_getElem? (i := 1019) (by decide +kernel)⟩
theorem lw_p42 : lw_okq (⟨"WireHostsModel", "goes", "(I)V"⟩, 50) := ⟨⟨by decide +kernel, by decide +kernel⟩, List.mem_of_getElem? (i := 831) (by decide +kernel), List.mem_of_getElem? (i := 1022) (by decide +kernel), List.mem_of_getElem? (i := 1023) (by decide +kernel)⟩
theorem lw_p43 : lw_okq (⟨"WireHostsModel", "fly", "(I)V"⟩, 50) := ⟨⟨by decide +kernel, by decide +kernel⟩, List.mem_of_getElem? (i := 831) (by decide +kernel), List.mem_of_getElem? (i := 1026) (by decide +kernel), List.mem_of_getElem? (i := 1027) (by decide +kernel)⟩
theorem lw_p44 : lw_okq (⟨"WireHostsModel", "asks", "(III)V"⟩, 50) := ⟨⟨by decide +kernel, by decide +kernel⟩, List.mem_of_getElem? (i := 831) (by decide +kernel), List.mem_of_getElem? (i := 1030) (by decide +kernel), List.mem_of_getElem? (i := 1031) (by decide +kernel)⟩
theorem lw_p45 : lw_okq (⟨"WireHostsModel", "fresh", "(I)V"⟩, 50) := ⟨⟨by decide +kernel, by decide +kernel⟩, List.mem_of_getElem? (i := 831) (by decide +kernel), List.mem_of_getElem? (i := 1044) (by decide +kernel), List.mem_of_getElem? (i := 1045) (by decide +kernel)⟩
theorem lw_p46 : lw_okq (⟨"WireHostsModel", "begins", "(I)V"⟩, 50) := ⟨⟨by decide +kernel, by decide +kernel⟩, List.mem_of_getElem? (i := 831) (by decide +kernel), List.mem_of_getElem? (i := 1052) (by decide +kernel), List.mem_of_getElem? (i := 1053) (by decide +kernel)⟩
theorem lw_p47 : lw_okq (⟨"WireHostsModel", "go", "(III)V"⟩, 50) := ⟨⟨by decide +kernel, by decide +kernel⟩, List.mem_of_getElem? (i := 831) (by decide +kernel), List.mem_of_getElem? (i := 1056) (by decide +kernel), List.mem_of_getElem? (i := 1057) (by decide +kernel)⟩
def lw_privs_3 : List (MethodName × Nat) := [(⟨"WireHosts$Endpoint", "otherIsAtEnd", "()V"⟩, 10), (⟨"WireHosts$Rows", "copyFirstToEnd", "()V"⟩, 5), (⟨"WireHosts$Endpoint", "timeIsOver", "()V"⟩, 10), (⟨"WireHosts$Endpoint", "sendAgain", "()V"⟩, 10), (⟨"WireHostsModel", "sendEcho", "(II)V"⟩, 50), (⟨"WireHostsModel", "copyRow", "([II)V"⟩, 50), (⟨"WireHostsModel", "check", "()I"⟩, 50), (⟨"WireHostsModel", "sends", "(II)V"⟩, 50), (⟨"WireHostsModel", "part", "(IIIIZ)V"⟩, 50), (⟨"WireHostsModel", "sendPacket", "(I)V"⟩, 50), (⟨"WireHostsModel", "goes", "(I)V"⟩, 50), (⟨"WireHostsModel", "fly", "(I)V"⟩, 50), (⟨"WireHostsModel", "asks", "(III)V"⟩, 50), (⟨"WireHostsModel", "fresh", "(I)V"⟩, 50), (⟨"WireHostsModel", "begins", "(I)V"⟩, 50), (⟨"WireHostsModel", "go", "(III)V"⟩, 50)]
theorem lw_r3 : ∀ q ∈ lw_privs_3, lw_okq q := List.forall_mem_cons.mpr ⟨lw_p32, List.forall_mem_cons.mpr ⟨lw_p33, List.forall_mem_cons.mpr ⟨lw_p34, List.forall_mem_cons.mpr ⟨lw_p35, List.forall_mem_cons.mpr ⟨lw_p36, List.forall_mem_cons.mpr ⟨lw_p37, List.forall_mem_cons.mpr ⟨lw_p38, List.forall_mem_cons.mpr ⟨lw_p39, List.forall_mem_cons.mpr ⟨lw_p40, List.forall_mem_cons.mpr ⟨lw_p41, List.forall_mem_cons.mpr ⟨lw_p42, List.forall_mem_cons.mpr ⟨lw_p43, List.forall_mem_cons.mpr ⟨lw_p44, List.forall_mem_cons.mpr ⟨lw_p45, List.forall_mem_cons.mpr ⟨lw_p46, List.forall_mem_cons.mpr ⟨lw_p47, fun _ h => absurd h List.not_mem_nil⟩⟩⟩⟩⟩⟩⟩⟩⟩⟩⟩⟩⟩⟩⟩⟩
theorem lw_p48 : lw_okq (⟨"WireHostsModel", "segmentGoes", "(IIIIII)V"⟩, 50) := ⟨⟨by decide +kernel, by decide +kernel⟩, List.mem_of_getElem? (i := 831) (by decide +kernel), List.mem_of_getElem? (i := 1060) (by decide +kernel), List.mem_of_getElem? (i := 1061) (by decide +kernel)⟩
theorem lw_p49 : lw_okq (⟨"WireHostsModel", "put", "(II)V"⟩, 50) := ⟨⟨by decide +kernel, by decide +kernel⟩, List.mem_of_getElem? (i := 831) (by decide +kernel), List.mem_of_getElem? (i := 1064) (by decide +kernel), List.mem_of_getElem? (i := 1065) (by decide +kernel)⟩
theorem lw_p50 : lw_okq (⟨"WireHostsModel", "room", "(I)I"⟩, 50) := ⟨⟨by decide +kernel, by decide +kernel⟩, List.mem_of_getElem? (i := 831) (by decide +kernel), List.mem_of_getElem? (i := 1068) (by decide +kernel), List.mem_of_getElem? (i := 1069) (by decide +kernel)⟩
theorem lw_p51 : lw_okq (⟨"WireHostsModel", "segmentRow", "(II)V"⟩, 50) := ⟨⟨by decide +kernel, by decide +kernel⟩, List.mem_of_getElem? (i := 831) (by decide +kernel), List.mem_of_getElem? (i := 1072) (by decide +kernel), List.mem_of_getElem? (i := 1073) (by decide +kernel)⟩
theorem lw_p52 : lw_okq (⟨"WireHostsModel", "push", "(I)V"⟩, 50) := ⟨⟨by decide +kernel, by decide +kernel⟩, List.mem_of_getElem? (i := 831) (by decide +kernel), List.mem_of_getElem? (i := 1080) (by decide +kernel), List.mem_of_getElem? (i := 1081) (by decide +kernel)⟩
theorem lw_p53 : lw_okq (⟨"WireHostsModel", "sent", "(I)I"⟩, 50) := ⟨⟨by decide +kernel, by decide +kernel⟩, List.mem_of_getElem? (i := 831) (by decide +kernel), List.mem_of_getElem? (i := 1084) (by decide +kernel), List.mem_of_getElem? (i := 1085) (by decide +kernel)⟩
theorem lw_p54 : lw_okq (⟨"WireHostsModel", "closes", "(I)V"⟩, 50) := ⟨⟨by decide +kernel, by decide +kernel⟩, List.mem_of_getElem? (i := 831) (by decide +kernel), List.mem_of_getElem? (i := 1099) (by decide +kernel), List.mem_of_getElem? (i := 1100) (by decide +kernel)⟩
theorem lw_p55 : lw_okq (⟨"WireHostsModel", "any", "(I)Z"⟩, 50) := ⟨⟨by decide +kernel, by decide +kernel⟩, List.mem_of_getElem? (i := 831) (by decide +kernel), List.mem_of_getElem? (i := 1111) (by decide +kernel), List.mem_of_getElem? (i := 1112) (by decide +kernel)⟩
theorem lw_p56 : lw_okq (⟨"WireHostsModel", "land", "(I)V"⟩, 50) := ⟨⟨by decide +kernel, by decide +kernel⟩, List.mem_of_getElem? (i := 831) (by decide +kernel), List.mem_of_getElem? (i := 1115) (by decide +kernel), List.mem_of_getElem? (i := 1116) (by decide +kernel)⟩
theorem lw_p57 : lw_okq (⟨"WireHostsModel", "asked", "(I)V"⟩, 50) := ⟨⟨by decide +kernel, by decide +kernel⟩, List.mem_of_getElem? (i := 831) (by decide +kernel), List.mem_of_getElem? (i := 1119) (by decide +kernel), List.mem_of_getElem? (i := 1120) (by decide +kernel)⟩
theorem lw_p58 : lw_okq (⟨"WireHostsModel", "came", "(I)V"⟩, 50) := ⟨⟨by decide +kernel, by decide +kernel⟩, List.mem_of_getElem? (i := 831) (by decide +kernel), List.mem_of_getElem? (i := 1123) (by decide +kernel), List.mem_of_getElem? (i := 1124) (by decide +kernel)⟩
theorem lw_p59 : lw_okq (⟨"WireHostsModel", "arrives", "(II)V"⟩, 50) := ⟨⟨by decide +kernel, by decide +kernel⟩, List.mem_of_getElem? (i := 831) (by decide +kernel), List.mem_of_getElem? (i := 1127) (by decide +kernel), List.mem_of_getElem? (i := 1128) (by decide +kernel)⟩
theorem lw_p60 : lw_okq (⟨"WireHostsModel", "echo", "(I)V"⟩, 50) := ⟨⟨by decide +kernel, by decide +kernel⟩, List.mem_of_getElem? (i := 831) (by decide +kernel), List.mem_of_getElem? (i := 1131) (by decide +kernel), List.mem_of_getElem? (i := 1132) (by decide +kernel)⟩
theorem lw_p61 : lw_okq (⟨"WireHostsModel", "segment", "(I)V"⟩, 50) := ⟨⟨by decide +kernel, by decide +kernel⟩, List.mem_of_getElem? (i := 831) (by decide +kernel), List.mem_of_getElem? (i := 1135) (by decide +kernel), List.mem_of_getElem? (i := 1136) (by decide +kernel)⟩
theorem lw_p62 : lw_okq (⟨"WireHostsModel", "has", "(I)Z"⟩, 50) := ⟨⟨by decide +kernel, by decide +kernel⟩, List.mem_of_getElem? (i := 831) (by decide +kernel), List.mem_of_getElem? (i := 1139) (by decide +kernel), List.mem_of_getElem? (i := 1140) (by decide +kernel)⟩
theorem lw_p63 : lw_okq (⟨"WireHostsModel", "span", "()I"⟩, 50) := ⟨⟨by decide +kernel, by decide +kernel⟩, List.mem_of_getElem? (i := 831) (by decide +kernel), List.mem_of_getElem? (i := 1143) (by decide +kernel), List.mem_of_getElem? (i := 1144) (by decide +kernel)⟩
def lw_privs_4 : List (MethodName × Nat) := [(⟨"WireHostsModel", "segmentGoes", "(IIIIII)V"⟩, 50), (⟨"WireHostsModel", "put", "(II)V"⟩, 50), (⟨"WireHostsModel", "room", "(I)I"⟩, 50), (⟨"WireHostsModel", "segmentRow", "(II)V"⟩, 50), (⟨"WireHostsModel", "push", "(I)V"⟩, 50), (⟨"WireHostsModel", "sent", "(I)I"⟩, 50), (⟨"WireHostsModel", "closes", "(I)V"⟩, 50), (⟨"WireHostsModel", "any", "(I)Z"⟩, 50), (⟨"WireHostsModel", "land", "(I)V"⟩, 50), (⟨"WireHostsModel", "asked", "(I)V"⟩, 50), (⟨"WireHostsModel", "came", "(I)V"⟩, 50), (⟨"WireHostsModel", "arrives", "(II)V"⟩, 50), (⟨"WireHostsModel", "echo", "(I)V"⟩, 50), (⟨"WireHostsModel", "segment", "(I)V"⟩, 50), (⟨"WireHostsModel", "has", "(I)Z"⟩, 50), (⟨"WireHostsModel", "span", "()I"⟩, 50)]
theorem lw_r4 : ∀ q ∈ lw_privs_4, lw_okq q := List.forall_mem_cons.mpr ⟨lw_p48, List.forall_mem_cons.mpr ⟨lw_p49, List.forall_mem_cons.mpr ⟨lw_p50, List.forall_mem_cons.mpr ⟨lw_p51, List.forall_mem_cons.mpr ⟨lw_p52, List.forall_mem_cons.mpr ⟨lw_p53, List.forall_mem_cons.mpr ⟨lw_p54, List.forall_mem_cons.mpr ⟨lw_p55, List.forall_mem_cons.mpr ⟨lw_p56, List.forall_mem_cons.mpr ⟨lw_p57, List.forall_mem_cons.mpr ⟨lw_p58, List.forall_mem_cons.mpr ⟨lw_p59, List.forall_mem_cons.mpr ⟨lw_p60, List.forall_mem_cons.mpr ⟨lw_p61, List.forall_mem_cons.mpr ⟨lw_p62, List.forall_mem_cons.mpr ⟨lw_p63, fun _ h => absurd h List.not_mem_nil⟩⟩⟩⟩⟩⟩⟩⟩⟩⟩⟩⟩⟩⟩⟩⟩
theorem lw_p64 : lw_okq (⟨"WireHostsModel", "listens", "(I)V"⟩, 50) := ⟨⟨by decide +kernel, by decide +kernel⟩, List.mem_of_getElem? (i := 831) (by decide +kernel), List.mem_of_getElem? (i := 1147) (by decide +kernel), List.mem_of_getElem? (i := 1148) (by decide +kernel)⟩
theorem lw_p65 : lw_okq (⟨"WireHostsModel", "awaits", "(I)V"⟩, 50) := ⟨⟨by decide +kernel, by decide +kernel⟩, List.mem_of_getElem? (i := 831) (by decide +kernel), List.mem_of_getElem? (i := 1151) (by decide +kernel), List.mem_of_getElem? (i := 1152) (by decide +kernel)⟩
theorem lw_p66 : lw_okq (⟨"WireHostsModel", "other", "(I)V"⟩, 50) := ⟨⟨by decide +kernel, by decide +kernel⟩, List.mem_of_getElem? (i := 831) (by decide +kernel), List.mem_of_getElem? (i := 1155) (by decide +kernel), List.mem_of_getElem? (i := 1156) (by decide +kernel)⟩
theorem lw_p67 : lw_okq (⟨"WireHostsModel", "fits", "(I)Z"⟩, 50) := ⟨⟨by decide +kernel, by decide +kernel⟩, List.mem_of_getElem? (i := 831) (by decide +kernel), List.mem_of_getElem? (i := 1159) (by decide +kernel), List.mem_of_getElem? (i := 1160) (by decide +kernel)⟩
theorem lw_p68 : lw_okq (⟨"WireHostsModel", "confirms", "(I)Z"⟩, 50) := ⟨⟨by decide +kernel, by decide +kernel⟩, List.mem_of_getElem? (i := 831) (by decide +kernel), List.mem_of_getElem? (i := 1163) (by decide +kernel), List.mem_of_getElem? (i := 1164) (by decide +kernel)⟩
theorem lw_p69 : lw_okq (⟨"WireHostsModel", "ends", "(I)Z"⟩, 50) := ⟨⟨by decide +kernel, by decide +kernel⟩, List.mem_of_getElem? (i := 831) (by decide +kernel), List.mem_of_getElem? (i := 1167) (by decide +kernel), List.mem_of_getElem? (i := 1168) (by decide +kernel)⟩
theorem lw_p70 : lw_okq (⟨"WireHostsModel", "takes", "(I)V"⟩, 50) := ⟨⟨by decide +kernel, by decide +kernel⟩, List.mem_of_getElem? (i := 831) (by decide +kernel), List.mem_of_getElem? (i := 1171) (by decide +kernel), List.mem_of_getElem? (i := 1172) (by decide +kernel)⟩
theorem lw_p71 : lw_okq (⟨"WireHostsModel", "piece", "(II)V"⟩, 50) := ⟨⟨by decide +kernel, by decide +kernel⟩, List.mem_of_getElem? (i := 831) (by decide +kernel), List.mem_of_getElem? (i := 1175) (by decide +kernel), List.mem_of_getElem? (i := 1176) (by decide +kernel)⟩
theorem lw_p72 : lw_okq (⟨"WireHostsModel", "slotFor", "(I)I"⟩, 50) := ⟨⟨by decide +kernel, by decide +kernel⟩, List.mem_of_getElem? (i := 831) (by decide +kernel), List.mem_of_getElem? (i := 1179) (by decide +kernel), List.mem_of_getElem? (i := 1180) (by decide +kernel)⟩
theorem lw_p73 : lw_okq (⟨"WireHostsModel", "beats", "(I)V"⟩, 50) := ⟨⟨by decide +kernel, by decide +kernel⟩, List.mem_of_getElem? (i := 831) (by decide +kernel), List.mem_of_getElem? (i := 1195) (by decide +kernel), List.mem_of_getElem? (i := 1196) (by decide +kernel)⟩
theorem lw_p74 : lw_okq (⟨"WireHostsModel", "due", "(I)V"⟩, 50) := ⟨⟨by decide +kernel, by decide +kernel⟩, List.mem_of_getElem? (i := 831) (by decide +kernel), List.mem_of_getElem? (i := 1199) (by decide +kernel), List.mem_of_getElem? (i := 1200) (by decide +kernel)⟩
def lw_privs_5 : List (MethodName × Nat) := [(⟨"WireHostsModel", "listens", "(I)V"⟩, 50), (⟨"WireHostsModel", "awaits", "(I)V"⟩, 50), (⟨"WireHostsModel", "other", "(I)V"⟩, 50), (⟨"WireHostsModel", "fits", "(I)Z"⟩, 50), (⟨"WireHostsModel", "confirms", "(I)Z"⟩, 50), (⟨"WireHostsModel", "ends", "(I)Z"⟩, 50), (⟨"WireHostsModel", "takes", "(I)V"⟩, 50), (⟨"WireHostsModel", "piece", "(II)V"⟩, 50), (⟨"WireHostsModel", "slotFor", "(I)I"⟩, 50), (⟨"WireHostsModel", "beats", "(I)V"⟩, 50), (⟨"WireHostsModel", "due", "(I)V"⟩, 50)]
theorem lw_r5 : ∀ q ∈ lw_privs_5, lw_okq q := List.forall_mem_cons.mpr ⟨lw_p64, List.forall_mem_cons.mpr ⟨lw_p65, List.forall_mem_cons.mpr ⟨lw_p66, List.forall_mem_cons.mpr ⟨lw_p67, List.forall_mem_cons.mpr ⟨lw_p68, List.forall_mem_cons.mpr ⟨lw_p69, List.forall_mem_cons.mpr ⟨lw_p70, List.forall_mem_cons.mpr ⟨lw_p71, List.forall_mem_cons.mpr ⟨lw_p72, List.forall_mem_cons.mpr ⟨lw_p73, List.forall_mem_cons.mpr ⟨lw_p74, fun _ h => absurd h List.not_mem_nil⟩⟩⟩⟩⟩⟩⟩⟩⟩⟩⟩
def lw_privs : List (MethodName × Nat) := lw_privs_1 ++ (lw_privs_2 ++ (lw_privs_3 ++ (lw_privs_4 ++ (lw_privs_5))))
def lw_tbl : List Cond := k2_sels lw_privs ++ tables_1
theorem lw_privs_ok : ∀ q ∈ lw_privs, lw_okq q := by
  show ∀ q ∈ lw_privs_1 ++ (lw_privs_2 ++ (lw_privs_3 ++ (lw_privs_4 ++ (lw_privs_5)))), lw_okq q
  exact List.forall_mem_append.mpr ⟨lw_r1, List.forall_mem_append.mpr ⟨lw_r2, List.forall_mem_append.mpr ⟨lw_r3, List.forall_mem_append.mpr ⟨lw_r4, lw_r5⟩⟩⟩⟩
def tb_ws : List Cond := lw_tbl.filter goodWord
theorem tb_in0 {w : Cond} (h : w ∈ tables_1_1) (hg : goodWord w = true) : w ∈ tb_ws := List.mem_filter.mpr ⟨List.mem_append_right _ (List.mem_append_left _ h), hg⟩
theorem tb_in1 {w : Cond} (h : w ∈ tables_1_2) (hg : goodWord w = true) : w ∈ tb_ws := List.mem_filter.mpr ⟨List.mem_append_right _ (List.mem_append_right _ (List.mem_append_left _ h)), hg⟩
theorem tb_in2 {w : Cond} (h : w ∈ tables_1_3) (hg : goodWord w = true) : w ∈ tb_ws := List.mem_filter.mpr ⟨List.mem_append_right _ (List.mem_append_right _ (List.mem_append_right _ (List.mem_append_left _ h))), hg⟩
theorem tb_in3 {w : Cond} (h : w ∈ tables_1_4) (hg : goodWord w = true) : w ∈ tb_ws := List.mem_filter.mpr ⟨List.mem_append_right _ (List.mem_append_right _ (List.mem_append_right _ (List.mem_append_right _ (List.mem_append_left _ h)))), hg⟩
theorem tb_in4 {w : Cond} (h : w ∈ tables_1_5) (hg : goodWord w = true) : w ∈ tb_ws := List.mem_filter.mpr ⟨List.mem_append_right _ (List.mem_append_right _ (List.mem_append_right _ (List.mem_append_right _ (List.mem_append_right _ (List.mem_append_left _ h))))), hg⟩
theorem tb_in5 {w : Cond} (h : w ∈ tables_1_6) (hg : goodWord w = true) : w ∈ tb_ws := List.mem_filter.mpr ⟨List.mem_append_right _ (List.mem_append_right _ (List.mem_append_right _ (List.mem_append_right _ (List.mem_append_right _ (List.mem_append_right _ (h)))))), hg⟩
theorem tw_0 : (Cond.initialized "WireHostsLaw") ∈ tb_ws := tb_in0 (List.mem_of_getElem? (i := 0) rfl) rfl
theorem tw_1 : (Cond.initialized "WireHosts") ∈ tb_ws := tb_in0 (List.mem_of_getElem? (i := 1) rfl) rfl
theorem tw_2 : (Cond.initialized "WireHosts$Rows") ∈ tb_ws := tb_in0 (List.mem_of_getElem? (i := 2) rfl) rfl
theorem tw_3 : (Cond.initialized "WireHosts$Host") ∈ tb_ws := tb_in0 (List.mem_of_getElem? (i := 3) rfl) rfl
theorem tw_4 : (Cond.initialized "WireHosts$Link") ∈ tb_ws := tb_in0 (List.mem_of_getElem? (i := 4) rfl) rfl
theorem tw_5 : (Cond.initialized "WireHosts$Pieces") ∈ tb_ws := tb_in0 (List.mem_of_getElem? (i := 5) rfl) rfl
theorem tw_6 : (Cond.initialized "WireHosts$Slot") ∈ tb_ws := tb_in0 (List.mem_of_getElem? (i := 6) rfl) rfl
theorem tw_7 : (Cond.initialized "WireHosts$Segment") ∈ tb_ws := tb_in0 (List.mem_of_getElem? (i := 7) rfl) rfl
theorem tw_8 : (Cond.initialized "WireHosts$Endpoint") ∈ tb_ws := tb_in0 (List.mem_of_getElem? (i := 8) rfl) rfl
theorem tw_9 : (Cond.initialized "WireHosts$Sending") ∈ tb_ws := tb_in0 (List.mem_of_getElem? (i := 9) rfl) rfl
theorem tw_10 : (Cond.initialized "WireHosts$Receiving") ∈ tb_ws := tb_in0 (List.mem_of_getElem? (i := 10) rfl) rfl
theorem tw_11 : (Cond.initialized "java/util/Arrays") ∈ tb_ws := tb_in0 (List.mem_of_getElem? (i := 11) rfl) rfl
theorem tw_12 : (Cond.initialized "WireHostsModel") ∈ tb_ws := tb_in0 (List.mem_of_getElem? (i := 12) rfl) rfl
theorem tw_13 : (Cond.initialized "WireHosts$Numbers") ∈ tb_ws := tb_in0 (List.mem_of_getElem? (i := 13) rfl) rfl
theorem tw_14 : (Cond.initialized "java/lang/System") ∈ tb_ws := tb_in0 (List.mem_of_getElem? (i := 14) rfl) rfl
theorem tw_15 : (Cond.initialized "java/lang/Math") ∈ tb_ws := tb_in0 (List.mem_of_getElem? (i := 15) rfl) rfl
theorem tw_16 : (Cond.classLink "WireHostsLaw" (7 : Nat) "WireHosts") ∈ tb_ws := tb_in0 (List.mem_of_getElem? (i := 16) rfl) rfl
theorem tw_17 : (Cond.instantiable "WireHosts" (3 : Nat)) ∈ tb_ws := tb_in0 (List.mem_of_getElem? (i := 17) rfl) rfl
theorem tw_18 : (Cond.methodLink "WireHostsLaw" (9 : Nat) ({ cls := "WireHosts", name := "<init>", desc := "()V" } : MethodName)) ∈ tb_ws := tb_in0 (List.mem_of_getElem? (i := 18) rfl) rfl
theorem tw_19 : (Cond.instanceMethod ({ cls := "WireHosts", name := "<init>", desc := "()V" } : MethodName)) ∈ tb_ws := tb_in0 (List.mem_of_getElem? (i := 19) rfl) rfl
theorem tw_20 : (Cond.code ({ cls := "WireHosts", name := "<init>", desc := "()V" } : MethodName) prog_1_method_1_code (3 : Nat) (Option.none : Option FieldType)) ∈ tb_ws := tb_in0 (List.mem_of_getElem? (i := 20) rfl) rfl
theorem tw_21 : (Cond.methodLink "WireHosts" (1 : Nat) ({ cls := "java/lang/Object", name := "<init>", desc := "()V" } : MethodName)) ∈ tb_ws := tb_in0 (List.mem_of_getElem? (i := 21) rfl) rfl
theorem tw_22 : (Cond.instanceMethod ({ cls := "java/lang/Object", name := "<init>", desc := "()V" } : MethodName)) ∈ tb_ws := tb_in0 (List.mem_of_getElem? (i := 22) rfl) rfl
theorem tw_23 : (Cond.code ({ cls := "java/lang/Object", name := "<init>", desc := "()V" } : MethodName) object_method_1_code (1 : Nat) (Option.none : Option FieldType)) ∈ tb_ws := tb_in0 (List.mem_of_getElem? (i := 23) rfl) rfl
theorem tw_24 : (Cond.classLink "WireHosts" (7 : Nat) "WireHosts$Rows") ∈ tb_ws := tb_in0 (List.mem_of_getElem? (i := 24) rfl) rfl
theorem tw_25 : (Cond.instantiable "WireHosts$Rows" (5 : Nat)) ∈ tb_ws := tb_in0 (List.mem_of_getElem? (i := 25) rfl) rfl
theorem tw_26 : (Cond.methodLink "WireHosts" (13 : Nat) ({ cls := "WireHosts$Rows", name := "<init>", desc := "(II)V" } : MethodName)) ∈ tb_ws := tb_in0 (List.mem_of_getElem? (i := 26) rfl) rfl
theorem tw_27 : (Cond.instanceMethod ({ cls := "WireHosts$Rows", name := "<init>", desc := "(II)V" } : MethodName)) ∈ tb_ws := tb_in0 (List.mem_of_getElem? (i := 27) rfl) rfl
theorem tw_28 : (Cond.code ({ cls := "WireHosts$Rows", name := "<init>", desc := "(II)V" } : MethodName) prog_8_method_1_code (3 : Nat) (Option.none : Option FieldType)) ∈ tb_ws := tb_in0 (List.mem_of_getElem? (i := 28) rfl) rfl
theorem tw_29 : (Cond.methodLink "WireHosts$Rows" (3 : Nat) ({ cls := "java/lang/Object", name := "<init>", desc := "()V" } : MethodName)) ∈ tb_ws := tb_in0 (List.mem_of_getElem? (i := 29) rfl) rfl
theorem tw_30 : (Cond.fieldLink "WireHosts$Rows" (9 : Nat) "WireHosts$Rows" "most" "I") ∈ tb_ws := tb_in0 (List.mem_of_getElem? (i := 30) rfl) rfl
theorem tw_31 : (Cond.fieldLink "WireHosts$Rows" (15 : Nat) "WireHosts$Rows" "width" "I") ∈ tb_ws := tb_in0 (List.mem_of_getElem? (i := 31) rfl) rfl
theorem tw_32 : (Cond.fieldLink "WireHosts$Rows" (18 : Nat) "WireHosts$Rows" "bytes" "[I") ∈ tb_ws := tb_in0 (List.mem_of_getElem? (i := 32) rfl) rfl
theorem tw_33 : (Cond.fieldLink "WireHosts$Rows" (22 : Nat) "WireHosts$Rows" "sizes" "[I") ∈ tb_ws := tb_in0 (List.mem_of_getElem? (i := 33) rfl) rfl
theorem tw_34 : (Cond.fieldLink "WireHosts$Rows" (25 : Nat) "WireHosts$Rows" "count" "I") ∈ tb_ws := tb_in0 (List.mem_of_getElem? (i := 34) rfl) rfl
theorem tw_35 : (Cond.laysFinal "WireHosts$Rows" "WireHosts$Rows" "most" "I") ∈ tb_ws := tb_in0 (List.mem_of_getElem? (i := 35) rfl) rfl
theorem tw_36 : (Cond.soleField "WireHosts$Rows" "most") ∈ tb_ws := tb_in0 (List.mem_of_getElem? (i := 36) rfl) rfl
theorem tw_37 : (Cond.laysFinal "WireHosts$Rows" "WireHosts$Rows" "width" "I") ∈ tb_ws := tb_in0 (List.mem_of_getElem? (i := 37) rfl) rfl
theorem tw_38 : (Cond.soleField "WireHosts$Rows" "width") ∈ tb_ws := tb_in0 (List.mem_of_getElem? (i := 38) rfl) rfl
theorem tw_39 : (Cond.laysFinal "WireHosts$Rows" "WireHosts$Rows" "bytes" "[I") ∈ tb_ws := tb_in0 (List.mem_of_getElem? (i := 39) rfl) rfl
theorem tw_40 : (Cond.soleField "WireHosts$Rows" "bytes") ∈ tb_ws := tb_in0 (List.mem_of_getElem? (i := 40) rfl) rfl
theorem tw_41 : (Cond.laysFinal "WireHosts$Rows" "WireHosts$Rows" "sizes" "[I") ∈ tb_ws := tb_in0 (List.mem_of_getElem? (i := 41) rfl) rfl
theorem tw_42 : (Cond.soleField "WireHosts$Rows" "sizes") ∈ tb_ws := tb_in0 (List.mem_of_getElem? (i := 42) rfl) rfl
theorem tw_43 : (Cond.lays "WireHosts$Rows" "WireHosts$Rows" "count" "I") ∈ tb_ws := tb_in0 (List.mem_of_getElem? (i := 43) rfl) rfl
theorem tw_44 : (Cond.soleField "WireHosts$Rows" "count") ∈ tb_ws := tb_in0 (List.mem_of_getElem? (i := 44) rfl) rfl
theorem tw_45 : (Cond.superclass "WireHosts$Rows" "java/lang/Object") ∈ tb_ws := tb_in0 (List.mem_of_getElem? (i := 45) rfl) rfl
theorem tw_46 : (Cond.arrayClass FieldType.int) ∈ tb_ws := tb_in0 (List.mem_of_getElem? (i := 46) rfl) rfl
theorem tw_48 : (Cond.classLink "WireHosts" (20 : Nat) "WireHosts$Host") ∈ tb_ws := tb_in0 (List.mem_of_getElem? (i := 48) rfl) rfl
theorem tw_50 : (Cond.instantiable "WireHosts$Host" (14 : Nat)) ∈ tb_ws := tb_in0 (List.mem_of_getElem? (i := 50) rfl) rfl
theorem tw_51 : (Cond.methodLink "WireHosts" (22 : Nat) ({ cls := "WireHosts$Host", name := "<init>", desc := "(ILWireHosts$Rows;)V" } : MethodName)) ∈ tb_ws := tb_in0 (List.mem_of_getElem? (i := 51) rfl) rfl
theorem tw_52 : (Cond.instanceMethod ({ cls := "WireHosts$Host", name := "<init>", desc := "(ILWireHosts$Rows;)V" } : MethodName)) ∈ tb_ws := tb_in0 (List.mem_of_getElem? (i := 52) rfl) rfl
theorem tw_53 : (Cond.code ({ cls := "WireHosts$Host", name := "<init>", desc := "(ILWireHosts$Rows;)V" } : MethodName) prog_3_method_1_code (5 : Nat) (Option.none : Option FieldType)) ∈ tb_ws := tb_in0 (List.mem_of_getElem? (i := 53) rfl) rfl
theorem tw_54 : (Cond.methodLink "WireHosts$Host" (7 : Nat) ({ cls := "java/lang/Object", name := "<init>", desc := "()V" } : MethodName)) ∈ tb_ws := tb_in0 (List.mem_of_getElem? (i := 54) rfl) rfl
theorem tw_55 : (Cond.classLink "WireHosts$Host" (13 : Nat) "WireHosts$Rows") ∈ tb_ws := tb_in0 (List.mem_of_getElem? (i := 55) rfl) rfl
theorem tw_56 : (Cond.methodLink "WireHosts$Host" (15 : Nat) ({ cls := "WireHosts$Rows", name := "<init>", desc := "(II)V" } : MethodName)) ∈ tb_ws := tb_in0 (List.mem_of_getElem? (i := 56) rfl) rfl
theorem tw_57 : (Cond.classLink "WireHosts$Host" (22 : Nat) "WireHosts$Link") ∈ tb_ws := tb_in0 (List.mem_of_getElem? (i := 57) rfl) rfl
theorem tw_58 : (Cond.instantiable "WireHosts$Link" (7 : Nat)) ∈ tb_ws := tb_in0 (List.mem_of_getElem? (i := 58) rfl) rfl
theorem tw_59 : (Cond.methodLink "WireHosts$Host" (24 : Nat) ({ cls := "WireHosts$Link", name := "<init>", desc := "(ILWireHosts$Rows;)V" } : MethodName)) ∈ tb_ws := tb_in0 (List.mem_of_getElem? (i := 59) rfl) rfl
theorem tw_60 : (Cond.instanceMethod ({ cls := "WireHosts$Link", name := "<init>", desc := "(ILWireHosts$Rows;)V" } : MethodName)) ∈ tb_ws := tb_in0 (List.mem_of_getElem? (i := 60) rfl) rfl
theorem tw_61 : (Cond.code ({ cls := "WireHosts$Link", name := "<init>", desc := "(ILWireHosts$Rows;)V" } : MethodName) prog_4_method_1_code (3 : Nat) (Option.none : Option FieldType)) ∈ tb_ws := tb_in0 (List.mem_of_getElem? (i := 61) rfl) rfl
theorem tw_62 : (Cond.methodLink "WireHosts$Link" (3 : Nat) ({ cls := "java/lang/Object", name := "<init>", desc := "()V" } : MethodName)) ∈ tb_ws := tb_in0 (List.mem_of_getElem? (i := 62) rfl) rfl
theorem tw_63 : (Cond.classLink "WireHosts$Link" (17 : Nat) "WireHosts$Rows") ∈ tb_ws := tb_in0 (List.mem_of_getElem? (i := 63) rfl) rfl
theorem tw_64 : (Cond.methodLink "WireHosts$Link" (19 : Nat) ({ cls := "WireHosts$Rows", name := "<init>", desc := "(II)V" } : MethodName)) ∈ tb_ws := tb_in0 (List.mem_of_getElem? (i := 64) rfl) rfl
theorem tw_65 : (Cond.fieldLink "WireHosts$Link" (9 : Nat) "WireHosts$Link" "number" "I") ∈ tb_ws := tb_in0 (List.mem_of_getElem? (i := 65) rfl) rfl
theorem tw_66 : (Cond.fieldLink "WireHosts$Link" (13 : Nat) "WireHosts$Link" "way" "LWireHosts$Rows;") ∈ tb_ws := tb_in0 (List.mem_of_getElem? (i := 66) rfl) rfl
theorem tw_67 : (Cond.fieldLink "WireHosts$Link" (22 : Nat) "WireHosts$Link" "line" "LWireHosts$Rows;") ∈ tb_ws := tb_in0 (List.mem_of_getElem? (i := 67) rfl) rfl
theorem tw_69 : (Cond.fieldLink "WireHosts$Link" (25 : Nat) "WireHosts$Link" "frame" "[I") ∈ tb_ws := tb_in0 (List.mem_of_getElem? (i := 69) rfl) rfl
theorem tw_70 : (Cond.fieldLink "WireHosts$Link" (29 : Nat) "WireHosts$Link" "knownFor" "I") ∈ tb_ws := tb_in0 (List.mem_of_getElem? (i := 70) rfl) rfl
theorem tw_72 : (Cond.fieldLink "WireHosts$Link" (38 : Nat) "WireHosts$Link" "station" "I") ∈ tb_ws := tb_in0 (List.mem_of_getElem? (i := 72) rfl) rfl
theorem tw_74 : (Cond.fieldLink "WireHosts$Link" (49 : Nat) "WireHosts$Link" "askTimer" "I") ∈ tb_ws := tb_in0 (List.mem_of_getElem? (i := 74) rfl) rfl
theorem tw_76 : (Cond.laysFinal "WireHosts$Link" "WireHosts$Link" "number" "I") ∈ tb_ws := tb_in0 (List.mem_of_getElem? (i := 76) rfl) rfl
theorem tw_77 : (Cond.soleField "WireHosts$Link" "number") ∈ tb_ws := tb_in0 (List.mem_of_getElem? (i := 77) rfl) rfl
theorem tw_78 : (Cond.laysFinal "WireHosts$Link" "WireHosts$Link" "way" "LWireHosts$Rows;") ∈ tb_ws := tb_in0 (List.mem_of_getElem? (i := 78) rfl) rfl
theorem tw_79 : (Cond.soleField "WireHosts$Link" "way") ∈ tb_ws := tb_in0 (List.mem_of_getElem? (i := 79) rfl) rfl
theorem tw_80 : (Cond.laysFinal "WireHosts$Link" "WireHosts$Link" "line" "LWireHosts$Rows;") ∈ tb_ws := tb_in0 (List.mem_of_getElem? (i := 80) rfl) rfl
theorem tw_81 : (Cond.soleField "WireHosts$Link" "line") ∈ tb_ws := tb_in0 (List.mem_of_getElem? (i := 81) rfl) rfl
theorem tw_82 : (Cond.laysFinal "WireHosts$Link" "WireHosts$Link" "frame" "[I") ∈ tb_ws := tb_in0 (List.mem_of_getElem? (i := 82) rfl) rfl
theorem tw_83 : (Cond.soleField "WireHosts$Link" "frame") ∈ tb_ws := tb_in0 (List.mem_of_getElem? (i := 83) rfl) rfl
theorem tw_84 : (Cond.lays "WireHosts$Link" "WireHosts$Link" "knownFor" "I") ∈ tb_ws := tb_in0 (List.mem_of_getElem? (i := 84) rfl) rfl
theorem tw_85 : (Cond.soleField "WireHosts$Link" "knownFor") ∈ tb_ws := tb_in0 (List.mem_of_getElem? (i := 85) rfl) rfl
theorem tw_86 : (Cond.lays "WireHosts$Link" "WireHosts$Link" "station" "I") ∈ tb_ws := tb_in0 (List.mem_of_getElem? (i := 86) rfl) rfl
theorem tw_87 : (Cond.soleField "WireHosts$Link" "station") ∈ tb_ws := tb_in0 (List.mem_of_getElem? (i := 87) rfl) rfl
theorem tw_88 : (Cond.lays "WireHosts$Link" "WireHosts$Link" "askTimer" "I") ∈ tb_ws := tb_in0 (List.mem_of_getElem? (i := 88) rfl) rfl
theorem tw_89 : (Cond.soleField "WireHosts$Link" "askTimer") ∈ tb_ws := tb_in0 (List.mem_of_getElem? (i := 89) rfl) rfl
theorem tw_90 : (Cond.superclass "WireHosts$Link" "java/lang/Object") ∈ tb_ws := tb_in0 (List.mem_of_getElem? (i := 90) rfl) rfl
theorem tw_91 : (Cond.classLink "WireHosts$Host" (3 : Nat) "WireHosts$Pieces") ∈ tb_ws := tb_in0 (List.mem_of_getElem? (i := 91) rfl) rfl
theorem tw_92 : (Cond.instantiable "WireHosts$Pieces" (5 : Nat)) ∈ tb_ws := tb_in0 (List.mem_of_getElem? (i := 92) rfl) rfl
theorem tw_93 : (Cond.methodLink "WireHosts$Host" (31 : Nat) ({ cls := "WireHosts$Pieces", name := "<init>", desc := "([I)V" } : MethodName)) ∈ tb_ws := tb_in0 (List.mem_of_getElem? (i := 93) rfl) rfl
theorem tw_94 : (Cond.instanceMethod ({ cls := "WireHosts$Pieces", name := "<init>", desc := "([I)V" } : MethodName)) ∈ tb_ws := tb_in0 (List.mem_of_getElem? (i := 94) rfl) rfl
theorem tw_95 : (Cond.code ({ cls := "WireHosts$Pieces", name := "<init>", desc := "([I)V" } : MethodName) prog_6_method_1_code (2 : Nat) (Option.none : Option FieldType)) ∈ tb_ws := tb_in0 (List.mem_of_getElem? (i := 95) rfl) rfl
theorem tw_96 : (Cond.methodLink "WireHosts$Pieces" (5 : Nat) ({ cls := "java/lang/Object", name := "<init>", desc := "()V" } : MethodName)) ∈ tb_ws := tb_in0 (List.mem_of_getElem? (i := 96) rfl) rfl
theorem tw_97 : (Cond.classLink "WireHosts$Pieces" (15 : Nat) "WireHosts$Slot") ∈ tb_ws := tb_in0 (List.mem_of_getElem? (i := 97) rfl) rfl
theorem tw_98 : (Cond.instantiable "WireHosts$Slot" (6 : Nat)) ∈ tb_ws := tb_in0 (List.mem_of_getElem? (i := 98) rfl) rfl
theorem tw_99 : (Cond.methodLink "WireHosts$Pieces" (17 : Nat) ({ cls := "WireHosts$Slot", name := "<init>", desc := "()V" } : MethodName)) ∈ tb_ws := tb_in0 (List.mem_of_getElem? (i := 99) rfl) rfl
theorem tw_100 : (Cond.instanceMethod ({ cls := "WireHosts$Slot", name := "<init>", desc := "()V" } : MethodName)) ∈ tb_ws := tb_in0 (List.mem_of_getElem? (i := 100) rfl) rfl
theorem tw_101 : (Cond.code ({ cls := "WireHosts$Slot", name := "<init>", desc := "()V" } : MethodName) prog_11_method_1_code (1 : Nat) (Option.none : Option FieldType)) ∈ tb_ws := tb_in0 (List.mem_of_getElem? (i := 101) rfl) rfl
theorem tw_102 : (Cond.methodLink "WireHosts$Slot" (3 : Nat) ({ cls := "java/lang/Object", name := "<init>", desc := "()V" } : MethodName)) ∈ tb_ws := tb_in0 (List.mem_of_getElem? (i := 102) rfl) rfl
theorem tw_103 : (Cond.fieldLink "WireHosts$Slot" (11 : Nat) "WireHosts$Slot" "bytes" "[I") ∈ tb_ws := tb_in0 (List.mem_of_getElem? (i := 103) rfl) rfl
theorem tw_105 : (Cond.fieldLink "WireHosts$Slot" (17 : Nat) "WireHosts$Slot" "used" "Z") ∈ tb_ws := tb_in0 (List.mem_of_getElem? (i := 105) rfl) rfl
theorem tw_107 : (Cond.fieldLink "WireHosts$Slot" (21 : Nat) "WireHosts$Slot" "ident" "I") ∈ tb_ws := tb_in0 (List.mem_of_getElem? (i := 107) rfl) rfl
theorem tw_108 : (Cond.fieldLink "WireHosts$Slot" (25 : Nat) "WireHosts$Slot" "protocol" "I") ∈ tb_ws := tb_in0 (List.mem_of_getElem? (i := 108) rfl) rfl
theorem tw_110 : (Cond.fieldLink "WireHosts$Slot" (28 : Nat) "WireHosts$Slot" "age" "I") ∈ tb_ws := tb_in0 (List.mem_of_getElem? (i := 110) rfl) rfl
theorem tw_113 : (Cond.fieldLink "WireHosts$Slot" (31 : Nat) "WireHosts$Slot" "whole" "I") ∈ tb_ws := tb_in0 (List.mem_of_getElem? (i := 113) rfl) rfl
theorem tw_114 : (Cond.laysFinal "WireHosts$Slot" "WireHosts$Slot" "bytes" "[I") ∈ tb_ws := tb_in0 (List.mem_of_getElem? (i := 114) rfl) rfl
theorem tw_115 : (Cond.soleField "WireHosts$Slot" "bytes") ∈ tb_ws := tb_in0 (List.mem_of_getElem? (i := 115) rfl) rfl
theorem tw_116 : (Cond.lays "WireHosts$Slot" "WireHosts$Slot" "used" "Z") ∈ tb_ws := tb_in0 (List.mem_of_getElem? (i := 116) rfl) rfl
theorem tw_117 : (Cond.soleField "WireHosts$Slot" "used") ∈ tb_ws := tb_in0 (List.mem_of_getElem? (i := 117) rfl) rfl
theorem tw_118 : (Cond.lays "WireHosts$Slot" "WireHosts$Slot" "ident" "I") ∈ tb_ws := tb_in0 (List.mem_of_getElem? (i := 118) rfl) rfl
theorem tw_119 : (Cond.soleField "WireHosts$Slot" "ident") ∈ tb_ws := tb_in0 (List.mem_of_getElem? (i := 119) rfl) rfl
theorem tw_120 : (Cond.lays "WireHosts$Slot" "WireHosts$Slot" "protocol" "I") ∈ tb_ws := tb_in0 (List.mem_of_getElem? (i := 120) rfl) rfl
theorem tw_121 : (Cond.soleField "WireHosts$Slot" "protocol") ∈ tb_ws := tb_in0 (List.mem_of_getElem? (i := 121) rfl) rfl
theorem tw_122 : (Cond.lays "WireHosts$Slot" "WireHosts$Slot" "age" "I") ∈ tb_ws := tb_in0 (List.mem_of_getElem? (i := 122) rfl) rfl
theorem tw_123 : (Cond.soleField "WireHosts$Slot" "age") ∈ tb_ws := tb_in0 (List.mem_of_getElem? (i := 123) rfl) rfl
theorem tw_124 : (Cond.lays "WireHosts$Slot" "WireHosts$Slot" "whole" "I") ∈ tb_ws := tb_in0 (List.mem_of_getElem? (i := 124) rfl) rfl
theorem tw_125 : (Cond.soleField "WireHosts$Slot" "whole") ∈ tb_ws := tb_in0 (List.mem_of_getElem? (i := 125) rfl) rfl
theorem tw_126 : (Cond.superclass "WireHosts$Slot" "java/lang/Object") ∈ tb_ws := tb_in0 (List.mem_of_getElem? (i := 126) rfl) rfl
theorem tw_127 : (Cond.fieldLink "WireHosts$Pieces" (18 : Nat) "WireHosts$Pieces" "first" "LWireHosts$Slot;") ∈ tb_ws := tb_in0 (List.mem_of_getElem? (i := 127) rfl) rfl
theorem tw_128 : (Cond.fieldLink "WireHosts$Pieces" (22 : Nat) "WireHosts$Pieces" "second" "LWireHosts$Slot;") ∈ tb_ws := tb_in0 (List.mem_of_getElem? (i := 128) rfl) rfl
theorem tw_129 : (Cond.fieldLink "WireHosts$Pieces" (11 : Nat) "WireHosts$Pieces" "message" "[I") ∈ tb_ws := tb_in0 (List.mem_of_getElem? (i := 129) rfl) rfl
theorem tw_130 : (Cond.fieldLink "WireHosts$Pieces" (64 : Nat) "WireHosts$Pieces" "size" "I") ∈ tb_ws := tb_in0 (List.mem_of_getElem? (i := 130) rfl) rfl
theorem tw_133 : (Cond.fieldLink "WireHosts$Pieces" (67 : Nat) "WireHosts$Pieces" "protocol" "I") ∈ tb_ws := tb_in0 (List.mem_of_getElem? (i := 133) rfl) rfl
theorem tw_134 : (Cond.laysFinal "WireHosts$Pieces" "WireHosts$Pieces" "first" "LWireHosts$Slot;") ∈ tb_ws := tb_in0 (List.mem_of_getElem? (i := 134) rfl) rfl
theorem tw_135 : (Cond.soleField "WireHosts$Pieces" "first") ∈ tb_ws := tb_in0 (List.mem_of_getElem? (i := 135) rfl) rfl
theorem tw_136 : (Cond.laysFinal "WireHosts$Pieces" "WireHosts$Pieces" "second" "LWireHosts$Slot;") ∈ tb_ws := tb_in0 (List.mem_of_getElem? (i := 136) rfl) rfl
theorem tw_137 : (Cond.soleField "WireHosts$Pieces" "second") ∈ tb_ws := tb_in0 (List.mem_of_getElem? (i := 137) rfl) rfl
theorem tw_138 : (Cond.laysFinal "WireHosts$Pieces" "WireHosts$Pieces" "message" "[I") ∈ tb_ws := tb_in0 (List.mem_of_getElem? (i := 138) rfl) rfl
theorem tw_139 : (Cond.soleField "WireHosts$Pieces" "message") ∈ tb_ws := tb_in0 (List.mem_of_getElem? (i := 139) rfl) rfl
theorem tw_140 : (Cond.lays "WireHosts$Pieces" "WireHosts$Pieces" "size" "I") ∈ tb_ws := tb_in0 (List.mem_of_getElem? (i := 140) rfl) rfl
theorem tw_141 : (Cond.soleField "WireHosts$Pieces" "size") ∈ tb_ws := tb_in0 (List.mem_of_getElem? (i := 141) rfl) rfl
theorem tw_142 : (Cond.lays "WireHosts$Pieces" "WireHosts$Pieces" "protocol" "I") ∈ tb_ws := tb_in0 (List.mem_of_getElem? (i := 142) rfl) rfl
theorem tw_143 : (Cond.soleField "WireHosts$Pieces" "protocol") ∈ tb_ws := tb_in0 (List.mem_of_getElem? (i := 143) rfl) rfl
theorem tw_144 : (Cond.superclass "WireHosts$Pieces" "java/lang/Object") ∈ tb_ws := tb_in0 (List.mem_of_getElem? (i := 144) rfl) rfl
theorem tw_145 : (Cond.classLink "WireHosts$Host" (38 : Nat) "WireHosts$Segment") ∈ tb_ws := tb_in0 (List.mem_of_getElem? (i := 145) rfl) rfl
theorem tw_146 : (Cond.instantiable "WireHosts$Segment" (7 : Nat)) ∈ tb_ws := tb_in0 (List.mem_of_getElem? (i := 146) rfl) rfl
theorem tw_147 : (Cond.methodLink "WireHosts$Host" (40 : Nat) ({ cls := "WireHosts$Segment", name := "<init>", desc := "([I)V" } : MethodName)) ∈ tb_ws := tb_in0 (List.mem_of_getElem? (i := 147) rfl) rfl
theorem tw_148 : (Cond.instanceMethod ({ cls := "WireHosts$Segment", name := "<init>", desc := "([I)V" } : MethodName)) ∈ tb_ws := tb_in0 (List.mem_of_getElem? (i := 148) rfl) rfl
theorem tw_149 : (Cond.code ({ cls := "WireHosts$Segment", name := "<init>", desc := "([I)V" } : MethodName) prog_9_method_1_code (2 : Nat) (Option.none : Option FieldType)) ∈ tb_ws := tb_in0 (List.mem_of_getElem? (i := 149) rfl) rfl
theorem tw_150 : (Cond.methodLink "WireHosts$Segment" (5 : Nat) ({ cls := "java/lang/Object", name := "<init>", desc := "()V" } : MethodName)) ∈ tb_ws := tb_in0 (List.mem_of_getElem? (i := 150) rfl) rfl
theorem tw_151 : (Cond.fieldLink "WireHosts$Segment" (11 : Nat) "WireHosts$Segment" "row" "[I") ∈ tb_ws := tb_in0 (List.mem_of_getElem? (i := 151) rfl) rfl
theorem tw_152 : (Cond.fieldLink "WireHosts$Segment" (15 : Nat) "WireHosts$Segment" "dataCount" "I") ∈ tb_ws := tb_in0 (List.mem_of_getElem? (i := 152) rfl) rfl
theorem tw_154 : (Cond.fieldLink "WireHosts$Segment" (19 : Nat) "WireHosts$Segment" "number" "I") ∈ tb_ws := tb_in0 (List.mem_of_getElem? (i := 154) rfl) rfl
theorem tw_156 : (Cond.fieldLink "WireHosts$Segment" (22 : Nat) "WireHosts$Segment" "flags" "I") ∈ tb_ws := tb_in0 (List.mem_of_getElem? (i := 156) rfl) rfl
theorem tw_157 : (Cond.fieldLink "WireHosts$Segment" (31 : Nat) "WireHosts$Segment" "seq" "I") ∈ tb_ws := tb_in0 (List.mem_of_getElem? (i := 157) rfl) rfl
theorem tw_160 : (Cond.fieldLink "WireHosts$Segment" (34 : Nat) "WireHosts$Segment" "ack" "I") ∈ tb_ws := tb_in0 (List.mem_of_getElem? (i := 160) rfl) rfl
theorem tw_162 : (Cond.fieldLink "WireHosts$Segment" (37 : Nat) "WireHosts$Segment" "window" "I") ∈ tb_ws := tb_in0 (List.mem_of_getElem? (i := 162) rfl) rfl
theorem tw_164 : (Cond.laysFinal "WireHosts$Segment" "WireHosts$Segment" "row" "[I") ∈ tb_ws := tb_in0 (List.mem_of_getElem? (i := 164) rfl) rfl
theorem tw_165 : (Cond.soleField "WireHosts$Segment" "row") ∈ tb_ws := tb_in0 (List.mem_of_getElem? (i := 165) rfl) rfl
theorem tw_166 : (Cond.lays "WireHosts$Segment" "WireHosts$Segment" "dataCount" "I") ∈ tb_ws := tb_in0 (List.mem_of_getElem? (i := 166) rfl) rfl
theorem tw_167 : (Cond.soleField "WireHosts$Segment" "dataCount") ∈ tb_ws := tb_in0 (List.mem_of_getElem? (i := 167) rfl) rfl
theorem tw_168 : (Cond.lays "WireHosts$Segment" "WireHosts$Segment" "number" "I") ∈ tb_ws := tb_in0 (List.mem_of_getElem? (i := 168) rfl) rfl
theorem tw_169 : (Cond.soleField "WireHosts$Segment" "number") ∈ tb_ws := tb_in0 (List.mem_of_getElem? (i := 169) rfl) rfl
theorem tw_170 : (Cond.lays "WireHosts$Segment" "WireHosts$Segment" "flags" "I") ∈ tb_ws := tb_in0 (List.mem_of_getElem? (i := 170) rfl) rfl
theorem tw_171 : (Cond.soleField "WireHosts$Segment" "flags") ∈ tb_ws := tb_in0 (List.mem_of_getElem? (i := 171) rfl) rfl
theorem tw_172 : (Cond.lays "WireHosts$Segment" "WireHosts$Segment" "seq" "I") ∈ tb_ws := tb_in0 (List.mem_of_getElem? (i := 172) rfl) rfl
theorem tw_173 : (Cond.soleField "WireHosts$Segment" "seq") ∈ tb_ws := tb_in0 (List.mem_of_getElem? (i := 173) rfl) rfl
theorem tw_174 : (Cond.lays "WireHosts$Segment" "WireHosts$Segment" "ack" "I") ∈ tb_ws := tb_in0 (List.mem_of_getElem? (i := 174) rfl) rfl
theorem tw_175 : (Cond.soleField "WireHosts$Segment" "ack") ∈ tb_ws := tb_in0 (List.mem_of_getElem? (i := 175) rfl) rfl
theorem tw_176 : (Cond.lays "WireHosts$Segment" "WireHosts$Segment" "window" "I") ∈ tb_ws := tb_in0 (List.mem_of_getElem? (i := 176) rfl) rfl
theorem tw_177 : (Cond.soleField "WireHosts$Segment" "window") ∈ tb_ws := tb_in0 (List.mem_of_getElem? (i := 177) rfl) rfl
theorem tw_178 : (Cond.superclass "WireHosts$Segment" "java/lang/Object") ∈ tb_ws := tb_in0 (List.mem_of_getElem? (i := 178) rfl) rfl
theorem tw_179 : (Cond.classLink "WireHosts$Host" (45 : Nat) "WireHosts$Endpoint") ∈ tb_ws := tb_in0 (List.mem_of_getElem? (i := 179) rfl) rfl
theorem tw_180 : (Cond.instantiable "WireHosts$Endpoint" (10 : Nat)) ∈ tb_ws := tb_in0 (List.mem_of_getElem? (i := 180) rfl) rfl
theorem tw_181 : (Cond.methodLink "WireHosts$Host" (47 : Nat) ({ cls := "WireHosts$Endpoint", name := "<init>", desc := "(IILWireHosts$Rows;)V" } : MethodName)) ∈ tb_ws := tb_in0 (List.mem_of_getElem? (i := 181) rfl) rfl
theorem tw_182 : (Cond.instanceMethod ({ cls := "WireHosts$Endpoint", name := "<init>", desc := "(IILWireHosts$Rows;)V" } : MethodName)) ∈ tb_ws := tb_in0 (List.mem_of_getElem? (i := 182) rfl) rfl
theorem tw_183 : (Cond.code ({ cls := "WireHosts$Endpoint", name := "<init>", desc := "(IILWireHosts$Rows;)V" } : MethodName) prog_2_method_1_code (4 : Nat) (Option.none : Option FieldType)) ∈ tb_ws := tb_in0 (List.mem_of_getElem? (i := 183) rfl) rfl
theorem tw_184 : (Cond.methodLink "WireHosts$Endpoint" (3 : Nat) ({ cls := "java/lang/Object", name := "<init>", desc := "()V" } : MethodName)) ∈ tb_ws := tb_in0 (List.mem_of_getElem? (i := 184) rfl) rfl
theorem tw_185 : (Cond.classLink "WireHosts$Endpoint" (28 : Nat) "WireHosts$Sending") ∈ tb_ws := tb_in0 (List.mem_of_getElem? (i := 185) rfl) rfl
theorem tw_186 : (Cond.instantiable "WireHosts$Sending" (7 : Nat)) ∈ tb_ws := tb_in0 (List.mem_of_getElem? (i := 186) rfl) rfl
theorem tw_187 : (Cond.methodLink "WireHosts$Endpoint" (30 : Nat) ({ cls := "WireHosts$Sending", name := "<init>", desc := "()V" } : MethodName)) ∈ tb_ws := tb_in0 (List.mem_of_getElem? (i := 187) rfl) rfl
theorem tw_188 : (Cond.instanceMethod ({ cls := "WireHosts$Sending", name := "<init>", desc := "()V" } : MethodName)) ∈ tb_ws := tb_in0 (List.mem_of_getElem? (i := 188) rfl) rfl
theorem tw_189 : (Cond.code ({ cls := "WireHosts$Sending", name := "<init>", desc := "()V" } : MethodName) prog_10_method_1_code (1 : Nat) (Option.none : Option FieldType)) ∈ tb_ws := tb_in0 (List.mem_of_getElem? (i := 189) rfl) rfl
theorem tw_190 : (Cond.methodLink "WireHosts$Sending" (1 : Nat) ({ cls := "java/lang/Object", name := "<init>", desc := "()V" } : MethodName)) ∈ tb_ws := tb_in0 (List.mem_of_getElem? (i := 190) rfl) rfl
theorem tw_191 : (Cond.fieldLink "WireHosts$Sending" (9 : Nat) "WireHosts$Sending" "bytes" "[I") ∈ tb_ws := tb_in0 (List.mem_of_getElem? (i := 191) rfl) rfl
theorem tw_192 : (Cond.fieldLink "WireHosts$Sending" (13 : Nat) "WireHosts$Sending" "count" "I") ∈ tb_ws := tb_in0 (List.mem_of_getElem? (i := 192) rfl) rfl
theorem tw_194 : (Cond.fieldLink "WireHosts$Sending" (17 : Nat) "WireHosts$Sending" "first" "I") ∈ tb_ws := tb_in0 (List.mem_of_getElem? (i := 194) rfl) rfl
theorem tw_196 : (Cond.fieldLink "WireHosts$Sending" (20 : Nat) "WireHosts$Sending" "una" "I") ∈ tb_ws := tb_in0 (List.mem_of_getElem? (i := 196) rfl) rfl
theorem tw_198 : (Cond.fieldLink "WireHosts$Sending" (23 : Nat) "WireHosts$Sending" "nxt" "I") ∈ tb_ws := tb_in0 (List.mem_of_getElem? (i := 198) rfl) rfl
theorem tw_200 : (Cond.fieldLink "WireHosts$Sending" (26 : Nat) "WireHosts$Sending" "window" "I") ∈ tb_ws := tb_in0 (List.mem_of_getElem? (i := 200) rfl) rfl
theorem tw_202 : (Cond.fieldLink "WireHosts$Sending" (29 : Nat) "WireHosts$Sending" "ending" "Z") ∈ tb_ws := tb_in0 (List.mem_of_getElem? (i := 202) rfl) rfl
theorem tw_204 : (Cond.laysFinal "WireHosts$Sending" "WireHosts$Sending" "bytes" "[I") ∈ tb_ws := tb_in0 (List.mem_of_getElem? (i := 204) rfl) rfl
theorem tw_205 : (Cond.soleField "WireHosts$Sending" "bytes") ∈ tb_ws := tb_in0 (List.mem_of_getElem? (i := 205) rfl) rfl
theorem tw_206 : (Cond.lays "WireHosts$Sending" "WireHosts$Sending" "count" "I") ∈ tb_ws := tb_in0 (List.mem_of_getElem? (i := 206) rfl) rfl
theorem tw_207 : (Cond.soleField "WireHosts$Sending" "count") ∈ tb_ws := tb_in0 (List.mem_of_getElem? (i := 207) rfl) rfl
theorem tw_208 : (Cond.lays "WireHosts$Sending" "WireHosts$Sending" "first" "I") ∈ tb_ws := tb_in0 (List.mem_of_getElem? (i := 208) rfl) rfl
theorem tw_209 : (Cond.soleField "WireHosts$Sending" "first") ∈ tb_ws := tb_in0 (List.mem_of_getElem? (i := 209) rfl) rfl
theorem tw_210 : (Cond.lays "WireHosts$Sending" "WireHosts$Sending" "una" "I") ∈ tb_ws := tb_in0 (List.mem_of_getElem? (i := 210) rfl) rfl
theorem tw_211 : (Cond.soleField "WireHosts$Sending" "una") ∈ tb_ws := tb_in0 (List.mem_of_getElem? (i := 211) rfl) rfl
theorem tw_212 : (Cond.lays "WireHosts$Sending" "WireHosts$Sending" "nxt" "I") ∈ tb_ws := tb_in0 (List.mem_of_getElem? (i := 212) rfl) rfl
theorem tw_213 : (Cond.soleField "WireHosts$Sending" "nxt") ∈ tb_ws := tb_in0 (List.mem_of_getElem? (i := 213) rfl) rfl
theorem tw_214 : (Cond.lays "WireHosts$Sending" "WireHosts$Sending" "window" "I") ∈ tb_ws := tb_in0 (List.mem_of_getElem? (i := 214) rfl) rfl
theorem tw_215 : (Cond.soleField "WireHosts$Sending" "window") ∈ tb_ws := tb_in0 (List.mem_of_getElem? (i := 215) rfl) rfl
theorem tw_216 : (Cond.lays "WireHosts$Sending" "WireHosts$Sending" "ending" "Z") ∈ tb_ws := tb_in0 (List.mem_of_getElem? (i := 216) rfl) rfl
theorem tw_217 : (Cond.soleField "WireHosts$Sending" "ending") ∈ tb_ws := tb_in0 (List.mem_of_getElem? (i := 217) rfl) rfl
theorem tw_218 : (Cond.superclass "WireHosts$Sending" "java/lang/Object") ∈ tb_ws := tb_in0 (List.mem_of_getElem? (i := 218) rfl) rfl
theorem tw_219 : (Cond.classLink "WireHosts$Endpoint" (35 : Nat) "WireHosts$Receiving") ∈ tb_ws := tb_in0 (List.mem_of_getElem? (i := 219) rfl) rfl
theorem tw_220 : (Cond.instantiable "WireHosts$Receiving" (5 : Nat)) ∈ tb_ws := tb_in0 (List.mem_of_getElem? (i := 220) rfl) rfl
theorem tw_221 : (Cond.methodLink "WireHosts$Endpoint" (37 : Nat) ({ cls := "WireHosts$Receiving", name := "<init>", desc := "()V" } : MethodName)) ∈ tb_ws := tb_in0 (List.mem_of_getElem? (i := 221) rfl) rfl
theorem tw_222 : (Cond.instanceMethod ({ cls := "WireHosts$Receiving", name := "<init>", desc := "()V" } : MethodName)) ∈ tb_ws := tb_in0 (List.mem_of_getElem? (i := 222) rfl) rfl
theorem tw_223 : (Cond.code ({ cls := "WireHosts$Receiving", name := "<init>", desc := "()V" } : MethodName) prog_7_method_1_code (1 : Nat) (Option.none : Option FieldType)) ∈ tb_ws := tb_in0 (List.mem_of_getElem? (i := 223) rfl) rfl
theorem tw_224 : (Cond.methodLink "WireHosts$Receiving" (3 : Nat) ({ cls := "java/lang/Object", name := "<init>", desc := "()V" } : MethodName)) ∈ tb_ws := tb_in0 (List.mem_of_getElem? (i := 224) rfl) rfl
theorem tw_225 : (Cond.methodLink "WireHosts$Receiving" (18 : Nat) ({ cls := "java/util/Arrays", name := "fill", desc := "([II)V" } : MethodName)) ∈ tb_ws := tb_in0 (List.mem_of_getElem? (i := 225) rfl) rfl
theorem tw_226 : (Cond.static ({ cls := "java/util/Arrays", name := "fill", desc := "([II)V" } : MethodName)) ∈ tb_ws := tb_in0 (List.mem_of_getElem? (i := 226) rfl) rfl
theorem tw_227 : (Cond.code ({ cls := "java/util/Arrays", name := "fill", desc := "([II)V" } : MethodName) prog_16_method_103_code (4 : Nat) (Option.none : Option FieldType)) ∈ tb_ws := tb_in0 (List.mem_of_getElem? (i := 227) rfl) rfl
theorem tw_228 : (Cond.fieldLink "WireHosts$Receiving" (11 : Nat) "WireHosts$Receiving" "bytes" "[I") ∈ tb_ws := tb_in0 (List.mem_of_getElem? (i := 228) rfl) rfl
theorem tw_229 : (Cond.fieldLink "WireHosts$Receiving" (15 : Nat) "WireHosts$Receiving" "kept" "[I") ∈ tb_ws := tb_in0 (List.mem_of_getElem? (i := 229) rfl) rfl
theorem tw_230 : (Cond.fieldLink "WireHosts$Receiving" (28 : Nat) "WireHosts$Receiving" "count" "I") ∈ tb_ws := tb_in0 (List.mem_of_getElem? (i := 230) rfl) rfl
theorem tw_232 : (Cond.fieldLink "WireHosts$Receiving" (31 : Nat) "WireHosts$Receiving" "rcv" "I") ∈ tb_ws := tb_in0 (List.mem_of_getElem? (i := 232) rfl) rfl
theorem tw_234 : (Cond.fieldLink "WireHosts$Receiving" (24 : Nat) "WireHosts$Receiving" "finNumber" "I") ∈ tb_ws := tb_in0 (List.mem_of_getElem? (i := 234) rfl) rfl
theorem tw_235 : (Cond.laysFinal "WireHosts$Receiving" "WireHosts$Receiving" "bytes" "[I") ∈ tb_ws := tb_in0 (List.mem_of_getElem? (i := 235) rfl) rfl
theorem tw_236 : (Cond.soleField "WireHosts$Receiving" "bytes") ∈ tb_ws := tb_in0 (List.mem_of_getElem? (i := 236) rfl) rfl
theorem tw_237 : (Cond.laysFinal "WireHosts$Receiving" "WireHosts$Receiving" "kept" "[I") ∈ tb_ws := tb_in0 (List.mem_of_getElem? (i := 237) rfl) rfl
theorem tw_238 : (Cond.soleField "WireHosts$Receiving" "kept") ∈ tb_ws := tb_in0 (List.mem_of_getElem? (i := 238) rfl) rfl
theorem tw_239 : (Cond.lays "WireHosts$Receiving" "WireHosts$Receiving" "count" "I") ∈ tb_ws := tb_in0 (List.mem_of_getElem? (i := 239) rfl) rfl
theorem tw_240 : (Cond.soleField "WireHosts$Receiving" "count") ∈ tb_ws := tb_in1 (List.mem_of_getElem? (i := 0) rfl) rfl
theorem tw_241 : (Cond.lays "WireHosts$Receiving" "WireHosts$Receiving" "rcv" "I") ∈ tb_ws := tb_in1 (List.mem_of_getElem? (i := 1) rfl) rfl
theorem tw_242 : (Cond.soleField "WireHosts$Receiving" "rcv") ∈ tb_ws := tb_in1 (List.mem_of_getElem? (i := 2) rfl) rfl
theorem tw_243 : (Cond.lays "WireHosts$Receiving" "WireHosts$Receiving" "finNumber" "I") ∈ tb_ws := tb_in1 (List.mem_of_getElem? (i := 3) rfl) rfl
theorem tw_244 : (Cond.soleField "WireHosts$Receiving" "finNumber") ∈ tb_ws := tb_in1 (List.mem_of_getElem? (i := 4) rfl) rfl
theorem tw_245 : (Cond.superclass "WireHosts$Receiving" "java/lang/Object") ∈ tb_ws := tb_in1 (List.mem_of_getElem? (i := 5) rfl) rfl
theorem tw_246 : (Cond.fieldLink "WireHosts$Endpoint" (9 : Nat) "WireHosts$Endpoint" "hostNumber" "I") ∈ tb_ws := tb_in1 (List.mem_of_getElem? (i := 6) rfl) rfl
theorem tw_247 : (Cond.fieldLink "WireHosts$Endpoint" (15 : Nat) "WireHosts$Endpoint" "number" "I") ∈ tb_ws := tb_in1 (List.mem_of_getElem? (i := 7) rfl) rfl
theorem tw_248 : (Cond.fieldLink "WireHosts$Endpoint" (18 : Nat) "WireHosts$Endpoint" "outbox" "LWireHosts$Rows;") ∈ tb_ws := tb_in1 (List.mem_of_getElem? (i := 8) rfl) rfl
theorem tw_249 : (Cond.fieldLink "WireHosts$Endpoint" (24 : Nat) "WireHosts$Endpoint" "row" "[I") ∈ tb_ws := tb_in1 (List.mem_of_getElem? (i := 9) rfl) rfl
theorem tw_250 : (Cond.fieldLink "WireHosts$Endpoint" (31 : Nat) "WireHosts$Endpoint" "sending" "LWireHosts$Sending;") ∈ tb_ws := tb_in1 (List.mem_of_getElem? (i := 10) rfl) rfl
theorem tw_251 : (Cond.fieldLink "WireHosts$Endpoint" (38 : Nat) "WireHosts$Endpoint" "receiving" "LWireHosts$Receiving;") ∈ tb_ws := tb_in1 (List.mem_of_getElem? (i := 11) rfl) rfl
theorem tw_252 : (Cond.fieldLink "WireHosts$Endpoint" (45 : Nat) "WireHosts$Endpoint" "state" "I") ∈ tb_ws := tb_in1 (List.mem_of_getElem? (i := 12) rfl) rfl
theorem tw_253 : (Cond.fieldLink "WireHosts$Endpoint" (97 : Nat) "WireHosts$Endpoint" "timer" "I") ∈ tb_ws := tb_in1 (List.mem_of_getElem? (i := 13) rfl) rfl
theorem tw_254 : (Cond.fieldLink "WireHosts$Endpoint" (42 : Nat) "WireHosts$Endpoint" "rto" "I") ∈ tb_ws := tb_in1 (List.mem_of_getElem? (i := 14) rfl) rfl
theorem tw_255 : (Cond.fieldLink "WireHosts$Endpoint" (140 : Nat) "WireHosts$Endpoint" "tries" "I") ∈ tb_ws := tb_in1 (List.mem_of_getElem? (i := 15) rfl) rfl
theorem tw_256 : (Cond.laysFinal "WireHosts$Endpoint" "WireHosts$Endpoint" "hostNumber" "I") ∈ tb_ws := tb_in1 (List.mem_of_getElem? (i := 16) rfl) rfl
theorem tw_257 : (Cond.soleField "WireHosts$Endpoint" "hostNumber") ∈ tb_ws := tb_in1 (List.mem_of_getElem? (i := 17) rfl) rfl
theorem tw_258 : (Cond.laysFinal "WireHosts$Endpoint" "WireHosts$Endpoint" "number" "I") ∈ tb_ws := tb_in1 (List.mem_of_getElem? (i := 18) rfl) rfl
theorem tw_259 : (Cond.soleField "WireHosts$Endpoint" "number") ∈ tb_ws := tb_in1 (List.mem_of_getElem? (i := 19) rfl) rfl
theorem tw_260 : (Cond.laysFinal "WireHosts$Endpoint" "WireHosts$Endpoint" "outbox" "LWireHosts$Rows;") ∈ tb_ws := tb_in1 (List.mem_of_getElem? (i := 20) rfl) rfl
theorem tw_261 : (Cond.soleField "WireHosts$Endpoint" "outbox") ∈ tb_ws := tb_in1 (List.mem_of_getElem? (i := 21) rfl) rfl
theorem tw_262 : (Cond.laysFinal "WireHosts$Endpoint" "WireHosts$Endpoint" "row" "[I") ∈ tb_ws := tb_in1 (List.mem_of_getElem? (i := 22) rfl) rfl
theorem tw_263 : (Cond.soleField "WireHosts$Endpoint" "row") ∈ tb_ws := tb_in1 (List.mem_of_getElem? (i := 23) rfl) rfl
theorem tw_264 : (Cond.laysFinal "WireHosts$Endpoint" "WireHosts$Endpoint" "sending" "LWireHosts$Sending;") ∈ tb_ws := tb_in1 (List.mem_of_getElem? (i := 24) rfl) rfl
theorem tw_265 : (Cond.soleField "WireHosts$Endpoint" "sending") ∈ tb_ws := tb_in1 (List.mem_of_getElem? (i := 25) rfl) rfl
theorem tw_266 : (Cond.laysFinal "WireHosts$Endpoint" "WireHosts$Endpoint" "receiving" "LWireHosts$Receiving;") ∈ tb_ws := tb_in1 (List.mem_of_getElem? (i := 26) rfl) rfl
theorem tw_267 : (Cond.soleField "WireHosts$Endpoint" "receiving") ∈ tb_ws := tb_in1 (List.mem_of_getElem? (i := 27) rfl) rfl
theorem tw_268 : (Cond.lays "WireHosts$Endpoint" "WireHosts$Endpoint" "state" "I") ∈ tb_ws := tb_in1 (List.mem_of_getElem? (i := 28) rfl) rfl
theorem tw_269 : (Cond.soleField "WireHosts$Endpoint" "state") ∈ tb_ws := tb_in1 (List.mem_of_getElem? (i := 29) rfl) rfl
theorem tw_270 : (Cond.lays "WireHosts$Endpoint" "WireHosts$Endpoint" "timer" "I") ∈ tb_ws := tb_in1 (List.mem_of_getElem? (i := 30) rfl) rfl
theorem tw_271 : (Cond.soleField "WireHosts$Endpoint" "timer") ∈ tb_ws := tb_in1 (List.mem_of_getElem? (i := 31) rfl) rfl
theorem tw_272 : (Cond.lays "WireHosts$Endpoint" "WireHosts$Endpoint" "rto" "I") ∈ tb_ws := tb_in1 (List.mem_of_getElem? (i := 32) rfl) rfl
theorem tw_273 : (Cond.soleField "WireHosts$Endpoint" "rto") ∈ tb_ws := tb_in1 (List.mem_of_getElem? (i := 33) rfl) rfl
theorem tw_274 : (Cond.lays "WireHosts$Endpoint" "WireHosts$Endpoint" "tries" "I") ∈ tb_ws := tb_in1 (List.mem_of_getElem? (i := 34) rfl) rfl
theorem tw_275 : (Cond.soleField "WireHosts$Endpoint" "tries") ∈ tb_ws := tb_in1 (List.mem_of_getElem? (i := 35) rfl) rfl
theorem tw_276 : (Cond.superclass "WireHosts$Endpoint" "java/lang/Object") ∈ tb_ws := tb_in1 (List.mem_of_getElem? (i := 36) rfl) rfl
theorem tw_277 : (Cond.fieldLink "WireHosts$Host" (18 : Nat) "WireHosts$Host" "number" "I") ∈ tb_ws := tb_in1 (List.mem_of_getElem? (i := 37) rfl) rfl
theorem tw_278 : (Cond.fieldLink "WireHosts$Host" (27 : Nat) "WireHosts$Host" "link" "LWireHosts$Link;") ∈ tb_ws := tb_in1 (List.mem_of_getElem? (i := 38) rfl) rfl
theorem tw_279 : (Cond.fieldLink "WireHosts$Host" (34 : Nat) "WireHosts$Host" "pieces" "LWireHosts$Pieces;") ∈ tb_ws := tb_in1 (List.mem_of_getElem? (i := 39) rfl) rfl
theorem tw_280 : (Cond.fieldLink "WireHosts$Host" (41 : Nat) "WireHosts$Host" "segment" "LWireHosts$Segment;") ∈ tb_ws := tb_in1 (List.mem_of_getElem? (i := 40) rfl) rfl
theorem tw_281 : (Cond.fieldLink "WireHosts$Host" (50 : Nat) "WireHosts$Host" "one" "LWireHosts$Endpoint;") ∈ tb_ws := tb_in1 (List.mem_of_getElem? (i := 41) rfl) rfl
theorem tw_282 : (Cond.fieldLink "WireHosts$Host" (54 : Nat) "WireHosts$Host" "two" "LWireHosts$Endpoint;") ∈ tb_ws := tb_in1 (List.mem_of_getElem? (i := 42) rfl) rfl
theorem tw_283 : (Cond.fieldLink "WireHosts$Host" (57 : Nat) "WireHosts$Host" "outbox" "LWireHosts$Rows;") ∈ tb_ws := tb_in1 (List.mem_of_getElem? (i := 43) rfl) rfl
theorem tw_284 : (Cond.fieldLink "WireHosts$Host" (61 : Nat) "WireHosts$Host" "message" "[I") ∈ tb_ws := tb_in1 (List.mem_of_getElem? (i := 44) rfl) rfl
theorem tw_285 : (Cond.fieldLink "WireHosts$Host" (65 : Nat) "WireHosts$Host" "frame" "[I") ∈ tb_ws := tb_in1 (List.mem_of_getElem? (i := 45) rfl) rfl
theorem tw_286 : (Cond.fieldLink "WireHosts$Host" (68 : Nat) "WireHosts$Host" "packet" "[I") ∈ tb_ws := tb_in1 (List.mem_of_getElem? (i := 46) rfl) rfl
theorem tw_287 : (Cond.fieldLink "WireHosts$Host" (71 : Nat) "WireHosts$Host" "leaving" "[I") ∈ tb_ws := tb_in1 (List.mem_of_getElem? (i := 47) rfl) rfl
theorem tw_288 : (Cond.fieldLink "WireHosts$Host" (136 : Nat) "WireHosts$Host" "ident" "I") ∈ tb_ws := tb_in1 (List.mem_of_getElem? (i := 48) rfl) rfl
theorem tw_289 : (Cond.fieldLink "WireHosts$Host" (150 : Nat) "WireHosts$Host" "pongs" "I") ∈ tb_ws := tb_in1 (List.mem_of_getElem? (i := 49) rfl) rfl
theorem tw_290 : (Cond.fieldLink "WireHosts$Host" (74 : Nat) "WireHosts$Host" "token" "I") ∈ tb_ws := tb_in1 (List.mem_of_getElem? (i := 50) rfl) rfl
theorem tw_291 : (Cond.laysFinal "WireHosts$Host" "WireHosts$Host" "number" "I") ∈ tb_ws := tb_in1 (List.mem_of_getElem? (i := 51) rfl) rfl
theorem tw_292 : (Cond.soleField "WireHosts$Host" "number") ∈ tb_ws := tb_in1 (List.mem_of_getElem? (i := 52) rfl) rfl
theorem tw_293 : (Cond.laysFinal "WireHosts$Host" "WireHosts$Host" "link" "LWireHosts$Link;") ∈ tb_ws := tb_in1 (List.mem_of_getElem? (i := 53) rfl) rfl
theorem tw_294 : (Cond.soleField "WireHosts$Host" "link") ∈ tb_ws := tb_in1 (List.mem_of_getElem? (i := 54) rfl) rfl
theorem tw_295 : (Cond.laysFinal "WireHosts$Host" "WireHosts$Host" "pieces" "LWireHosts$Pieces;") ∈ tb_ws := tb_in1 (List.mem_of_getElem? (i := 55) rfl) rfl
theorem tw_296 : (Cond.soleField "WireHosts$Host" "pieces") ∈ tb_ws := tb_in1 (List.mem_of_getElem? (i := 56) rfl) rfl
theorem tw_297 : (Cond.laysFinal "WireHosts$Host" "WireHosts$Host" "segment" "LWireHosts$Segment;") ∈ tb_ws := tb_in1 (List.mem_of_getElem? (i := 57) rfl) rfl
theorem tw_298 : (Cond.soleField "WireHosts$Host" "segment") ∈ tb_ws := tb_in1 (List.mem_of_getElem? (i := 58) rfl) rfl
theorem tw_299 : (Cond.laysFinal "WireHosts$Host" "WireHosts$Host" "one" "LWireHosts$Endpoint;") ∈ tb_ws := tb_in1 (List.mem_of_getElem? (i := 59) rfl) rfl
theorem tw_300 : (Cond.soleField "WireHosts$Host" "one") ∈ tb_ws := tb_in1 (List.mem_of_getElem? (i := 60) rfl) rfl
theorem tw_301 : (Cond.laysFinal "WireHosts$Host" "WireHosts$Host" "two" "LWireHosts$Endpoint;") ∈ tb_ws := tb_in1 (List.mem_of_getElem? (i := 61) rfl) rfl
theorem tw_302 : (Cond.soleField "WireHosts$Host" "two") ∈ tb_ws := tb_in1 (List.mem_of_getElem? (i := 62) rfl) rfl
theorem tw_303 : (Cond.laysFinal "WireHosts$Host" "WireHosts$Host" "outbox" "LWireHosts$Rows;") ∈ tb_ws := tb_in1 (List.mem_of_getElem? (i := 63) rfl) rfl
theorem tw_304 : (Cond.soleField "WireHosts$Host" "outbox") ∈ tb_ws := tb_in1 (List.mem_of_getElem? (i := 64) rfl) rfl
theorem tw_305 : (Cond.laysFinal "WireHosts$Host" "WireHosts$Host" "message" "[I") ∈ tb_ws := tb_in1 (List.mem_of_getElem? (i := 65) rfl) rfl
theorem tw_306 : (Cond.soleField "WireHosts$Host" "message") ∈ tb_ws := tb_in1 (List.mem_of_getElem? (i := 66) rfl) rfl
theorem tw_307 : (Cond.laysFinal "WireHosts$Host" "WireHosts$Host" "frame" "[I") ∈ tb_ws := tb_in1 (List.mem_of_getElem? (i := 67) rfl) rfl
theorem tw_308 : (Cond.soleField "WireHosts$Host" "frame") ∈ tb_ws := tb_in1 (List.mem_of_getElem? (i := 68) rfl) rfl
theorem tw_309 : (Cond.laysFinal "WireHosts$Host" "WireHosts$Host" "packet" "[I") ∈ tb_ws := tb_in1 (List.mem_of_getElem? (i := 69) rfl) rfl
theorem tw_310 : (Cond.soleField "WireHosts$Host" "packet") ∈ tb_ws := tb_in1 (List.mem_of_getElem? (i := 70) rfl) rfl
theorem tw_311 : (Cond.laysFinal "WireHosts$Host" "WireHosts$Host" "leaving" "[I") ∈ tb_ws := tb_in1 (List.mem_of_getElem? (i := 71) rfl) rfl
theorem tw_312 : (Cond.soleField "WireHosts$Host" "leaving") ∈ tb_ws := tb_in1 (List.mem_of_getElem? (i := 72) rfl) rfl
theorem tw_313 : (Cond.lays "WireHosts$Host" "WireHosts$Host" "ident" "I") ∈ tb_ws := tb_in1 (List.mem_of_getElem? (i := 73) rfl) rfl
theorem tw_314 : (Cond.soleField "WireHosts$Host" "ident") ∈ tb_ws := tb_in1 (List.mem_of_getElem? (i := 74) rfl) rfl
theorem tw_315 : (Cond.lays "WireHosts$Host" "WireHosts$Host" "pongs" "I") ∈ tb_ws := tb_in1 (List.mem_of_getElem? (i := 75) rfl) rfl
theorem tw_316 : (Cond.soleField "WireHosts$Host" "pongs") ∈ tb_ws := tb_in1 (List.mem_of_getElem? (i := 76) rfl) rfl
theorem tw_317 : (Cond.lays "WireHosts$Host" "WireHosts$Host" "token" "I") ∈ tb_ws := tb_in1 (List.mem_of_getElem? (i := 77) rfl) rfl
theorem tw_318 : (Cond.soleField "WireHosts$Host" "token") ∈ tb_ws := tb_in1 (List.mem_of_getElem? (i := 78) rfl) rfl
theorem tw_319 : (Cond.superclass "WireHosts$Host" "java/lang/Object") ∈ tb_ws := tb_in1 (List.mem_of_getElem? (i := 79) rfl) rfl
theorem tw_320 : (Cond.fieldLink "WireHosts" (16 : Nat) "WireHosts" "ways" "[LWireHosts$Rows;") ∈ tb_ws := tb_in1 (List.mem_of_getElem? (i := 80) rfl) rfl
theorem tw_321 : (Cond.fieldLink "WireHosts" (25 : Nat) "WireHosts" "hosts" "[LWireHosts$Host;") ∈ tb_ws := tb_in1 (List.mem_of_getElem? (i := 81) rfl) rfl
theorem tw_322 : (Cond.fieldLink "WireHosts" (39 : Nat) "WireHosts" "clock" "I") ∈ tb_ws := tb_in1 (List.mem_of_getElem? (i := 82) rfl) rfl
theorem tw_323 : (Cond.laysFinal "WireHosts" "WireHosts" "ways" "[LWireHosts$Rows;") ∈ tb_ws := tb_in1 (List.mem_of_getElem? (i := 83) rfl) rfl
theorem tw_324 : (Cond.soleField "WireHosts" "ways") ∈ tb_ws := tb_in1 (List.mem_of_getElem? (i := 84) rfl) rfl
theorem tw_325 : (Cond.laysFinal "WireHosts" "WireHosts" "hosts" "[LWireHosts$Host;") ∈ tb_ws := tb_in1 (List.mem_of_getElem? (i := 85) rfl) rfl
theorem tw_326 : (Cond.soleField "WireHosts" "hosts") ∈ tb_ws := tb_in1 (List.mem_of_getElem? (i := 86) rfl) rfl
theorem tw_327 : (Cond.lays "WireHosts" "WireHosts" "clock" "I") ∈ tb_ws := tb_in1 (List.mem_of_getElem? (i := 87) rfl) rfl
theorem tw_328 : (Cond.soleField "WireHosts" "clock") ∈ tb_ws := tb_in1 (List.mem_of_getElem? (i := 88) rfl) rfl
theorem tw_329 : (Cond.superclass "WireHosts" "java/lang/Object") ∈ tb_ws := tb_in1 (List.mem_of_getElem? (i := 89) rfl) rfl
theorem tw_330 : (Cond.methodLink "WireHostsLaw" (13 : Nat) ({ cls := "WireHosts", name := "listen", desc := "(II)Z" } : MethodName)) ∈ tb_ws := tb_in1 (List.mem_of_getElem? (i := 90) rfl) rfl
theorem tw_331 : (Cond.instanceMethod ({ cls := "WireHosts", name := "listen", desc := "(II)Z" } : MethodName)) ∈ tb_ws := tb_in1 (List.mem_of_getElem? (i := 91) rfl) rfl
theorem tw_332 : (Cond.selects "WireHosts" ({ cls := "WireHosts", name := "listen", desc := "(II)Z" } : MethodName) ({ cls := "WireHosts", name := "listen", desc := "(II)Z" } : MethodName)) ∈ tb_ws := tb_in1 (List.mem_of_getElem? (i := 92) rfl) rfl
theorem tw_333 : (Cond.code ({ cls := "WireHosts", name := "listen", desc := "(II)Z" } : MethodName) prog_1_method_2_code (4 : Nat) (Option.some FieldType.boolean)) ∈ tb_ws := tb_in1 (List.mem_of_getElem? (i := 93) rfl) rfl
theorem tw_334 : (Cond.methodLink "WireHosts" (29 : Nat) ({ cls := "WireHosts", name := "endpointAt", desc := "(II)LWireHosts$Endpoint;" } : MethodName)) ∈ tb_ws := tb_in1 (List.mem_of_getElem? (i := 94) rfl) rfl
theorem tw_336 : (Cond.instanceMethod ({ cls := "WireHosts", name := "endpointAt", desc := "(II)LWireHosts$Endpoint;" } : MethodName)) ∈ tb_ws := tb_in1 (List.mem_of_getElem? (i := 96) rfl) rfl
theorem tw_337 : (Cond.code ({ cls := "WireHosts", name := "endpointAt", desc := "(II)LWireHosts$Endpoint;" } : MethodName) prog_1_method_18_code (3 : Nat) (Option.some (FieldType.object "WireHosts$Endpoint"))) ∈ tb_ws := tb_in1 (List.mem_of_getElem? (i := 97) rfl) rfl
theorem tw_338 : (Cond.methodLink "WireHosts" (63 : Nat) ({ cls := "WireHosts", name := "isHost", desc := "(I)Z" } : MethodName)) ∈ tb_ws := tb_in1 (List.mem_of_getElem? (i := 98) rfl) rfl
theorem tw_340 : (Cond.instanceMethod ({ cls := "WireHosts", name := "isHost", desc := "(I)Z" } : MethodName)) ∈ tb_ws := tb_in1 (List.mem_of_getElem? (i := 100) rfl) rfl
theorem tw_341 : (Cond.code ({ cls := "WireHosts", name := "isHost", desc := "(I)Z" } : MethodName) prog_1_method_17_code (2 : Nat) (Option.some FieldType.boolean)) ∈ tb_ws := tb_in1 (List.mem_of_getElem? (i := 101) rfl) rfl
theorem tw_342 : (Cond.methodLink "WireHosts" (111 : Nat) ({ cls := "WireHosts$Host", name := "endpointAt", desc := "(I)LWireHosts$Endpoint;" } : MethodName)) ∈ tb_ws := tb_in1 (List.mem_of_getElem? (i := 102) rfl) rfl
theorem tw_343 : (Cond.instanceMethod ({ cls := "WireHosts$Host", name := "endpointAt", desc := "(I)LWireHosts$Endpoint;" } : MethodName)) ∈ tb_ws := tb_in1 (List.mem_of_getElem? (i := 103) rfl) rfl
theorem tw_344 : (Cond.selects "WireHosts$Host" ({ cls := "WireHosts$Host", name := "endpointAt", desc := "(I)LWireHosts$Endpoint;" } : MethodName) ({ cls := "WireHosts$Host", name := "endpointAt", desc := "(I)LWireHosts$Endpoint;" } : MethodName)) ∈ tb_ws := tb_in1 (List.mem_of_getElem? (i := 104) rfl) rfl
theorem tw_345 : (Cond.code ({ cls := "WireHosts$Host", name := "endpointAt", desc := "(I)LWireHosts$Endpoint;" } : MethodName) prog_3_method_2_code (2 : Nat) (Option.some (FieldType.object "WireHosts$Endpoint"))) ∈ tb_ws := tb_in1 (List.mem_of_getElem? (i := 105) rfl) rfl
theorem tw_346 : (Cond.methodLink "WireHosts" (33 : Nat) ({ cls := "WireHosts$Endpoint", name := "startListening", desc := "()Z" } : MethodName)) ∈ tb_ws := tb_in1 (List.mem_of_getElem? (i := 106) rfl) rfl
theorem tw_347 : (Cond.instanceMethod ({ cls := "WireHosts$Endpoint", name := "startListening", desc := "()Z" } : MethodName)) ∈ tb_ws := tb_in1 (List.mem_of_getElem? (i := 107) rfl) rfl
theorem tw_348 : (Cond.selects "WireHosts$Endpoint" ({ cls := "WireHosts$Endpoint", name := "startListening", desc := "()Z" } : MethodName) ({ cls := "WireHosts$Endpoint", name := "startListening", desc := "()Z" } : MethodName)) ∈ tb_ws := tb_in1 (List.mem_of_getElem? (i := 108) rfl) rfl
theorem tw_349 : (Cond.code ({ cls := "WireHosts$Endpoint", name := "startListening", desc := "()Z" } : MethodName) prog_2_method_2_code (1 : Nat) (Option.some FieldType.boolean)) ∈ tb_ws := tb_in1 (List.mem_of_getElem? (i := 109) rfl) rfl
theorem tw_350 : (Cond.methodLink "WireHostsLaw" (18 : Nat) ({ cls := "WireHosts", name := "connect", desc := "(II)Z" } : MethodName)) ∈ tb_ws := tb_in1 (List.mem_of_getElem? (i := 110) rfl) rfl
theorem tw_351 : (Cond.instanceMethod ({ cls := "WireHosts", name := "connect", desc := "(II)Z" } : MethodName)) ∈ tb_ws := tb_in1 (List.mem_of_getElem? (i := 111) rfl) rfl
theorem tw_352 : (Cond.selects "WireHosts" ({ cls := "WireHosts", name := "connect", desc := "(II)Z" } : MethodName) ({ cls := "WireHosts", name := "connect", desc := "(II)Z" } : MethodName)) ∈ tb_ws := tb_in1 (List.mem_of_getElem? (i := 112) rfl) rfl
theorem tw_353 : (Cond.code ({ cls := "WireHosts", name := "connect", desc := "(II)Z" } : MethodName) prog_1_method_3_code (4 : Nat) (Option.some FieldType.boolean)) ∈ tb_ws := tb_in1 (List.mem_of_getElem? (i := 113) rfl) rfl
theorem tw_354 : (Cond.methodLink "WireHosts" (43 : Nat) ({ cls := "WireHosts$Endpoint", name := "startConnecting", desc := "(I)Z" } : MethodName)) ∈ tb_ws := tb_in1 (List.mem_of_getElem? (i := 114) rfl) rfl
theorem tw_355 : (Cond.instanceMethod ({ cls := "WireHosts$Endpoint", name := "startConnecting", desc := "(I)Z" } : MethodName)) ∈ tb_ws := tb_in1 (List.mem_of_getElem? (i := 115) rfl) rfl
theorem tw_356 : (Cond.selects "WireHosts$Endpoint" ({ cls := "WireHosts$Endpoint", name := "startConnecting", desc := "(I)Z" } : MethodName) ({ cls := "WireHosts$Endpoint", name := "startConnecting", desc := "(I)Z" } : MethodName)) ∈ tb_ws := tb_in1 (List.mem_of_getElem? (i := 116) rfl) rfl
theorem tw_357 : (Cond.code ({ cls := "WireHosts$Endpoint", name := "startConnecting", desc := "(I)Z" } : MethodName) prog_2_method_3_code (2 : Nat) (Option.some FieldType.boolean)) ∈ tb_ws := tb_in1 (List.mem_of_getElem? (i := 117) rfl) rfl
theorem tw_358 : (Cond.methodLink "WireHosts$Endpoint" (48 : Nat) ({ cls := "WireHosts$Endpoint", name := "begin", desc := "(I)V" } : MethodName)) ∈ tb_ws := tb_in1 (List.mem_of_getElem? (i := 118) rfl) rfl
theorem tw_360 : (Cond.instanceMethod ({ cls := "WireHosts$Endpoint", name := "begin", desc := "(I)V" } : MethodName)) ∈ tb_ws := tb_in1 (List.mem_of_getElem? (i := 120) rfl) rfl
theorem tw_361 : (Cond.code ({ cls := "WireHosts$Endpoint", name := "begin", desc := "(I)V" } : MethodName) prog_2_method_13_code (2 : Nat) (Option.none : Option FieldType)) ∈ tb_ws := tb_in1 (List.mem_of_getElem? (i := 121) rfl) rfl
theorem tw_362 : (Cond.methodLink "WireHosts$Endpoint" (143 : Nat) ({ cls := "WireHosts$Sending", name := "begin", desc := "(I)V" } : MethodName)) ∈ tb_ws := tb_in1 (List.mem_of_getElem? (i := 122) rfl) rfl
theorem tw_363 : (Cond.instanceMethod ({ cls := "WireHosts$Sending", name := "begin", desc := "(I)V" } : MethodName)) ∈ tb_ws := tb_in1 (List.mem_of_getElem? (i := 123) rfl) rfl
theorem tw_364 : (Cond.selects "WireHosts$Sending" ({ cls := "WireHosts$Sending", name := "begin", desc := "(I)V" } : MethodName) ({ cls := "WireHosts$Sending", name := "begin", desc := "(I)V" } : MethodName)) ∈ tb_ws := tb_in1 (List.mem_of_getElem? (i := 124) rfl) rfl
theorem tw_365 : (Cond.code ({ cls := "WireHosts$Sending", name := "begin", desc := "(I)V" } : MethodName) prog_10_method_3_code (2 : Nat) (Option.none : Option FieldType)) ∈ tb_ws := tb_in1 (List.mem_of_getElem? (i := 125) rfl) rfl
theorem tw_366 : (Cond.constant "WireHosts$Sending" (35 : Nat) (65535 : Int32)) ∈ tb_ws := tb_in1 (List.mem_of_getElem? (i := 126) rfl) rfl
theorem tw_367 : (Cond.methodLink "WireHosts$Endpoint" (57 : Nat) ({ cls := "WireHosts$Endpoint", name := "emit", desc := "(II)V" } : MethodName)) ∈ tb_ws := tb_in1 (List.mem_of_getElem? (i := 127) rfl) rfl
theorem tw_369 : (Cond.instanceMethod ({ cls := "WireHosts$Endpoint", name := "emit", desc := "(II)V" } : MethodName)) ∈ tb_ws := tb_in1 (List.mem_of_getElem? (i := 129) rfl) rfl
theorem tw_370 : (Cond.code ({ cls := "WireHosts$Endpoint", name := "emit", desc := "(II)V" } : MethodName) prog_2_method_31_code (3 : Nat) (Option.none : Option FieldType)) ∈ tb_ws := tb_in1 (List.mem_of_getElem? (i := 130) rfl) rfl
theorem tw_371 : (Cond.methodLink "WireHosts$Endpoint" (166 : Nat) ({ cls := "WireHosts$Endpoint", name := "emitWhole", desc := "(IIIII)V" } : MethodName)) ∈ tb_ws := tb_in1 (List.mem_of_getElem? (i := 131) rfl) rfl
theorem tw_373 : (Cond.instanceMethod ({ cls := "WireHosts$Endpoint", name := "emitWhole", desc := "(IIIII)V" } : MethodName)) ∈ tb_ws := tb_in1 (List.mem_of_getElem? (i := 133) rfl) rfl
theorem tw_374 : (Cond.code ({ cls := "WireHosts$Endpoint", name := "emitWhole", desc := "(IIIII)V" } : MethodName) prog_2_method_32_code (9 : Nat) (Option.none : Option FieldType)) ∈ tb_ws := tb_in1 (List.mem_of_getElem? (i := 134) rfl) rfl
theorem tw_375 : (Cond.methodLink "WireHosts$Endpoint" (226 : Nat) ({ cls := "WireHosts$Numbers", name := "putPair", desc := "([III)V" } : MethodName)) ∈ tb_ws := tb_in1 (List.mem_of_getElem? (i := 135) rfl) rfl
theorem tw_376 : (Cond.static ({ cls := "WireHosts$Numbers", name := "putPair", desc := "([III)V" } : MethodName)) ∈ tb_ws := tb_in1 (List.mem_of_getElem? (i := 136) rfl) rfl
theorem tw_377 : (Cond.code ({ cls := "WireHosts$Numbers", name := "putPair", desc := "([III)V" } : MethodName) prog_5_method_3_code (3 : Nat) (Option.none : Option FieldType)) ∈ tb_ws := tb_in1 (List.mem_of_getElem? (i := 137) rfl) rfl
theorem tw_378 : (Cond.methodLink "WireHosts$Endpoint" (78 : Nat) ({ cls := "WireHosts$Receiving", name := "room", desc := "()I" } : MethodName)) ∈ tb_ws := tb_in1 (List.mem_of_getElem? (i := 138) rfl) rfl
theorem tw_379 : (Cond.instanceMethod ({ cls := "WireHosts$Receiving", name := "room", desc := "()I" } : MethodName)) ∈ tb_ws := tb_in1 (List.mem_of_getElem? (i := 139) rfl) rfl
theorem tw_380 : (Cond.selects "WireHosts$Receiving" ({ cls := "WireHosts$Receiving", name := "room", desc := "()I" } : MethodName) ({ cls := "WireHosts$Receiving", name := "room", desc := "()I" } : MethodName)) ∈ tb_ws := tb_in1 (List.mem_of_getElem? (i := 140) rfl) rfl
theorem tw_381 : (Cond.code ({ cls := "WireHosts$Receiving", name := "room", desc := "()I" } : MethodName) prog_7_method_3_code (1 : Nat) (Option.some FieldType.int)) ∈ tb_ws := tb_in1 (List.mem_of_getElem? (i := 141) rfl) rfl
theorem tw_382 : (Cond.methodLink "WireHosts$Endpoint" (232 : Nat) ({ cls := "WireHosts$Sending", name := "copyTo", desc := "([IIII)V" } : MethodName)) ∈ tb_ws := tb_in1 (List.mem_of_getElem? (i := 142) rfl) rfl
theorem tw_383 : (Cond.instanceMethod ({ cls := "WireHosts$Sending", name := "copyTo", desc := "([IIII)V" } : MethodName)) ∈ tb_ws := tb_in1 (List.mem_of_getElem? (i := 143) rfl) rfl
theorem tw_384 : (Cond.selects "WireHosts$Sending" ({ cls := "WireHosts$Sending", name := "copyTo", desc := "([IIII)V" } : MethodName) ({ cls := "WireHosts$Sending", name := "copyTo", desc := "([IIII)V" } : MethodName)) ∈ tb_ws := tb_in1 (List.mem_of_getElem? (i := 144) rfl) rfl
theorem tw_385 : (Cond.code ({ cls := "WireHosts$Sending", name := "copyTo", desc := "([IIII)V" } : MethodName) prog_10_method_14_code (5 : Nat) (Option.none : Option FieldType)) ∈ tb_ws := tb_in1 (List.mem_of_getElem? (i := 145) rfl) rfl
theorem tw_386 : (Cond.methodLink "WireHosts$Sending" (48 : Nat) ({ cls := "java/lang/System", name := "arraycopy", desc := "(Ljava/lang/Object;ILjava/lang/Object;II)V" } : MethodName)) ∈ tb_ws := tb_in1 (List.mem_of_getElem? (i := 146) rfl) rfl
theorem tw_387 : (Cond.static ({ cls := "java/lang/System", name := "arraycopy", desc := "(Ljava/lang/Object;ILjava/lang/Object;II)V" } : MethodName)) ∈ tb_ws := tb_in1 (List.mem_of_getElem? (i := 147) rfl) rfl
theorem tw_388 : (Cond.native ({ cls := "java/lang/System", name := "arraycopy", desc := "(Ljava/lang/Object;ILjava/lang/Object;II)V" } : MethodName)) ∈ tb_ws := tb_in1 (List.mem_of_getElem? (i := 148) rfl) rfl
theorem tw_389 : (Cond.methodLink "WireHosts$Endpoint" (236 : Nat) ({ cls := "WireHosts$Link", name := "addressOf", desc := "(I)I" } : MethodName)) ∈ tb_ws := tb_in1 (List.mem_of_getElem? (i := 149) rfl) rfl
theorem tw_390 : (Cond.static ({ cls := "WireHosts$Link", name := "addressOf", desc := "(I)I" } : MethodName)) ∈ tb_ws := tb_in1 (List.mem_of_getElem? (i := 150) rfl) rfl
theorem tw_391 : (Cond.code ({ cls := "WireHosts$Link", name := "addressOf", desc := "(I)I" } : MethodName) prog_4_method_2_code (1 : Nat) (Option.some FieldType.int)) ∈ tb_ws := tb_in1 (List.mem_of_getElem? (i := 151) rfl) rfl
theorem tw_392 : (Cond.methodLink "WireHosts$Endpoint" (242 : Nat) ({ cls := "WireHosts$Segment", name := "startOfCheck", desc := "(III)I" } : MethodName)) ∈ tb_ws := tb_in1 (List.mem_of_getElem? (i := 152) rfl) rfl
theorem tw_393 : (Cond.static ({ cls := "WireHosts$Segment", name := "startOfCheck", desc := "(III)I" } : MethodName)) ∈ tb_ws := tb_in1 (List.mem_of_getElem? (i := 153) rfl) rfl
theorem tw_394 : (Cond.code ({ cls := "WireHosts$Segment", name := "startOfCheck", desc := "(III)I" } : MethodName) prog_9_method_2_code (3 : Nat) (Option.some FieldType.int)) ∈ tb_ws := tb_in1 (List.mem_of_getElem? (i := 154) rfl) rfl
theorem tw_395 : (Cond.methodLink "WireHosts$Endpoint" (246 : Nat) ({ cls := "WireHosts$Numbers", name := "check", desc := "(I[III)I" } : MethodName)) ∈ tb_ws := tb_in1 (List.mem_of_getElem? (i := 155) rfl) rfl
theorem tw_396 : (Cond.static ({ cls := "WireHosts$Numbers", name := "check", desc := "(I[III)I" } : MethodName)) ∈ tb_ws := tb_in1 (List.mem_of_getElem? (i := 156) rfl) rfl
theorem tw_397 : (Cond.code ({ cls := "WireHosts$Numbers", name := "check", desc := "(I[III)I" } : MethodName) prog_5_method_4_code (6 : Nat) (Option.some FieldType.int)) ∈ tb_ws := tb_in1 (List.mem_of_getElem? (i := 157) rfl) rfl
theorem tw_398 : (Cond.constant "WireHosts$Numbers" (9 : Nat) (65535 : Int32)) ∈ tb_ws := tb_in1 (List.mem_of_getElem? (i := 158) rfl) rfl
theorem tw_399 : (Cond.methodLink "WireHosts$Endpoint" (250 : Nat) ({ cls := "WireHosts$Rows", name := "add", desc := "([II)V" } : MethodName)) ∈ tb_ws := tb_in1 (List.mem_of_getElem? (i := 159) rfl) rfl
theorem tw_400 : (Cond.instanceMethod ({ cls := "WireHosts$Rows", name := "add", desc := "([II)V" } : MethodName)) ∈ tb_ws := tb_in1 (List.mem_of_getElem? (i := 160) rfl) rfl
theorem tw_401 : (Cond.selects "WireHosts$Rows" ({ cls := "WireHosts$Rows", name := "add", desc := "([II)V" } : MethodName) ({ cls := "WireHosts$Rows", name := "add", desc := "([II)V" } : MethodName)) ∈ tb_ws := tb_in1 (List.mem_of_getElem? (i := 161) rfl) rfl
theorem tw_402 : (Cond.code ({ cls := "WireHosts$Rows", name := "add", desc := "([II)V" } : MethodName) prog_8_method_5_code (3 : Nat) (Option.none : Option FieldType)) ∈ tb_ws := tb_in1 (List.mem_of_getElem? (i := 162) rfl) rfl
theorem tw_403 : (Cond.methodLink "WireHosts$Rows" (32 : Nat) ({ cls := "java/lang/System", name := "arraycopy", desc := "(Ljava/lang/Object;ILjava/lang/Object;II)V" } : MethodName)) ∈ tb_ws := tb_in1 (List.mem_of_getElem? (i := 163) rfl) rfl
theorem tw_404 : (Cond.methodLink "WireHosts" (47 : Nat) ({ cls := "WireHosts$Host", name := "sendOut", desc := "()Z" } : MethodName)) ∈ tb_ws := tb_in1 (List.mem_of_getElem? (i := 164) rfl) rfl
theorem tw_405 : (Cond.instanceMethod ({ cls := "WireHosts$Host", name := "sendOut", desc := "()Z" } : MethodName)) ∈ tb_ws := tb_in1 (List.mem_of_getElem? (i := 165) rfl) rfl
theorem tw_406 : (Cond.selects "WireHosts$Host" ({ cls := "WireHosts$Host", name := "sendOut", desc := "()Z" } : MethodName) ({ cls := "WireHosts$Host", name := "sendOut", desc := "()Z" } : MethodName)) ∈ tb_ws := tb_in1 (List.mem_of_getElem? (i := 166) rfl) rfl
theorem tw_407 : (Cond.code ({ cls := "WireHosts$Host", name := "sendOut", desc := "()Z" } : MethodName) prog_3_method_6_code (5 : Nat) (Option.some FieldType.boolean)) ∈ tb_ws := tb_in1 (List.mem_of_getElem? (i := 167) rfl) rfl
theorem tw_408 : (Cond.methodLink "WireHosts$Host" (122 : Nat) ({ cls := "WireHosts$Rows", name := "count", desc := "()I" } : MethodName)) ∈ tb_ws := tb_in1 (List.mem_of_getElem? (i := 168) rfl) rfl
theorem tw_409 : (Cond.instanceMethod ({ cls := "WireHosts$Rows", name := "count", desc := "()I" } : MethodName)) ∈ tb_ws := tb_in1 (List.mem_of_getElem? (i := 169) rfl) rfl
theorem tw_410 : (Cond.selects "WireHosts$Rows" ({ cls := "WireHosts$Rows", name := "count", desc := "()I" } : MethodName) ({ cls := "WireHosts$Rows", name := "count", desc := "()I" } : MethodName)) ∈ tb_ws := tb_in1 (List.mem_of_getElem? (i := 170) rfl) rfl
theorem tw_411 : (Cond.code ({ cls := "WireHosts$Rows", name := "count", desc := "()I" } : MethodName) prog_8_method_2_code (1 : Nat) (Option.some FieldType.int)) ∈ tb_ws := tb_in1 (List.mem_of_getElem? (i := 171) rfl) rfl
theorem tw_412 : (Cond.methodLink "WireHosts$Host" (81 : Nat) ({ cls := "WireHosts$Rows", name := "takeFirst", desc := "([II)I" } : MethodName)) ∈ tb_ws := tb_in1 (List.mem_of_getElem? (i := 172) rfl) rfl
theorem tw_413 : (Cond.instanceMethod ({ cls := "WireHosts$Rows", name := "takeFirst", desc := "([II)I" } : MethodName)) ∈ tb_ws := tb_in1 (List.mem_of_getElem? (i := 173) rfl) rfl
theorem tw_414 : (Cond.selects "WireHosts$Rows" ({ cls := "WireHosts$Rows", name := "takeFirst", desc := "([II)I" } : MethodName) ({ cls := "WireHosts$Rows", name := "takeFirst", desc := "([II)I" } : MethodName)) ∈ tb_ws := tb_in1 (List.mem_of_getElem? (i := 174) rfl) rfl
theorem tw_415 : (Cond.code ({ cls := "WireHosts$Rows", name := "takeFirst", desc := "([II)I" } : MethodName) prog_8_method_6_code (4 : Nat) (Option.some FieldType.int)) ∈ tb_ws := tb_in1 (List.mem_of_getElem? (i := 175) rfl) rfl
theorem tw_416 : (Cond.methodLink "WireHosts$Rows" (38 : Nat) ({ cls := "WireHosts$Rows", name := "dropFirst", desc := "()V" } : MethodName)) ∈ tb_ws := tb_in1 (List.mem_of_getElem? (i := 176) rfl) rfl
theorem tw_417 : (Cond.instanceMethod ({ cls := "WireHosts$Rows", name := "dropFirst", desc := "()V" } : MethodName)) ∈ tb_ws := tb_in1 (List.mem_of_getElem? (i := 177) rfl) rfl
theorem tw_418 : (Cond.selects "WireHosts$Rows" ({ cls := "WireHosts$Rows", name := "dropFirst", desc := "()V" } : MethodName) ({ cls := "WireHosts$Rows", name := "dropFirst", desc := "()V" } : MethodName)) ∈ tb_ws := tb_in1 (List.mem_of_getElem? (i := 178) rfl) rfl
theorem tw_419 : (Cond.code ({ cls := "WireHosts$Rows", name := "dropFirst", desc := "()V" } : MethodName) prog_8_method_7_code (1 : Nat) (Option.none : Option FieldType)) ∈ tb_ws := tb_in1 (List.mem_of_getElem? (i := 179) rfl) rfl
theorem tw_420 : (Cond.methodLink "WireHosts$Host" (126 : Nat) ({ cls := "java/lang/Math", name := "min", desc := "(II)I" } : MethodName)) ∈ tb_ws := tb_in1 (List.mem_of_getElem? (i := 180) rfl) rfl
theorem tw_421 : (Cond.static ({ cls := "java/lang/Math", name := "min", desc := "(II)I" } : MethodName)) ∈ tb_ws := tb_in1 (List.mem_of_getElem? (i := 181) rfl) rfl
theorem tw_422 : (Cond.code ({ cls := "java/lang/Math", name := "min", desc := "(II)I" } : MethodName) prog_14_method_69_code (2 : Nat) (Option.some FieldType.int)) ∈ tb_ws := tb_in1 (List.mem_of_getElem? (i := 182) rfl) rfl
theorem tw_423 : (Cond.methodLink "WireHosts$Host" (132 : Nat) ({ cls := "WireHosts$Host", name := "sendPacket", desc := "(IIZ)V" } : MethodName)) ∈ tb_ws := tb_in1 (List.mem_of_getElem? (i := 183) rfl) rfl
theorem tw_425 : (Cond.instanceMethod ({ cls := "WireHosts$Host", name := "sendPacket", desc := "(IIZ)V" } : MethodName)) ∈ tb_ws := tb_in1 (List.mem_of_getElem? (i := 185) rfl) rfl
theorem tw_426 : (Cond.code ({ cls := "WireHosts$Host", name := "sendPacket", desc := "(IIZ)V" } : MethodName) prog_3_method_12_code (4 : Nat) (Option.none : Option FieldType)) ∈ tb_ws := tb_in1 (List.mem_of_getElem? (i := 186) rfl) rfl
theorem tw_427 : (Cond.methodLink "WireHosts$Host" (177 : Nat) ({ cls := "WireHosts$Numbers", name := "putPair", desc := "([III)V" } : MethodName)) ∈ tb_ws := tb_in1 (List.mem_of_getElem? (i := 187) rfl) rfl
theorem tw_428 : (Cond.methodLink "WireHosts$Host" (105 : Nat) ({ cls := "WireHosts$Link", name := "addressOf", desc := "(I)I" } : MethodName)) ∈ tb_ws := tb_in1 (List.mem_of_getElem? (i := 188) rfl) rfl
theorem tw_429 : (Cond.methodLink "WireHosts$Host" (168 : Nat) ({ cls := "WireHosts$Numbers", name := "check", desc := "(I[III)I" } : MethodName)) ∈ tb_ws := tb_in1 (List.mem_of_getElem? (i := 189) rfl) rfl
theorem tw_430 : (Cond.methodLink "WireHosts$Host" (162 : Nat) ({ cls := "java/lang/System", name := "arraycopy", desc := "(Ljava/lang/Object;ILjava/lang/Object;II)V" } : MethodName)) ∈ tb_ws := tb_in1 (List.mem_of_getElem? (i := 190) rfl) rfl
theorem tw_431 : (Cond.methodLink "WireHosts$Host" (184 : Nat) ({ cls := "WireHosts$Link", name := "sendPacket", desc := "([II)V" } : MethodName)) ∈ tb_ws := tb_in1 (List.mem_of_getElem? (i := 191) rfl) rfl
theorem tw_432 : (Cond.instanceMethod ({ cls := "WireHosts$Link", name := "sendPacket", desc := "([II)V" } : MethodName)) ∈ tb_ws := tb_in1 (List.mem_of_getElem? (i := 192) rfl) rfl
theorem tw_433 : (Cond.selects "WireHosts$Link" ({ cls := "WireHosts$Link", name := "sendPacket", desc := "([II)V" } : MethodName) ({ cls := "WireHosts$Link", name := "sendPacket", desc := "([II)V" } : MethodName)) ∈ tb_ws := tb_in1 (List.mem_of_getElem? (i := 193) rfl) rfl
theorem tw_434 : (Cond.code ({ cls := "WireHosts$Link", name := "sendPacket", desc := "([II)V" } : MethodName) prog_4_method_4_code (3 : Nat) (Option.none : Option FieldType)) ∈ tb_ws := tb_in1 (List.mem_of_getElem? (i := 194) rfl) rfl
theorem tw_435 : (Cond.methodLink "WireHosts$Link" (32 : Nat) ({ cls := "java/lang/System", name := "arraycopy", desc := "(Ljava/lang/Object;ILjava/lang/Object;II)V" } : MethodName)) ∈ tb_ws := tb_in1 (List.mem_of_getElem? (i := 195) rfl) rfl
theorem tw_436 : (Cond.methodLink "WireHosts$Link" (41 : Nat) ({ cls := "WireHosts$Link", name := "sendFrame", desc := "(III)V" } : MethodName)) ∈ tb_ws := tb_in1 (List.mem_of_getElem? (i := 196) rfl) rfl
theorem tw_438 : (Cond.instanceMethod ({ cls := "WireHosts$Link", name := "sendFrame", desc := "(III)V" } : MethodName)) ∈ tb_ws := tb_in1 (List.mem_of_getElem? (i := 198) rfl) rfl
theorem tw_439 : (Cond.code ({ cls := "WireHosts$Link", name := "sendFrame", desc := "(III)V" } : MethodName) prog_4_method_9_code (4 : Nat) (Option.none : Option FieldType)) ∈ tb_ws := tb_in1 (List.mem_of_getElem? (i := 199) rfl) rfl
theorem tw_440 : (Cond.methodLink "WireHosts$Link" (45 : Nat) ({ cls := "WireHosts$Rows", name := "add", desc := "([II)V" } : MethodName)) ∈ tb_ws := tb_in1 (List.mem_of_getElem? (i := 200) rfl) rfl
theorem tw_441 : (Cond.methodLink "WireHosts$Link" (52 : Nat) ({ cls := "WireHosts$Link", name := "sendAsk", desc := "(II)V" } : MethodName)) ∈ tb_ws := tb_in1 (List.mem_of_getElem? (i := 201) rfl) rfl
theorem tw_443 : (Cond.instanceMethod ({ cls := "WireHosts$Link", name := "sendAsk", desc := "(II)V" } : MethodName)) ∈ tb_ws := tb_in1 (List.mem_of_getElem? (i := 203) rfl) rfl
theorem tw_444 : (Cond.code ({ cls := "WireHosts$Link", name := "sendAsk", desc := "(II)V" } : MethodName) prog_4_method_8_code (3 : Nat) (Option.none : Option FieldType)) ∈ tb_ws := tb_in1 (List.mem_of_getElem? (i := 204) rfl) rfl
theorem tw_445 : (Cond.methodLink "WireHosts$Link" (67 : Nat) ({ cls := "WireHosts$Link", name := "addressOf", desc := "(I)I" } : MethodName)) ∈ tb_ws := tb_in1 (List.mem_of_getElem? (i := 205) rfl) rfl
theorem tw_446 : (Cond.methodLink "WireHostsLaw" (22 : Nat) ({ cls := "WireHosts", name := "send", desc := "(III)Z" } : MethodName)) ∈ tb_ws := tb_in1 (List.mem_of_getElem? (i := 206) rfl) rfl
theorem tw_447 : (Cond.instanceMethod ({ cls := "WireHosts", name := "send", desc := "(III)Z" } : MethodName)) ∈ tb_ws := tb_in1 (List.mem_of_getElem? (i := 207) rfl) rfl
theorem tw_448 : (Cond.selects "WireHosts" ({ cls := "WireHosts", name := "send", desc := "(III)Z" } : MethodName) ({ cls := "WireHosts", name := "send", desc := "(III)Z" } : MethodName)) ∈ tb_ws := tb_in1 (List.mem_of_getElem? (i := 208) rfl) rfl
theorem tw_449 : (Cond.code ({ cls := "WireHosts", name := "send", desc := "(III)Z" } : MethodName) prog_1_method_4_code (5 : Nat) (Option.some FieldType.boolean)) ∈ tb_ws := tb_in1 (List.mem_of_getElem? (i := 209) rfl) rfl
theorem tw_450 : (Cond.methodLink "WireHosts" (50 : Nat) ({ cls := "WireHosts$Endpoint", name := "offerByte", desc := "(I)Z" } : MethodName)) ∈ tb_ws := tb_in1 (List.mem_of_getElem? (i := 210) rfl) rfl
theorem tw_451 : (Cond.instanceMethod ({ cls := "WireHosts$Endpoint", name := "offerByte", desc := "(I)Z" } : MethodName)) ∈ tb_ws := tb_in1 (List.mem_of_getElem? (i := 211) rfl) rfl
theorem tw_452 : (Cond.selects "WireHosts$Endpoint" ({ cls := "WireHosts$Endpoint", name := "offerByte", desc := "(I)Z" } : MethodName) ({ cls := "WireHosts$Endpoint", name := "offerByte", desc := "(I)Z" } : MethodName)) ∈ tb_ws := tb_in1 (List.mem_of_getElem? (i := 212) rfl) rfl
theorem tw_453 : (Cond.code ({ cls := "WireHosts$Endpoint", name := "offerByte", desc := "(I)Z" } : MethodName) prog_2_method_4_code (2 : Nat) (Option.some FieldType.boolean)) ∈ tb_ws := tb_in1 (List.mem_of_getElem? (i := 213) rfl) rfl
theorem tw_454 : (Cond.methodLink "WireHosts$Endpoint" (61 : Nat) ({ cls := "WireHosts$Endpoint", name := "isSendingState", desc := "()Z" } : MethodName)) ∈ tb_ws := tb_in1 (List.mem_of_getElem? (i := 214) rfl) rfl
theorem tw_456 : (Cond.instanceMethod ({ cls := "WireHosts$Endpoint", name := "isSendingState", desc := "()Z" } : MethodName)) ∈ tb_ws := tb_in1 (List.mem_of_getElem? (i := 216) rfl) rfl
theorem tw_457 : (Cond.code ({ cls := "WireHosts$Endpoint", name := "isSendingState", desc := "()Z" } : MethodName) prog_2_method_11_code (1 : Nat) (Option.some FieldType.boolean)) ∈ tb_ws := tb_in1 (List.mem_of_getElem? (i := 217) rfl) rfl
theorem tw_458 : (Cond.methodLink "WireHosts$Endpoint" (69 : Nat) ({ cls := "WireHosts$Sending", name := "isFull", desc := "()Z" } : MethodName)) ∈ tb_ws := tb_in1 (List.mem_of_getElem? (i := 218) rfl) rfl
theorem tw_459 : (Cond.instanceMethod ({ cls := "WireHosts$Sending", name := "isFull", desc := "()Z" } : MethodName)) ∈ tb_ws := tb_in1 (List.mem_of_getElem? (i := 219) rfl) rfl
theorem tw_460 : (Cond.selects "WireHosts$Sending" ({ cls := "WireHosts$Sending", name := "isFull", desc := "()Z" } : MethodName) ({ cls := "WireHosts$Sending", name := "isFull", desc := "()Z" } : MethodName)) ∈ tb_ws := tb_in1 (List.mem_of_getElem? (i := 220) rfl) rfl
theorem tw_461 : (Cond.code ({ cls := "WireHosts$Sending", name := "isFull", desc := "()Z" } : MethodName) prog_10_method_4_code (1 : Nat) (Option.some FieldType.boolean)) ∈ tb_ws := tb_in1 (List.mem_of_getElem? (i := 221) rfl) rfl
theorem tw_462 : (Cond.methodLink "WireHosts$Endpoint" (72 : Nat) ({ cls := "WireHosts$Sending", name := "add", desc := "(I)V" } : MethodName)) ∈ tb_ws := tb_in1 (List.mem_of_getElem? (i := 222) rfl) rfl
theorem tw_463 : (Cond.instanceMethod ({ cls := "WireHosts$Sending", name := "add", desc := "(I)V" } : MethodName)) ∈ tb_ws := tb_in1 (List.mem_of_getElem? (i := 223) rfl) rfl
theorem tw_464 : (Cond.selects "WireHosts$Sending" ({ cls := "WireHosts$Sending", name := "add", desc := "(I)V" } : MethodName) ({ cls := "WireHosts$Sending", name := "add", desc := "(I)V" } : MethodName)) ∈ tb_ws := tb_in1 (List.mem_of_getElem? (i := 224) rfl) rfl
theorem tw_465 : (Cond.code ({ cls := "WireHosts$Sending", name := "add", desc := "(I)V" } : MethodName) prog_10_method_5_code (2 : Nat) (Option.none : Option FieldType)) ∈ tb_ws := tb_in1 (List.mem_of_getElem? (i := 225) rfl) rfl
theorem tw_466 : (Cond.methodLink "WireHosts$Endpoint" (75 : Nat) ({ cls := "WireHosts$Endpoint", name := "push", desc := "()V" } : MethodName)) ∈ tb_ws := tb_in1 (List.mem_of_getElem? (i := 226) rfl) rfl
theorem tw_468 : (Cond.instanceMethod ({ cls := "WireHosts$Endpoint", name := "push", desc := "()V" } : MethodName)) ∈ tb_ws := tb_in1 (List.mem_of_getElem? (i := 228) rfl) rfl
theorem tw_469 : (Cond.code ({ cls := "WireHosts$Endpoint", name := "push", desc := "()V" } : MethodName) prog_2_method_15_code (1 : Nat) (Option.none : Option FieldType)) ∈ tb_ws := tb_in1 (List.mem_of_getElem? (i := 229) rfl) rfl
theorem tw_470 : (Cond.methodLink "WireHosts$Endpoint" (148 : Nat) ({ cls := "WireHosts$Endpoint", name := "pushBytes", desc := "()V" } : MethodName)) ∈ tb_ws := tb_in1 (List.mem_of_getElem? (i := 230) rfl) rfl
theorem tw_472 : (Cond.instanceMethod ({ cls := "WireHosts$Endpoint", name := "pushBytes", desc := "()V" } : MethodName)) ∈ tb_ws := tb_in1 (List.mem_of_getElem? (i := 232) rfl) rfl
theorem tw_473 : (Cond.code ({ cls := "WireHosts$Endpoint", name := "pushBytes", desc := "()V" } : MethodName) prog_2_method_16_code (3 : Nat) (Option.none : Option FieldType)) ∈ tb_ws := tb_in1 (List.mem_of_getElem? (i := 233) rfl) rfl
theorem tw_474 : (Cond.methodLink "WireHosts$Endpoint" (160 : Nat) ({ cls := "WireHosts$Sending", name := "sendableCount", desc := "()I" } : MethodName)) ∈ tb_ws := tb_in1 (List.mem_of_getElem? (i := 234) rfl) rfl
theorem tw_475 : (Cond.instanceMethod ({ cls := "WireHosts$Sending", name := "sendableCount", desc := "()I" } : MethodName)) ∈ tb_ws := tb_in1 (List.mem_of_getElem? (i := 235) rfl) rfl
theorem tw_476 : (Cond.selects "WireHosts$Sending" ({ cls := "WireHosts$Sending", name := "sendableCount", desc := "()I" } : MethodName) ({ cls := "WireHosts$Sending", name := "sendableCount", desc := "()I" } : MethodName)) ∈ tb_ws := tb_in1 (List.mem_of_getElem? (i := 236) rfl) rfl
theorem tw_477 : (Cond.code ({ cls := "WireHosts$Sending", name := "sendableCount", desc := "()I" } : MethodName) prog_10_method_9_code (3 : Nat) (Option.some FieldType.int)) ∈ tb_ws := tb_in1 (List.mem_of_getElem? (i := 237) rfl) rfl
theorem tw_478 : (Cond.methodLink "WireHosts$Sending" (42 : Nat) ({ cls := "WireHosts$Sending", name := "sentCount", desc := "()I" } : MethodName)) ∈ tb_ws := tb_in1 (List.mem_of_getElem? (i := 238) rfl) rfl
theorem tw_479 : (Cond.instanceMethod ({ cls := "WireHosts$Sending", name := "sentCount", desc := "()I" } : MethodName)) ∈ tb_ws := tb_in1 (List.mem_of_getElem? (i := 239) rfl) rfl
theorem tw_480 : (Cond.selects "WireHosts$Sending" ({ cls := "WireHosts$Sending", name := "sentCount", desc := "()I" } : MethodName) ({ cls := "WireHosts$Sending", name := "sentCount", desc := "()I" } : MethodName)) ∈ tb_ws := tb_in2 (List.mem_of_getElem? (i := 0) rfl) rfl
theorem tw_481 : (Cond.code ({ cls := "WireHosts$Sending", name := "sentCount", desc := "()I" } : MethodName) prog_10_method_7_code (1 : Nat) (Option.some FieldType.int)) ∈ tb_ws := tb_in2 (List.mem_of_getElem? (i := 1) rfl) rfl
theorem tw_482 : (Cond.methodLink "WireHosts$Sending" (36 : Nat) ({ cls := "java/lang/Math", name := "min", desc := "(II)I" } : MethodName)) ∈ tb_ws := tb_in2 (List.mem_of_getElem? (i := 2) rfl) rfl
theorem tw_483 : (Cond.methodLink "WireHosts$Endpoint" (163 : Nat) ({ cls := "WireHosts$Sending", name := "sentCount", desc := "()I" } : MethodName)) ∈ tb_ws := tb_in2 (List.mem_of_getElem? (i := 3) rfl) rfl
theorem tw_484 : (Cond.methodLink "WireHosts$Endpoint" (154 : Nat) ({ cls := "WireHosts$Sending", name := "countSent", desc := "(I)V" } : MethodName)) ∈ tb_ws := tb_in2 (List.mem_of_getElem? (i := 4) rfl) rfl
theorem tw_485 : (Cond.instanceMethod ({ cls := "WireHosts$Sending", name := "countSent", desc := "(I)V" } : MethodName)) ∈ tb_ws := tb_in2 (List.mem_of_getElem? (i := 5) rfl) rfl
theorem tw_486 : (Cond.selects "WireHosts$Sending" ({ cls := "WireHosts$Sending", name := "countSent", desc := "(I)V" } : MethodName) ({ cls := "WireHosts$Sending", name := "countSent", desc := "(I)V" } : MethodName)) ∈ tb_ws := tb_in2 (List.mem_of_getElem? (i := 6) rfl) rfl
theorem tw_487 : (Cond.code ({ cls := "WireHosts$Sending", name := "countSent", desc := "(I)V" } : MethodName) prog_10_method_6_code (2 : Nat) (Option.none : Option FieldType)) ∈ tb_ws := tb_in2 (List.mem_of_getElem? (i := 7) rfl) rfl
theorem tw_488 : (Cond.methodLink "WireHosts$Endpoint" (151 : Nat) ({ cls := "WireHosts$Sending", name := "unsentCount", desc := "()I" } : MethodName)) ∈ tb_ws := tb_in2 (List.mem_of_getElem? (i := 8) rfl) rfl
theorem tw_489 : (Cond.instanceMethod ({ cls := "WireHosts$Sending", name := "unsentCount", desc := "()I" } : MethodName)) ∈ tb_ws := tb_in2 (List.mem_of_getElem? (i := 9) rfl) rfl
theorem tw_490 : (Cond.selects "WireHosts$Sending" ({ cls := "WireHosts$Sending", name := "unsentCount", desc := "()I" } : MethodName) ({ cls := "WireHosts$Sending", name := "unsentCount", desc := "()I" } : MethodName)) ∈ tb_ws := tb_in2 (List.mem_of_getElem? (i := 10) rfl) rfl
theorem tw_491 : (Cond.code ({ cls := "WireHosts$Sending", name := "unsentCount", desc := "()I" } : MethodName) prog_10_method_8_code (1 : Nat) (Option.some FieldType.int)) ∈ tb_ws := tb_in2 (List.mem_of_getElem? (i := 11) rfl) rfl
theorem tw_492 : (Cond.methodLink "WireHosts$Endpoint" (157 : Nat) ({ cls := "WireHosts$Sending", name := "isAllConfirmed", desc := "()Z" } : MethodName)) ∈ tb_ws := tb_in2 (List.mem_of_getElem? (i := 12) rfl) rfl
theorem tw_493 : (Cond.instanceMethod ({ cls := "WireHosts$Sending", name := "isAllConfirmed", desc := "()Z" } : MethodName)) ∈ tb_ws := tb_in2 (List.mem_of_getElem? (i := 13) rfl) rfl
theorem tw_494 : (Cond.selects "WireHosts$Sending" ({ cls := "WireHosts$Sending", name := "isAllConfirmed", desc := "()Z" } : MethodName) ({ cls := "WireHosts$Sending", name := "isAllConfirmed", desc := "()Z" } : MethodName)) ∈ tb_ws := tb_in2 (List.mem_of_getElem? (i := 14) rfl) rfl
theorem tw_495 : (Cond.code ({ cls := "WireHosts$Sending", name := "isAllConfirmed", desc := "()Z" } : MethodName) prog_10_method_13_code (1 : Nat) (Option.some FieldType.boolean)) ∈ tb_ws := tb_in2 (List.mem_of_getElem? (i := 15) rfl) rfl
theorem tw_496 : (Cond.methodLink "WireHostsLaw" (27 : Nat) ({ cls := "WireHosts", name := "read", desc := "(II)I" } : MethodName)) ∈ tb_ws := tb_in2 (List.mem_of_getElem? (i := 16) rfl) rfl
theorem tw_497 : (Cond.instanceMethod ({ cls := "WireHosts", name := "read", desc := "(II)I" } : MethodName)) ∈ tb_ws := tb_in2 (List.mem_of_getElem? (i := 17) rfl) rfl
theorem tw_498 : (Cond.selects "WireHosts" ({ cls := "WireHosts", name := "read", desc := "(II)I" } : MethodName) ({ cls := "WireHosts", name := "read", desc := "(II)I" } : MethodName)) ∈ tb_ws := tb_in2 (List.mem_of_getElem? (i := 18) rfl) rfl
theorem tw_499 : (Cond.code ({ cls := "WireHosts", name := "read", desc := "(II)I" } : MethodName) prog_1_method_5_code (5 : Nat) (Option.some FieldType.int)) ∈ tb_ws := tb_in2 (List.mem_of_getElem? (i := 19) rfl) rfl
theorem tw_500 : (Cond.methodLink "WireHosts" (53 : Nat) ({ cls := "WireHosts$Endpoint", name := "takeByte", desc := "()I" } : MethodName)) ∈ tb_ws := tb_in2 (List.mem_of_getElem? (i := 20) rfl) rfl
theorem tw_501 : (Cond.instanceMethod ({ cls := "WireHosts$Endpoint", name := "takeByte", desc := "()I" } : MethodName)) ∈ tb_ws := tb_in2 (List.mem_of_getElem? (i := 21) rfl) rfl
theorem tw_502 : (Cond.selects "WireHosts$Endpoint" ({ cls := "WireHosts$Endpoint", name := "takeByte", desc := "()I" } : MethodName) ({ cls := "WireHosts$Endpoint", name := "takeByte", desc := "()I" } : MethodName)) ∈ tb_ws := tb_in2 (List.mem_of_getElem? (i := 22) rfl) rfl
theorem tw_503 : (Cond.code ({ cls := "WireHosts$Endpoint", name := "takeByte", desc := "()I" } : MethodName) prog_2_method_5_code (3 : Nat) (Option.some FieldType.int)) ∈ tb_ws := tb_in2 (List.mem_of_getElem? (i := 23) rfl) rfl
theorem tw_504 : (Cond.methodLink "WireHosts$Endpoint" (82 : Nat) ({ cls := "WireHosts$Receiving", name := "takeFirst", desc := "()I" } : MethodName)) ∈ tb_ws := tb_in2 (List.mem_of_getElem? (i := 24) rfl) rfl
theorem tw_505 : (Cond.instanceMethod ({ cls := "WireHosts$Receiving", name := "takeFirst", desc := "()I" } : MethodName)) ∈ tb_ws := tb_in2 (List.mem_of_getElem? (i := 25) rfl) rfl
theorem tw_506 : (Cond.selects "WireHosts$Receiving" ({ cls := "WireHosts$Receiving", name := "takeFirst", desc := "()I" } : MethodName) ({ cls := "WireHosts$Receiving", name := "takeFirst", desc := "()I" } : MethodName)) ∈ tb_ws := tb_in2 (List.mem_of_getElem? (i := 26) rfl) rfl
theorem tw_507 : (Cond.code ({ cls := "WireHosts$Receiving", name := "takeFirst", desc := "()I" } : MethodName) prog_7_method_8_code (2 : Nat) (Option.some FieldType.int)) ∈ tb_ws := tb_in2 (List.mem_of_getElem? (i := 27) rfl) rfl
theorem tw_508 : (Cond.methodLink "WireHosts$Receiving" (64 : Nat) ({ cls := "java/lang/System", name := "arraycopy", desc := "(Ljava/lang/Object;ILjava/lang/Object;II)V" } : MethodName)) ∈ tb_ws := tb_in2 (List.mem_of_getElem? (i := 28) rfl) rfl
theorem tw_509 : (Cond.methodLink "WireHosts$Endpoint" (85 : Nat) ({ cls := "WireHosts$Endpoint", name := "isReceivingState", desc := "()Z" } : MethodName)) ∈ tb_ws := tb_in2 (List.mem_of_getElem? (i := 29) rfl) rfl
theorem tw_511 : (Cond.instanceMethod ({ cls := "WireHosts$Endpoint", name := "isReceivingState", desc := "()Z" } : MethodName)) ∈ tb_ws := tb_in2 (List.mem_of_getElem? (i := 31) rfl) rfl
theorem tw_512 : (Cond.code ({ cls := "WireHosts$Endpoint", name := "isReceivingState", desc := "()Z" } : MethodName) prog_2_method_12_code (1 : Nat) (Option.some FieldType.boolean)) ∈ tb_ws := tb_in2 (List.mem_of_getElem? (i := 32) rfl) rfl
theorem tw_513 : (Cond.methodLink "WireHosts$Endpoint" (88 : Nat) ({ cls := "WireHosts$Endpoint", name := "emitAck", desc := "()V" } : MethodName)) ∈ tb_ws := tb_in2 (List.mem_of_getElem? (i := 33) rfl) rfl
theorem tw_515 : (Cond.instanceMethod ({ cls := "WireHosts$Endpoint", name := "emitAck", desc := "()V" } : MethodName)) ∈ tb_ws := tb_in2 (List.mem_of_getElem? (i := 35) rfl) rfl
theorem tw_516 : (Cond.code ({ cls := "WireHosts$Endpoint", name := "emitAck", desc := "()V" } : MethodName) prog_2_method_30_code (1 : Nat) (Option.none : Option FieldType)) ∈ tb_ws := tb_in2 (List.mem_of_getElem? (i := 36) rfl) rfl
theorem tw_517 : (Cond.methodLink "WireHostsLaw" (32 : Nat) ({ cls := "WireHosts", name := "close", desc := "(II)Z" } : MethodName)) ∈ tb_ws := tb_in2 (List.mem_of_getElem? (i := 37) rfl) rfl
theorem tw_518 : (Cond.instanceMethod ({ cls := "WireHosts", name := "close", desc := "(II)Z" } : MethodName)) ∈ tb_ws := tb_in2 (List.mem_of_getElem? (i := 38) rfl) rfl
theorem tw_519 : (Cond.selects "WireHosts" ({ cls := "WireHosts", name := "close", desc := "(II)Z" } : MethodName) ({ cls := "WireHosts", name := "close", desc := "(II)Z" } : MethodName)) ∈ tb_ws := tb_in2 (List.mem_of_getElem? (i := 39) rfl) rfl
theorem tw_520 : (Cond.code ({ cls := "WireHosts", name := "close", desc := "(II)Z" } : MethodName) prog_1_method_6_code (4 : Nat) (Option.some FieldType.boolean)) ∈ tb_ws := tb_in2 (List.mem_of_getElem? (i := 40) rfl) rfl
theorem tw_521 : (Cond.methodLink "WireHosts" (57 : Nat) ({ cls := "WireHosts$Endpoint", name := "startEnding", desc := "()Z" } : MethodName)) ∈ tb_ws := tb_in2 (List.mem_of_getElem? (i := 41) rfl) rfl
theorem tw_522 : (Cond.instanceMethod ({ cls := "WireHosts$Endpoint", name := "startEnding", desc := "()Z" } : MethodName)) ∈ tb_ws := tb_in2 (List.mem_of_getElem? (i := 42) rfl) rfl
theorem tw_523 : (Cond.selects "WireHosts$Endpoint" ({ cls := "WireHosts$Endpoint", name := "startEnding", desc := "()Z" } : MethodName) ({ cls := "WireHosts$Endpoint", name := "startEnding", desc := "()Z" } : MethodName)) ∈ tb_ws := tb_in2 (List.mem_of_getElem? (i := 43) rfl) rfl
theorem tw_524 : (Cond.code ({ cls := "WireHosts$Endpoint", name := "startEnding", desc := "()Z" } : MethodName) prog_2_method_6_code (1 : Nat) (Option.some FieldType.boolean)) ∈ tb_ws := tb_in2 (List.mem_of_getElem? (i := 44) rfl) rfl
theorem tw_525 : (Cond.methodLink "WireHosts$Endpoint" (91 : Nat) ({ cls := "WireHosts$Endpoint", name := "shut", desc := "()V" } : MethodName)) ∈ tb_ws := tb_in2 (List.mem_of_getElem? (i := 45) rfl) rfl
theorem tw_527 : (Cond.instanceMethod ({ cls := "WireHosts$Endpoint", name := "shut", desc := "()V" } : MethodName)) ∈ tb_ws := tb_in2 (List.mem_of_getElem? (i := 47) rfl) rfl
theorem tw_528 : (Cond.code ({ cls := "WireHosts$Endpoint", name := "shut", desc := "()V" } : MethodName) prog_2_method_14_code (1 : Nat) (Option.none : Option FieldType)) ∈ tb_ws := tb_in2 (List.mem_of_getElem? (i := 48) rfl) rfl
theorem tw_529 : (Cond.methodLink "WireHosts$Endpoint" (144 : Nat) ({ cls := "WireHosts$Sending", name := "clear", desc := "()V" } : MethodName)) ∈ tb_ws := tb_in2 (List.mem_of_getElem? (i := 49) rfl) rfl
theorem tw_530 : (Cond.instanceMethod ({ cls := "WireHosts$Sending", name := "clear", desc := "()V" } : MethodName)) ∈ tb_ws := tb_in2 (List.mem_of_getElem? (i := 50) rfl) rfl
theorem tw_531 : (Cond.selects "WireHosts$Sending" ({ cls := "WireHosts$Sending", name := "clear", desc := "()V" } : MethodName) ({ cls := "WireHosts$Sending", name := "clear", desc := "()V" } : MethodName)) ∈ tb_ws := tb_in2 (List.mem_of_getElem? (i := 51) rfl) rfl
theorem tw_532 : (Cond.code ({ cls := "WireHosts$Sending", name := "clear", desc := "()V" } : MethodName) prog_10_method_2_code (1 : Nat) (Option.none : Option FieldType)) ∈ tb_ws := tb_in2 (List.mem_of_getElem? (i := 52) rfl) rfl
theorem tw_533 : (Cond.methodLink "WireHosts$Endpoint" (147 : Nat) ({ cls := "WireHosts$Receiving", name := "clear", desc := "()V" } : MethodName)) ∈ tb_ws := tb_in2 (List.mem_of_getElem? (i := 53) rfl) rfl
theorem tw_534 : (Cond.instanceMethod ({ cls := "WireHosts$Receiving", name := "clear", desc := "()V" } : MethodName)) ∈ tb_ws := tb_in2 (List.mem_of_getElem? (i := 54) rfl) rfl
theorem tw_535 : (Cond.selects "WireHosts$Receiving" ({ cls := "WireHosts$Receiving", name := "clear", desc := "()V" } : MethodName) ({ cls := "WireHosts$Receiving", name := "clear", desc := "()V" } : MethodName)) ∈ tb_ws := tb_in2 (List.mem_of_getElem? (i := 55) rfl) rfl
theorem tw_536 : (Cond.code ({ cls := "WireHosts$Receiving", name := "clear", desc := "()V" } : MethodName) prog_7_method_2_code (1 : Nat) (Option.none : Option FieldType)) ∈ tb_ws := tb_in2 (List.mem_of_getElem? (i := 56) rfl) rfl
theorem tw_537 : (Cond.methodLink "WireHostsLaw" (36 : Nat) ({ cls := "WireHosts", name := "abort", desc := "(II)Z" } : MethodName)) ∈ tb_ws := tb_in2 (List.mem_of_getElem? (i := 57) rfl) rfl
theorem tw_538 : (Cond.instanceMethod ({ cls := "WireHosts", name := "abort", desc := "(II)Z" } : MethodName)) ∈ tb_ws := tb_in2 (List.mem_of_getElem? (i := 58) rfl) rfl
theorem tw_539 : (Cond.selects "WireHosts" ({ cls := "WireHosts", name := "abort", desc := "(II)Z" } : MethodName) ({ cls := "WireHosts", name := "abort", desc := "(II)Z" } : MethodName)) ∈ tb_ws := tb_in2 (List.mem_of_getElem? (i := 59) rfl) rfl
theorem tw_540 : (Cond.code ({ cls := "WireHosts", name := "abort", desc := "(II)Z" } : MethodName) prog_1_method_7_code (4 : Nat) (Option.some FieldType.boolean)) ∈ tb_ws := tb_in2 (List.mem_of_getElem? (i := 60) rfl) rfl
theorem tw_541 : (Cond.methodLink "WireHosts" (60 : Nat) ({ cls := "WireHosts$Endpoint", name := "breakOff", desc := "()Z" } : MethodName)) ∈ tb_ws := tb_in2 (List.mem_of_getElem? (i := 61) rfl) rfl
theorem tw_542 : (Cond.instanceMethod ({ cls := "WireHosts$Endpoint", name := "breakOff", desc := "()Z" } : MethodName)) ∈ tb_ws := tb_in2 (List.mem_of_getElem? (i := 62) rfl) rfl
theorem tw_543 : (Cond.selects "WireHosts$Endpoint" ({ cls := "WireHosts$Endpoint", name := "breakOff", desc := "()Z" } : MethodName) ({ cls := "WireHosts$Endpoint", name := "breakOff", desc := "()Z" } : MethodName)) ∈ tb_ws := tb_in2 (List.mem_of_getElem? (i := 63) rfl) rfl
theorem tw_544 : (Cond.code ({ cls := "WireHosts$Endpoint", name := "breakOff", desc := "()Z" } : MethodName) prog_2_method_7_code (1 : Nat) (Option.some FieldType.boolean)) ∈ tb_ws := tb_in2 (List.mem_of_getElem? (i := 64) rfl) rfl
theorem tw_545 : (Cond.methodLink "WireHostsLaw" (40 : Nat) ({ cls := "WireHosts", name := "ping", desc := "(III)Z" } : MethodName)) ∈ tb_ws := tb_in2 (List.mem_of_getElem? (i := 65) rfl) rfl
theorem tw_546 : (Cond.instanceMethod ({ cls := "WireHosts", name := "ping", desc := "(III)Z" } : MethodName)) ∈ tb_ws := tb_in2 (List.mem_of_getElem? (i := 66) rfl) rfl
theorem tw_547 : (Cond.selects "WireHosts" ({ cls := "WireHosts", name := "ping", desc := "(III)Z" } : MethodName) ({ cls := "WireHosts", name := "ping", desc := "(III)Z" } : MethodName)) ∈ tb_ws := tb_in2 (List.mem_of_getElem? (i := 67) rfl) rfl
theorem tw_548 : (Cond.code ({ cls := "WireHosts", name := "ping", desc := "(III)Z" } : MethodName) prog_1_method_8_code (4 : Nat) (Option.some FieldType.boolean)) ∈ tb_ws := tb_in2 (List.mem_of_getElem? (i := 68) rfl) rfl
theorem tw_549 : (Cond.methodLink "WireHosts" (66 : Nat) ({ cls := "WireHosts$Host", name := "askEcho", desc := "(II)Z" } : MethodName)) ∈ tb_ws := tb_in2 (List.mem_of_getElem? (i := 69) rfl) rfl
theorem tw_550 : (Cond.instanceMethod ({ cls := "WireHosts$Host", name := "askEcho", desc := "(II)Z" } : MethodName)) ∈ tb_ws := tb_in2 (List.mem_of_getElem? (i := 70) rfl) rfl
theorem tw_551 : (Cond.selects "WireHosts$Host" ({ cls := "WireHosts$Host", name := "askEcho", desc := "(II)Z" } : MethodName) ({ cls := "WireHosts$Host", name := "askEcho", desc := "(II)Z" } : MethodName)) ∈ tb_ws := tb_in2 (List.mem_of_getElem? (i := 71) rfl) rfl
theorem tw_552 : (Cond.code ({ cls := "WireHosts$Host", name := "askEcho", desc := "(II)Z" } : MethodName) prog_3_method_3_code (4 : Nat) (Option.some FieldType.boolean)) ∈ tb_ws := tb_in2 (List.mem_of_getElem? (i := 72) rfl) rfl
theorem tw_553 : (Cond.methodLink "WireHosts$Host" (77 : Nat) ({ cls := "WireHosts$Host", name := "leaveEcho", desc := "(I)V" } : MethodName)) ∈ tb_ws := tb_in2 (List.mem_of_getElem? (i := 73) rfl) rfl
theorem tw_555 : (Cond.instanceMethod ({ cls := "WireHosts$Host", name := "leaveEcho", desc := "(I)V" } : MethodName)) ∈ tb_ws := tb_in2 (List.mem_of_getElem? (i := 75) rfl) rfl
theorem tw_556 : (Cond.code ({ cls := "WireHosts$Host", name := "leaveEcho", desc := "(I)V" } : MethodName) prog_3_method_11_code (2 : Nat) (Option.none : Option FieldType)) ∈ tb_ws := tb_in2 (List.mem_of_getElem? (i := 76) rfl) rfl
theorem tw_557 : (Cond.methodLink "WireHosts$Host" (181 : Nat) ({ cls := "WireHosts$Rows", name := "add", desc := "([II)V" } : MethodName)) ∈ tb_ws := tb_in2 (List.mem_of_getElem? (i := 77) rfl) rfl
theorem tw_558 : (Cond.methodLink "WireHostsLaw" (44 : Nat) ({ cls := "WireHosts", name := "carry", desc := "(I)I" } : MethodName)) ∈ tb_ws := tb_in2 (List.mem_of_getElem? (i := 78) rfl) rfl
theorem tw_559 : (Cond.instanceMethod ({ cls := "WireHosts", name := "carry", desc := "(I)I" } : MethodName)) ∈ tb_ws := tb_in2 (List.mem_of_getElem? (i := 79) rfl) rfl
theorem tw_560 : (Cond.selects "WireHosts" ({ cls := "WireHosts", name := "carry", desc := "(I)I" } : MethodName) ({ cls := "WireHosts", name := "carry", desc := "(I)I" } : MethodName)) ∈ tb_ws := tb_in2 (List.mem_of_getElem? (i := 80) rfl) rfl
theorem tw_561 : (Cond.code ({ cls := "WireHosts", name := "carry", desc := "(I)I" } : MethodName) prog_1_method_9_code (3 : Nat) (Option.some FieldType.int)) ∈ tb_ws := tb_in2 (List.mem_of_getElem? (i := 81) rfl) rfl
theorem tw_562 : (Cond.methodLink "WireHosts" (70 : Nat) ({ cls := "WireHosts", name := "flying", desc := "(I)I" } : MethodName)) ∈ tb_ws := tb_in2 (List.mem_of_getElem? (i := 82) rfl) rfl
theorem tw_563 : (Cond.instanceMethod ({ cls := "WireHosts", name := "flying", desc := "(I)I" } : MethodName)) ∈ tb_ws := tb_in2 (List.mem_of_getElem? (i := 83) rfl) rfl
theorem tw_564 : (Cond.selects "WireHosts" ({ cls := "WireHosts", name := "flying", desc := "(I)I" } : MethodName) ({ cls := "WireHosts", name := "flying", desc := "(I)I" } : MethodName)) ∈ tb_ws := tb_in2 (List.mem_of_getElem? (i := 84) rfl) rfl
theorem tw_565 : (Cond.code ({ cls := "WireHosts", name := "flying", desc := "(I)I" } : MethodName) prog_1_method_13_code (2 : Nat) (Option.some FieldType.int)) ∈ tb_ws := tb_in2 (List.mem_of_getElem? (i := 85) rfl) rfl
theorem tw_566 : (Cond.methodLink "WireHosts" (101 : Nat) ({ cls := "WireHosts$Rows", name := "count", desc := "()I" } : MethodName)) ∈ tb_ws := tb_in2 (List.mem_of_getElem? (i := 86) rfl) rfl
theorem tw_567 : (Cond.methodLink "WireHosts" (74 : Nat) ({ cls := "WireHosts$Rows", name := "at", desc := "(II)I" } : MethodName)) ∈ tb_ws := tb_in2 (List.mem_of_getElem? (i := 87) rfl) rfl
theorem tw_568 : (Cond.instanceMethod ({ cls := "WireHosts$Rows", name := "at", desc := "(II)I" } : MethodName)) ∈ tb_ws := tb_in2 (List.mem_of_getElem? (i := 88) rfl) rfl
theorem tw_569 : (Cond.selects "WireHosts$Rows" ({ cls := "WireHosts$Rows", name := "at", desc := "(II)I" } : MethodName) ({ cls := "WireHosts$Rows", name := "at", desc := "(II)I" } : MethodName)) ∈ tb_ws := tb_in2 (List.mem_of_getElem? (i := 89) rfl) rfl
theorem tw_570 : (Cond.code ({ cls := "WireHosts$Rows", name := "at", desc := "(II)I" } : MethodName) prog_8_method_4_code (3 : Nat) (Option.some FieldType.int)) ∈ tb_ws := tb_in2 (List.mem_of_getElem? (i := 90) rfl) rfl
theorem tw_571 : (Cond.methodLink "WireHosts$Rows" (28 : Nat) ({ cls := "WireHosts$Rows", name := "sizeOf", desc := "(I)I" } : MethodName)) ∈ tb_ws := tb_in2 (List.mem_of_getElem? (i := 91) rfl) rfl
theorem tw_572 : (Cond.instanceMethod ({ cls := "WireHosts$Rows", name := "sizeOf", desc := "(I)I" } : MethodName)) ∈ tb_ws := tb_in2 (List.mem_of_getElem? (i := 92) rfl) rfl
theorem tw_573 : (Cond.selects "WireHosts$Rows" ({ cls := "WireHosts$Rows", name := "sizeOf", desc := "(I)I" } : MethodName) ({ cls := "WireHosts$Rows", name := "sizeOf", desc := "(I)I" } : MethodName)) ∈ tb_ws := tb_in2 (List.mem_of_getElem? (i := 93) rfl) rfl
theorem tw_574 : (Cond.code ({ cls := "WireHosts$Rows", name := "sizeOf", desc := "(I)I" } : MethodName) prog_8_method_3_code (2 : Nat) (Option.some FieldType.int)) ∈ tb_ws := tb_in2 (List.mem_of_getElem? (i := 94) rfl) rfl
theorem tw_575 : (Cond.methodLink "WireHosts" (78 : Nat) ({ cls := "WireHosts$Host", name := "takeFrame", desc := "(LWireHosts$Rows;)Z" } : MethodName)) ∈ tb_ws := tb_in2 (List.mem_of_getElem? (i := 95) rfl) rfl
theorem tw_576 : (Cond.instanceMethod ({ cls := "WireHosts$Host", name := "takeFrame", desc := "(LWireHosts$Rows;)Z" } : MethodName)) ∈ tb_ws := tb_in2 (List.mem_of_getElem? (i := 96) rfl) rfl
theorem tw_577 : (Cond.selects "WireHosts$Host" ({ cls := "WireHosts$Host", name := "takeFrame", desc := "(LWireHosts$Rows;)Z" } : MethodName) ({ cls := "WireHosts$Host", name := "takeFrame", desc := "(LWireHosts$Rows;)Z" } : MethodName)) ∈ tb_ws := tb_in2 (List.mem_of_getElem? (i := 97) rfl) rfl
theorem tw_578 : (Cond.code ({ cls := "WireHosts$Host", name := "takeFrame", desc := "(LWireHosts$Rows;)Z" } : MethodName) prog_3_method_4_code (3 : Nat) (Option.some FieldType.boolean)) ∈ tb_ws := tb_in2 (List.mem_of_getElem? (i := 98) rfl) rfl
theorem tw_579 : (Cond.methodLink "WireHosts$Host" (85 : Nat) ({ cls := "WireHosts$Link", name := "isForMe", desc := "(I)Z" } : MethodName)) ∈ tb_ws := tb_in2 (List.mem_of_getElem? (i := 99) rfl) rfl
theorem tw_580 : (Cond.instanceMethod ({ cls := "WireHosts$Link", name := "isForMe", desc := "(I)Z" } : MethodName)) ∈ tb_ws := tb_in2 (List.mem_of_getElem? (i := 100) rfl) rfl
theorem tw_581 : (Cond.selects "WireHosts$Link" ({ cls := "WireHosts$Link", name := "isForMe", desc := "(I)Z" } : MethodName) ({ cls := "WireHosts$Link", name := "isForMe", desc := "(I)Z" } : MethodName)) ∈ tb_ws := tb_in2 (List.mem_of_getElem? (i := 101) rfl) rfl
theorem tw_582 : (Cond.code ({ cls := "WireHosts$Link", name := "isForMe", desc := "(I)Z" } : MethodName) prog_4_method_3_code (2 : Nat) (Option.some FieldType.boolean)) ∈ tb_ws := tb_in2 (List.mem_of_getElem? (i := 102) rfl) rfl
theorem tw_583 : (Cond.methodLink "WireHosts$Host" (89 : Nat) ({ cls := "WireHosts$Link", name := "takeAsk", desc := "([II)V" } : MethodName)) ∈ tb_ws := tb_in2 (List.mem_of_getElem? (i := 103) rfl) rfl
theorem tw_584 : (Cond.instanceMethod ({ cls := "WireHosts$Link", name := "takeAsk", desc := "([II)V" } : MethodName)) ∈ tb_ws := tb_in2 (List.mem_of_getElem? (i := 104) rfl) rfl
theorem tw_585 : (Cond.selects "WireHosts$Link" ({ cls := "WireHosts$Link", name := "takeAsk", desc := "([II)V" } : MethodName) ({ cls := "WireHosts$Link", name := "takeAsk", desc := "([II)V" } : MethodName)) ∈ tb_ws := tb_in2 (List.mem_of_getElem? (i := 105) rfl) rfl
theorem tw_586 : (Cond.code ({ cls := "WireHosts$Link", name := "takeAsk", desc := "([II)V" } : MethodName) prog_4_method_5_code (5 : Nat) (Option.none : Option FieldType)) ∈ tb_ws := tb_in2 (List.mem_of_getElem? (i := 106) rfl) rfl
theorem tw_587 : (Cond.methodLink "WireHosts$Link" (55 : Nat) ({ cls := "WireHosts$Link", name := "isRightAsk", desc := "([II)Z" } : MethodName)) ∈ tb_ws := tb_in2 (List.mem_of_getElem? (i := 107) rfl) rfl
theorem tw_589 : (Cond.instanceMethod ({ cls := "WireHosts$Link", name := "isRightAsk", desc := "([II)Z" } : MethodName)) ∈ tb_ws := tb_in2 (List.mem_of_getElem? (i := 109) rfl) rfl
theorem tw_590 : (Cond.code ({ cls := "WireHosts$Link", name := "isRightAsk", desc := "([II)Z" } : MethodName) prog_4_method_7_code (3 : Nat) (Option.some FieldType.boolean)) ∈ tb_ws := tb_in2 (List.mem_of_getElem? (i := 110) rfl) rfl
theorem tw_591 : (Cond.methodLink "WireHosts$Link" (59 : Nat) ({ cls := "WireHosts$Rows", name := "count", desc := "()I" } : MethodName)) ∈ tb_ws := tb_in2 (List.mem_of_getElem? (i := 111) rfl) rfl
theorem tw_592 : (Cond.methodLink "WireHosts$Link" (63 : Nat) ({ cls := "WireHosts$Rows", name := "takeFirst", desc := "([II)I" } : MethodName)) ∈ tb_ws := tb_in2 (List.mem_of_getElem? (i := 112) rfl) rfl
theorem tw_593 : (Cond.methodLink "WireHosts$Host" (93 : Nat) ({ cls := "WireHosts$Host", name := "takePacket", desc := "(I)Z" } : MethodName)) ∈ tb_ws := tb_in2 (List.mem_of_getElem? (i := 113) rfl) rfl
theorem tw_595 : (Cond.instanceMethod ({ cls := "WireHosts$Host", name := "takePacket", desc := "(I)Z" } : MethodName)) ∈ tb_ws := tb_in2 (List.mem_of_getElem? (i := 115) rfl) rfl
theorem tw_596 : (Cond.code ({ cls := "WireHosts$Host", name := "takePacket", desc := "(I)Z" } : MethodName) prog_3_method_9_code (2 : Nat) (Option.some FieldType.boolean)) ∈ tb_ws := tb_in2 (List.mem_of_getElem? (i := 116) rfl) rfl
theorem tw_597 : (Cond.methodLink "WireHosts$Host" (174 : Nat) ({ cls := "WireHosts$Pieces", name := "takePacket", desc := "([II)Z" } : MethodName)) ∈ tb_ws := tb_in2 (List.mem_of_getElem? (i := 117) rfl) rfl
theorem tw_598 : (Cond.instanceMethod ({ cls := "WireHosts$Pieces", name := "takePacket", desc := "([II)Z" } : MethodName)) ∈ tb_ws := tb_in2 (List.mem_of_getElem? (i := 118) rfl) rfl
theorem tw_599 : (Cond.selects "WireHosts$Pieces" ({ cls := "WireHosts$Pieces", name := "takePacket", desc := "([II)Z" } : MethodName) ({ cls := "WireHosts$Pieces", name := "takePacket", desc := "([II)Z" } : MethodName)) ∈ tb_ws := tb_in2 (List.mem_of_getElem? (i := 119) rfl) rfl
theorem tw_600 : (Cond.code ({ cls := "WireHosts$Pieces", name := "takePacket", desc := "([II)Z" } : MethodName) prog_6_method_2_code (8 : Nat) (Option.some FieldType.boolean)) ∈ tb_ws := tb_in2 (List.mem_of_getElem? (i := 120) rfl) rfl
theorem tw_601 : (Cond.methodLink "WireHosts$Pieces" (25 : Nat) ({ cls := "WireHosts$Pieces", name := "keepMessage", desc := "([IIII)V" } : MethodName)) ∈ tb_ws := tb_in2 (List.mem_of_getElem? (i := 121) rfl) rfl
theorem tw_603 : (Cond.instanceMethod ({ cls := "WireHosts$Pieces", name := "keepMessage", desc := "([IIII)V" } : MethodName)) ∈ tb_ws := tb_in2 (List.mem_of_getElem? (i := 123) rfl) rfl
theorem tw_604 : (Cond.code ({ cls := "WireHosts$Pieces", name := "keepMessage", desc := "([IIII)V" } : MethodName) prog_6_method_5_code (5 : Nat) (Option.none : Option FieldType)) ∈ tb_ws := tb_in2 (List.mem_of_getElem? (i := 124) rfl) rfl
theorem tw_605 : (Cond.methodLink "WireHosts$Pieces" (58 : Nat) ({ cls := "java/lang/System", name := "arraycopy", desc := "(Ljava/lang/Object;ILjava/lang/Object;II)V" } : MethodName)) ∈ tb_ws := tb_in2 (List.mem_of_getElem? (i := 125) rfl) rfl
theorem tw_606 : (Cond.methodLink "WireHosts$Pieces" (29 : Nat) ({ cls := "WireHosts$Pieces", name := "slotFor", desc := "(II)LWireHosts$Slot;" } : MethodName)) ∈ tb_ws := tb_in2 (List.mem_of_getElem? (i := 126) rfl) rfl
theorem tw_608 : (Cond.instanceMethod ({ cls := "WireHosts$Pieces", name := "slotFor", desc := "(II)LWireHosts$Slot;" } : MethodName)) ∈ tb_ws := tb_in2 (List.mem_of_getElem? (i := 128) rfl) rfl
theorem tw_609 : (Cond.code ({ cls := "WireHosts$Pieces", name := "slotFor", desc := "(II)LWireHosts$Slot;" } : MethodName) prog_6_method_6_code (4 : Nat) (Option.some (FieldType.object "WireHosts$Slot"))) ∈ tb_ws := tb_in2 (List.mem_of_getElem? (i := 129) rfl) rfl
theorem tw_610 : (Cond.methodLink "WireHosts$Pieces" (68 : Nat) ({ cls := "WireHosts$Slot", name := "holds", desc := "(II)Z" } : MethodName)) ∈ tb_ws := tb_in2 (List.mem_of_getElem? (i := 130) rfl) rfl
theorem tw_611 : (Cond.instanceMethod ({ cls := "WireHosts$Slot", name := "holds", desc := "(II)Z" } : MethodName)) ∈ tb_ws := tb_in2 (List.mem_of_getElem? (i := 131) rfl) rfl
theorem tw_612 : (Cond.selects "WireHosts$Slot" ({ cls := "WireHosts$Slot", name := "holds", desc := "(II)Z" } : MethodName) ({ cls := "WireHosts$Slot", name := "holds", desc := "(II)Z" } : MethodName)) ∈ tb_ws := tb_in2 (List.mem_of_getElem? (i := 132) rfl) rfl
theorem tw_613 : (Cond.code ({ cls := "WireHosts$Slot", name := "holds", desc := "(II)Z" } : MethodName) prog_11_method_2_code (3 : Nat) (Option.some FieldType.boolean)) ∈ tb_ws := tb_in2 (List.mem_of_getElem? (i := 133) rfl) rfl
theorem tw_614 : (Cond.methodLink "WireHosts$Pieces" (72 : Nat) ({ cls := "WireHosts$Pieces", name := "slotToBegin", desc := "()LWireHosts$Slot;" } : MethodName)) ∈ tb_ws := tb_in2 (List.mem_of_getElem? (i := 134) rfl) rfl
theorem tw_616 : (Cond.instanceMethod ({ cls := "WireHosts$Pieces", name := "slotToBegin", desc := "()LWireHosts$Slot;" } : MethodName)) ∈ tb_ws := tb_in2 (List.mem_of_getElem? (i := 136) rfl) rfl
theorem tw_617 : (Cond.code ({ cls := "WireHosts$Pieces", name := "slotToBegin", desc := "()LWireHosts$Slot;" } : MethodName) prog_6_method_7_code (1 : Nat) (Option.some (FieldType.object "WireHosts$Slot"))) ∈ tb_ws := tb_in2 (List.mem_of_getElem? (i := 137) rfl) rfl
theorem tw_618 : (Cond.methodLink "WireHosts$Pieces" (76 : Nat) ({ cls := "WireHosts$Slot", name := "begin", desc := "(II)V" } : MethodName)) ∈ tb_ws := tb_in2 (List.mem_of_getElem? (i := 138) rfl) rfl
theorem tw_619 : (Cond.instanceMethod ({ cls := "WireHosts$Slot", name := "begin", desc := "(II)V" } : MethodName)) ∈ tb_ws := tb_in2 (List.mem_of_getElem? (i := 139) rfl) rfl
theorem tw_620 : (Cond.selects "WireHosts$Slot" ({ cls := "WireHosts$Slot", name := "begin", desc := "(II)V" } : MethodName) ({ cls := "WireHosts$Slot", name := "begin", desc := "(II)V" } : MethodName)) ∈ tb_ws := tb_in2 (List.mem_of_getElem? (i := 140) rfl) rfl
theorem tw_621 : (Cond.code ({ cls := "WireHosts$Slot", name := "begin", desc := "(II)V" } : MethodName) prog_11_method_3_code (3 : Nat) (Option.none : Option FieldType)) ∈ tb_ws := tb_in2 (List.mem_of_getElem? (i := 141) rfl) rfl
theorem tw_622 : (Cond.methodLink "WireHosts$Slot" (34 : Nat) ({ cls := "java/util/Arrays", name := "fill", desc := "([II)V" } : MethodName)) ∈ tb_ws := tb_in2 (List.mem_of_getElem? (i := 142) rfl) rfl
theorem tw_623 : (Cond.methodLink "WireHosts$Pieces" (33 : Nat) ({ cls := "WireHosts$Slot", name := "put", desc := "(II)V" } : MethodName)) ∈ tb_ws := tb_in2 (List.mem_of_getElem? (i := 143) rfl) rfl
theorem tw_624 : (Cond.instanceMethod ({ cls := "WireHosts$Slot", name := "put", desc := "(II)V" } : MethodName)) ∈ tb_ws := tb_in2 (List.mem_of_getElem? (i := 144) rfl) rfl
theorem tw_625 : (Cond.selects "WireHosts$Slot" ({ cls := "WireHosts$Slot", name := "put", desc := "(II)V" } : MethodName) ({ cls := "WireHosts$Slot", name := "put", desc := "(II)V" } : MethodName)) ∈ tb_ws := tb_in2 (List.mem_of_getElem? (i := 145) rfl) rfl
theorem tw_626 : (Cond.code ({ cls := "WireHosts$Slot", name := "put", desc := "(II)V" } : MethodName) prog_11_method_4_code (3 : Nat) (Option.none : Option FieldType)) ∈ tb_ws := tb_in2 (List.mem_of_getElem? (i := 146) rfl) rfl
theorem tw_627 : (Cond.methodLink "WireHosts$Pieces" (41 : Nat) ({ cls := "WireHosts$Slot", name := "isWhole", desc := "()Z" } : MethodName)) ∈ tb_ws := tb_in2 (List.mem_of_getElem? (i := 147) rfl) rfl
theorem tw_628 : (Cond.instanceMethod ({ cls := "WireHosts$Slot", name := "isWhole", desc := "()Z" } : MethodName)) ∈ tb_ws := tb_in2 (List.mem_of_getElem? (i := 148) rfl) rfl
theorem tw_629 : (Cond.selects "WireHosts$Slot" ({ cls := "WireHosts$Slot", name := "isWhole", desc := "()Z" } : MethodName) ({ cls := "WireHosts$Slot", name := "isWhole", desc := "()Z" } : MethodName)) ∈ tb_ws := tb_in2 (List.mem_of_getElem? (i := 149) rfl) rfl
theorem tw_630 : (Cond.code ({ cls := "WireHosts$Slot", name := "isWhole", desc := "()Z" } : MethodName) prog_11_method_5_code (2 : Nat) (Option.some FieldType.boolean)) ∈ tb_ws := tb_in2 (List.mem_of_getElem? (i := 150) rfl) rfl
theorem tw_631 : (Cond.methodLink "WireHosts" (82 : Nat) ({ cls := "WireHosts$Host", name := "takeMessage", desc := "(I)V" } : MethodName)) ∈ tb_ws := tb_in2 (List.mem_of_getElem? (i := 151) rfl) rfl
theorem tw_632 : (Cond.instanceMethod ({ cls := "WireHosts$Host", name := "takeMessage", desc := "(I)V" } : MethodName)) ∈ tb_ws := tb_in2 (List.mem_of_getElem? (i := 152) rfl) rfl
theorem tw_633 : (Cond.selects "WireHosts$Host" ({ cls := "WireHosts$Host", name := "takeMessage", desc := "(I)V" } : MethodName) ({ cls := "WireHosts$Host", name := "takeMessage", desc := "(I)V" } : MethodName)) ∈ tb_ws := tb_in2 (List.mem_of_getElem? (i := 153) rfl) rfl
theorem tw_634 : (Cond.code ({ cls := "WireHosts$Host", name := "takeMessage", desc := "(I)V" } : MethodName) prog_3_method_5_code (3 : Nat) (Option.none : Option FieldType)) ∈ tb_ws := tb_in2 (List.mem_of_getElem? (i := 154) rfl) rfl
theorem tw_635 : (Cond.methodLink "WireHosts$Host" (102 : Nat) ({ cls := "WireHosts$Host", name := "takeEcho", desc := "(I)V" } : MethodName)) ∈ tb_ws := tb_in2 (List.mem_of_getElem? (i := 155) rfl) rfl
theorem tw_637 : (Cond.instanceMethod ({ cls := "WireHosts$Host", name := "takeEcho", desc := "(I)V" } : MethodName)) ∈ tb_ws := tb_in2 (List.mem_of_getElem? (i := 157) rfl) rfl
theorem tw_638 : (Cond.code ({ cls := "WireHosts$Host", name := "takeEcho", desc := "(I)V" } : MethodName) prog_3_method_10_code (2 : Nat) (Option.none : Option FieldType)) ∈ tb_ws := tb_in2 (List.mem_of_getElem? (i := 158) rfl) rfl
theorem tw_639 : (Cond.methodLink "WireHosts$Host" (109 : Nat) ({ cls := "WireHosts$Segment", name := "isRight", desc := "(III)Z" } : MethodName)) ∈ tb_ws := tb_in2 (List.mem_of_getElem? (i := 159) rfl) rfl
theorem tw_640 : (Cond.instanceMethod ({ cls := "WireHosts$Segment", name := "isRight", desc := "(III)Z" } : MethodName)) ∈ tb_ws := tb_in2 (List.mem_of_getElem? (i := 160) rfl) rfl
theorem tw_641 : (Cond.selects "WireHosts$Segment" ({ cls := "WireHosts$Segment", name := "isRight", desc := "(III)Z" } : MethodName) ({ cls := "WireHosts$Segment", name := "isRight", desc := "(III)Z" } : MethodName)) ∈ tb_ws := tb_in2 (List.mem_of_getElem? (i := 161) rfl) rfl
theorem tw_642 : (Cond.code ({ cls := "WireHosts$Segment", name := "isRight", desc := "(III)Z" } : MethodName) prog_9_method_3_code (4 : Nat) (Option.some FieldType.boolean)) ∈ tb_ws := tb_in2 (List.mem_of_getElem? (i := 162) rfl) rfl
theorem tw_643 : (Cond.methodLink "WireHosts$Segment" (25 : Nat) ({ cls := "WireHosts$Numbers", name := "pairAt", desc := "([II)I" } : MethodName)) ∈ tb_ws := tb_in2 (List.mem_of_getElem? (i := 163) rfl) rfl
theorem tw_644 : (Cond.static ({ cls := "WireHosts$Numbers", name := "pairAt", desc := "([II)I" } : MethodName)) ∈ tb_ws := tb_in2 (List.mem_of_getElem? (i := 164) rfl) rfl
theorem tw_645 : (Cond.code ({ cls := "WireHosts$Numbers", name := "pairAt", desc := "([II)I" } : MethodName) prog_5_method_2_code (2 : Nat) (Option.some FieldType.int)) ∈ tb_ws := tb_in2 (List.mem_of_getElem? (i := 165) rfl) rfl
theorem tw_646 : (Cond.methodLink "WireHosts$Segment" (40 : Nat) ({ cls := "WireHosts$Segment", name := "startOfCheck", desc := "(III)I" } : MethodName)) ∈ tb_ws := tb_in2 (List.mem_of_getElem? (i := 166) rfl) rfl
theorem tw_647 : (Cond.methodLink "WireHosts$Segment" (44 : Nat) ({ cls := "WireHosts$Numbers", name := "check", desc := "(I[III)I" } : MethodName)) ∈ tb_ws := tb_in2 (List.mem_of_getElem? (i := 167) rfl) rfl
theorem tw_648 : (Cond.methodLink "WireHosts$Host" (114 : Nat) ({ cls := "WireHosts$Host", name := "endpointAt", desc := "(I)LWireHosts$Endpoint;" } : MethodName)) ∈ tb_ws := tb_in2 (List.mem_of_getElem? (i := 168) rfl) rfl
theorem tw_649 : (Cond.methodLink "WireHosts$Host" (118 : Nat) ({ cls := "WireHosts$Endpoint", name := "takeSegment", desc := "(LWireHosts$Segment;I)V" } : MethodName)) ∈ tb_ws := tb_in2 (List.mem_of_getElem? (i := 169) rfl) rfl
theorem tw_650 : (Cond.instanceMethod ({ cls := "WireHosts$Endpoint", name := "takeSegment", desc := "(LWireHosts$Segment;I)V" } : MethodName)) ∈ tb_ws := tb_in2 (List.mem_of_getElem? (i := 170) rfl) rfl
theorem tw_651 : (Cond.selects "WireHosts$Endpoint" ({ cls := "WireHosts$Endpoint", name := "takeSegment", desc := "(LWireHosts$Segment;I)V" } : MethodName) ({ cls := "WireHosts$Endpoint", name := "takeSegment", desc := "(LWireHosts$Segment;I)V" } : MethodName)) ∈ tb_ws := tb_in2 (List.mem_of_getElem? (i := 171) rfl) rfl
theorem tw_652 : (Cond.code ({ cls := "WireHosts$Endpoint", name := "takeSegment", desc := "(LWireHosts$Segment;I)V" } : MethodName) prog_2_method_9_code (3 : Nat) (Option.none : Option FieldType)) ∈ tb_ws := tb_in2 (List.mem_of_getElem? (i := 172) rfl) rfl
theorem tw_653 : (Cond.methodLink "WireHosts$Endpoint" (103 : Nat) ({ cls := "WireHosts$Endpoint", name := "answerWhenClosed", desc := "(LWireHosts$Segment;)V" } : MethodName)) ∈ tb_ws := tb_in2 (List.mem_of_getElem? (i := 173) rfl) rfl
theorem tw_655 : (Cond.instanceMethod ({ cls := "WireHosts$Endpoint", name := "answerWhenClosed", desc := "(LWireHosts$Segment;)V" } : MethodName)) ∈ tb_ws := tb_in2 (List.mem_of_getElem? (i := 175) rfl) rfl
theorem tw_656 : (Cond.code ({ cls := "WireHosts$Endpoint", name := "answerWhenClosed", desc := "(LWireHosts$Segment;)V" } : MethodName) prog_2_method_19_code (2 : Nat) (Option.none : Option FieldType)) ∈ tb_ws := tb_in2 (List.mem_of_getElem? (i := 176) rfl) rfl
theorem tw_657 : (Cond.methodLink "WireHosts$Endpoint" (179 : Nat) ({ cls := "WireHosts$Segment", name := "has", desc := "(I)Z" } : MethodName)) ∈ tb_ws := tb_in2 (List.mem_of_getElem? (i := 177) rfl) rfl
theorem tw_658 : (Cond.instanceMethod ({ cls := "WireHosts$Segment", name := "has", desc := "(I)Z" } : MethodName)) ∈ tb_ws := tb_in2 (List.mem_of_getElem? (i := 178) rfl) rfl
theorem tw_659 : (Cond.selects "WireHosts$Segment" ({ cls := "WireHosts$Segment", name := "has", desc := "(I)Z" } : MethodName) ({ cls := "WireHosts$Segment", name := "has", desc := "(I)Z" } : MethodName)) ∈ tb_ws := tb_in2 (List.mem_of_getElem? (i := 179) rfl) rfl
theorem tw_660 : (Cond.code ({ cls := "WireHosts$Segment", name := "has", desc := "(I)Z" } : MethodName) prog_9_method_4_code (2 : Nat) (Option.some FieldType.boolean)) ∈ tb_ws := tb_in2 (List.mem_of_getElem? (i := 180) rfl) rfl
theorem tw_661 : (Cond.methodLink "WireHosts$Endpoint" (189 : Nat) ({ cls := "WireHosts$Segment", name := "length", desc := "()I" } : MethodName)) ∈ tb_ws := tb_in2 (List.mem_of_getElem? (i := 181) rfl) rfl
theorem tw_662 : (Cond.instanceMethod ({ cls := "WireHosts$Segment", name := "length", desc := "()I" } : MethodName)) ∈ tb_ws := tb_in2 (List.mem_of_getElem? (i := 182) rfl) rfl
theorem tw_663 : (Cond.selects "WireHosts$Segment" ({ cls := "WireHosts$Segment", name := "length", desc := "()I" } : MethodName) ({ cls := "WireHosts$Segment", name := "length", desc := "()I" } : MethodName)) ∈ tb_ws := tb_in2 (List.mem_of_getElem? (i := 183) rfl) rfl
theorem tw_664 : (Cond.code ({ cls := "WireHosts$Segment", name := "length", desc := "()I" } : MethodName) prog_9_method_5_code (1 : Nat) (Option.some FieldType.int)) ∈ tb_ws := tb_in2 (List.mem_of_getElem? (i := 184) rfl) rfl
theorem tw_665 : (Cond.methodLink "WireHosts$Segment" (48 : Nat) ({ cls := "WireHosts$Segment", name := "has", desc := "(I)Z" } : MethodName)) ∈ tb_ws := tb_in2 (List.mem_of_getElem? (i := 185) rfl) rfl
theorem tw_666 : (Cond.methodLink "WireHosts$Endpoint" (107 : Nat) ({ cls := "WireHosts$Endpoint", name := "answerWhenListening", desc := "(LWireHosts$Segment;I)V" } : MethodName)) ∈ tb_ws := tb_in2 (List.mem_of_getElem? (i := 186) rfl) rfl
theorem tw_668 : (Cond.instanceMethod ({ cls := "WireHosts$Endpoint", name := "answerWhenListening", desc := "(LWireHosts$Segment;I)V" } : MethodName)) ∈ tb_ws := tb_in2 (List.mem_of_getElem? (i := 188) rfl) rfl
theorem tw_669 : (Cond.code ({ cls := "WireHosts$Endpoint", name := "answerWhenListening", desc := "(LWireHosts$Segment;I)V" } : MethodName) prog_2_method_20_code (3 : Nat) (Option.none : Option FieldType)) ∈ tb_ws := tb_in2 (List.mem_of_getElem? (i := 189) rfl) rfl
theorem tw_670 : (Cond.methodLink "WireHosts$Endpoint" (192 : Nat) ({ cls := "WireHosts$Receiving", name := "startAfter", desc := "(I)V" } : MethodName)) ∈ tb_ws := tb_in2 (List.mem_of_getElem? (i := 190) rfl) rfl
theorem tw_671 : (Cond.instanceMethod ({ cls := "WireHosts$Receiving", name := "startAfter", desc := "(I)V" } : MethodName)) ∈ tb_ws := tb_in2 (List.mem_of_getElem? (i := 191) rfl) rfl
theorem tw_672 : (Cond.selects "WireHosts$Receiving" ({ cls := "WireHosts$Receiving", name := "startAfter", desc := "(I)V" } : MethodName) ({ cls := "WireHosts$Receiving", name := "startAfter", desc := "(I)V" } : MethodName)) ∈ tb_ws := tb_in2 (List.mem_of_getElem? (i := 192) rfl) rfl
theorem tw_673 : (Cond.code ({ cls := "WireHosts$Receiving", name := "startAfter", desc := "(I)V" } : MethodName) prog_7_method_4_code (2 : Nat) (Option.none : Option FieldType)) ∈ tb_ws := tb_in2 (List.mem_of_getElem? (i := 193) rfl) rfl
theorem tw_674 : (Cond.constant "WireHosts$Receiving" (36 : Nat) (65535 : Int32)) ∈ tb_ws := tb_in2 (List.mem_of_getElem? (i := 194) rfl) rfl
theorem tw_675 : (Cond.methodLink "WireHosts$Endpoint" (111 : Nat) ({ cls := "WireHosts$Endpoint", name := "answerWhenSynSent", desc := "(LWireHosts$Segment;)V" } : MethodName)) ∈ tb_ws := tb_in2 (List.mem_of_getElem? (i := 195) rfl) rfl
theorem tw_677 : (Cond.instanceMethod ({ cls := "WireHosts$Endpoint", name := "answerWhenSynSent", desc := "(LWireHosts$Segment;)V" } : MethodName)) ∈ tb_ws := tb_in2 (List.mem_of_getElem? (i := 197) rfl) rfl
theorem tw_678 : (Cond.code ({ cls := "WireHosts$Endpoint", name := "answerWhenSynSent", desc := "(LWireHosts$Segment;)V" } : MethodName) prog_2_method_21_code (2 : Nat) (Option.none : Option FieldType)) ∈ tb_ws := tb_in2 (List.mem_of_getElem? (i := 198) rfl) rfl
theorem tw_679 : (Cond.methodLink "WireHosts$Endpoint" (196 : Nat) ({ cls := "WireHosts$Sending", name := "confirm", desc := "(I)V" } : MethodName)) ∈ tb_ws := tb_in2 (List.mem_of_getElem? (i := 199) rfl) rfl
theorem tw_680 : (Cond.instanceMethod ({ cls := "WireHosts$Sending", name := "confirm", desc := "(I)V" } : MethodName)) ∈ tb_ws := tb_in2 (List.mem_of_getElem? (i := 200) rfl) rfl
theorem tw_681 : (Cond.selects "WireHosts$Sending" ({ cls := "WireHosts$Sending", name := "confirm", desc := "(I)V" } : MethodName) ({ cls := "WireHosts$Sending", name := "confirm", desc := "(I)V" } : MethodName)) ∈ tb_ws := tb_in2 (List.mem_of_getElem? (i := 201) rfl) rfl
theorem tw_682 : (Cond.code ({ cls := "WireHosts$Sending", name := "confirm", desc := "(I)V" } : MethodName) prog_10_method_12_code (3 : Nat) (Option.none : Option FieldType)) ∈ tb_ws := tb_in2 (List.mem_of_getElem? (i := 202) rfl) rfl
theorem tw_683 : (Cond.methodLink "WireHosts$Endpoint" (199 : Nat) ({ cls := "WireHosts$Endpoint", name := "restartTimer", desc := "()V" } : MethodName)) ∈ tb_ws := tb_in2 (List.mem_of_getElem? (i := 203) rfl) rfl
theorem tw_685 : (Cond.instanceMethod ({ cls := "WireHosts$Endpoint", name := "restartTimer", desc := "()V" } : MethodName)) ∈ tb_ws := tb_in2 (List.mem_of_getElem? (i := 205) rfl) rfl
theorem tw_686 : (Cond.code ({ cls := "WireHosts$Endpoint", name := "restartTimer", desc := "()V" } : MethodName) prog_2_method_25_code (1 : Nat) (Option.none : Option FieldType)) ∈ tb_ws := tb_in2 (List.mem_of_getElem? (i := 206) rfl) rfl
theorem tw_687 : (Cond.methodLink "WireHosts$Endpoint" (114 : Nat) ({ cls := "WireHosts$Endpoint", name := "isAdmitted", desc := "(LWireHosts$Segment;)Z" } : MethodName)) ∈ tb_ws := tb_in2 (List.mem_of_getElem? (i := 207) rfl) rfl
theorem tw_689 : (Cond.instanceMethod ({ cls := "WireHosts$Endpoint", name := "isAdmitted", desc := "(LWireHosts$Segment;)Z" } : MethodName)) ∈ tb_ws := tb_in2 (List.mem_of_getElem? (i := 209) rfl) rfl
theorem tw_690 : (Cond.code ({ cls := "WireHosts$Endpoint", name := "isAdmitted", desc := "(LWireHosts$Segment;)Z" } : MethodName) prog_2_method_22_code (2 : Nat) (Option.some FieldType.boolean)) ∈ tb_ws := tb_in2 (List.mem_of_getElem? (i := 210) rfl) rfl
theorem tw_691 : (Cond.methodLink "WireHosts$Endpoint" (202 : Nat) ({ cls := "WireHosts$Receiving", name := "fits", desc := "(LWireHosts$Segment;)Z" } : MethodName)) ∈ tb_ws := tb_in2 (List.mem_of_getElem? (i := 211) rfl) rfl
theorem tw_692 : (Cond.instanceMethod ({ cls := "WireHosts$Receiving", name := "fits", desc := "(LWireHosts$Segment;)Z" } : MethodName)) ∈ tb_ws := tb_in2 (List.mem_of_getElem? (i := 212) rfl) rfl
theorem tw_693 : (Cond.selects "WireHosts$Receiving" ({ cls := "WireHosts$Receiving", name := "fits", desc := "(LWireHosts$Segment;)Z" } : MethodName) ({ cls := "WireHosts$Receiving", name := "fits", desc := "(LWireHosts$Segment;)Z" } : MethodName)) ∈ tb_ws := tb_in2 (List.mem_of_getElem? (i := 213) rfl) rfl
theorem tw_694 : (Cond.code ({ cls := "WireHosts$Receiving", name := "fits", desc := "(LWireHosts$Segment;)Z" } : MethodName) prog_7_method_5_code (3 : Nat) (Option.some FieldType.boolean)) ∈ tb_ws := tb_in2 (List.mem_of_getElem? (i := 214) rfl) rfl
theorem tw_695 : (Cond.methodLink "WireHosts$Receiving" (37 : Nat) ({ cls := "WireHosts$Segment", name := "length", desc := "()I" } : MethodName)) ∈ tb_ws := tb_in2 (List.mem_of_getElem? (i := 215) rfl) rfl
theorem tw_696 : (Cond.methodLink "WireHosts$Receiving" (46 : Nat) ({ cls := "WireHosts$Receiving", name := "room", desc := "()I" } : MethodName)) ∈ tb_ws := tb_in2 (List.mem_of_getElem? (i := 216) rfl) rfl
theorem tw_697 : (Cond.methodLink "WireHosts$Receiving" (49 : Nat) ({ cls := "WireHosts$Receiving", name := "isNear", desc := "(II)Z" } : MethodName)) ∈ tb_ws := tb_in2 (List.mem_of_getElem? (i := 217) rfl) rfl
theorem tw_699 : (Cond.instanceMethod ({ cls := "WireHosts$Receiving", name := "isNear", desc := "(II)Z" } : MethodName)) ∈ tb_ws := tb_in2 (List.mem_of_getElem? (i := 219) rfl) rfl
theorem tw_700 : (Cond.code ({ cls := "WireHosts$Receiving", name := "isNear", desc := "(II)Z" } : MethodName) prog_7_method_9_code (3 : Nat) (Option.some FieldType.boolean)) ∈ tb_ws := tb_in2 (List.mem_of_getElem? (i := 220) rfl) rfl
theorem tw_701 : (Cond.methodLink "WireHosts$Endpoint" (118 : Nat) ({ cls := "WireHosts$Endpoint", name := "isOpenFor", desc := "(LWireHosts$Segment;)Z" } : MethodName)) ∈ tb_ws := tb_in2 (List.mem_of_getElem? (i := 221) rfl) rfl
theorem tw_703 : (Cond.instanceMethod ({ cls := "WireHosts$Endpoint", name := "isOpenFor", desc := "(LWireHosts$Segment;)Z" } : MethodName)) ∈ tb_ws := tb_in2 (List.mem_of_getElem? (i := 223) rfl) rfl
theorem tw_704 : (Cond.code ({ cls := "WireHosts$Endpoint", name := "isOpenFor", desc := "(LWireHosts$Segment;)Z" } : MethodName) prog_2_method_23_code (2 : Nat) (Option.some FieldType.boolean)) ∈ tb_ws := tb_in2 (List.mem_of_getElem? (i := 224) rfl) rfl
theorem tw_705 : (Cond.methodLink "WireHosts$Endpoint" (121 : Nat) ({ cls := "WireHosts$Endpoint", name := "takeConfirmation", desc := "(LWireHosts$Segment;)Z" } : MethodName)) ∈ tb_ws := tb_in2 (List.mem_of_getElem? (i := 225) rfl) rfl
theorem tw_707 : (Cond.instanceMethod ({ cls := "WireHosts$Endpoint", name := "takeConfirmation", desc := "(LWireHosts$Segment;)Z" } : MethodName)) ∈ tb_ws := tb_in2 (List.mem_of_getElem? (i := 227) rfl) rfl
theorem tw_708 : (Cond.code ({ cls := "WireHosts$Endpoint", name := "takeConfirmation", desc := "(LWireHosts$Segment;)Z" } : MethodName) prog_2_method_24_code (2 : Nat) (Option.some FieldType.boolean)) ∈ tb_ws := tb_in2 (List.mem_of_getElem? (i := 228) rfl) rfl
theorem tw_709 : (Cond.methodLink "WireHosts$Endpoint" (205 : Nat) ({ cls := "WireHosts$Sending", name := "confirms", desc := "(I)Z" } : MethodName)) ∈ tb_ws := tb_in2 (List.mem_of_getElem? (i := 229) rfl) rfl
theorem tw_710 : (Cond.instanceMethod ({ cls := "WireHosts$Sending", name := "confirms", desc := "(I)Z" } : MethodName)) ∈ tb_ws := tb_in2 (List.mem_of_getElem? (i := 230) rfl) rfl
theorem tw_711 : (Cond.selects "WireHosts$Sending" ({ cls := "WireHosts$Sending", name := "confirms", desc := "(I)Z" } : MethodName) ({ cls := "WireHosts$Sending", name := "confirms", desc := "(I)Z" } : MethodName)) ∈ tb_ws := tb_in2 (List.mem_of_getElem? (i := 231) rfl) rfl
theorem tw_712 : (Cond.code ({ cls := "WireHosts$Sending", name := "confirms", desc := "(I)Z" } : MethodName) prog_10_method_10_code (3 : Nat) (Option.some FieldType.boolean)) ∈ tb_ws := tb_in2 (List.mem_of_getElem? (i := 232) rfl) rfl
theorem tw_713 : (Cond.methodLink "WireHosts$Endpoint" (208 : Nat) ({ cls := "WireHosts$Sending", name := "isAhead", desc := "(I)Z" } : MethodName)) ∈ tb_ws := tb_in2 (List.mem_of_getElem? (i := 233) rfl) rfl
theorem tw_714 : (Cond.instanceMethod ({ cls := "WireHosts$Sending", name := "isAhead", desc := "(I)Z" } : MethodName)) ∈ tb_ws := tb_in2 (List.mem_of_getElem? (i := 234) rfl) rfl
theorem tw_715 : (Cond.selects "WireHosts$Sending" ({ cls := "WireHosts$Sending", name := "isAhead", desc := "(I)Z" } : MethodName) ({ cls := "WireHosts$Sending", name := "isAhead", desc := "(I)Z" } : MethodName)) ∈ tb_ws := tb_in2 (List.mem_of_getElem? (i := 235) rfl) rfl
theorem tw_716 : (Cond.code ({ cls := "WireHosts$Sending", name := "isAhead", desc := "(I)Z" } : MethodName) prog_10_method_11_code (3 : Nat) (Option.some FieldType.boolean)) ∈ tb_ws := tb_in2 (List.mem_of_getElem? (i := 236) rfl) rfl
theorem tw_717 : (Cond.methodLink "WireHosts$Endpoint" (211 : Nat) ({ cls := "WireHosts$Endpoint", name := "allIsConfirmed", desc := "()V" } : MethodName)) ∈ tb_ws := tb_in2 (List.mem_of_getElem? (i := 237) rfl) rfl
theorem tw_719 : (Cond.instanceMethod ({ cls := "WireHosts$Endpoint", name := "allIsConfirmed", desc := "()V" } : MethodName)) ∈ tb_ws := tb_in2 (List.mem_of_getElem? (i := 239) rfl) rfl
theorem tw_720 : (Cond.code ({ cls := "WireHosts$Endpoint", name := "allIsConfirmed", desc := "()V" } : MethodName) prog_2_method_26_code (1 : Nat) (Option.none : Option FieldType)) ∈ tb_ws := tb_in3 (List.mem_of_getElem? (i := 0) rfl) rfl
theorem tw_721 : (Cond.methodLink "WireHosts$Endpoint" (214 : Nat) ({ cls := "WireHosts$Endpoint", name := "startTime", desc := "()V" } : MethodName)) ∈ tb_ws := tb_in3 (List.mem_of_getElem? (i := 1) rfl) rfl
theorem tw_723 : (Cond.instanceMethod ({ cls := "WireHosts$Endpoint", name := "startTime", desc := "()V" } : MethodName)) ∈ tb_ws := tb_in3 (List.mem_of_getElem? (i := 3) rfl) rfl
theorem tw_724 : (Cond.code ({ cls := "WireHosts$Endpoint", name := "startTime", desc := "()V" } : MethodName) prog_2_method_27_code (1 : Nat) (Option.none : Option FieldType)) ∈ tb_ws := tb_in3 (List.mem_of_getElem? (i := 4) rfl) rfl
theorem tw_725 : (Cond.methodLink "WireHosts$Endpoint" (124 : Nat) ({ cls := "WireHosts$Endpoint", name := "takeContents", desc := "(LWireHosts$Segment;)V" } : MethodName)) ∈ tb_ws := tb_in3 (List.mem_of_getElem? (i := 5) rfl) rfl
theorem tw_727 : (Cond.instanceMethod ({ cls := "WireHosts$Endpoint", name := "takeContents", desc := "(LWireHosts$Segment;)V" } : MethodName)) ∈ tb_ws := tb_in3 (List.mem_of_getElem? (i := 7) rfl) rfl
theorem tw_728 : (Cond.code ({ cls := "WireHosts$Endpoint", name := "takeContents", desc := "(LWireHosts$Segment;)V" } : MethodName) prog_2_method_28_code (2 : Nat) (Option.none : Option FieldType)) ∈ tb_ws := tb_in3 (List.mem_of_getElem? (i := 8) rfl) rfl
theorem tw_729 : (Cond.methodLink "WireHosts$Endpoint" (217 : Nat) ({ cls := "WireHosts$Receiving", name := "keep", desc := "(LWireHosts$Segment;)V" } : MethodName)) ∈ tb_ws := tb_in3 (List.mem_of_getElem? (i := 9) rfl) rfl
theorem tw_730 : (Cond.instanceMethod ({ cls := "WireHosts$Receiving", name := "keep", desc := "(LWireHosts$Segment;)V" } : MethodName)) ∈ tb_ws := tb_in3 (List.mem_of_getElem? (i := 10) rfl) rfl
theorem tw_731 : (Cond.selects "WireHosts$Receiving" ({ cls := "WireHosts$Receiving", name := "keep", desc := "(LWireHosts$Segment;)V" } : MethodName) ({ cls := "WireHosts$Receiving", name := "keep", desc := "(LWireHosts$Segment;)V" } : MethodName)) ∈ tb_ws := tb_in3 (List.mem_of_getElem? (i := 11) rfl) rfl
theorem tw_732 : (Cond.code ({ cls := "WireHosts$Receiving", name := "keep", desc := "(LWireHosts$Segment;)V" } : MethodName) prog_7_method_6_code (5 : Nat) (Option.none : Option FieldType)) ∈ tb_ws := tb_in3 (List.mem_of_getElem? (i := 12) rfl) rfl
theorem tw_733 : (Cond.methodLink "WireHosts$Receiving" (56 : Nat) ({ cls := "WireHosts$Segment", name := "dataAt", desc := "(I)I" } : MethodName)) ∈ tb_ws := tb_in3 (List.mem_of_getElem? (i := 13) rfl) rfl
theorem tw_734 : (Cond.instanceMethod ({ cls := "WireHosts$Segment", name := "dataAt", desc := "(I)I" } : MethodName)) ∈ tb_ws := tb_in3 (List.mem_of_getElem? (i := 14) rfl) rfl
theorem tw_735 : (Cond.selects "WireHosts$Segment" ({ cls := "WireHosts$Segment", name := "dataAt", desc := "(I)I" } : MethodName) ({ cls := "WireHosts$Segment", name := "dataAt", desc := "(I)I" } : MethodName)) ∈ tb_ws := tb_in3 (List.mem_of_getElem? (i := 15) rfl) rfl
theorem tw_736 : (Cond.code ({ cls := "WireHosts$Segment", name := "dataAt", desc := "(I)I" } : MethodName) prog_9_method_6_code (2 : Nat) (Option.some FieldType.int)) ∈ tb_ws := tb_in3 (List.mem_of_getElem? (i := 16) rfl) rfl
theorem tw_737 : (Cond.methodLink "WireHosts$Receiving" (60 : Nat) ({ cls := "WireHosts$Segment", name := "has", desc := "(I)Z" } : MethodName)) ∈ tb_ws := tb_in3 (List.mem_of_getElem? (i := 17) rfl) rfl
theorem tw_738 : (Cond.methodLink "WireHosts$Endpoint" (220 : Nat) ({ cls := "WireHosts$Receiving", name := "advance", desc := "()Z" } : MethodName)) ∈ tb_ws := tb_in3 (List.mem_of_getElem? (i := 18) rfl) rfl
theorem tw_739 : (Cond.instanceMethod ({ cls := "WireHosts$Receiving", name := "advance", desc := "()Z" } : MethodName)) ∈ tb_ws := tb_in3 (List.mem_of_getElem? (i := 19) rfl) rfl
theorem tw_740 : (Cond.selects "WireHosts$Receiving" ({ cls := "WireHosts$Receiving", name := "advance", desc := "()Z" } : MethodName) ({ cls := "WireHosts$Receiving", name := "advance", desc := "()Z" } : MethodName)) ∈ tb_ws := tb_in3 (List.mem_of_getElem? (i := 20) rfl) rfl
theorem tw_741 : (Cond.code ({ cls := "WireHosts$Receiving", name := "advance", desc := "()Z" } : MethodName) prog_7_method_7_code (3 : Nat) (Option.some FieldType.boolean)) ∈ tb_ws := tb_in3 (List.mem_of_getElem? (i := 21) rfl) rfl
theorem tw_742 : (Cond.methodLink "WireHosts$Endpoint" (223 : Nat) ({ cls := "WireHosts$Endpoint", name := "otherIsAtEnd", desc := "()V" } : MethodName)) ∈ tb_ws := tb_in3 (List.mem_of_getElem? (i := 22) rfl) rfl
theorem tw_744 : (Cond.instanceMethod ({ cls := "WireHosts$Endpoint", name := "otherIsAtEnd", desc := "()V" } : MethodName)) ∈ tb_ws := tb_in3 (List.mem_of_getElem? (i := 24) rfl) rfl
theorem tw_745 : (Cond.code ({ cls := "WireHosts$Endpoint", name := "otherIsAtEnd", desc := "()V" } : MethodName) prog_2_method_29_code (1 : Nat) (Option.none : Option FieldType)) ∈ tb_ws := tb_in3 (List.mem_of_getElem? (i := 25) rfl) rfl
theorem tw_746 : (Cond.methodLink "WireHostsLaw" (49 : Nat) ({ cls := "WireHosts", name := "disturb", desc := "(II)Z" } : MethodName)) ∈ tb_ws := tb_in3 (List.mem_of_getElem? (i := 26) rfl) rfl
theorem tw_747 : (Cond.instanceMethod ({ cls := "WireHosts", name := "disturb", desc := "(II)Z" } : MethodName)) ∈ tb_ws := tb_in3 (List.mem_of_getElem? (i := 27) rfl) rfl
theorem tw_748 : (Cond.selects "WireHosts" ({ cls := "WireHosts", name := "disturb", desc := "(II)Z" } : MethodName) ({ cls := "WireHosts", name := "disturb", desc := "(II)Z" } : MethodName)) ∈ tb_ws := tb_in3 (List.mem_of_getElem? (i := 28) rfl) rfl
theorem tw_749 : (Cond.code ({ cls := "WireHosts", name := "disturb", desc := "(II)Z" } : MethodName) prog_1_method_10_code (3 : Nat) (Option.some FieldType.boolean)) ∈ tb_ws := tb_in3 (List.mem_of_getElem? (i := 29) rfl) rfl
theorem tw_750 : (Cond.methodLink "WireHosts" (86 : Nat) ({ cls := "WireHosts$Rows", name := "dropFirst", desc := "()V" } : MethodName)) ∈ tb_ws := tb_in3 (List.mem_of_getElem? (i := 30) rfl) rfl
theorem tw_751 : (Cond.methodLink "WireHosts" (89 : Nat) ({ cls := "WireHosts$Rows", name := "putFirstLast", desc := "()V" } : MethodName)) ∈ tb_ws := tb_in3 (List.mem_of_getElem? (i := 31) rfl) rfl
theorem tw_752 : (Cond.instanceMethod ({ cls := "WireHosts$Rows", name := "putFirstLast", desc := "()V" } : MethodName)) ∈ tb_ws := tb_in3 (List.mem_of_getElem? (i := 32) rfl) rfl
theorem tw_753 : (Cond.selects "WireHosts$Rows" ({ cls := "WireHosts$Rows", name := "putFirstLast", desc := "()V" } : MethodName) ({ cls := "WireHosts$Rows", name := "putFirstLast", desc := "()V" } : MethodName)) ∈ tb_ws := tb_in3 (List.mem_of_getElem? (i := 33) rfl) rfl
theorem tw_754 : (Cond.code ({ cls := "WireHosts$Rows", name := "putFirstLast", desc := "()V" } : MethodName) prog_8_method_8_code (1 : Nat) (Option.none : Option FieldType)) ∈ tb_ws := tb_in3 (List.mem_of_getElem? (i := 34) rfl) rfl
theorem tw_755 : (Cond.methodLink "WireHosts$Rows" (41 : Nat) ({ cls := "WireHosts$Rows", name := "copyFirstToEnd", desc := "()V" } : MethodName)) ∈ tb_ws := tb_in3 (List.mem_of_getElem? (i := 35) rfl) rfl
theorem tw_757 : (Cond.instanceMethod ({ cls := "WireHosts$Rows", name := "copyFirstToEnd", desc := "()V" } : MethodName)) ∈ tb_ws := tb_in3 (List.mem_of_getElem? (i := 37) rfl) rfl
theorem tw_758 : (Cond.code ({ cls := "WireHosts$Rows", name := "copyFirstToEnd", desc := "()V" } : MethodName) prog_8_method_11_code (1 : Nat) (Option.none : Option FieldType)) ∈ tb_ws := tb_in3 (List.mem_of_getElem? (i := 38) rfl) rfl
theorem tw_759 : (Cond.methodLink "WireHosts" (92 : Nat) ({ cls := "WireHosts$Rows", name := "copyFirstBehind", desc := "()Z" } : MethodName)) ∈ tb_ws := tb_in3 (List.mem_of_getElem? (i := 39) rfl) rfl
theorem tw_760 : (Cond.instanceMethod ({ cls := "WireHosts$Rows", name := "copyFirstBehind", desc := "()Z" } : MethodName)) ∈ tb_ws := tb_in3 (List.mem_of_getElem? (i := 40) rfl) rfl
theorem tw_761 : (Cond.selects "WireHosts$Rows" ({ cls := "WireHosts$Rows", name := "copyFirstBehind", desc := "()Z" } : MethodName) ({ cls := "WireHosts$Rows", name := "copyFirstBehind", desc := "()Z" } : MethodName)) ∈ tb_ws := tb_in3 (List.mem_of_getElem? (i := 41) rfl) rfl
theorem tw_762 : (Cond.code ({ cls := "WireHosts$Rows", name := "copyFirstBehind", desc := "()Z" } : MethodName) prog_8_method_9_code (1 : Nat) (Option.some FieldType.boolean)) ∈ tb_ws := tb_in3 (List.mem_of_getElem? (i := 42) rfl) rfl
theorem tw_763 : (Cond.methodLink "WireHostsLaw" (53 : Nat) ({ cls := "WireHosts", name := "alter", desc := "(III)Z" } : MethodName)) ∈ tb_ws := tb_in3 (List.mem_of_getElem? (i := 43) rfl) rfl
theorem tw_764 : (Cond.instanceMethod ({ cls := "WireHosts", name := "alter", desc := "(III)Z" } : MethodName)) ∈ tb_ws := tb_in3 (List.mem_of_getElem? (i := 44) rfl) rfl
theorem tw_765 : (Cond.selects "WireHosts" ({ cls := "WireHosts", name := "alter", desc := "(III)Z" } : MethodName) ({ cls := "WireHosts", name := "alter", desc := "(III)Z" } : MethodName)) ∈ tb_ws := tb_in3 (List.mem_of_getElem? (i := 45) rfl) rfl
theorem tw_766 : (Cond.code ({ cls := "WireHosts", name := "alter", desc := "(III)Z" } : MethodName) prog_1_method_11_code (4 : Nat) (Option.some FieldType.boolean)) ∈ tb_ws := tb_in3 (List.mem_of_getElem? (i := 46) rfl) rfl
theorem tw_767 : (Cond.methodLink "WireHosts" (95 : Nat) ({ cls := "WireHosts$Rows", name := "alterFirst", desc := "(II)Z" } : MethodName)) ∈ tb_ws := tb_in3 (List.mem_of_getElem? (i := 47) rfl) rfl
theorem tw_768 : (Cond.instanceMethod ({ cls := "WireHosts$Rows", name := "alterFirst", desc := "(II)Z" } : MethodName)) ∈ tb_ws := tb_in3 (List.mem_of_getElem? (i := 48) rfl) rfl
theorem tw_769 : (Cond.selects "WireHosts$Rows" ({ cls := "WireHosts$Rows", name := "alterFirst", desc := "(II)Z" } : MethodName) ({ cls := "WireHosts$Rows", name := "alterFirst", desc := "(II)Z" } : MethodName)) ∈ tb_ws := tb_in3 (List.mem_of_getElem? (i := 49) rfl) rfl
theorem tw_770 : (Cond.code ({ cls := "WireHosts$Rows", name := "alterFirst", desc := "(II)Z" } : MethodName) prog_8_method_10_code (3 : Nat) (Option.some FieldType.boolean)) ∈ tb_ws := tb_in3 (List.mem_of_getElem? (i := 50) rfl) rfl
theorem tw_771 : (Cond.methodLink "WireHostsLaw" (57 : Nat) ({ cls := "WireHosts", name := "tick", desc := "(I)I" } : MethodName)) ∈ tb_ws := tb_in3 (List.mem_of_getElem? (i := 51) rfl) rfl
theorem tw_772 : (Cond.instanceMethod ({ cls := "WireHosts", name := "tick", desc := "(I)I" } : MethodName)) ∈ tb_ws := tb_in3 (List.mem_of_getElem? (i := 52) rfl) rfl
theorem tw_773 : (Cond.selects "WireHosts" ({ cls := "WireHosts", name := "tick", desc := "(I)I" } : MethodName) ({ cls := "WireHosts", name := "tick", desc := "(I)I" } : MethodName)) ∈ tb_ws := tb_in3 (List.mem_of_getElem? (i := 53) rfl) rfl
theorem tw_774 : (Cond.code ({ cls := "WireHosts", name := "tick", desc := "(I)I" } : MethodName) prog_1_method_12_code (7 : Nat) (Option.some FieldType.int)) ∈ tb_ws := tb_in3 (List.mem_of_getElem? (i := 54) rfl) rfl
theorem tw_775 : (Cond.methodLink "WireHosts" (98 : Nat) ({ cls := "WireHosts$Host", name := "passTick", desc := "()V" } : MethodName)) ∈ tb_ws := tb_in3 (List.mem_of_getElem? (i := 55) rfl) rfl
theorem tw_776 : (Cond.instanceMethod ({ cls := "WireHosts$Host", name := "passTick", desc := "()V" } : MethodName)) ∈ tb_ws := tb_in3 (List.mem_of_getElem? (i := 56) rfl) rfl
theorem tw_777 : (Cond.selects "WireHosts$Host" ({ cls := "WireHosts$Host", name := "passTick", desc := "()V" } : MethodName) ({ cls := "WireHosts$Host", name := "passTick", desc := "()V" } : MethodName)) ∈ tb_ws := tb_in3 (List.mem_of_getElem? (i := 57) rfl) rfl
theorem tw_778 : (Cond.code ({ cls := "WireHosts$Host", name := "passTick", desc := "()V" } : MethodName) prog_3_method_7_code (1 : Nat) (Option.none : Option FieldType)) ∈ tb_ws := tb_in3 (List.mem_of_getElem? (i := 58) rfl) rfl
theorem tw_779 : (Cond.methodLink "WireHosts$Host" (139 : Nat) ({ cls := "WireHosts$Link", name := "passTick", desc := "()V" } : MethodName)) ∈ tb_ws := tb_in3 (List.mem_of_getElem? (i := 59) rfl) rfl
theorem tw_780 : (Cond.instanceMethod ({ cls := "WireHosts$Link", name := "passTick", desc := "()V" } : MethodName)) ∈ tb_ws := tb_in3 (List.mem_of_getElem? (i := 60) rfl) rfl
theorem tw_781 : (Cond.selects "WireHosts$Link" ({ cls := "WireHosts$Link", name := "passTick", desc := "()V" } : MethodName) ({ cls := "WireHosts$Link", name := "passTick", desc := "()V" } : MethodName)) ∈ tb_ws := tb_in3 (List.mem_of_getElem? (i := 61) rfl) rfl
theorem tw_782 : (Cond.code ({ cls := "WireHosts$Link", name := "passTick", desc := "()V" } : MethodName) prog_4_method_6_code (1 : Nat) (Option.none : Option FieldType)) ∈ tb_ws := tb_in3 (List.mem_of_getElem? (i := 62) rfl) rfl
theorem tw_783 : (Cond.methodLink "WireHosts$Host" (142 : Nat) ({ cls := "WireHosts$Pieces", name := "passTick", desc := "()V" } : MethodName)) ∈ tb_ws := tb_in3 (List.mem_of_getElem? (i := 63) rfl) rfl
theorem tw_784 : (Cond.instanceMethod ({ cls := "WireHosts$Pieces", name := "passTick", desc := "()V" } : MethodName)) ∈ tb_ws := tb_in3 (List.mem_of_getElem? (i := 64) rfl) rfl
theorem tw_785 : (Cond.selects "WireHosts$Pieces" ({ cls := "WireHosts$Pieces", name := "passTick", desc := "()V" } : MethodName) ({ cls := "WireHosts$Pieces", name := "passTick", desc := "()V" } : MethodName)) ∈ tb_ws := tb_in3 (List.mem_of_getElem? (i := 65) rfl) rfl
theorem tw_786 : (Cond.code ({ cls := "WireHosts$Pieces", name := "passTick", desc := "()V" } : MethodName) prog_6_method_4_code (1 : Nat) (Option.none : Option FieldType)) ∈ tb_ws := tb_in3 (List.mem_of_getElem? (i := 66) rfl) rfl
theorem tw_787 : (Cond.methodLink "WireHosts$Pieces" (55 : Nat) ({ cls := "WireHosts$Slot", name := "passTick", desc := "()V" } : MethodName)) ∈ tb_ws := tb_in3 (List.mem_of_getElem? (i := 67) rfl) rfl
theorem tw_788 : (Cond.instanceMethod ({ cls := "WireHosts$Slot", name := "passTick", desc := "()V" } : MethodName)) ∈ tb_ws := tb_in3 (List.mem_of_getElem? (i := 68) rfl) rfl
theorem tw_789 : (Cond.selects "WireHosts$Slot" ({ cls := "WireHosts$Slot", name := "passTick", desc := "()V" } : MethodName) ({ cls := "WireHosts$Slot", name := "passTick", desc := "()V" } : MethodName)) ∈ tb_ws := tb_in3 (List.mem_of_getElem? (i := 69) rfl) rfl
theorem tw_790 : (Cond.code ({ cls := "WireHosts$Slot", name := "passTick", desc := "()V" } : MethodName) prog_11_method_6_code (1 : Nat) (Option.none : Option FieldType)) ∈ tb_ws := tb_in3 (List.mem_of_getElem? (i := 70) rfl) rfl
theorem tw_791 : (Cond.methodLink "WireHosts$Host" (143 : Nat) ({ cls := "WireHosts$Endpoint", name := "passTick", desc := "()V" } : MethodName)) ∈ tb_ws := tb_in3 (List.mem_of_getElem? (i := 71) rfl) rfl
theorem tw_792 : (Cond.instanceMethod ({ cls := "WireHosts$Endpoint", name := "passTick", desc := "()V" } : MethodName)) ∈ tb_ws := tb_in3 (List.mem_of_getElem? (i := 72) rfl) rfl
theorem tw_793 : (Cond.selects "WireHosts$Endpoint" ({ cls := "WireHosts$Endpoint", name := "passTick", desc := "()V" } : MethodName) ({ cls := "WireHosts$Endpoint", name := "passTick", desc := "()V" } : MethodName)) ∈ tb_ws := tb_in3 (List.mem_of_getElem? (i := 73) rfl) rfl
theorem tw_794 : (Cond.code ({ cls := "WireHosts$Endpoint", name := "passTick", desc := "()V" } : MethodName) prog_2_method_8_code (1 : Nat) (Option.none : Option FieldType)) ∈ tb_ws := tb_in3 (List.mem_of_getElem? (i := 74) rfl) rfl
theorem tw_795 : (Cond.methodLink "WireHosts$Endpoint" (100 : Nat) ({ cls := "WireHosts$Endpoint", name := "timeIsOver", desc := "()V" } : MethodName)) ∈ tb_ws := tb_in3 (List.mem_of_getElem? (i := 75) rfl) rfl
theorem tw_797 : (Cond.instanceMethod ({ cls := "WireHosts$Endpoint", name := "timeIsOver", desc := "()V" } : MethodName)) ∈ tb_ws := tb_in3 (List.mem_of_getElem? (i := 77) rfl) rfl
theorem tw_798 : (Cond.code ({ cls := "WireHosts$Endpoint", name := "timeIsOver", desc := "()V" } : MethodName) prog_2_method_17_code (1 : Nat) (Option.none : Option FieldType)) ∈ tb_ws := tb_in3 (List.mem_of_getElem? (i := 78) rfl) rfl
theorem tw_799 : (Cond.methodLink "WireHosts$Endpoint" (170 : Nat) ({ cls := "java/lang/Math", name := "min", desc := "(II)I" } : MethodName)) ∈ tb_ws := tb_in3 (List.mem_of_getElem? (i := 79) rfl) rfl
theorem tw_800 : (Cond.methodLink "WireHosts$Endpoint" (176 : Nat) ({ cls := "WireHosts$Endpoint", name := "sendAgain", desc := "()V" } : MethodName)) ∈ tb_ws := tb_in3 (List.mem_of_getElem? (i := 80) rfl) rfl
theorem tw_802 : (Cond.instanceMethod ({ cls := "WireHosts$Endpoint", name := "sendAgain", desc := "()V" } : MethodName)) ∈ tb_ws := tb_in3 (List.mem_of_getElem? (i := 82) rfl) rfl
theorem tw_803 : (Cond.code ({ cls := "WireHosts$Endpoint", name := "sendAgain", desc := "()V" } : MethodName) prog_2_method_18_code (2 : Nat) (Option.none : Option FieldType)) ∈ tb_ws := tb_in3 (List.mem_of_getElem? (i := 83) rfl) rfl
theorem tw_804 : (Cond.methodLink "WireHostsLaw" (61 : Nat) ({ cls := "WireHosts", name := "flying", desc := "(I)I" } : MethodName)) ∈ tb_ws := tb_in3 (List.mem_of_getElem? (i := 84) rfl) rfl
theorem tw_805 : (Cond.methodLink "WireHostsLaw" (65 : Nat) ({ cls := "WireHosts", name := "octet", desc := "(III)I" } : MethodName)) ∈ tb_ws := tb_in3 (List.mem_of_getElem? (i := 85) rfl) rfl
theorem tw_806 : (Cond.instanceMethod ({ cls := "WireHosts", name := "octet", desc := "(III)I" } : MethodName)) ∈ tb_ws := tb_in3 (List.mem_of_getElem? (i := 86) rfl) rfl
theorem tw_807 : (Cond.selects "WireHosts" ({ cls := "WireHosts", name := "octet", desc := "(III)I" } : MethodName) ({ cls := "WireHosts", name := "octet", desc := "(III)I" } : MethodName)) ∈ tb_ws := tb_in3 (List.mem_of_getElem? (i := 87) rfl) rfl
theorem tw_808 : (Cond.code ({ cls := "WireHosts", name := "octet", desc := "(III)I" } : MethodName) prog_1_method_14_code (4 : Nat) (Option.some FieldType.int)) ∈ tb_ws := tb_in3 (List.mem_of_getElem? (i := 88) rfl) rfl
theorem tw_809 : (Cond.methodLink "WireHosts" (104 : Nat) ({ cls := "WireHosts$Rows", name := "sizeOf", desc := "(I)I" } : MethodName)) ∈ tb_ws := tb_in3 (List.mem_of_getElem? (i := 89) rfl) rfl
theorem tw_810 : (Cond.methodLink "WireHostsLaw" (70 : Nat) ({ cls := "WireHosts", name := "socket", desc := "(III)I" } : MethodName)) ∈ tb_ws := tb_in3 (List.mem_of_getElem? (i := 90) rfl) rfl
theorem tw_811 : (Cond.instanceMethod ({ cls := "WireHosts", name := "socket", desc := "(III)I" } : MethodName)) ∈ tb_ws := tb_in3 (List.mem_of_getElem? (i := 91) rfl) rfl
theorem tw_812 : (Cond.selects "WireHosts" ({ cls := "WireHosts", name := "socket", desc := "(III)I" } : MethodName) ({ cls := "WireHosts", name := "socket", desc := "(III)I" } : MethodName)) ∈ tb_ws := tb_in3 (List.mem_of_getElem? (i := 92) rfl) rfl
theorem tw_813 : (Cond.code ({ cls := "WireHosts", name := "socket", desc := "(III)I" } : MethodName) prog_1_method_15_code (5 : Nat) (Option.some FieldType.int)) ∈ tb_ws := tb_in3 (List.mem_of_getElem? (i := 93) rfl) rfl
theorem tw_814 : (Cond.methodLink "WireHosts" (107 : Nat) ({ cls := "WireHosts$Endpoint", name := "about", desc := "(I)I" } : MethodName)) ∈ tb_ws := tb_in3 (List.mem_of_getElem? (i := 94) rfl) rfl
theorem tw_815 : (Cond.instanceMethod ({ cls := "WireHosts$Endpoint", name := "about", desc := "(I)I" } : MethodName)) ∈ tb_ws := tb_in3 (List.mem_of_getElem? (i := 95) rfl) rfl
theorem tw_816 : (Cond.selects "WireHosts$Endpoint" ({ cls := "WireHosts$Endpoint", name := "about", desc := "(I)I" } : MethodName) ({ cls := "WireHosts$Endpoint", name := "about", desc := "(I)I" } : MethodName)) ∈ tb_ws := tb_in3 (List.mem_of_getElem? (i := 96) rfl) rfl
theorem tw_817 : (Cond.code ({ cls := "WireHosts$Endpoint", name := "about", desc := "(I)I" } : MethodName) prog_2_method_10_code (2 : Nat) (Option.some FieldType.int)) ∈ tb_ws := tb_in3 (List.mem_of_getElem? (i := 97) rfl) rfl
theorem tw_818 : (Cond.methodLink "WireHostsLaw" (74 : Nat) ({ cls := "WireHosts", name := "host", desc := "(II)I" } : MethodName)) ∈ tb_ws := tb_in3 (List.mem_of_getElem? (i := 98) rfl) rfl
theorem tw_819 : (Cond.instanceMethod ({ cls := "WireHosts", name := "host", desc := "(II)I" } : MethodName)) ∈ tb_ws := tb_in3 (List.mem_of_getElem? (i := 99) rfl) rfl
theorem tw_820 : (Cond.selects "WireHosts" ({ cls := "WireHosts", name := "host", desc := "(II)I" } : MethodName) ({ cls := "WireHosts", name := "host", desc := "(II)I" } : MethodName)) ∈ tb_ws := tb_in3 (List.mem_of_getElem? (i := 100) rfl) rfl
theorem tw_821 : (Cond.code ({ cls := "WireHosts", name := "host", desc := "(II)I" } : MethodName) prog_1_method_16_code (3 : Nat) (Option.some FieldType.int)) ∈ tb_ws := tb_in3 (List.mem_of_getElem? (i := 101) rfl) rfl
theorem tw_822 : (Cond.methodLink "WireHosts" (110 : Nat) ({ cls := "WireHosts$Host", name := "about", desc := "(I)I" } : MethodName)) ∈ tb_ws := tb_in3 (List.mem_of_getElem? (i := 102) rfl) rfl
theorem tw_823 : (Cond.instanceMethod ({ cls := "WireHosts$Host", name := "about", desc := "(I)I" } : MethodName)) ∈ tb_ws := tb_in3 (List.mem_of_getElem? (i := 103) rfl) rfl
theorem tw_824 : (Cond.selects "WireHosts$Host" ({ cls := "WireHosts$Host", name := "about", desc := "(I)I" } : MethodName) ({ cls := "WireHosts$Host", name := "about", desc := "(I)I" } : MethodName)) ∈ tb_ws := tb_in3 (List.mem_of_getElem? (i := 104) rfl) rfl
theorem tw_825 : (Cond.code ({ cls := "WireHosts$Host", name := "about", desc := "(I)I" } : MethodName) prog_3_method_8_code (2 : Nat) (Option.some FieldType.int)) ∈ tb_ws := tb_in3 (List.mem_of_getElem? (i := 105) rfl) rfl
theorem tw_826 : (Cond.methodLink "WireHosts$Host" (153 : Nat) ({ cls := "WireHosts$Pieces", name := "slotsInUse", desc := "()I" } : MethodName)) ∈ tb_ws := tb_in3 (List.mem_of_getElem? (i := 106) rfl) rfl
theorem tw_827 : (Cond.instanceMethod ({ cls := "WireHosts$Pieces", name := "slotsInUse", desc := "()I" } : MethodName)) ∈ tb_ws := tb_in3 (List.mem_of_getElem? (i := 107) rfl) rfl
theorem tw_828 : (Cond.selects "WireHosts$Pieces" ({ cls := "WireHosts$Pieces", name := "slotsInUse", desc := "()I" } : MethodName) ({ cls := "WireHosts$Pieces", name := "slotsInUse", desc := "()I" } : MethodName)) ∈ tb_ws := tb_in3 (List.mem_of_getElem? (i := 108) rfl) rfl
theorem tw_829 : (Cond.code ({ cls := "WireHosts$Pieces", name := "slotsInUse", desc := "()I" } : MethodName) prog_6_method_3_code (1 : Nat) (Option.some FieldType.int)) ∈ tb_ws := tb_in3 (List.mem_of_getElem? (i := 109) rfl) rfl
theorem tw_830 : (Cond.classLink "WireHostsLaw" (10 : Nat) "WireHostsModel") ∈ tb_ws := tb_in3 (List.mem_of_getElem? (i := 110) rfl) rfl
theorem tw_831 : (Cond.instantiable "WireHostsModel" (50 : Nat)) ∈ tb_ws := tb_in3 (List.mem_of_getElem? (i := 111) rfl) rfl
theorem tw_832 : (Cond.methodLink "WireHostsLaw" (12 : Nat) ({ cls := "WireHostsModel", name := "<init>", desc := "()V" } : MethodName)) ∈ tb_ws := tb_in3 (List.mem_of_getElem? (i := 112) rfl) rfl
theorem tw_833 : (Cond.instanceMethod ({ cls := "WireHostsModel", name := "<init>", desc := "()V" } : MethodName)) ∈ tb_ws := tb_in3 (List.mem_of_getElem? (i := 113) rfl) rfl
theorem tw_834 : (Cond.code ({ cls := "WireHostsModel", name := "<init>", desc := "()V" } : MethodName) prog_13_method_1_code (1 : Nat) (Option.none : Option FieldType)) ∈ tb_ws := tb_in3 (List.mem_of_getElem? (i := 114) rfl) rfl
theorem tw_835 : (Cond.methodLink "WireHostsModel" (1 : Nat) ({ cls := "java/lang/Object", name := "<init>", desc := "()V" } : MethodName)) ∈ tb_ws := tb_in3 (List.mem_of_getElem? (i := 115) rfl) rfl
theorem tw_836 : (Cond.fieldLink "WireHostsModel" (215 : Nat) "WireHostsModel" "clock" "I") ∈ tb_ws := tb_in3 (List.mem_of_getElem? (i := 116) rfl) rfl
theorem tw_837 : (Cond.fieldLink "WireHostsModel" (7 : Nat) "WireHostsModel" "flying" "[I") ∈ tb_ws := tb_in3 (List.mem_of_getElem? (i := 117) rfl) rfl
theorem tw_838 : (Cond.fieldLink "WireHostsModel" (13 : Nat) "WireHostsModel" "airSize" "[I") ∈ tb_ws := tb_in3 (List.mem_of_getElem? (i := 118) rfl) rfl
theorem tw_839 : (Cond.fieldLink "WireHostsModel" (16 : Nat) "WireHostsModel" "air" "[I") ∈ tb_ws := tb_in3 (List.mem_of_getElem? (i := 119) rfl) rfl
theorem tw_840 : (Cond.fieldLink "WireHostsModel" (19 : Nat) "WireHostsModel" "lined" "[I") ∈ tb_ws := tb_in3 (List.mem_of_getElem? (i := 120) rfl) rfl
theorem tw_841 : (Cond.fieldLink "WireHostsModel" (22 : Nat) "WireHostsModel" "lineSize" "[I") ∈ tb_ws := tb_in3 (List.mem_of_getElem? (i := 121) rfl) rfl
theorem tw_842 : (Cond.fieldLink "WireHostsModel" (25 : Nat) "WireHostsModel" "line" "[I") ∈ tb_ws := tb_in3 (List.mem_of_getElem? (i := 122) rfl) rfl
theorem tw_843 : (Cond.fieldLink "WireHostsModel" (28 : Nat) "WireHostsModel" "askTimer" "[I") ∈ tb_ws := tb_in3 (List.mem_of_getElem? (i := 123) rfl) rfl
theorem tw_844 : (Cond.fieldLink "WireHostsModel" (31 : Nat) "WireHostsModel" "knownFor" "[I") ∈ tb_ws := tb_in3 (List.mem_of_getElem? (i := 124) rfl) rfl
theorem tw_845 : (Cond.fieldLink "WireHostsModel" (34 : Nat) "WireHostsModel" "station" "[I") ∈ tb_ws := tb_in3 (List.mem_of_getElem? (i := 125) rfl) rfl
theorem tw_846 : (Cond.fieldLink "WireHostsModel" (37 : Nat) "WireHostsModel" "ident" "[I") ∈ tb_ws := tb_in3 (List.mem_of_getElem? (i := 126) rfl) rfl
theorem tw_847 : (Cond.fieldLink "WireHostsModel" (40 : Nat) "WireHostsModel" "pongs" "[I") ∈ tb_ws := tb_in3 (List.mem_of_getElem? (i := 127) rfl) rfl
theorem tw_848 : (Cond.fieldLink "WireHostsModel" (43 : Nat) "WireHostsModel" "token" "[I") ∈ tb_ws := tb_in3 (List.mem_of_getElem? (i := 128) rfl) rfl
theorem tw_849 : (Cond.fieldLink "WireHostsModel" (46 : Nat) "WireHostsModel" "used" "[Z") ∈ tb_ws := tb_in3 (List.mem_of_getElem? (i := 129) rfl) rfl
theorem tw_850 : (Cond.fieldLink "WireHostsModel" (50 : Nat) "WireHostsModel" "slotIdent" "[I") ∈ tb_ws := tb_in3 (List.mem_of_getElem? (i := 130) rfl) rfl
theorem tw_851 : (Cond.fieldLink "WireHostsModel" (53 : Nat) "WireHostsModel" "slotProtocol" "[I") ∈ tb_ws := tb_in3 (List.mem_of_getElem? (i := 131) rfl) rfl
theorem tw_852 : (Cond.fieldLink "WireHostsModel" (56 : Nat) "WireHostsModel" "age" "[I") ∈ tb_ws := tb_in3 (List.mem_of_getElem? (i := 132) rfl) rfl
theorem tw_853 : (Cond.fieldLink "WireHostsModel" (59 : Nat) "WireHostsModel" "whole" "[I") ∈ tb_ws := tb_in3 (List.mem_of_getElem? (i := 133) rfl) rfl
theorem tw_854 : (Cond.fieldLink "WireHostsModel" (62 : Nat) "WireHostsModel" "slot" "[I") ∈ tb_ws := tb_in3 (List.mem_of_getElem? (i := 134) rfl) rfl
theorem tw_855 : (Cond.fieldLink "WireHostsModel" (65 : Nat) "WireHostsModel" "filled" "[Z") ∈ tb_ws := tb_in3 (List.mem_of_getElem? (i := 135) rfl) rfl
theorem tw_856 : (Cond.fieldLink "WireHostsModel" (68 : Nat) "WireHostsModel" "state" "[I") ∈ tb_ws := tb_in3 (List.mem_of_getElem? (i := 136) rfl) rfl
theorem tw_857 : (Cond.fieldLink "WireHostsModel" (71 : Nat) "WireHostsModel" "first" "[I") ∈ tb_ws := tb_in3 (List.mem_of_getElem? (i := 137) rfl) rfl
theorem tw_858 : (Cond.fieldLink "WireHostsModel" (74 : Nat) "WireHostsModel" "una" "[I") ∈ tb_ws := tb_in3 (List.mem_of_getElem? (i := 138) rfl) rfl
theorem tw_859 : (Cond.fieldLink "WireHostsModel" (77 : Nat) "WireHostsModel" "nxt" "[I") ∈ tb_ws := tb_in3 (List.mem_of_getElem? (i := 139) rfl) rfl
theorem tw_860 : (Cond.fieldLink "WireHostsModel" (80 : Nat) "WireHostsModel" "rcv" "[I") ∈ tb_ws := tb_in3 (List.mem_of_getElem? (i := 140) rfl) rfl
theorem tw_861 : (Cond.fieldLink "WireHostsModel" (83 : Nat) "WireHostsModel" "win" "[I") ∈ tb_ws := tb_in3 (List.mem_of_getElem? (i := 141) rfl) rfl
theorem tw_862 : (Cond.fieldLink "WireHostsModel" (86 : Nat) "WireHostsModel" "outs" "[I") ∈ tb_ws := tb_in3 (List.mem_of_getElem? (i := 142) rfl) rfl
theorem tw_863 : (Cond.fieldLink "WireHostsModel" (89 : Nat) "WireHostsModel" "out" "[I") ∈ tb_ws := tb_in3 (List.mem_of_getElem? (i := 143) rfl) rfl
theorem tw_864 : (Cond.fieldLink "WireHostsModel" (92 : Nat) "WireHostsModel" "ending" "[Z") ∈ tb_ws := tb_in3 (List.mem_of_getElem? (i := 144) rfl) rfl
theorem tw_865 : (Cond.fieldLink "WireHostsModel" (95 : Nat) "WireHostsModel" "finSent" "[Z") ∈ tb_ws := tb_in3 (List.mem_of_getElem? (i := 145) rfl) rfl
theorem tw_866 : (Cond.fieldLink "WireHostsModel" (98 : Nat) "WireHostsModel" "ins" "[I") ∈ tb_ws := tb_in3 (List.mem_of_getElem? (i := 146) rfl) rfl
theorem tw_867 : (Cond.fieldLink "WireHostsModel" (101 : Nat) "WireHostsModel" "in" "[I") ∈ tb_ws := tb_in3 (List.mem_of_getElem? (i := 147) rfl) rfl
theorem tw_868 : (Cond.fieldLink "WireHostsModel" (104 : Nat) "WireHostsModel" "early" "[Z") ∈ tb_ws := tb_in3 (List.mem_of_getElem? (i := 148) rfl) rfl
theorem tw_869 : (Cond.fieldLink "WireHostsModel" (107 : Nat) "WireHostsModel" "kept" "[I") ∈ tb_ws := tb_in3 (List.mem_of_getElem? (i := 149) rfl) rfl
theorem tw_870 : (Cond.fieldLink "WireHostsModel" (110 : Nat) "WireHostsModel" "finAt" "[I") ∈ tb_ws := tb_in3 (List.mem_of_getElem? (i := 150) rfl) rfl
theorem tw_871 : (Cond.fieldLink "WireHostsModel" (113 : Nat) "WireHostsModel" "timer" "[I") ∈ tb_ws := tb_in3 (List.mem_of_getElem? (i := 151) rfl) rfl
theorem tw_872 : (Cond.fieldLink "WireHostsModel" (116 : Nat) "WireHostsModel" "rto" "[I") ∈ tb_ws := tb_in3 (List.mem_of_getElem? (i := 152) rfl) rfl
theorem tw_873 : (Cond.fieldLink "WireHostsModel" (119 : Nat) "WireHostsModel" "tries" "[I") ∈ tb_ws := tb_in3 (List.mem_of_getElem? (i := 153) rfl) rfl
theorem tw_874 : (Cond.fieldLink "WireHostsModel" (122 : Nat) "WireHostsModel" "frame" "[I") ∈ tb_ws := tb_in3 (List.mem_of_getElem? (i := 154) rfl) rfl
theorem tw_875 : (Cond.fieldLink "WireHostsModel" (144 : Nat) "WireHostsModel" "frameSize" "I") ∈ tb_ws := tb_in3 (List.mem_of_getElem? (i := 155) rfl) rfl
theorem tw_876 : (Cond.fieldLink "WireHostsModel" (125 : Nat) "WireHostsModel" "message" "[I") ∈ tb_ws := tb_in3 (List.mem_of_getElem? (i := 156) rfl) rfl
theorem tw_877 : (Cond.fieldLink "WireHostsModel" (169 : Nat) "WireHostsModel" "length" "I") ∈ tb_ws := tb_in3 (List.mem_of_getElem? (i := 157) rfl) rfl
theorem tw_878 : (Cond.fieldLink "WireHostsModel" (128 : Nat) "WireHostsModel" "row" "[I") ∈ tb_ws := tb_in3 (List.mem_of_getElem? (i := 158) rfl) rfl
theorem tw_879 : (Cond.fieldLink "WireHostsModel" (134 : Nat) "WireHostsModel" "size" "I") ∈ tb_ws := tb_in3 (List.mem_of_getElem? (i := 159) rfl) rfl
theorem tw_880 : (Cond.fieldLink "WireHostsModel" (131 : Nat) "WireHostsModel" "packet" "[I") ∈ tb_ws := tb_in3 (List.mem_of_getElem? (i := 160) rfl) rfl
theorem tw_881 : (Cond.fieldLink "WireHostsModel" (234 : Nat) "WireHostsModel" "flags" "I") ∈ tb_ws := tb_in3 (List.mem_of_getElem? (i := 161) rfl) rfl
theorem tw_882 : (Cond.fieldLink "WireHostsModel" (237 : Nat) "WireHostsModel" "seq" "I") ∈ tb_ws := tb_in3 (List.mem_of_getElem? (i := 162) rfl) rfl
theorem tw_883 : (Cond.fieldLink "WireHostsModel" (240 : Nat) "WireHostsModel" "ackNumber" "I") ∈ tb_ws := tb_in3 (List.mem_of_getElem? (i := 163) rfl) rfl
theorem tw_884 : (Cond.fieldLink "WireHostsModel" (243 : Nat) "WireHostsModel" "window" "I") ∈ tb_ws := tb_in3 (List.mem_of_getElem? (i := 164) rfl) rfl
theorem tw_885 : (Cond.fieldLink "WireHostsModel" (246 : Nat) "WireHostsModel" "data" "I") ∈ tb_ws := tb_in3 (List.mem_of_getElem? (i := 165) rfl) rfl
theorem tw_886 : (Cond.lays "WireHostsModel" "WireHostsModel" "clock" "I") ∈ tb_ws := tb_in3 (List.mem_of_getElem? (i := 166) rfl) rfl
theorem tw_887 : (Cond.soleField "WireHostsModel" "clock") ∈ tb_ws := tb_in3 (List.mem_of_getElem? (i := 167) rfl) rfl
theorem tw_888 : (Cond.laysFinal "WireHostsModel" "WireHostsModel" "flying" "[I") ∈ tb_ws := tb_in3 (List.mem_of_getElem? (i := 168) rfl) rfl
theorem tw_889 : (Cond.soleField "WireHostsModel" "flying") ∈ tb_ws := tb_in3 (List.mem_of_getElem? (i := 169) rfl) rfl
theorem tw_890 : (Cond.laysFinal "WireHostsModel" "WireHostsModel" "airSize" "[I") ∈ tb_ws := tb_in3 (List.mem_of_getElem? (i := 170) rfl) rfl
theorem tw_891 : (Cond.soleField "WireHostsModel" "airSize") ∈ tb_ws := tb_in3 (List.mem_of_getElem? (i := 171) rfl) rfl
theorem tw_892 : (Cond.laysFinal "WireHostsModel" "WireHostsModel" "air" "[I") ∈ tb_ws := tb_in3 (List.mem_of_getElem? (i := 172) rfl) rfl
theorem tw_893 : (Cond.soleField "WireHostsModel" "air") ∈ tb_ws := tb_in3 (List.mem_of_getElem? (i := 173) rfl) rfl
theorem tw_894 : (Cond.laysFinal "WireHostsModel" "WireHostsModel" "lined" "[I") ∈ tb_ws := tb_in3 (List.mem_of_getElem? (i := 174) rfl) rfl
theorem tw_895 : (Cond.soleField "WireHostsModel" "lined") ∈ tb_ws := tb_in3 (List.mem_of_getElem? (i := 175) rfl) rfl
theorem tw_896 : (Cond.laysFinal "WireHostsModel" "WireHostsModel" "lineSize" "[I") ∈ tb_ws := tb_in3 (List.mem_of_getElem? (i := 176) rfl) rfl
theorem tw_897 : (Cond.soleField "WireHostsModel" "lineSize") ∈ tb_ws := tb_in3 (List.mem_of_getElem? (i := 177) rfl) rfl
theorem tw_898 : (Cond.laysFinal "WireHostsModel" "WireHostsModel" "line" "[I") ∈ tb_ws := tb_in3 (List.mem_of_getElem? (i := 178) rfl) rfl
theorem tw_899 : (Cond.soleField "WireHostsModel" "line") ∈ tb_ws := tb_in3 (List.mem_of_getElem? (i := 179) rfl) rfl
theorem tw_900 : (Cond.laysFinal "WireHostsModel" "WireHostsModel" "askTimer" "[I") ∈ tb_ws := tb_in3 (List.mem_of_getElem? (i := 180) rfl) rfl
theorem tw_901 : (Cond.soleField "WireHostsModel" "askTimer") ∈ tb_ws := tb_in3 (List.mem_of_getElem? (i := 181) rfl) rfl
theorem tw_902 : (Cond.laysFinal "WireHostsModel" "WireHostsModel" "knownFor" "[I") ∈ tb_ws := tb_in3 (List.mem_of_getElem? (i := 182) rfl) rfl
theorem tw_903 : (Cond.soleField "WireHostsModel" "knownFor") ∈ tb_ws := tb_in3 (List.mem_of_getElem? (i := 183) rfl) rfl
theorem tw_904 : (Cond.laysFinal "WireHostsModel" "WireHostsModel" "station" "[I") ∈ tb_ws := tb_in3 (List.mem_of_getElem? (i := 184) rfl) rfl
theorem tw_905 : (Cond.soleField "WireHostsModel" "station") ∈ tb_ws := tb_in3 (List.mem_of_getElem? (i := 185) rfl) rfl
theorem tw_906 : (Cond.laysFinal "WireHostsModel" "WireHostsModel" "ident" "[I") ∈ tb_ws := tb_in3 (List.mem_of_getElem? (i := 186) rfl) rfl
theorem tw_907 : (Cond.soleField "WireHostsModel" "ident") ∈ tb_ws := tb_in3 (List.mem_of_getElem? (i := 187) rfl) rfl
theorem tw_908 : (Cond.laysFinal "WireHostsModel" "WireHostsModel" "pongs" "[I") ∈ tb_ws := tb_in3 (List.mem_of_getElem? (i := 188) rfl) rfl
theorem tw_909 : (Cond.soleField "WireHostsModel" "pongs") ∈ tb_ws := tb_in3 (List.mem_of_getElem? (i := 189) rfl) rfl
theorem tw_910 : (Cond.laysFinal "WireHostsModel" "WireHostsModel" "token" "[I") ∈ tb_ws := tb_in3 (List.mem_of_getElem? (i := 190) rfl) rfl
theorem tw_911 : (Cond.soleField "WireHostsModel" "token") ∈ tb_ws := tb_in3 (List.mem_of_getElem? (i := 191) rfl) rfl
theorem tw_912 : (Cond.laysFinal "WireHostsModel" "WireHostsModel" "used" "[Z") ∈ tb_ws := tb_in3 (List.mem_of_getElem? (i := 192) rfl) rfl
theorem tw_913 : (Cond.soleField "WireHostsModel" "used") ∈ tb_ws := tb_in3 (List.mem_of_getElem? (i := 193) rfl) rfl
theorem tw_914 : (Cond.laysFinal "WireHostsModel" "WireHostsModel" "slotIdent" "[I") ∈ tb_ws := tb_in3 (List.mem_of_getElem? (i := 194) rfl) rfl
theorem tw_915 : (Cond.soleField "WireHostsModel" "slotIdent") ∈ tb_ws := tb_in3 (List.mem_of_getElem? (i := 195) rfl) rfl
theorem tw_916 : (Cond.laysFinal "WireHostsModel" "WireHostsModel" "slotProtocol" "[I") ∈ tb_ws := tb_in3 (List.mem_of_getElem? (i := 196) rfl) rfl
theorem tw_917 : (Cond.soleField "WireHostsModel" "slotProtocol") ∈ tb_ws := tb_in3 (List.mem_of_getElem? (i := 197) rfl) rfl
theorem tw_918 : (Cond.laysFinal "WireHostsModel" "WireHostsModel" "age" "[I") ∈ tb_ws := tb_in3 (List.mem_of_getElem? (i := 198) rfl) rfl
theorem tw_919 : (Cond.soleField "WireHostsModel" "age") ∈ tb_ws := tb_in3 (List.mem_of_getElem? (i := 199) rfl) rfl
theorem tw_920 : (Cond.laysFinal "WireHostsModel" "WireHostsModel" "whole" "[I") ∈ tb_ws := tb_in3 (List.mem_of_getElem? (i := 200) rfl) rfl
theorem tw_921 : (Cond.soleField "WireHostsModel" "whole") ∈ tb_ws := tb_in3 (List.mem_of_getElem? (i := 201) rfl) rfl
theorem tw_922 : (Cond.laysFinal "WireHostsModel" "WireHostsModel" "slot" "[I") ∈ tb_ws := tb_in3 (List.mem_of_getElem? (i := 202) rfl) rfl
theorem tw_923 : (Cond.soleField "WireHostsModel" "slot") ∈ tb_ws := tb_in3 (List.mem_of_getElem? (i := 203) rfl) rfl
theorem tw_924 : (Cond.laysFinal "WireHostsModel" "WireHostsModel" "filled" "[Z") ∈ tb_ws := tb_in3 (List.mem_of_getElem? (i := 204) rfl) rfl
theorem tw_925 : (Cond.soleField "WireHostsModel" "filled") ∈ tb_ws := tb_in3 (List.mem_of_getElem? (i := 205) rfl) rfl
theorem tw_926 : (Cond.laysFinal "WireHostsModel" "WireHostsModel" "state" "[I") ∈ tb_ws := tb_in3 (List.mem_of_getElem? (i := 206) rfl) rfl
theorem tw_927 : (Cond.soleField "WireHostsModel" "state") ∈ tb_ws := tb_in3 (List.mem_of_getElem? (i := 207) rfl) rfl
theorem tw_928 : (Cond.laysFinal "WireHostsModel" "WireHostsModel" "first" "[I") ∈ tb_ws := tb_in3 (List.mem_of_getElem? (i := 208) rfl) rfl
theorem tw_929 : (Cond.soleField "WireHostsModel" "first") ∈ tb_ws := tb_in3 (List.mem_of_getElem? (i := 209) rfl) rfl
theorem tw_930 : (Cond.laysFinal "WireHostsModel" "WireHostsModel" "una" "[I") ∈ tb_ws := tb_in3 (List.mem_of_getElem? (i := 210) rfl) rfl
theorem tw_931 : (Cond.soleField "WireHostsModel" "una") ∈ tb_ws := tb_in3 (List.mem_of_getElem? (i := 211) rfl) rfl
theorem tw_932 : (Cond.laysFinal "WireHostsModel" "WireHostsModel" "nxt" "[I") ∈ tb_ws := tb_in3 (List.mem_of_getElem? (i := 212) rfl) rfl
theorem tw_933 : (Cond.soleField "WireHostsModel" "nxt") ∈ tb_ws := tb_in3 (List.mem_of_getElem? (i := 213) rfl) rfl
theorem tw_934 : (Cond.laysFinal "WireHostsModel" "WireHostsModel" "rcv" "[I") ∈ tb_ws := tb_in3 (List.mem_of_getElem? (i := 214) rfl) rfl
theorem tw_935 : (Cond.soleField "WireHostsModel" "rcv") ∈ tb_ws := tb_in3 (List.mem_of_getElem? (i := 215) rfl) rfl
theorem tw_936 : (Cond.laysFinal "WireHostsModel" "WireHostsModel" "win" "[I") ∈ tb_ws := tb_in3 (List.mem_of_getElem? (i := 216) rfl) rfl
theorem tw_937 : (Cond.soleField "WireHostsModel" "win") ∈ tb_ws := tb_in3 (List.mem_of_getElem? (i := 217) rfl) rfl
theorem tw_938 : (Cond.laysFinal "WireHostsModel" "WireHostsModel" "outs" "[I") ∈ tb_ws := tb_in3 (List.mem_of_getElem? (i := 218) rfl) rfl
theorem tw_939 : (Cond.soleField "WireHostsModel" "outs") ∈ tb_ws := tb_in3 (List.mem_of_getElem? (i := 219) rfl) rfl
theorem tw_940 : (Cond.laysFinal "WireHostsModel" "WireHostsModel" "out" "[I") ∈ tb_ws := tb_in3 (List.mem_of_getElem? (i := 220) rfl) rfl
theorem tw_941 : (Cond.soleField "WireHostsModel" "out") ∈ tb_ws := tb_in3 (List.mem_of_getElem? (i := 221) rfl) rfl
theorem tw_942 : (Cond.laysFinal "WireHostsModel" "WireHostsModel" "ending" "[Z") ∈ tb_ws := tb_in3 (List.mem_of_getElem? (i := 222) rfl) rfl
theorem tw_943 : (Cond.soleField "WireHostsModel" "ending") ∈ tb_ws := tb_in3 (List.mem_of_getElem? (i := 223) rfl) rfl
theorem tw_944 : (Cond.laysFinal "WireHostsModel" "WireHostsModel" "finSent" "[Z") ∈ tb_ws := tb_in3 (List.mem_of_getElem? (i := 224) rfl) rfl
theorem tw_945 : (Cond.soleField "WireHostsModel" "finSent") ∈ tb_ws := tb_in3 (List.mem_of_getElem? (i := 225) rfl) rfl
theorem tw_946 : (Cond.laysFinal "WireHostsModel" "WireHostsModel" "ins" "[I") ∈ tb_ws := tb_in3 (List.mem_of_getElem? (i := 226) rfl) rfl
theorem tw_947 : (Cond.soleField "WireHostsModel" "ins") ∈ tb_ws := tb_in3 (List.mem_of_getElem? (i := 227) rfl) rfl
theorem tw_948 : (Cond.laysFinal "WireHostsModel" "WireHostsModel" "in" "[I") ∈ tb_ws := tb_in3 (List.mem_of_getElem? (i := 228) rfl) rfl
theorem tw_949 : (Cond.soleField "WireHostsModel" "in") ∈ tb_ws := tb_in3 (List.mem_of_getElem? (i := 229) rfl) rfl
theorem tw_950 : (Cond.laysFinal "WireHostsModel" "WireHostsModel" "early" "[Z") ∈ tb_ws := tb_in3 (List.mem_of_getElem? (i := 230) rfl) rfl
theorem tw_951 : (Cond.soleField "WireHostsModel" "early") ∈ tb_ws := tb_in3 (List.mem_of_getElem? (i := 231) rfl) rfl
theorem tw_952 : (Cond.laysFinal "WireHostsModel" "WireHostsModel" "kept" "[I") ∈ tb_ws := tb_in3 (List.mem_of_getElem? (i := 232) rfl) rfl
theorem tw_953 : (Cond.soleField "WireHostsModel" "kept") ∈ tb_ws := tb_in3 (List.mem_of_getElem? (i := 233) rfl) rfl
theorem tw_954 : (Cond.laysFinal "WireHostsModel" "WireHostsModel" "finAt" "[I") ∈ tb_ws := tb_in3 (List.mem_of_getElem? (i := 234) rfl) rfl
theorem tw_955 : (Cond.soleField "WireHostsModel" "finAt") ∈ tb_ws := tb_in3 (List.mem_of_getElem? (i := 235) rfl) rfl
theorem tw_956 : (Cond.laysFinal "WireHostsModel" "WireHostsModel" "timer" "[I") ∈ tb_ws := tb_in3 (List.mem_of_getElem? (i := 236) rfl) rfl
theorem tw_957 : (Cond.soleField "WireHostsModel" "timer") ∈ tb_ws := tb_in3 (List.mem_of_getElem? (i := 237) rfl) rfl
theorem tw_958 : (Cond.laysFinal "WireHostsModel" "WireHostsModel" "rto" "[I") ∈ tb_ws := tb_in3 (List.mem_of_getElem? (i := 238) rfl) rfl
theorem tw_959 : (Cond.soleField "WireHostsModel" "rto") ∈ tb_ws := tb_in3 (List.mem_of_getElem? (i := 239) rfl) rfl
theorem tw_960 : (Cond.laysFinal "WireHostsModel" "WireHostsModel" "tries" "[I") ∈ tb_ws := tb_in4 (List.mem_of_getElem? (i := 0) rfl) rfl
theorem tw_961 : (Cond.soleField "WireHostsModel" "tries") ∈ tb_ws := tb_in4 (List.mem_of_getElem? (i := 1) rfl) rfl
theorem tw_962 : (Cond.laysFinal "WireHostsModel" "WireHostsModel" "frame" "[I") ∈ tb_ws := tb_in4 (List.mem_of_getElem? (i := 2) rfl) rfl
theorem tw_963 : (Cond.soleField "WireHostsModel" "frame") ∈ tb_ws := tb_in4 (List.mem_of_getElem? (i := 3) rfl) rfl
theorem tw_964 : (Cond.lays "WireHostsModel" "WireHostsModel" "frameSize" "I") ∈ tb_ws := tb_in4 (List.mem_of_getElem? (i := 4) rfl) rfl
theorem tw_965 : (Cond.soleField "WireHostsModel" "frameSize") ∈ tb_ws := tb_in4 (List.mem_of_getElem? (i := 5) rfl) rfl
theorem tw_966 : (Cond.laysFinal "WireHostsModel" "WireHostsModel" "message" "[I") ∈ tb_ws := tb_in4 (List.mem_of_getElem? (i := 6) rfl) rfl
theorem tw_967 : (Cond.soleField "WireHostsModel" "message") ∈ tb_ws := tb_in4 (List.mem_of_getElem? (i := 7) rfl) rfl
theorem tw_968 : (Cond.lays "WireHostsModel" "WireHostsModel" "length" "I") ∈ tb_ws := tb_in4 (List.mem_of_getElem? (i := 8) rfl) rfl
theorem tw_969 : (Cond.soleField "WireHostsModel" "length") ∈ tb_ws := tb_in4 (List.mem_of_getElem? (i := 9) rfl) rfl
theorem tw_970 : (Cond.laysFinal "WireHostsModel" "WireHostsModel" "row" "[I") ∈ tb_ws := tb_in4 (List.mem_of_getElem? (i := 10) rfl) rfl
theorem tw_971 : (Cond.soleField "WireHostsModel" "row") ∈ tb_ws := tb_in4 (List.mem_of_getElem? (i := 11) rfl) rfl
theorem tw_972 : (Cond.lays "WireHostsModel" "WireHostsModel" "size" "I") ∈ tb_ws := tb_in4 (List.mem_of_getElem? (i := 12) rfl) rfl
theorem tw_973 : (Cond.soleField "WireHostsModel" "size") ∈ tb_ws := tb_in4 (List.mem_of_getElem? (i := 13) rfl) rfl
theorem tw_974 : (Cond.laysFinal "WireHostsModel" "WireHostsModel" "packet" "[I") ∈ tb_ws := tb_in4 (List.mem_of_getElem? (i := 14) rfl) rfl
theorem tw_975 : (Cond.soleField "WireHostsModel" "packet") ∈ tb_ws := tb_in4 (List.mem_of_getElem? (i := 15) rfl) rfl
theorem tw_976 : (Cond.lays "WireHostsModel" "WireHostsModel" "flags" "I") ∈ tb_ws := tb_in4 (List.mem_of_getElem? (i := 16) rfl) rfl
theorem tw_977 : (Cond.soleField "WireHostsModel" "flags") ∈ tb_ws := tb_in4 (List.mem_of_getElem? (i := 17) rfl) rfl
theorem tw_978 : (Cond.lays "WireHostsModel" "WireHostsModel" "seq" "I") ∈ tb_ws := tb_in4 (List.mem_of_getElem? (i := 18) rfl) rfl
theorem tw_979 : (Cond.soleField "WireHostsModel" "seq") ∈ tb_ws := tb_in4 (List.mem_of_getElem? (i := 19) rfl) rfl
theorem tw_980 : (Cond.lays "WireHostsModel" "WireHostsModel" "ackNumber" "I") ∈ tb_ws := tb_in4 (List.mem_of_getElem? (i := 20) rfl) rfl
theorem tw_981 : (Cond.soleField "WireHostsModel" "ackNumber") ∈ tb_ws := tb_in4 (List.mem_of_getElem? (i := 21) rfl) rfl
theorem tw_982 : (Cond.lays "WireHostsModel" "WireHostsModel" "window" "I") ∈ tb_ws := tb_in4 (List.mem_of_getElem? (i := 22) rfl) rfl
theorem tw_983 : (Cond.soleField "WireHostsModel" "window") ∈ tb_ws := tb_in4 (List.mem_of_getElem? (i := 23) rfl) rfl
theorem tw_984 : (Cond.lays "WireHostsModel" "WireHostsModel" "data" "I") ∈ tb_ws := tb_in4 (List.mem_of_getElem? (i := 24) rfl) rfl
theorem tw_985 : (Cond.soleField "WireHostsModel" "data") ∈ tb_ws := tb_in4 (List.mem_of_getElem? (i := 25) rfl) rfl
theorem tw_986 : (Cond.superclass "WireHostsModel" "java/lang/Object") ∈ tb_ws := tb_in4 (List.mem_of_getElem? (i := 26) rfl) rfl
theorem tw_987 : (Cond.arrayClass FieldType.boolean) ∈ tb_ws := tb_in4 (List.mem_of_getElem? (i := 27) rfl) rfl
theorem tw_988 : (Cond.methodLink "WireHostsLaw" (43 : Nat) ({ cls := "WireHostsModel", name := "ping", desc := "(III)Z" } : MethodName)) ∈ tb_ws := tb_in4 (List.mem_of_getElem? (i := 28) rfl) rfl
theorem tw_989 : (Cond.instanceMethod ({ cls := "WireHostsModel", name := "ping", desc := "(III)Z" } : MethodName)) ∈ tb_ws := tb_in4 (List.mem_of_getElem? (i := 29) rfl) rfl
theorem tw_990 : (Cond.selects "WireHostsModel" ({ cls := "WireHostsModel", name := "ping", desc := "(III)Z" } : MethodName) ({ cls := "WireHostsModel", name := "ping", desc := "(III)Z" } : MethodName)) ∈ tb_ws := tb_in4 (List.mem_of_getElem? (i := 30) rfl) rfl
theorem tw_991 : (Cond.code ({ cls := "WireHostsModel", name := "ping", desc := "(III)Z" } : MethodName) prog_13_method_22_code (5 : Nat) (Option.some FieldType.boolean)) ∈ tb_ws := tb_in4 (List.mem_of_getElem? (i := 31) rfl) rfl
theorem tw_992 : (Cond.methodLink "WireHostsModel" (140 : Nat) ({ cls := "WireHostsModel", name := "isHost", desc := "(I)Z" } : MethodName)) ∈ tb_ws := tb_in4 (List.mem_of_getElem? (i := 32) rfl) rfl
theorem tw_993 : (Cond.static ({ cls := "WireHostsModel", name := "isHost", desc := "(I)Z" } : MethodName)) ∈ tb_ws := tb_in4 (List.mem_of_getElem? (i := 33) rfl) rfl
theorem tw_994 : (Cond.code ({ cls := "WireHostsModel", name := "isHost", desc := "(I)Z" } : MethodName) prog_13_method_5_code (1 : Nat) (Option.some FieldType.boolean)) ∈ tb_ws := tb_in4 (List.mem_of_getElem? (i := 34) rfl) rfl
theorem tw_995 : (Cond.methodLink "WireHostsModel" (196 : Nat) ({ cls := "WireHostsModel", name := "sendEcho", desc := "(II)V" } : MethodName)) ∈ tb_ws := tb_in4 (List.mem_of_getElem? (i := 35) rfl) rfl
theorem tw_997 : (Cond.instanceMethod ({ cls := "WireHostsModel", name := "sendEcho", desc := "(II)V" } : MethodName)) ∈ tb_ws := tb_in4 (List.mem_of_getElem? (i := 37) rfl) rfl
theorem tw_998 : (Cond.code ({ cls := "WireHostsModel", name := "sendEcho", desc := "(II)V" } : MethodName) prog_13_method_20_code (4 : Nat) (Option.none : Option FieldType)) ∈ tb_ws := tb_in4 (List.mem_of_getElem? (i := 38) rfl) rfl
theorem tw_999 : (Cond.methodLink "WireHostsModel" (158 : Nat) ({ cls := "WireHostsModel", name := "copyRow", desc := "([II)V" } : MethodName)) ∈ tb_ws := tb_in4 (List.mem_of_getElem? (i := 39) rfl) rfl
theorem tw_1001 : (Cond.instanceMethod ({ cls := "WireHostsModel", name := "copyRow", desc := "([II)V" } : MethodName)) ∈ tb_ws := tb_in4 (List.mem_of_getElem? (i := 41) rfl) rfl
theorem tw_1002 : (Cond.code ({ cls := "WireHostsModel", name := "copyRow", desc := "([II)V" } : MethodName) prog_13_method_3_code (4 : Nat) (Option.none : Option FieldType)) ∈ tb_ws := tb_in4 (List.mem_of_getElem? (i := 42) rfl) rfl
theorem tw_1003 : (Cond.methodLink "WireHostsModel" (162 : Nat) ({ cls := "WireHostsModel", name := "check", desc := "()I" } : MethodName)) ∈ tb_ws := tb_in4 (List.mem_of_getElem? (i := 43) rfl) rfl
theorem tw_1005 : (Cond.instanceMethod ({ cls := "WireHostsModel", name := "check", desc := "()I" } : MethodName)) ∈ tb_ws := tb_in4 (List.mem_of_getElem? (i := 45) rfl) rfl
theorem tw_1006 : (Cond.code ({ cls := "WireHostsModel", name := "check", desc := "()I" } : MethodName) prog_13_method_2_code (3 : Nat) (Option.some FieldType.int)) ∈ tb_ws := tb_in4 (List.mem_of_getElem? (i := 46) rfl) rfl
theorem tw_1007 : (Cond.constant "WireHostsModel" (138 : Nat) (65535 : Int32)) ∈ tb_ws := tb_in4 (List.mem_of_getElem? (i := 47) rfl) rfl
theorem tw_1008 : (Cond.constant "WireHostsModel" (139 : Nat) (65536 : Int32)) ∈ tb_ws := tb_in4 (List.mem_of_getElem? (i := 48) rfl) rfl
theorem tw_1009 : (Cond.methodLink "WireHostsModel" (193 : Nat) ({ cls := "WireHostsModel", name := "sends", desc := "(II)V" } : MethodName)) ∈ tb_ws := tb_in4 (List.mem_of_getElem? (i := 49) rfl) rfl
theorem tw_1011 : (Cond.instanceMethod ({ cls := "WireHostsModel", name := "sends", desc := "(II)V" } : MethodName)) ∈ tb_ws := tb_in4 (List.mem_of_getElem? (i := 51) rfl) rfl
theorem tw_1012 : (Cond.code ({ cls := "WireHostsModel", name := "sends", desc := "(II)V" } : MethodName) prog_13_method_14_code (3 : Nat) (Option.none : Option FieldType)) ∈ tb_ws := tb_in4 (List.mem_of_getElem? (i := 52) rfl) rfl
theorem tw_1013 : (Cond.methodLink "WireHostsModel" (172 : Nat) ({ cls := "WireHostsModel", name := "part", desc := "(IIIIZ)V" } : MethodName)) ∈ tb_ws := tb_in4 (List.mem_of_getElem? (i := 53) rfl) rfl
theorem tw_1015 : (Cond.instanceMethod ({ cls := "WireHostsModel", name := "part", desc := "(IIIIZ)V" } : MethodName)) ∈ tb_ws := tb_in4 (List.mem_of_getElem? (i := 55) rfl) rfl
theorem tw_1016 : (Cond.code ({ cls := "WireHostsModel", name := "part", desc := "(IIIIZ)V" } : MethodName) prog_13_method_13_code (8 : Nat) (Option.none : Option FieldType)) ∈ tb_ws := tb_in4 (List.mem_of_getElem? (i := 56) rfl) rfl
theorem tw_1017 : (Cond.methodLink "WireHostsModel" (166 : Nat) ({ cls := "WireHostsModel", name := "sendPacket", desc := "(I)V" } : MethodName)) ∈ tb_ws := tb_in4 (List.mem_of_getElem? (i := 57) rfl) rfl
theorem tw_1019 : (Cond.instanceMethod ({ cls := "WireHostsModel", name := "sendPacket", desc := "(I)V" } : MethodName)) ∈ tb_ws := tb_in4 (List.mem_of_getElem? (i := 59) rfl) rfl
theorem tw_1020 : (Cond.code ({ cls := "WireHostsModel", name := "sendPacket", desc := "(I)V" } : MethodName) prog_13_method_12_code (4 : Nat) (Option.none : Option FieldType)) ∈ tb_ws := tb_in4 (List.mem_of_getElem? (i := 60) rfl) rfl
theorem tw_1021 : (Cond.methodLink "WireHostsModel" (151 : Nat) ({ cls := "WireHostsModel", name := "goes", desc := "(I)V" } : MethodName)) ∈ tb_ws := tb_in4 (List.mem_of_getElem? (i := 61) rfl) rfl
theorem tw_1023 : (Cond.instanceMethod ({ cls := "WireHostsModel", name := "goes", desc := "(I)V" } : MethodName)) ∈ tb_ws := tb_in4 (List.mem_of_getElem? (i := 63) rfl) rfl
theorem tw_1024 : (Cond.code ({ cls := "WireHostsModel", name := "goes", desc := "(I)V" } : MethodName) prog_13_method_11_code (4 : Nat) (Option.none : Option FieldType)) ∈ tb_ws := tb_in4 (List.mem_of_getElem? (i := 64) rfl) rfl
theorem tw_1025 : (Cond.methodLink "WireHostsModel" (147 : Nat) ({ cls := "WireHostsModel", name := "fly", desc := "(I)V" } : MethodName)) ∈ tb_ws := tb_in4 (List.mem_of_getElem? (i := 65) rfl) rfl
theorem tw_1027 : (Cond.instanceMethod ({ cls := "WireHostsModel", name := "fly", desc := "(I)V" } : MethodName)) ∈ tb_ws := tb_in4 (List.mem_of_getElem? (i := 67) rfl) rfl
theorem tw_1028 : (Cond.code ({ cls := "WireHostsModel", name := "fly", desc := "(I)V" } : MethodName) prog_13_method_8_code (5 : Nat) (Option.none : Option FieldType)) ∈ tb_ws := tb_in4 (List.mem_of_getElem? (i := 68) rfl) rfl
theorem tw_1029 : (Cond.methodLink "WireHostsModel" (154 : Nat) ({ cls := "WireHostsModel", name := "asks", desc := "(III)V" } : MethodName)) ∈ tb_ws := tb_in4 (List.mem_of_getElem? (i := 69) rfl) rfl
theorem tw_1031 : (Cond.instanceMethod ({ cls := "WireHostsModel", name := "asks", desc := "(III)V" } : MethodName)) ∈ tb_ws := tb_in4 (List.mem_of_getElem? (i := 71) rfl) rfl
theorem tw_1032 : (Cond.code ({ cls := "WireHostsModel", name := "asks", desc := "(III)V" } : MethodName) prog_13_method_10_code (4 : Nat) (Option.none : Option FieldType)) ∈ tb_ws := tb_in4 (List.mem_of_getElem? (i := 72) rfl) rfl
theorem tw_1033 : (Cond.methodLink "WireHostsLaw" (17 : Nat) ({ cls := "WireHostsModel", name := "listen", desc := "(II)Z" } : MethodName)) ∈ tb_ws := tb_in4 (List.mem_of_getElem? (i := 73) rfl) rfl
theorem tw_1034 : (Cond.instanceMethod ({ cls := "WireHostsModel", name := "listen", desc := "(II)Z" } : MethodName)) ∈ tb_ws := tb_in4 (List.mem_of_getElem? (i := 74) rfl) rfl
theorem tw_1035 : (Cond.selects "WireHostsModel" ({ cls := "WireHostsModel", name := "listen", desc := "(II)Z" } : MethodName) ({ cls := "WireHostsModel", name := "listen", desc := "(II)Z" } : MethodName)) ∈ tb_ws := tb_in4 (List.mem_of_getElem? (i := 75) rfl) rfl
theorem tw_1036 : (Cond.code ({ cls := "WireHostsModel", name := "listen", desc := "(II)Z" } : MethodName) prog_13_method_44_code (3 : Nat) (Option.some FieldType.boolean)) ∈ tb_ws := tb_in4 (List.mem_of_getElem? (i := 76) rfl) rfl
theorem tw_1037 : (Cond.methodLink "WireHostsModel" (282 : Nat) ({ cls := "WireHostsModel", name := "isSocket", desc := "(II)Z" } : MethodName)) ∈ tb_ws := tb_in4 (List.mem_of_getElem? (i := 77) rfl) rfl
theorem tw_1038 : (Cond.static ({ cls := "WireHostsModel", name := "isSocket", desc := "(II)Z" } : MethodName)) ∈ tb_ws := tb_in4 (List.mem_of_getElem? (i := 78) rfl) rfl
theorem tw_1039 : (Cond.code ({ cls := "WireHostsModel", name := "isSocket", desc := "(II)Z" } : MethodName) prog_13_method_6_code (2 : Nat) (Option.some FieldType.boolean)) ∈ tb_ws := tb_in4 (List.mem_of_getElem? (i := 79) rfl) rfl
theorem tw_1040 : (Cond.methodLink "WireHostsModel" (231 : Nat) ({ cls := "WireHostsModel", name := "at", desc := "(II)I" } : MethodName)) ∈ tb_ws := tb_in4 (List.mem_of_getElem? (i := 80) rfl) rfl
theorem tw_1041 : (Cond.static ({ cls := "WireHostsModel", name := "at", desc := "(II)I" } : MethodName)) ∈ tb_ws := tb_in4 (List.mem_of_getElem? (i := 81) rfl) rfl
theorem tw_1042 : (Cond.code ({ cls := "WireHostsModel", name := "at", desc := "(II)I" } : MethodName) prog_13_method_7_code (2 : Nat) (Option.some FieldType.int)) ∈ tb_ws := tb_in4 (List.mem_of_getElem? (i := 82) rfl) rfl
theorem tw_1043 : (Cond.methodLink "WireHostsModel" (212 : Nat) ({ cls := "WireHostsModel", name := "fresh", desc := "(I)V" } : MethodName)) ∈ tb_ws := tb_in4 (List.mem_of_getElem? (i := 83) rfl) rfl
theorem tw_1045 : (Cond.instanceMethod ({ cls := "WireHostsModel", name := "fresh", desc := "(I)V" } : MethodName)) ∈ tb_ws := tb_in4 (List.mem_of_getElem? (i := 85) rfl) rfl
theorem tw_1046 : (Cond.code ({ cls := "WireHostsModel", name := "fresh", desc := "(I)V" } : MethodName) prog_13_method_28_code (3 : Nat) (Option.none : Option FieldType)) ∈ tb_ws := tb_in4 (List.mem_of_getElem? (i := 86) rfl) rfl
theorem tw_1047 : (Cond.methodLink "WireHostsLaw" (21 : Nat) ({ cls := "WireHostsModel", name := "connect", desc := "(II)Z" } : MethodName)) ∈ tb_ws := tb_in4 (List.mem_of_getElem? (i := 87) rfl) rfl
theorem tw_1048 : (Cond.instanceMethod ({ cls := "WireHostsModel", name := "connect", desc := "(II)Z" } : MethodName)) ∈ tb_ws := tb_in4 (List.mem_of_getElem? (i := 88) rfl) rfl
theorem tw_1049 : (Cond.selects "WireHostsModel" ({ cls := "WireHostsModel", name := "connect", desc := "(II)Z" } : MethodName) ({ cls := "WireHostsModel", name := "connect", desc := "(II)Z" } : MethodName)) ∈ tb_ws := tb_in4 (List.mem_of_getElem? (i := 89) rfl) rfl
theorem tw_1050 : (Cond.code ({ cls := "WireHostsModel", name := "connect", desc := "(II)Z" } : MethodName) prog_13_method_45_code (4 : Nat) (Option.some FieldType.boolean)) ∈ tb_ws := tb_in4 (List.mem_of_getElem? (i := 90) rfl) rfl
theorem tw_1051 : (Cond.methodLink "WireHostsModel" (264 : Nat) ({ cls := "WireHostsModel", name := "begins", desc := "(I)V" } : MethodName)) ∈ tb_ws := tb_in4 (List.mem_of_getElem? (i := 91) rfl) rfl
theorem tw_1053 : (Cond.instanceMethod ({ cls := "WireHostsModel", name := "begins", desc := "(I)V" } : MethodName)) ∈ tb_ws := tb_in4 (List.mem_of_getElem? (i := 93) rfl) rfl
theorem tw_1054 : (Cond.code ({ cls := "WireHostsModel", name := "begins", desc := "(I)V" } : MethodName) prog_13_method_30_code (2 : Nat) (Option.none : Option FieldType)) ∈ tb_ws := tb_in4 (List.mem_of_getElem? (i := 94) rfl) rfl
theorem tw_1055 : (Cond.methodLink "WireHostsModel" (225 : Nat) ({ cls := "WireHostsModel", name := "go", desc := "(III)V" } : MethodName)) ∈ tb_ws := tb_in4 (List.mem_of_getElem? (i := 95) rfl) rfl
theorem tw_1057 : (Cond.instanceMethod ({ cls := "WireHostsModel", name := "go", desc := "(III)V" } : MethodName)) ∈ tb_ws := tb_in4 (List.mem_of_getElem? (i := 97) rfl) rfl
theorem tw_1058 : (Cond.code ({ cls := "WireHostsModel", name := "go", desc := "(III)V" } : MethodName) prog_13_method_27_code (4 : Nat) (Option.none : Option FieldType)) ∈ tb_ws := tb_in4 (List.mem_of_getElem? (i := 98) rfl) rfl
theorem tw_1059 : (Cond.methodLink "WireHostsModel" (208 : Nat) ({ cls := "WireHostsModel", name := "segmentGoes", desc := "(IIIIII)V" } : MethodName)) ∈ tb_ws := tb_in4 (List.mem_of_getElem? (i := 99) rfl) rfl
theorem tw_1061 : (Cond.instanceMethod ({ cls := "WireHostsModel", name := "segmentGoes", desc := "(IIIIII)V" } : MethodName)) ∈ tb_ws := tb_in4 (List.mem_of_getElem? (i := 101) rfl) rfl
theorem tw_1062 : (Cond.code ({ cls := "WireHostsModel", name := "segmentGoes", desc := "(IIIIII)V" } : MethodName) prog_13_method_26_code (9 : Nat) (Option.none : Option FieldType)) ∈ tb_ws := tb_in4 (List.mem_of_getElem? (i := 102) rfl) rfl
theorem tw_1063 : (Cond.methodLink "WireHostsModel" (199 : Nat) ({ cls := "WireHostsModel", name := "put", desc := "(II)V" } : MethodName)) ∈ tb_ws := tb_in4 (List.mem_of_getElem? (i := 103) rfl) rfl
theorem tw_1065 : (Cond.instanceMethod ({ cls := "WireHostsModel", name := "put", desc := "(II)V" } : MethodName)) ∈ tb_ws := tb_in4 (List.mem_of_getElem? (i := 105) rfl) rfl
theorem tw_1066 : (Cond.code ({ cls := "WireHostsModel", name := "put", desc := "(II)V" } : MethodName) prog_13_method_25_code (3 : Nat) (Option.none : Option FieldType)) ∈ tb_ws := tb_in4 (List.mem_of_getElem? (i := 106) rfl) rfl
theorem tw_1067 : (Cond.methodLink "WireHostsModel" (202 : Nat) ({ cls := "WireHostsModel", name := "room", desc := "(I)I" } : MethodName)) ∈ tb_ws := tb_in4 (List.mem_of_getElem? (i := 107) rfl) rfl
theorem tw_1069 : (Cond.instanceMethod ({ cls := "WireHostsModel", name := "room", desc := "(I)I" } : MethodName)) ∈ tb_ws := tb_in4 (List.mem_of_getElem? (i := 109) rfl) rfl
theorem tw_1070 : (Cond.code ({ cls := "WireHostsModel", name := "room", desc := "(I)I" } : MethodName) prog_13_method_24_code (2 : Nat) (Option.some FieldType.int)) ∈ tb_ws := tb_in4 (List.mem_of_getElem? (i := 110) rfl) rfl
theorem tw_1071 : (Cond.methodLink "WireHostsModel" (205 : Nat) ({ cls := "WireHostsModel", name := "segmentRow", desc := "(II)V" } : MethodName)) ∈ tb_ws := tb_in4 (List.mem_of_getElem? (i := 111) rfl) rfl
theorem tw_1073 : (Cond.instanceMethod ({ cls := "WireHostsModel", name := "segmentRow", desc := "(II)V" } : MethodName)) ∈ tb_ws := tb_in4 (List.mem_of_getElem? (i := 113) rfl) rfl
theorem tw_1074 : (Cond.code ({ cls := "WireHostsModel", name := "segmentRow", desc := "(II)V" } : MethodName) prog_13_method_23_code (4 : Nat) (Option.none : Option FieldType)) ∈ tb_ws := tb_in4 (List.mem_of_getElem? (i := 114) rfl) rfl
theorem tw_1075 : (Cond.methodLink "WireHostsLaw" (26 : Nat) ({ cls := "WireHostsModel", name := "send", desc := "(III)Z" } : MethodName)) ∈ tb_ws := tb_in4 (List.mem_of_getElem? (i := 115) rfl) rfl
theorem tw_1076 : (Cond.instanceMethod ({ cls := "WireHostsModel", name := "send", desc := "(III)Z" } : MethodName)) ∈ tb_ws := tb_in4 (List.mem_of_getElem? (i := 116) rfl) rfl
theorem tw_1077 : (Cond.selects "WireHostsModel" ({ cls := "WireHostsModel", name := "send", desc := "(III)Z" } : MethodName) ({ cls := "WireHostsModel", name := "send", desc := "(III)Z" } : MethodName)) ∈ tb_ws := tb_in4 (List.mem_of_getElem? (i := 117) rfl) rfl
theorem tw_1078 : (Cond.code ({ cls := "WireHostsModel", name := "send", desc := "(III)Z" } : MethodName) prog_13_method_46_code (5 : Nat) (Option.some FieldType.boolean)) ∈ tb_ws := tb_in4 (List.mem_of_getElem? (i := 118) rfl) rfl
theorem tw_1079 : (Cond.methodLink "WireHostsModel" (267 : Nat) ({ cls := "WireHostsModel", name := "push", desc := "(I)V" } : MethodName)) ∈ tb_ws := tb_in4 (List.mem_of_getElem? (i := 119) rfl) rfl
theorem tw_1081 : (Cond.instanceMethod ({ cls := "WireHostsModel", name := "push", desc := "(I)V" } : MethodName)) ∈ tb_ws := tb_in4 (List.mem_of_getElem? (i := 121) rfl) rfl
theorem tw_1082 : (Cond.code ({ cls := "WireHostsModel", name := "push", desc := "(I)V" } : MethodName) prog_13_method_32_code (5 : Nat) (Option.none : Option FieldType)) ∈ tb_ws := tb_in4 (List.mem_of_getElem? (i := 122) rfl) rfl
theorem tw_1083 : (Cond.methodLink "WireHostsModel" (222 : Nat) ({ cls := "WireHostsModel", name := "sent", desc := "(I)I" } : MethodName)) ∈ tb_ws := tb_in4 (List.mem_of_getElem? (i := 123) rfl) rfl
theorem tw_1085 : (Cond.instanceMethod ({ cls := "WireHostsModel", name := "sent", desc := "(I)I" } : MethodName)) ∈ tb_ws := tb_in4 (List.mem_of_getElem? (i := 125) rfl) rfl
theorem tw_1086 : (Cond.code ({ cls := "WireHostsModel", name := "sent", desc := "(I)I" } : MethodName) prog_13_method_31_code (3 : Nat) (Option.some FieldType.int)) ∈ tb_ws := tb_in4 (List.mem_of_getElem? (i := 126) rfl) rfl
theorem tw_1087 : (Cond.methodLink "WireHostsModel" (218 : Nat) ({ cls := "WireHostsModel", name := "less", desc := "(II)I" } : MethodName)) ∈ tb_ws := tb_in4 (List.mem_of_getElem? (i := 127) rfl) rfl
theorem tw_1088 : (Cond.static ({ cls := "WireHostsModel", name := "less", desc := "(II)I" } : MethodName)) ∈ tb_ws := tb_in4 (List.mem_of_getElem? (i := 128) rfl) rfl
theorem tw_1089 : (Cond.code ({ cls := "WireHostsModel", name := "less", desc := "(II)I" } : MethodName) prog_13_method_4_code (2 : Nat) (Option.some FieldType.int)) ∈ tb_ws := tb_in4 (List.mem_of_getElem? (i := 129) rfl) rfl
theorem tw_1090 : (Cond.methodLink "WireHostsLaw" (31 : Nat) ({ cls := "WireHostsModel", name := "read", desc := "(II)I" } : MethodName)) ∈ tb_ws := tb_in4 (List.mem_of_getElem? (i := 130) rfl) rfl
theorem tw_1091 : (Cond.instanceMethod ({ cls := "WireHostsModel", name := "read", desc := "(II)I" } : MethodName)) ∈ tb_ws := tb_in4 (List.mem_of_getElem? (i := 131) rfl) rfl
theorem tw_1092 : (Cond.selects "WireHostsModel" ({ cls := "WireHostsModel", name := "read", desc := "(II)I" } : MethodName) ({ cls := "WireHostsModel", name := "read", desc := "(II)I" } : MethodName)) ∈ tb_ws := tb_in4 (List.mem_of_getElem? (i := 132) rfl) rfl
theorem tw_1093 : (Cond.code ({ cls := "WireHostsModel", name := "read", desc := "(II)I" } : MethodName) prog_13_method_47_code (7 : Nat) (Option.some FieldType.int)) ∈ tb_ws := tb_in4 (List.mem_of_getElem? (i := 133) rfl) rfl
theorem tw_1094 : (Cond.methodLink "WireHostsLaw" (35 : Nat) ({ cls := "WireHostsModel", name := "close", desc := "(II)Z" } : MethodName)) ∈ tb_ws := tb_in4 (List.mem_of_getElem? (i := 134) rfl) rfl
theorem tw_1095 : (Cond.instanceMethod ({ cls := "WireHostsModel", name := "close", desc := "(II)Z" } : MethodName)) ∈ tb_ws := tb_in4 (List.mem_of_getElem? (i := 135) rfl) rfl
theorem tw_1096 : (Cond.selects "WireHostsModel" ({ cls := "WireHostsModel", name := "close", desc := "(II)Z" } : MethodName) ({ cls := "WireHostsModel", name := "close", desc := "(II)Z" } : MethodName)) ∈ tb_ws := tb_in4 (List.mem_of_getElem? (i := 136) rfl) rfl
theorem tw_1097 : (Cond.code ({ cls := "WireHostsModel", name := "close", desc := "(II)Z" } : MethodName) prog_13_method_48_code (4 : Nat) (Option.some FieldType.boolean)) ∈ tb_ws := tb_in4 (List.mem_of_getElem? (i := 137) rfl) rfl
theorem tw_1098 : (Cond.methodLink "WireHostsModel" (228 : Nat) ({ cls := "WireHostsModel", name := "closes", desc := "(I)V" } : MethodName)) ∈ tb_ws := tb_in4 (List.mem_of_getElem? (i := 138) rfl) rfl
theorem tw_1100 : (Cond.instanceMethod ({ cls := "WireHostsModel", name := "closes", desc := "(I)V" } : MethodName)) ∈ tb_ws := tb_in4 (List.mem_of_getElem? (i := 140) rfl) rfl
theorem tw_1101 : (Cond.code ({ cls := "WireHostsModel", name := "closes", desc := "(I)V" } : MethodName) prog_13_method_29_code (2 : Nat) (Option.none : Option FieldType)) ∈ tb_ws := tb_in4 (List.mem_of_getElem? (i := 141) rfl) rfl
theorem tw_1102 : (Cond.methodLink "WireHostsLaw" (39 : Nat) ({ cls := "WireHostsModel", name := "abort", desc := "(II)Z" } : MethodName)) ∈ tb_ws := tb_in4 (List.mem_of_getElem? (i := 142) rfl) rfl
theorem tw_1103 : (Cond.instanceMethod ({ cls := "WireHostsModel", name := "abort", desc := "(II)Z" } : MethodName)) ∈ tb_ws := tb_in4 (List.mem_of_getElem? (i := 143) rfl) rfl
theorem tw_1104 : (Cond.selects "WireHostsModel" ({ cls := "WireHostsModel", name := "abort", desc := "(II)Z" } : MethodName) ({ cls := "WireHostsModel", name := "abort", desc := "(II)Z" } : MethodName)) ∈ tb_ws := tb_in4 (List.mem_of_getElem? (i := 144) rfl) rfl
theorem tw_1105 : (Cond.code ({ cls := "WireHostsModel", name := "abort", desc := "(II)Z" } : MethodName) prog_13_method_49_code (4 : Nat) (Option.some FieldType.boolean)) ∈ tb_ws := tb_in4 (List.mem_of_getElem? (i := 145) rfl) rfl
theorem tw_1106 : (Cond.methodLink "WireHostsLaw" (48 : Nat) ({ cls := "WireHostsModel", name := "carry", desc := "(I)I" } : MethodName)) ∈ tb_ws := tb_in4 (List.mem_of_getElem? (i := 146) rfl) rfl
theorem tw_1107 : (Cond.instanceMethod ({ cls := "WireHostsModel", name := "carry", desc := "(I)I" } : MethodName)) ∈ tb_ws := tb_in4 (List.mem_of_getElem? (i := 147) rfl) rfl
theorem tw_1108 : (Cond.selects "WireHostsModel" ({ cls := "WireHostsModel", name := "carry", desc := "(I)I" } : MethodName) ({ cls := "WireHostsModel", name := "carry", desc := "(I)I" } : MethodName)) ∈ tb_ws := tb_in4 (List.mem_of_getElem? (i := 148) rfl) rfl
theorem tw_1109 : (Cond.code ({ cls := "WireHostsModel", name := "carry", desc := "(I)I" } : MethodName) prog_13_method_51_code (4 : Nat) (Option.some FieldType.int)) ∈ tb_ws := tb_in4 (List.mem_of_getElem? (i := 149) rfl) rfl
theorem tw_1110 : (Cond.methodLink "WireHostsModel" (286 : Nat) ({ cls := "WireHostsModel", name := "any", desc := "(I)Z" } : MethodName)) ∈ tb_ws := tb_in4 (List.mem_of_getElem? (i := 150) rfl) rfl
theorem tw_1112 : (Cond.instanceMethod ({ cls := "WireHostsModel", name := "any", desc := "(I)Z" } : MethodName)) ∈ tb_ws := tb_in4 (List.mem_of_getElem? (i := 152) rfl) rfl
theorem tw_1113 : (Cond.code ({ cls := "WireHostsModel", name := "any", desc := "(I)Z" } : MethodName) prog_13_method_50_code (2 : Nat) (Option.some FieldType.boolean)) ∈ tb_ws := tb_in4 (List.mem_of_getElem? (i := 153) rfl) rfl
theorem tw_1114 : (Cond.methodLink "WireHostsModel" (289 : Nat) ({ cls := "WireHostsModel", name := "land", desc := "(I)V" } : MethodName)) ∈ tb_ws := tb_in4 (List.mem_of_getElem? (i := 154) rfl) rfl
theorem tw_1116 : (Cond.instanceMethod ({ cls := "WireHostsModel", name := "land", desc := "(I)V" } : MethodName)) ∈ tb_ws := tb_in4 (List.mem_of_getElem? (i := 156) rfl) rfl
theorem tw_1117 : (Cond.code ({ cls := "WireHostsModel", name := "land", desc := "(I)V" } : MethodName) prog_13_method_9_code (4 : Nat) (Option.none : Option FieldType)) ∈ tb_ws := tb_in4 (List.mem_of_getElem? (i := 157) rfl) rfl
theorem tw_1118 : (Cond.methodLink "WireHostsModel" (292 : Nat) ({ cls := "WireHostsModel", name := "asked", desc := "(I)V" } : MethodName)) ∈ tb_ws := tb_in4 (List.mem_of_getElem? (i := 158) rfl) rfl
theorem tw_1120 : (Cond.instanceMethod ({ cls := "WireHostsModel", name := "asked", desc := "(I)V" } : MethodName)) ∈ tb_ws := tb_in4 (List.mem_of_getElem? (i := 160) rfl) rfl
theorem tw_1121 : (Cond.code ({ cls := "WireHostsModel", name := "asked", desc := "(I)V" } : MethodName) prog_13_method_15_code (6 : Nat) (Option.none : Option FieldType)) ∈ tb_ws := tb_in4 (List.mem_of_getElem? (i := 161) rfl) rfl
theorem tw_1122 : (Cond.methodLink "WireHostsModel" (295 : Nat) ({ cls := "WireHostsModel", name := "came", desc := "(I)V" } : MethodName)) ∈ tb_ws := tb_in4 (List.mem_of_getElem? (i := 162) rfl) rfl
theorem tw_1124 : (Cond.instanceMethod ({ cls := "WireHostsModel", name := "came", desc := "(I)V" } : MethodName)) ∈ tb_ws := tb_in4 (List.mem_of_getElem? (i := 164) rfl) rfl
theorem tw_1125 : (Cond.code ({ cls := "WireHostsModel", name := "came", desc := "(I)V" } : MethodName) prog_13_method_16_code (4 : Nat) (Option.none : Option FieldType)) ∈ tb_ws := tb_in4 (List.mem_of_getElem? (i := 165) rfl) rfl
theorem tw_1126 : (Cond.methodLink "WireHostsModel" (176 : Nat) ({ cls := "WireHostsModel", name := "arrives", desc := "(II)V" } : MethodName)) ∈ tb_ws := tb_in4 (List.mem_of_getElem? (i := 166) rfl) rfl
theorem tw_1128 : (Cond.instanceMethod ({ cls := "WireHostsModel", name := "arrives", desc := "(II)V" } : MethodName)) ∈ tb_ws := tb_in4 (List.mem_of_getElem? (i := 168) rfl) rfl
theorem tw_1129 : (Cond.code ({ cls := "WireHostsModel", name := "arrives", desc := "(II)V" } : MethodName) prog_13_method_19_code (3 : Nat) (Option.none : Option FieldType)) ∈ tb_ws := tb_in4 (List.mem_of_getElem? (i := 169) rfl) rfl
theorem tw_1130 : (Cond.methodLink "WireHostsModel" (187 : Nat) ({ cls := "WireHostsModel", name := "echo", desc := "(I)V" } : MethodName)) ∈ tb_ws := tb_in4 (List.mem_of_getElem? (i := 170) rfl) rfl
theorem tw_1132 : (Cond.instanceMethod ({ cls := "WireHostsModel", name := "echo", desc := "(I)V" } : MethodName)) ∈ tb_ws := tb_in4 (List.mem_of_getElem? (i := 172) rfl) rfl
theorem tw_1133 : (Cond.code ({ cls := "WireHostsModel", name := "echo", desc := "(I)V" } : MethodName) prog_13_method_21_code (2 : Nat) (Option.none : Option FieldType)) ∈ tb_ws := tb_in4 (List.mem_of_getElem? (i := 173) rfl) rfl
theorem tw_1134 : (Cond.methodLink "WireHostsModel" (190 : Nat) ({ cls := "WireHostsModel", name := "segment", desc := "(I)V" } : MethodName)) ∈ tb_ws := tb_in4 (List.mem_of_getElem? (i := 174) rfl) rfl
theorem tw_1136 : (Cond.instanceMethod ({ cls := "WireHostsModel", name := "segment", desc := "(I)V" } : MethodName)) ∈ tb_ws := tb_in4 (List.mem_of_getElem? (i := 176) rfl) rfl
theorem tw_1137 : (Cond.code ({ cls := "WireHostsModel", name := "segment", desc := "(I)V" } : MethodName) prog_13_method_34_code (3 : Nat) (Option.none : Option FieldType)) ∈ tb_ws := tb_in4 (List.mem_of_getElem? (i := 177) rfl) rfl
theorem tw_1138 : (Cond.methodLink "WireHostsModel" (249 : Nat) ({ cls := "WireHostsModel", name := "has", desc := "(I)Z" } : MethodName)) ∈ tb_ws := tb_in4 (List.mem_of_getElem? (i := 178) rfl) rfl
theorem tw_1140 : (Cond.instanceMethod ({ cls := "WireHostsModel", name := "has", desc := "(I)Z" } : MethodName)) ∈ tb_ws := tb_in4 (List.mem_of_getElem? (i := 180) rfl) rfl
theorem tw_1141 : (Cond.code ({ cls := "WireHostsModel", name := "has", desc := "(I)Z" } : MethodName) prog_13_method_35_code (2 : Nat) (Option.some FieldType.boolean)) ∈ tb_ws := tb_in4 (List.mem_of_getElem? (i := 181) rfl) rfl
theorem tw_1142 : (Cond.methodLink "WireHostsModel" (252 : Nat) ({ cls := "WireHostsModel", name := "span", desc := "()I" } : MethodName)) ∈ tb_ws := tb_in4 (List.mem_of_getElem? (i := 182) rfl) rfl
theorem tw_1144 : (Cond.instanceMethod ({ cls := "WireHostsModel", name := "span", desc := "()I" } : MethodName)) ∈ tb_ws := tb_in4 (List.mem_of_getElem? (i := 184) rfl) rfl
theorem tw_1145 : (Cond.code ({ cls := "WireHostsModel", name := "span", desc := "()I" } : MethodName) prog_13_method_36_code (1 : Nat) (Option.some FieldType.int)) ∈ tb_ws := tb_in4 (List.mem_of_getElem? (i := 185) rfl) rfl
theorem tw_1146 : (Cond.methodLink "WireHostsModel" (255 : Nat) ({ cls := "WireHostsModel", name := "listens", desc := "(I)V" } : MethodName)) ∈ tb_ws := tb_in4 (List.mem_of_getElem? (i := 186) rfl) rfl
theorem tw_1148 : (Cond.instanceMethod ({ cls := "WireHostsModel", name := "listens", desc := "(I)V" } : MethodName)) ∈ tb_ws := tb_in4 (List.mem_of_getElem? (i := 188) rfl) rfl
theorem tw_1149 : (Cond.code ({ cls := "WireHostsModel", name := "listens", desc := "(I)V" } : MethodName) prog_13_method_37_code (2 : Nat) (Option.none : Option FieldType)) ∈ tb_ws := tb_in4 (List.mem_of_getElem? (i := 189) rfl) rfl
theorem tw_1150 : (Cond.methodLink "WireHostsModel" (258 : Nat) ({ cls := "WireHostsModel", name := "awaits", desc := "(I)V" } : MethodName)) ∈ tb_ws := tb_in4 (List.mem_of_getElem? (i := 190) rfl) rfl
theorem tw_1152 : (Cond.instanceMethod ({ cls := "WireHostsModel", name := "awaits", desc := "(I)V" } : MethodName)) ∈ tb_ws := tb_in4 (List.mem_of_getElem? (i := 192) rfl) rfl
theorem tw_1153 : (Cond.code ({ cls := "WireHostsModel", name := "awaits", desc := "(I)V" } : MethodName) prog_13_method_38_code (2 : Nat) (Option.none : Option FieldType)) ∈ tb_ws := tb_in4 (List.mem_of_getElem? (i := 193) rfl) rfl
theorem tw_1154 : (Cond.methodLink "WireHostsModel" (261 : Nat) ({ cls := "WireHostsModel", name := "other", desc := "(I)V" } : MethodName)) ∈ tb_ws := tb_in4 (List.mem_of_getElem? (i := 194) rfl) rfl
theorem tw_1156 : (Cond.instanceMethod ({ cls := "WireHostsModel", name := "other", desc := "(I)V" } : MethodName)) ∈ tb_ws := tb_in4 (List.mem_of_getElem? (i := 196) rfl) rfl
theorem tw_1157 : (Cond.code ({ cls := "WireHostsModel", name := "other", desc := "(I)V" } : MethodName) prog_13_method_40_code (2 : Nat) (Option.none : Option FieldType)) ∈ tb_ws := tb_in4 (List.mem_of_getElem? (i := 197) rfl) rfl
theorem tw_1158 : (Cond.methodLink "WireHostsModel" (270 : Nat) ({ cls := "WireHostsModel", name := "fits", desc := "(I)Z" } : MethodName)) ∈ tb_ws := tb_in4 (List.mem_of_getElem? (i := 198) rfl) rfl
theorem tw_1160 : (Cond.instanceMethod ({ cls := "WireHostsModel", name := "fits", desc := "(I)Z" } : MethodName)) ∈ tb_ws := tb_in4 (List.mem_of_getElem? (i := 200) rfl) rfl
theorem tw_1161 : (Cond.code ({ cls := "WireHostsModel", name := "fits", desc := "(I)Z" } : MethodName) prog_13_method_39_code (3 : Nat) (Option.some FieldType.boolean)) ∈ tb_ws := tb_in4 (List.mem_of_getElem? (i := 201) rfl) rfl
theorem tw_1162 : (Cond.methodLink "WireHostsModel" (273 : Nat) ({ cls := "WireHostsModel", name := "confirms", desc := "(I)Z" } : MethodName)) ∈ tb_ws := tb_in4 (List.mem_of_getElem? (i := 202) rfl) rfl
theorem tw_1164 : (Cond.instanceMethod ({ cls := "WireHostsModel", name := "confirms", desc := "(I)Z" } : MethodName)) ∈ tb_ws := tb_in4 (List.mem_of_getElem? (i := 204) rfl) rfl
theorem tw_1165 : (Cond.code ({ cls := "WireHostsModel", name := "confirms", desc := "(I)Z" } : MethodName) prog_13_method_41_code (6 : Nat) (Option.some FieldType.boolean)) ∈ tb_ws := tb_in4 (List.mem_of_getElem? (i := 205) rfl) rfl
theorem tw_1166 : (Cond.methodLink "WireHostsModel" (276 : Nat) ({ cls := "WireHostsModel", name := "ends", desc := "(I)Z" } : MethodName)) ∈ tb_ws := tb_in4 (List.mem_of_getElem? (i := 206) rfl) rfl
theorem tw_1168 : (Cond.instanceMethod ({ cls := "WireHostsModel", name := "ends", desc := "(I)Z" } : MethodName)) ∈ tb_ws := tb_in4 (List.mem_of_getElem? (i := 208) rfl) rfl
theorem tw_1169 : (Cond.code ({ cls := "WireHostsModel", name := "ends", desc := "(I)Z" } : MethodName) prog_13_method_42_code (2 : Nat) (Option.some FieldType.boolean)) ∈ tb_ws := tb_in4 (List.mem_of_getElem? (i := 209) rfl) rfl
theorem tw_1170 : (Cond.methodLink "WireHostsModel" (279 : Nat) ({ cls := "WireHostsModel", name := "takes", desc := "(I)V" } : MethodName)) ∈ tb_ws := tb_in4 (List.mem_of_getElem? (i := 210) rfl) rfl
theorem tw_1172 : (Cond.instanceMethod ({ cls := "WireHostsModel", name := "takes", desc := "(I)V" } : MethodName)) ∈ tb_ws := tb_in4 (List.mem_of_getElem? (i := 212) rfl) rfl
theorem tw_1173 : (Cond.code ({ cls := "WireHostsModel", name := "takes", desc := "(I)V" } : MethodName) prog_13_method_43_code (5 : Nat) (Option.none : Option FieldType)) ∈ tb_ws := tb_in4 (List.mem_of_getElem? (i := 213) rfl) rfl
theorem tw_1174 : (Cond.methodLink "WireHostsModel" (180 : Nat) ({ cls := "WireHostsModel", name := "piece", desc := "(II)V" } : MethodName)) ∈ tb_ws := tb_in4 (List.mem_of_getElem? (i := 214) rfl) rfl
theorem tw_1176 : (Cond.instanceMethod ({ cls := "WireHostsModel", name := "piece", desc := "(II)V" } : MethodName)) ∈ tb_ws := tb_in4 (List.mem_of_getElem? (i := 216) rfl) rfl
theorem tw_1177 : (Cond.code ({ cls := "WireHostsModel", name := "piece", desc := "(II)V" } : MethodName) prog_13_method_18_code (7 : Nat) (Option.none : Option FieldType)) ∈ tb_ws := tb_in4 (List.mem_of_getElem? (i := 217) rfl) rfl
theorem tw_1178 : (Cond.methodLink "WireHostsModel" (183 : Nat) ({ cls := "WireHostsModel", name := "slotFor", desc := "(I)I" } : MethodName)) ∈ tb_ws := tb_in4 (List.mem_of_getElem? (i := 218) rfl) rfl
theorem tw_1180 : (Cond.instanceMethod ({ cls := "WireHostsModel", name := "slotFor", desc := "(I)I" } : MethodName)) ∈ tb_ws := tb_in4 (List.mem_of_getElem? (i := 220) rfl) rfl
theorem tw_1181 : (Cond.code ({ cls := "WireHostsModel", name := "slotFor", desc := "(I)I" } : MethodName) prog_13_method_17_code (4 : Nat) (Option.some FieldType.int)) ∈ tb_ws := tb_in4 (List.mem_of_getElem? (i := 221) rfl) rfl
theorem tw_1182 : (Cond.methodLink "WireHostsLaw" (52 : Nat) ({ cls := "WireHostsModel", name := "disturb", desc := "(II)Z" } : MethodName)) ∈ tb_ws := tb_in4 (List.mem_of_getElem? (i := 222) rfl) rfl
theorem tw_1183 : (Cond.instanceMethod ({ cls := "WireHostsModel", name := "disturb", desc := "(II)Z" } : MethodName)) ∈ tb_ws := tb_in4 (List.mem_of_getElem? (i := 223) rfl) rfl
theorem tw_1184 : (Cond.selects "WireHostsModel" ({ cls := "WireHostsModel", name := "disturb", desc := "(II)Z" } : MethodName) ({ cls := "WireHostsModel", name := "disturb", desc := "(II)Z" } : MethodName)) ∈ tb_ws := tb_in4 (List.mem_of_getElem? (i := 224) rfl) rfl
theorem tw_1185 : (Cond.code ({ cls := "WireHostsModel", name := "disturb", desc := "(II)Z" } : MethodName) prog_13_method_52_code (4 : Nat) (Option.some FieldType.boolean)) ∈ tb_ws := tb_in4 (List.mem_of_getElem? (i := 225) rfl) rfl
theorem tw_1186 : (Cond.methodLink "WireHostsLaw" (56 : Nat) ({ cls := "WireHostsModel", name := "alter", desc := "(III)Z" } : MethodName)) ∈ tb_ws := tb_in4 (List.mem_of_getElem? (i := 226) rfl) rfl
theorem tw_1187 : (Cond.instanceMethod ({ cls := "WireHostsModel", name := "alter", desc := "(III)Z" } : MethodName)) ∈ tb_ws := tb_in4 (List.mem_of_getElem? (i := 227) rfl) rfl
theorem tw_1188 : (Cond.selects "WireHostsModel" ({ cls := "WireHostsModel", name := "alter", desc := "(III)Z" } : MethodName) ({ cls := "WireHostsModel", name := "alter", desc := "(III)Z" } : MethodName)) ∈ tb_ws := tb_in4 (List.mem_of_getElem? (i := 228) rfl) rfl
theorem tw_1189 : (Cond.code ({ cls := "WireHostsModel", name := "alter", desc := "(III)Z" } : MethodName) prog_13_method_53_code (4 : Nat) (Option.some FieldType.boolean)) ∈ tb_ws := tb_in4 (List.mem_of_getElem? (i := 229) rfl) rfl
theorem tw_1190 : (Cond.methodLink "WireHostsLaw" (60 : Nat) ({ cls := "WireHostsModel", name := "tick", desc := "(I)I" } : MethodName)) ∈ tb_ws := tb_in4 (List.mem_of_getElem? (i := 230) rfl) rfl
theorem tw_1191 : (Cond.instanceMethod ({ cls := "WireHostsModel", name := "tick", desc := "(I)I" } : MethodName)) ∈ tb_ws := tb_in4 (List.mem_of_getElem? (i := 231) rfl) rfl
theorem tw_1192 : (Cond.selects "WireHostsModel" ({ cls := "WireHostsModel", name := "tick", desc := "(I)I" } : MethodName) ({ cls := "WireHostsModel", name := "tick", desc := "(I)I" } : MethodName)) ∈ tb_ws := tb_in4 (List.mem_of_getElem? (i := 232) rfl) rfl
theorem tw_1193 : (Cond.code ({ cls := "WireHostsModel", name := "tick", desc := "(I)I" } : MethodName) prog_13_method_55_code (3 : Nat) (Option.some FieldType.int)) ∈ tb_ws := tb_in4 (List.mem_of_getElem? (i := 233) rfl) rfl
theorem tw_1194 : (Cond.methodLink "WireHostsModel" (301 : Nat) ({ cls := "WireHostsModel", name := "beats", desc := "(I)V" } : MethodName)) ∈ tb_ws := tb_in4 (List.mem_of_getElem? (i := 234) rfl) rfl
theorem tw_1196 : (Cond.instanceMethod ({ cls := "WireHostsModel", name := "beats", desc := "(I)V" } : MethodName)) ∈ tb_ws := tb_in4 (List.mem_of_getElem? (i := 236) rfl) rfl
theorem tw_1197 : (Cond.code ({ cls := "WireHostsModel", name := "beats", desc := "(I)V" } : MethodName) prog_13_method_54_code (3 : Nat) (Option.none : Option FieldType)) ∈ tb_ws := tb_in4 (List.mem_of_getElem? (i := 237) rfl) rfl
theorem tw_1198 : (Cond.methodLink "WireHostsModel" (298 : Nat) ({ cls := "WireHostsModel", name := "due", desc := "(I)V" } : MethodName)) ∈ tb_ws := tb_in4 (List.mem_of_getElem? (i := 238) rfl) rfl
theorem tw_1200 : (Cond.instanceMethod ({ cls := "WireHostsModel", name := "due", desc := "(I)V" } : MethodName)) ∈ tb_ws := tb_in5 (List.mem_of_getElem? (i := 0) rfl) rfl
theorem tw_1201 : (Cond.code ({ cls := "WireHostsModel", name := "due", desc := "(I)V" } : MethodName) prog_13_method_33_code (2 : Nat) (Option.none : Option FieldType)) ∈ tb_ws := tb_in5 (List.mem_of_getElem? (i := 1) rfl) rfl
theorem tw_1202 : (Cond.methodLink "WireHostsLaw" (64 : Nat) ({ cls := "WireHostsModel", name := "flying", desc := "(I)I" } : MethodName)) ∈ tb_ws := tb_in5 (List.mem_of_getElem? (i := 2) rfl) rfl
theorem tw_1203 : (Cond.instanceMethod ({ cls := "WireHostsModel", name := "flying", desc := "(I)I" } : MethodName)) ∈ tb_ws := tb_in5 (List.mem_of_getElem? (i := 3) rfl) rfl
theorem tw_1204 : (Cond.selects "WireHostsModel" ({ cls := "WireHostsModel", name := "flying", desc := "(I)I" } : MethodName) ({ cls := "WireHostsModel", name := "flying", desc := "(I)I" } : MethodName)) ∈ tb_ws := tb_in5 (List.mem_of_getElem? (i := 4) rfl) rfl
theorem tw_1205 : (Cond.code ({ cls := "WireHostsModel", name := "flying", desc := "(I)I" } : MethodName) prog_13_method_56_code (2 : Nat) (Option.some FieldType.int)) ∈ tb_ws := tb_in5 (List.mem_of_getElem? (i := 5) rfl) rfl
theorem tw_1206 : (Cond.methodLink "WireHostsLaw" (69 : Nat) ({ cls := "WireHostsModel", name := "octet", desc := "(III)I" } : MethodName)) ∈ tb_ws := tb_in5 (List.mem_of_getElem? (i := 6) rfl) rfl
theorem tw_1207 : (Cond.instanceMethod ({ cls := "WireHostsModel", name := "octet", desc := "(III)I" } : MethodName)) ∈ tb_ws := tb_in5 (List.mem_of_getElem? (i := 7) rfl) rfl
theorem tw_1208 : (Cond.selects "WireHostsModel" ({ cls := "WireHostsModel", name := "octet", desc := "(III)I" } : MethodName) ({ cls := "WireHostsModel", name := "octet", desc := "(III)I" } : MethodName)) ∈ tb_ws := tb_in5 (List.mem_of_getElem? (i := 8) rfl) rfl
theorem tw_1209 : (Cond.code ({ cls := "WireHostsModel", name := "octet", desc := "(III)I" } : MethodName) prog_13_method_57_code (5 : Nat) (Option.some FieldType.int)) ∈ tb_ws := tb_in5 (List.mem_of_getElem? (i := 9) rfl) rfl
theorem tw_1210 : (Cond.methodLink "WireHostsLaw" (73 : Nat) ({ cls := "WireHostsModel", name := "socket", desc := "(III)I" } : MethodName)) ∈ tb_ws := tb_in5 (List.mem_of_getElem? (i := 10) rfl) rfl
theorem tw_1211 : (Cond.instanceMethod ({ cls := "WireHostsModel", name := "socket", desc := "(III)I" } : MethodName)) ∈ tb_ws := tb_in5 (List.mem_of_getElem? (i := 11) rfl) rfl
theorem tw_1212 : (Cond.selects "WireHostsModel" ({ cls := "WireHostsModel", name := "socket", desc := "(III)I" } : MethodName) ({ cls := "WireHostsModel", name := "socket", desc := "(III)I" } : MethodName)) ∈ tb_ws := tb_in5 (List.mem_of_getElem? (i := 12) rfl) rfl
theorem tw_1213 : (Cond.code ({ cls := "WireHostsModel", name := "socket", desc := "(III)I" } : MethodName) prog_13_method_58_code (5 : Nat) (Option.some FieldType.int)) ∈ tb_ws := tb_in5 (List.mem_of_getElem? (i := 13) rfl) rfl
theorem tw_1214 : (Cond.methodLink "WireHostsLaw" (77 : Nat) ({ cls := "WireHostsModel", name := "host", desc := "(II)I" } : MethodName)) ∈ tb_ws := tb_in5 (List.mem_of_getElem? (i := 14) rfl) rfl
theorem tw_1215 : (Cond.instanceMethod ({ cls := "WireHostsModel", name := "host", desc := "(II)I" } : MethodName)) ∈ tb_ws := tb_in5 (List.mem_of_getElem? (i := 15) rfl) rfl
theorem tw_1216 : (Cond.selects "WireHostsModel" ({ cls := "WireHostsModel", name := "host", desc := "(II)I" } : MethodName) ({ cls := "WireHostsModel", name := "host", desc := "(II)I" } : MethodName)) ∈ tb_ws := tb_in5 (List.mem_of_getElem? (i := 16) rfl) rfl
theorem tw_1217 : (Cond.code ({ cls := "WireHostsModel", name := "host", desc := "(II)I" } : MethodName) prog_13_method_59_code (3 : Nat) (Option.some FieldType.int)) ∈ tb_ws := tb_in5 (List.mem_of_getElem? (i := 17) rfl) rfl
theorem tp_0 : Cond.selects "WireHosts" ({ cls := "WireHosts", name := "endpointAt", desc := "(II)LWireHosts$Endpoint;" } : MethodName) ({ cls := "WireHosts", name := "endpointAt", desc := "(II)LWireHosts$Endpoint;" } : MethodName) ∈ tb_ws := List.mem_filter.mpr ⟨List.mem_append_left _ (List.mem_map.mpr ⟨(({ cls := "WireHosts", name := "endpointAt", desc := "(II)LWireHosts$Endpoint;" } : MethodName), 3), List.mem_of_getElem? (i := 0) rfl, rfl⟩), rfl⟩
theorem tp_1 : Cond.selects "WireHosts" ({ cls := "WireHosts", name := "isHost", desc := "(I)Z" } : MethodName) ({ cls := "WireHosts", name := "isHost", desc := "(I)Z" } : MethodName) ∈ tb_ws := List.mem_filter.mpr ⟨List.mem_append_left _ (List.mem_map.mpr ⟨(({ cls := "WireHosts", name := "isHost", desc := "(I)Z" } : MethodName), 3), List.mem_of_getElem? (i := 1) rfl, rfl⟩), rfl⟩
theorem tp_2 : Cond.selects "WireHosts$Endpoint" ({ cls := "WireHosts$Endpoint", name := "begin", desc := "(I)V" } : MethodName) ({ cls := "WireHosts$Endpoint", name := "begin", desc := "(I)V" } : MethodName) ∈ tb_ws := List.mem_filter.mpr ⟨List.mem_append_left _ (List.mem_map.mpr ⟨(({ cls := "WireHosts$Endpoint", name := "begin", desc := "(I)V" } : MethodName), 10), List.mem_of_getElem? (i := 2) rfl, rfl⟩), rfl⟩
theorem tp_3 : Cond.selects "WireHosts$Endpoint" ({ cls := "WireHosts$Endpoint", name := "emit", desc := "(II)V" } : MethodName) ({ cls := "WireHosts$Endpoint", name := "emit", desc := "(II)V" } : MethodName) ∈ tb_ws := List.mem_filter.mpr ⟨List.mem_append_left _ (List.mem_map.mpr ⟨(({ cls := "WireHosts$Endpoint", name := "emit", desc := "(II)V" } : MethodName), 10), List.mem_of_getElem? (i := 3) rfl, rfl⟩), rfl⟩
theorem tp_4 : Cond.selects "WireHosts$Endpoint" ({ cls := "WireHosts$Endpoint", name := "emitWhole", desc := "(IIIII)V" } : MethodName) ({ cls := "WireHosts$Endpoint", name := "emitWhole", desc := "(IIIII)V" } : MethodName) ∈ tb_ws := List.mem_filter.mpr ⟨List.mem_append_left _ (List.mem_map.mpr ⟨(({ cls := "WireHosts$Endpoint", name := "emitWhole", desc := "(IIIII)V" } : MethodName), 10), List.mem_of_getElem? (i := 4) rfl, rfl⟩), rfl⟩
theorem tp_5 : Cond.selects "WireHosts$Host" ({ cls := "WireHosts$Host", name := "sendPacket", desc := "(IIZ)V" } : MethodName) ({ cls := "WireHosts$Host", name := "sendPacket", desc := "(IIZ)V" } : MethodName) ∈ tb_ws := List.mem_filter.mpr ⟨List.mem_append_left _ (List.mem_map.mpr ⟨(({ cls := "WireHosts$Host", name := "sendPacket", desc := "(IIZ)V" } : MethodName), 14), List.mem_of_getElem? (i := 5) rfl, rfl⟩), rfl⟩
theorem tp_6 : Cond.selects "WireHosts$Link" ({ cls := "WireHosts$Link", name := "sendFrame", desc := "(III)V" } : MethodName) ({ cls := "WireHosts$Link", name := "sendFrame", desc := "(III)V" } : MethodName) ∈ tb_ws := List.mem_filter.mpr ⟨List.mem_append_left _ (List.mem_map.mpr ⟨(({ cls := "WireHosts$Link", name := "sendFrame", desc := "(III)V" } : MethodName), 7), List.mem_of_getElem? (i := 6) rfl, rfl⟩), rfl⟩
theorem tp_7 : Cond.selects "WireHosts$Link" ({ cls := "WireHosts$Link", name := "sendAsk", desc := "(II)V" } : MethodName) ({ cls := "WireHosts$Link", name := "sendAsk", desc := "(II)V" } : MethodName) ∈ tb_ws := List.mem_filter.mpr ⟨List.mem_append_left _ (List.mem_map.mpr ⟨(({ cls := "WireHosts$Link", name := "sendAsk", desc := "(II)V" } : MethodName), 7), List.mem_of_getElem? (i := 7) rfl, rfl⟩), rfl⟩
theorem tp_8 : Cond.selects "WireHosts$Endpoint" ({ cls := "WireHosts$Endpoint", name := "isSendingState", desc := "()Z" } : MethodName) ({ cls := "WireHosts$Endpoint", name := "isSendingState", desc := "()Z" } : MethodName) ∈ tb_ws := List.mem_filter.mpr ⟨List.mem_append_left _ (List.mem_map.mpr ⟨(({ cls := "WireHosts$Endpoint", name := "isSendingState", desc := "()Z" } : MethodName), 10), List.mem_of_getElem? (i := 8) rfl, rfl⟩), rfl⟩
theorem tp_9 : Cond.selects "WireHosts$Endpoint" ({ cls := "WireHosts$Endpoint", name := "push", desc := "()V" } : MethodName) ({ cls := "WireHosts$Endpoint", name := "push", desc := "()V" } : MethodName) ∈ tb_ws := List.mem_filter.mpr ⟨List.mem_append_left _ (List.mem_map.mpr ⟨(({ cls := "WireHosts$Endpoint", name := "push", desc := "()V" } : MethodName), 10), List.mem_of_getElem? (i := 9) rfl, rfl⟩), rfl⟩
theorem tp_10 : Cond.selects "WireHosts$Endpoint" ({ cls := "WireHosts$Endpoint", name := "pushBytes", desc := "()V" } : MethodName) ({ cls := "WireHosts$Endpoint", name := "pushBytes", desc := "()V" } : MethodName) ∈ tb_ws := List.mem_filter.mpr ⟨List.mem_append_left _ (List.mem_map.mpr ⟨(({ cls := "WireHosts$Endpoint", name := "pushBytes", desc := "()V" } : MethodName), 10), List.mem_of_getElem? (i := 10) rfl, rfl⟩), rfl⟩
theorem tp_11 : Cond.selects "WireHosts$Endpoint" ({ cls := "WireHosts$Endpoint", name := "isReceivingState", desc := "()Z" } : MethodName) ({ cls := "WireHosts$Endpoint", name := "isReceivingState", desc := "()Z" } : MethodName) ∈ tb_ws := List.mem_filter.mpr ⟨List.mem_append_left _ (List.mem_map.mpr ⟨(({ cls := "WireHosts$Endpoint", name := "isReceivingState", desc := "()Z" } : MethodName), 10), List.mem_of_getElem? (i := 11) rfl, rfl⟩), rfl⟩
theorem tp_12 : Cond.selects "WireHosts$Endpoint" ({ cls := "WireHosts$Endpoint", name := "emitAck", desc := "()V" } : MethodName) ({ cls := "WireHosts$Endpoint", name := "emitAck", desc := "()V" } : MethodName) ∈ tb_ws := List.mem_filter.mpr ⟨List.mem_append_left _ (List.mem_map.mpr ⟨(({ cls := "WireHosts$Endpoint", name := "emitAck", desc := "()V" } : MethodName), 10), List.mem_of_getElem? (i := 12) rfl, rfl⟩), rfl⟩
theorem tp_13 : Cond.selects "WireHosts$Endpoint" ({ cls := "WireHosts$Endpoint", name := "shut", desc := "()V" } : MethodName) ({ cls := "WireHosts$Endpoint", name := "shut", desc := "()V" } : MethodName) ∈ tb_ws := List.mem_filter.mpr ⟨List.mem_append_left _ (List.mem_map.mpr ⟨(({ cls := "WireHosts$Endpoint", name := "shut", desc := "()V" } : MethodName), 10), List.mem_of_getElem? (i := 13) rfl, rfl⟩), rfl⟩
theorem tp_14 : Cond.selects "WireHosts$Host" ({ cls := "WireHosts$Host", name := "leaveEcho", desc := "(I)V" } : MethodName) ({ cls := "WireHosts$Host", name := "leaveEcho", desc := "(I)V" } : MethodName) ∈ tb_ws := List.mem_filter.mpr ⟨List.mem_append_left _ (List.mem_map.mpr ⟨(({ cls := "WireHosts$Host", name := "leaveEcho", desc := "(I)V" } : MethodName), 14), List.mem_of_getElem? (i := 14) rfl, rfl⟩), rfl⟩
theorem tp_15 : Cond.selects "WireHosts$Link" ({ cls := "WireHosts$Link", name := "isRightAsk", desc := "([II)Z" } : MethodName) ({ cls := "WireHosts$Link", name := "isRightAsk", desc := "([II)Z" } : MethodName) ∈ tb_ws := List.mem_filter.mpr ⟨List.mem_append_left _ (List.mem_map.mpr ⟨(({ cls := "WireHosts$Link", name := "isRightAsk", desc := "([II)Z" } : MethodName), 7), List.mem_of_getElem? (i := 15) rfl, rfl⟩), rfl⟩
theorem tp_16 : Cond.selects "WireHosts$Host" ({ cls := "WireHosts$Host", name := "takePacket", desc := "(I)Z" } : MethodName) ({ cls := "WireHosts$Host", name := "takePacket", desc := "(I)Z" } : MethodName) ∈ tb_ws := List.mem_filter.mpr ⟨List.mem_append_left _ (List.mem_map.mpr ⟨(({ cls := "WireHosts$Host", name := "takePacket", desc := "(I)Z" } : MethodName), 14), List.mem_of_getElem? (i := 16) rfl, rfl⟩), rfl⟩
theorem tp_17 : Cond.selects "WireHosts$Pieces" ({ cls := "WireHosts$Pieces", name := "keepMessage", desc := "([IIII)V" } : MethodName) ({ cls := "WireHosts$Pieces", name := "keepMessage", desc := "([IIII)V" } : MethodName) ∈ tb_ws := List.mem_filter.mpr ⟨List.mem_append_left _ (List.mem_map.mpr ⟨(({ cls := "WireHosts$Pieces", name := "keepMessage", desc := "([IIII)V" } : MethodName), 5), List.mem_of_getElem? (i := 17) rfl, rfl⟩), rfl⟩
theorem tp_18 : Cond.selects "WireHosts$Pieces" ({ cls := "WireHosts$Pieces", name := "slotFor", desc := "(II)LWireHosts$Slot;" } : MethodName) ({ cls := "WireHosts$Pieces", name := "slotFor", desc := "(II)LWireHosts$Slot;" } : MethodName) ∈ tb_ws := List.mem_filter.mpr ⟨List.mem_append_left _ (List.mem_map.mpr ⟨(({ cls := "WireHosts$Pieces", name := "slotFor", desc := "(II)LWireHosts$Slot;" } : MethodName), 5), List.mem_of_getElem? (i := 18) rfl, rfl⟩), rfl⟩
theorem tp_19 : Cond.selects "WireHosts$Pieces" ({ cls := "WireHosts$Pieces", name := "slotToBegin", desc := "()LWireHosts$Slot;" } : MethodName) ({ cls := "WireHosts$Pieces", name := "slotToBegin", desc := "()LWireHosts$Slot;" } : MethodName) ∈ tb_ws := List.mem_filter.mpr ⟨List.mem_append_left _ (List.mem_map.mpr ⟨(({ cls := "WireHosts$Pieces", name := "slotToBegin", desc := "()LWireHosts$Slot;" } : MethodName), 5), List.mem_of_getElem? (i := 19) rfl, rfl⟩), rfl⟩
theorem tp_20 : Cond.selects "WireHosts$Host" ({ cls := "WireHosts$Host", name := "takeEcho", desc := "(I)V" } : MethodName) ({ cls := "WireHosts$Host", name := "takeEcho", desc := "(I)V" } : MethodName) ∈ tb_ws := List.mem_filter.mpr ⟨List.mem_append_left _ (List.mem_map.mpr ⟨(({ cls := "WireHosts$Host", name := "takeEcho", desc := "(I)V" } : MethodName), 14), List.mem_of_getElem? (i := 20) rfl, rfl⟩), rfl⟩
theorem tp_21 : Cond.selects "WireHosts$Endpoint" ({ cls := "WireHosts$Endpoint", name := "answerWhenClosed", desc := "(LWireHosts$Segment;)V" } : MethodName) ({ cls := "WireHosts$Endpoint", name := "answerWhenClosed", desc := "(LWireHosts$Segment;)V" } : MethodName) ∈ tb_ws := List.mem_filter.mpr ⟨List.mem_append_left _ (List.mem_map.mpr ⟨(({ cls := "WireHosts$Endpoint", name := "answerWhenClosed", desc := "(LWireHosts$Segment;)V" } : MethodName), 10), List.mem_of_getElem? (i := 21) rfl, rfl⟩), rfl⟩
theorem tp_22 : Cond.selects "WireHosts$Endpoint" ({ cls := "WireHosts$Endpoint", name := "answerWhenListening", desc := "(LWireHosts$Segment;I)V" } : MethodName) ({ cls := "WireHosts$Endpoint", name := "answerWhenListening", desc := "(LWireHosts$Segment;I)V" } : MethodName) ∈ tb_ws := List.mem_filter.mpr ⟨List.mem_append_left _ (List.mem_map.mpr ⟨(({ cls := "WireHosts$Endpoint", name := "answerWhenListening", desc := "(LWireHosts$Segment;I)V" } : MethodName), 10), List.mem_of_getElem? (i := 22) rfl, rfl⟩), rfl⟩
theorem tp_23 : Cond.selects "WireHosts$Endpoint" ({ cls := "WireHosts$Endpoint", name := "answerWhenSynSent", desc := "(LWireHosts$Segment;)V" } : MethodName) ({ cls := "WireHosts$Endpoint", name := "answerWhenSynSent", desc := "(LWireHosts$Segment;)V" } : MethodName) ∈ tb_ws := List.mem_filter.mpr ⟨List.mem_append_left _ (List.mem_map.mpr ⟨(({ cls := "WireHosts$Endpoint", name := "answerWhenSynSent", desc := "(LWireHosts$Segment;)V" } : MethodName), 10), List.mem_of_getElem? (i := 23) rfl, rfl⟩), rfl⟩
theorem tp_24 : Cond.selects "WireHosts$Endpoint" ({ cls := "WireHosts$Endpoint", name := "restartTimer", desc := "()V" } : MethodName) ({ cls := "WireHosts$Endpoint", name := "restartTimer", desc := "()V" } : MethodName) ∈ tb_ws := List.mem_filter.mpr ⟨List.mem_append_left _ (List.mem_map.mpr ⟨(({ cls := "WireHosts$Endpoint", name := "restartTimer", desc := "()V" } : MethodName), 10), List.mem_of_getElem? (i := 24) rfl, rfl⟩), rfl⟩
theorem tp_25 : Cond.selects "WireHosts$Endpoint" ({ cls := "WireHosts$Endpoint", name := "isAdmitted", desc := "(LWireHosts$Segment;)Z" } : MethodName) ({ cls := "WireHosts$Endpoint", name := "isAdmitted", desc := "(LWireHosts$Segment;)Z" } : MethodName) ∈ tb_ws := List.mem_filter.mpr ⟨List.mem_append_left _ (List.mem_map.mpr ⟨(({ cls := "WireHosts$Endpoint", name := "isAdmitted", desc := "(LWireHosts$Segment;)Z" } : MethodName), 10), List.mem_of_getElem? (i := 25) rfl, rfl⟩), rfl⟩
theorem tp_26 : Cond.selects "WireHosts$Receiving" ({ cls := "WireHosts$Receiving", name := "isNear", desc := "(II)Z" } : MethodName) ({ cls := "WireHosts$Receiving", name := "isNear", desc := "(II)Z" } : MethodName) ∈ tb_ws := List.mem_filter.mpr ⟨List.mem_append_left _ (List.mem_map.mpr ⟨(({ cls := "WireHosts$Receiving", name := "isNear", desc := "(II)Z" } : MethodName), 5), List.mem_of_getElem? (i := 26) rfl, rfl⟩), rfl⟩
theorem tp_27 : Cond.selects "WireHosts$Endpoint" ({ cls := "WireHosts$Endpoint", name := "isOpenFor", desc := "(LWireHosts$Segment;)Z" } : MethodName) ({ cls := "WireHosts$Endpoint", name := "isOpenFor", desc := "(LWireHosts$Segment;)Z" } : MethodName) ∈ tb_ws := List.mem_filter.mpr ⟨List.mem_append_left _ (List.mem_map.mpr ⟨(({ cls := "WireHosts$Endpoint", name := "isOpenFor", desc := "(LWireHosts$Segment;)Z" } : MethodName), 10), List.mem_of_getElem? (i := 27) rfl, rfl⟩), rfl⟩
theorem tp_28 : Cond.selects "WireHosts$Endpoint" ({ cls := "WireHosts$Endpoint", name := "takeConfirmation", desc := "(LWireHosts$Segment;)Z" } : MethodName) ({ cls := "WireHosts$Endpoint", name := "takeConfirmation", desc := "(LWireHosts$Segment;)Z" } : MethodName) ∈ tb_ws := List.mem_filter.mpr ⟨List.mem_append_left _ (List.mem_map.mpr ⟨(({ cls := "WireHosts$Endpoint", name := "takeConfirmation", desc := "(LWireHosts$Segment;)Z" } : MethodName), 10), List.mem_of_getElem? (i := 28) rfl, rfl⟩), rfl⟩
theorem tp_29 : Cond.selects "WireHosts$Endpoint" ({ cls := "WireHosts$Endpoint", name := "allIsConfirmed", desc := "()V" } : MethodName) ({ cls := "WireHosts$Endpoint", name := "allIsConfirmed", desc := "()V" } : MethodName) ∈ tb_ws := List.mem_filter.mpr ⟨List.mem_append_left _ (List.mem_map.mpr ⟨(({ cls := "WireHosts$Endpoint", name := "allIsConfirmed", desc := "()V" } : MethodName), 10), List.mem_of_getElem? (i := 29) rfl, rfl⟩), rfl⟩
theorem tp_30 : Cond.selects "WireHosts$Endpoint" ({ cls := "WireHosts$Endpoint", name := "startTime", desc := "()V" } : MethodName) ({ cls := "WireHosts$Endpoint", name := "startTime", desc := "()V" } : MethodName) ∈ tb_ws := List.mem_filter.mpr ⟨List.mem_append_left _ (List.mem_map.mpr ⟨(({ cls := "WireHosts$Endpoint", name := "startTime", desc := "()V" } : MethodName), 10), List.mem_of_getElem? (i := 30) rfl, rfl⟩), rfl⟩
theorem tp_31 : Cond.selects "WireHosts$Endpoint" ({ cls := "WireHosts$Endpoint", name := "takeContents", desc := "(LWireHosts$Segment;)V" } : MethodName) ({ cls := "WireHosts$Endpoint", name := "takeContents", desc := "(LWireHosts$Segment;)V" } : MethodName) ∈ tb_ws := List.mem_filter.mpr ⟨List.mem_append_left _ (List.mem_map.mpr ⟨(({ cls := "WireHosts$Endpoint", name := "takeContents", desc := "(LWireHosts$Segment;)V" } : MethodName), 10), List.mem_of_getElem? (i := 31) rfl, rfl⟩), rfl⟩
theorem tp_32 : Cond.selects "WireHosts$Endpoint" ({ cls := "WireHosts$Endpoint", name := "otherIsAtEnd", desc := "()V" } : MethodName) ({ cls := "WireHosts$Endpoint", name := "otherIsAtEnd", desc := "()V" } : MethodName) ∈ tb_ws := List.mem_filter.mpr ⟨List.mem_append_left _ (List.mem_map.mpr ⟨(({ cls := "WireHosts$Endpoint", name := "otherIsAtEnd", desc := "()V" } : MethodName), 10), List.mem_of_getElem? (i := 32) rfl, rfl⟩), rfl⟩
theorem tp_33 : Cond.selects "WireHosts$Rows" ({ cls := "WireHosts$Rows", name := "copyFirstToEnd", desc := "()V" } : MethodName) ({ cls := "WireHosts$Rows", name := "copyFirstToEnd", desc := "()V" } : MethodName) ∈ tb_ws := List.mem_filter.mpr ⟨List.mem_append_left _ (List.mem_map.mpr ⟨(({ cls := "WireHosts$Rows", name := "copyFirstToEnd", desc := "()V" } : MethodName), 5), List.mem_of_getElem? (i := 33) rfl, rfl⟩), rfl⟩
theorem tp_34 : Cond.selects "WireHosts$Endpoint" ({ cls := "WireHosts$Endpoint", name := "timeIsOver", desc := "()V" } : MethodName) ({ cls := "WireHosts$Endpoint", name := "timeIsOver", desc := "()V" } : MethodName) ∈ tb_ws := List.mem_filter.mpr ⟨List.mem_append_left _ (List.mem_map.mpr ⟨(({ cls := "WireHosts$Endpoint", name := "timeIsOver", desc := "()V" } : MethodName), 10), List.mem_of_getElem? (i := 34) rfl, rfl⟩), rfl⟩
theorem tp_35 : Cond.selects "WireHosts$Endpoint" ({ cls := "WireHosts$Endpoint", name := "sendAgain", desc := "()V" } : MethodName) ({ cls := "WireHosts$Endpoint", name := "sendAgain", desc := "()V" } : MethodName) ∈ tb_ws := List.mem_filter.mpr ⟨List.mem_append_left _ (List.mem_map.mpr ⟨(({ cls := "WireHosts$Endpoint", name := "sendAgain", desc := "()V" } : MethodName), 10), List.mem_of_getElem? (i := 35) rfl, rfl⟩), rfl⟩
theorem tp_36 : Cond.selects "WireHostsModel" ({ cls := "WireHostsModel", name := "sendEcho", desc := "(II)V" } : MethodName) ({ cls := "WireHostsModel", name := "sendEcho", desc := "(II)V" } : MethodName) ∈ tb_ws := List.mem_filter.mpr ⟨List.mem_append_left _ (List.mem_map.mpr ⟨(({ cls := "WireHostsModel", name := "sendEcho", desc := "(II)V" } : MethodName), 50), List.mem_of_getElem? (i := 36) rfl, rfl⟩), rfl⟩
theorem tp_37 : Cond.selects "WireHostsModel" ({ cls := "WireHostsModel", name := "copyRow", desc := "([II)V" } : MethodName) ({ cls := "WireHostsModel", name := "copyRow", desc := "([II)V" } : MethodName) ∈ tb_ws := List.mem_filter.mpr ⟨List.mem_append_left _ (List.mem_map.mpr ⟨(({ cls := "WireHostsModel", name := "copyRow", desc := "([II)V" } : MethodName), 50), List.mem_of_getElem? (i := 37) rfl, rfl⟩), rfl⟩
theorem tp_38 : Cond.selects "WireHostsModel" ({ cls := "WireHostsModel", name := "check", desc := "()I" } : MethodName) ({ cls := "WireHostsModel", name := "check", desc := "()I" } : MethodName) ∈ tb_ws := List.mem_filter.mpr ⟨List.mem_append_left _ (List.mem_map.mpr ⟨(({ cls := "WireHostsModel", name := "check", desc := "()I" } : MethodName), 50), List.mem_of_getElem? (i := 38) rfl, rfl⟩), rfl⟩
theorem tp_39 : Cond.selects "WireHostsModel" ({ cls := "WireHostsModel", name := "sends", desc := "(II)V" } : MethodName) ({ cls := "WireHostsModel", name := "sends", desc := "(II)V" } : MethodName) ∈ tb_ws := List.mem_filter.mpr ⟨List.mem_append_left _ (List.mem_map.mpr ⟨(({ cls := "WireHostsModel", name := "sends", desc := "(II)V" } : MethodName), 50), List.mem_of_getElem? (i := 39) rfl, rfl⟩), rfl⟩
theorem tp_40 : Cond.selects "WireHostsModel" ({ cls := "WireHostsModel", name := "part", desc := "(IIIIZ)V" } : MethodName) ({ cls := "WireHostsModel", name := "part", desc := "(IIIIZ)V" } : MethodName) ∈ tb_ws := List.mem_filter.mpr ⟨List.mem_append_left _ (List.mem_map.mpr ⟨(({ cls := "WireHostsModel", name := "part", desc := "(IIIIZ)V" } : MethodName), 50), List.mem_of_getElem? (i := 40) rfl, rfl⟩), rfl⟩
theorem tp_41 : Cond.selects "WireHostsModel" ({ cls := "WireHostsModel", name := "sendPacket", desc := "(I)V" } : MethodName) ({ cls := "WireHostsModel", name := "sendPacket", desc := "(I)V" } : MethodName) ∈ tb_ws := List.mem_filter.mpr ⟨List.mem_append_left _ (List.mem_map.mpr ⟨(({ cls := "WireHostsModel", name := "sendPacket", desc := "(I)V" } : MethodName), 50), List.mem_of_getElem? (i := 41) rfl, rfl⟩), rfl⟩
theorem tp_42 : Cond.selects "WireHostsModel" ({ cls := "WireHostsModel", name := "goes", desc := "(I)V" } : MethodName) ({ cls := "WireHostsModel", name := "goes", desc := "(I)V" } : MethodName) ∈ tb_ws := List.mem_filter.mpr ⟨List.mem_append_left _ (List.mem_map.mpr ⟨(({ cls := "WireHostsModel", name := "goes", desc := "(I)V" } : MethodName), 50), List.mem_of_getElem? (i := 42) rfl, rfl⟩), rfl⟩
theorem tp_43 : Cond.selects "WireHostsModel" ({ cls := "WireHostsModel", name := "fly", desc := "(I)V" } : MethodName) ({ cls := "WireHostsModel", name := "fly", desc := "(I)V" } : MethodName) ∈ tb_ws := List.mem_filter.mpr ⟨List.mem_append_left _ (List.mem_map.mpr ⟨(({ cls := "WireHostsModel", name := "fly", desc := "(I)V" } : MethodName), 50), List.mem_of_getElem? (i := 43) rfl, rfl⟩), rfl⟩
theorem tp_44 : Cond.selects "WireHostsModel" ({ cls := "WireHostsModel", name := "asks", desc := "(III)V" } : MethodName) ({ cls := "WireHostsModel", name := "asks", desc := "(III)V" } : MethodName) ∈ tb_ws := List.mem_filter.mpr ⟨List.mem_append_left _ (List.mem_map.mpr ⟨(({ cls := "WireHostsModel", name := "asks", desc := "(III)V" } : MethodName), 50), List.mem_of_getElem? (i := 44) rfl, rfl⟩), rfl⟩
theorem tp_45 : Cond.selects "WireHostsModel" ({ cls := "WireHostsModel", name := "fresh", desc := "(I)V" } : MethodName) ({ cls := "WireHostsModel", name := "fresh", desc := "(I)V" } : MethodName) ∈ tb_ws := List.mem_filter.mpr ⟨List.mem_append_left _ (List.mem_map.mpr ⟨(({ cls := "WireHostsModel", name := "fresh", desc := "(I)V" } : MethodName), 50), List.mem_of_getElem? (i := 45) rfl, rfl⟩), rfl⟩
theorem tp_46 : Cond.selects "WireHostsModel" ({ cls := "WireHostsModel", name := "begins", desc := "(I)V" } : MethodName) ({ cls := "WireHostsModel", name := "begins", desc := "(I)V" } : MethodName) ∈ tb_ws := List.mem_filter.mpr ⟨List.mem_append_left _ (List.mem_map.mpr ⟨(({ cls := "WireHostsModel", name := "begins", desc := "(I)V" } : MethodName), 50), List.mem_of_getElem? (i := 46) rfl, rfl⟩), rfl⟩
theorem tp_47 : Cond.selects "WireHostsModel" ({ cls := "WireHostsModel", name := "go", desc := "(III)V" } : MethodName) ({ cls := "WireHostsModel", name := "go", desc := "(III)V" } : MethodName) ∈ tb_ws := List.mem_filter.mpr ⟨List.mem_append_left _ (List.mem_map.mpr ⟨(({ cls := "WireHostsModel", name := "go", desc := "(III)V" } : MethodName), 50), List.mem_of_getElem? (i := 47) rfl, rfl⟩), rfl⟩
theorem tp_48 : Cond.selects "WireHostsModel" ({ cls := "WireHostsModel", name := "segmentGoes", desc := "(IIIIII)V" } : MethodName) ({ cls := "WireHostsModel", name := "segmentGoes", desc := "(IIIIII)V" } : MethodName) ∈ tb_ws := List.mem_filter.mpr ⟨List.mem_append_left _ (List.mem_map.mpr ⟨(({ cls := "WireHostsModel", name := "segmentGoes", desc := "(IIIIII)V" } : MethodName), 50), List.mem_of_getElem? (i := 48) rfl, rfl⟩), rfl⟩
theorem tp_49 : Cond.selects "WireHostsModel" ({ cls := "WireHostsModel", name := "put", desc := "(II)V" } : MethodName) ({ cls := "WireHostsModel", name := "put", desc := "(II)V" } : MethodName) ∈ tb_ws := List.mem_filter.mpr ⟨List.mem_append_left _ (List.mem_map.mpr ⟨(({ cls := "WireHostsModel", name := "put", desc := "(II)V" } : MethodName), 50), List.mem_of_getElem? (i := 49) rfl, rfl⟩), rfl⟩
theorem tp_50 : Cond.selects "WireHostsModel" ({ cls := "WireHostsModel", name := "room", desc := "(I)I" } : MethodName) ({ cls := "WireHostsModel", name := "room", desc := "(I)I" } : MethodName) ∈ tb_ws := List.mem_filter.mpr ⟨List.mem_append_left _ (List.mem_map.mpr ⟨(({ cls := "WireHostsModel", name := "room", desc := "(I)I" } : MethodName), 50), List.mem_of_getElem? (i := 50) rfl, rfl⟩), rfl⟩
theorem tp_51 : Cond.selects "WireHostsModel" ({ cls := "WireHostsModel", name := "segmentRow", desc := "(II)V" } : MethodName) ({ cls := "WireHostsModel", name := "segmentRow", desc := "(II)V" } : MethodName) ∈ tb_ws := List.mem_filter.mpr ⟨List.mem_append_left _ (List.mem_map.mpr ⟨(({ cls := "WireHostsModel", name := "segmentRow", desc := "(II)V" } : MethodName), 50), List.mem_of_getElem? (i := 51) rfl, rfl⟩), rfl⟩
theorem tp_52 : Cond.selects "WireHostsModel" ({ cls := "WireHostsModel", name := "push", desc := "(I)V" } : MethodName) ({ cls := "WireHostsModel", name := "push", desc := "(I)V" } : MethodName) ∈ tb_ws := List.mem_filter.mpr ⟨List.mem_append_left _ (List.mem_map.mpr ⟨(({ cls := "WireHostsModel", name := "push", desc := "(I)V" } : MethodName), 50), List.mem_of_getElem? (i := 52) rfl, rfl⟩), rfl⟩
theorem tp_53 : Cond.selects "WireHostsModel" ({ cls := "WireHostsModel", name := "sent", desc := "(I)I" } : MethodName) ({ cls := "WireHostsModel", name := "sent", desc := "(I)I" } : MethodName) ∈ tb_ws := List.mem_filter.mpr ⟨List.mem_append_left _ (List.mem_map.mpr ⟨(({ cls := "WireHostsModel", name := "sent", desc := "(I)I" } : MethodName), 50), List.mem_of_getElem? (i := 53) rfl, rfl⟩), rfl⟩
theorem tp_54 : Cond.selects "WireHostsModel" ({ cls := "WireHostsModel", name := "closes", desc := "(I)V" } : MethodName) ({ cls := "WireHostsModel", name := "closes", desc := "(I)V" } : MethodName) ∈ tb_ws := List.mem_filter.mpr ⟨List.mem_append_left _ (List.mem_map.mpr ⟨(({ cls := "WireHostsModel", name := "closes", desc := "(I)V" } : MethodName), 50), List.mem_of_getElem? (i := 54) rfl, rfl⟩), rfl⟩
theorem tp_55 : Cond.selects "WireHostsModel" ({ cls := "WireHostsModel", name := "any", desc := "(I)Z" } : MethodName) ({ cls := "WireHostsModel", name := "any", desc := "(I)Z" } : MethodName) ∈ tb_ws := List.mem_filter.mpr ⟨List.mem_append_left _ (List.mem_map.mpr ⟨(({ cls := "WireHostsModel", name := "any", desc := "(I)Z" } : MethodName), 50), List.mem_of_getElem? (i := 55) rfl, rfl⟩), rfl⟩
theorem tp_56 : Cond.selects "WireHostsModel" ({ cls := "WireHostsModel", name := "land", desc := "(I)V" } : MethodName) ({ cls := "WireHostsModel", name := "land", desc := "(I)V" } : MethodName) ∈ tb_ws := List.mem_filter.mpr ⟨List.mem_append_left _ (List.mem_map.mpr ⟨(({ cls := "WireHostsModel", name := "land", desc := "(I)V" } : MethodName), 50), List.mem_of_getElem? (i := 56) rfl, rfl⟩), rfl⟩
theorem tp_57 : Cond.selects "WireHostsModel" ({ cls := "WireHostsModel", name := "asked", desc := "(I)V" } : MethodName) ({ cls := "WireHostsModel", name := "asked", desc := "(I)V" } : MethodName) ∈ tb_ws := List.mem_filter.mpr ⟨List.mem_append_left _ (List.mem_map.mpr ⟨(({ cls := "WireHostsModel", name := "asked", desc := "(I)V" } : MethodName), 50), List.mem_of_getElem? (i := 57) rfl, rfl⟩), rfl⟩
theorem tp_58 : Cond.selects "WireHostsModel" ({ cls := "WireHostsModel", name := "came", desc := "(I)V" } : MethodName) ({ cls := "WireHostsModel", name := "came", desc := "(I)V" } : MethodName) ∈ tb_ws := List.mem_filter.mpr ⟨List.mem_append_left _ (List.mem_map.mpr ⟨(({ cls := "WireHostsModel", name := "came", desc := "(I)V" } : MethodName), 50), List.mem_of_getElem? (i := 58) rfl, rfl⟩), rfl⟩
theorem tp_59 : Cond.selects "WireHostsModel" ({ cls := "WireHostsModel", name := "arrives", desc := "(II)V" } : MethodName) ({ cls := "WireHostsModel", name := "arrives", desc := "(II)V" } : MethodName) ∈ tb_ws := List.mem_filter.mpr ⟨List.mem_append_left _ (List.mem_map.mpr ⟨(({ cls := "WireHostsModel", name := "arrives", desc := "(II)V" } : MethodName), 50), List.mem_of_getElem? (i := 59) rfl, rfl⟩), rfl⟩
theorem tp_60 : Cond.selects "WireHostsModel" ({ cls := "WireHostsModel", name := "echo", desc := "(I)V" } : MethodName) ({ cls := "WireHostsModel", name := "echo", desc := "(I)V" } : MethodName) ∈ tb_ws := List.mem_filter.mpr ⟨List.mem_append_left _ (List.mem_map.mpr ⟨(({ cls := "WireHostsModel", name := "echo", desc := "(I)V" } : MethodName), 50), List.mem_of_getElem? (i := 60) rfl, rfl⟩), rfl⟩
theorem tp_61 : Cond.selects "WireHostsModel" ({ cls := "WireHostsModel", name := "segment", desc := "(I)V" } : MethodName) ({ cls := "WireHostsModel", name := "segment", desc := "(I)V" } : MethodName) ∈ tb_ws := List.mem_filter.mpr ⟨List.mem_append_left _ (List.mem_map.mpr ⟨(({ cls := "WireHostsModel", name := "segment", desc := "(I)V" } : MethodName), 50), List.mem_of_getElem? (i := 61) rfl, rfl⟩), rfl⟩
theorem tp_62 : Cond.selects "WireHostsModel" ({ cls := "WireHostsModel", name := "has", desc := "(I)Z" } : MethodName) ({ cls := "WireHostsModel", name := "has", desc := "(I)Z" } : MethodName) ∈ tb_ws := List.mem_filter.mpr ⟨List.mem_append_left _ (List.mem_map.mpr ⟨(({ cls := "WireHostsModel", name := "has", desc := "(I)Z" } : MethodName), 50), List.mem_of_getElem? (i := 62) rfl, rfl⟩), rfl⟩
theorem tp_63 : Cond.selects "WireHostsModel" ({ cls := "WireHostsModel", name := "span", desc := "()I" } : MethodName) ({ cls := "WireHostsModel", name := "span", desc := "()I" } : MethodName) ∈ tb_ws := List.mem_filter.mpr ⟨List.mem_append_left _ (List.mem_map.mpr ⟨(({ cls := "WireHostsModel", name := "span", desc := "()I" } : MethodName), 50), List.mem_of_getElem? (i := 63) rfl, rfl⟩), rfl⟩
theorem tp_64 : Cond.selects "WireHostsModel" ({ cls := "WireHostsModel", name := "listens", desc := "(I)V" } : MethodName) ({ cls := "WireHostsModel", name := "listens", desc := "(I)V" } : MethodName) ∈ tb_ws := List.mem_filter.mpr ⟨List.mem_append_left _ (List.mem_map.mpr ⟨(({ cls := "WireHostsModel", name := "listens", desc := "(I)V" } : MethodName), 50), List.mem_of_getElem? (i := 64) rfl, rfl⟩), rfl⟩
theorem tp_65 : Cond.selects "WireHostsModel" ({ cls := "WireHostsModel", name := "awaits", desc := "(I)V" } : MethodName) ({ cls := "WireHostsModel", name := "awaits", desc := "(I)V" } : MethodName) ∈ tb_ws := List.mem_filter.mpr ⟨List.mem_append_left _ (List.mem_map.mpr ⟨(({ cls := "WireHostsModel", name := "awaits", desc := "(I)V" } : MethodName), 50), List.mem_of_getElem? (i := 65) rfl, rfl⟩), rfl⟩
theorem tp_66 : Cond.selects "WireHostsModel" ({ cls := "WireHostsModel", name := "other", desc := "(I)V" } : MethodName) ({ cls := "WireHostsModel", name := "other", desc := "(I)V" } : MethodName) ∈ tb_ws := List.mem_filter.mpr ⟨List.mem_append_left _ (List.mem_map.mpr ⟨(({ cls := "WireHostsModel", name := "other", desc := "(I)V" } : MethodName), 50), List.mem_of_getElem? (i := 66) rfl, rfl⟩), rfl⟩
theorem tp_67 : Cond.selects "WireHostsModel" ({ cls := "WireHostsModel", name := "fits", desc := "(I)Z" } : MethodName) ({ cls := "WireHostsModel", name := "fits", desc := "(I)Z" } : MethodName) ∈ tb_ws := List.mem_filter.mpr ⟨List.mem_append_left _ (List.mem_map.mpr ⟨(({ cls := "WireHostsModel", name := "fits", desc := "(I)Z" } : MethodName), 50), List.mem_of_getElem? (i := 67) rfl, rfl⟩), rfl⟩
theorem tp_68 : Cond.selects "WireHostsModel" ({ cls := "WireHostsModel", name := "confirms", desc := "(I)Z" } : MethodName) ({ cls := "WireHostsModel", name := "confirms", desc := "(I)Z" } : MethodName) ∈ tb_ws := List.mem_filter.mpr ⟨List.mem_append_left _ (List.mem_map.mpr ⟨(({ cls := "WireHostsModel", name := "confirms", desc := "(I)Z" } : MethodName), 50), List.mem_of_getElem? (i := 68) rfl, rfl⟩), rfl⟩
theorem tp_69 : Cond.selects "WireHostsModel" ({ cls := "WireHostsModel", name := "ends", desc := "(I)Z" } : MethodName) ({ cls := "WireHostsModel", name := "ends", desc := "(I)Z" } : MethodName) ∈ tb_ws := List.mem_filter.mpr ⟨List.mem_append_left _ (List.mem_map.mpr ⟨(({ cls := "WireHostsModel", name := "ends", desc := "(I)Z" } : MethodName), 50), List.mem_of_getElem? (i := 69) rfl, rfl⟩), rfl⟩
theorem tp_70 : Cond.selects "WireHostsModel" ({ cls := "WireHostsModel", name := "takes", desc := "(I)V" } : MethodName) ({ cls := "WireHostsModel", name := "takes", desc := "(I)V" } : MethodName) ∈ tb_ws := List.mem_filter.mpr ⟨List.mem_append_left _ (List.mem_map.mpr ⟨(({ cls := "WireHostsModel", name := "takes", desc := "(I)V" } : MethodName), 50), List.mem_of_getElem? (i := 70) rfl, rfl⟩), rfl⟩
theorem tp_71 : Cond.selects "WireHostsModel" ({ cls := "WireHostsModel", name := "piece", desc := "(II)V" } : MethodName) ({ cls := "WireHostsModel", name := "piece", desc := "(II)V" } : MethodName) ∈ tb_ws := List.mem_filter.mpr ⟨List.mem_append_left _ (List.mem_map.mpr ⟨(({ cls := "WireHostsModel", name := "piece", desc := "(II)V" } : MethodName), 50), List.mem_of_getElem? (i := 71) rfl, rfl⟩), rfl⟩
theorem tp_72 : Cond.selects "WireHostsModel" ({ cls := "WireHostsModel", name := "slotFor", desc := "(I)I" } : MethodName) ({ cls := "WireHostsModel", name := "slotFor", desc := "(I)I" } : MethodName) ∈ tb_ws := List.mem_filter.mpr ⟨List.mem_append_left _ (List.mem_map.mpr ⟨(({ cls := "WireHostsModel", name := "slotFor", desc := "(I)I" } : MethodName), 50), List.mem_of_getElem? (i := 72) rfl, rfl⟩), rfl⟩
theorem tp_73 : Cond.selects "WireHostsModel" ({ cls := "WireHostsModel", name := "beats", desc := "(I)V" } : MethodName) ({ cls := "WireHostsModel", name := "beats", desc := "(I)V" } : MethodName) ∈ tb_ws := List.mem_filter.mpr ⟨List.mem_append_left _ (List.mem_map.mpr ⟨(({ cls := "WireHostsModel", name := "beats", desc := "(I)V" } : MethodName), 50), List.mem_of_getElem? (i := 73) rfl, rfl⟩), rfl⟩
theorem tp_74 : Cond.selects "WireHostsModel" ({ cls := "WireHostsModel", name := "due", desc := "(I)V" } : MethodName) ({ cls := "WireHostsModel", name := "due", desc := "(I)V" } : MethodName) ∈ tb_ws := List.mem_filter.mpr ⟨List.mem_append_left _ (List.mem_map.mpr ⟨(({ cls := "WireHostsModel", name := "due", desc := "(I)V" } : MethodName), 50), List.mem_of_getElem? (i := 74) rfl, rfl⟩), rfl⟩
theorem tb_good : ∀ w ∈ tb_ws, (w.onTables && w.keeps) = true ∨ ∃ ty, w = .arrayClass ty := fun w hw => good_of_word (List.mem_filter.mp hw).2
def tb_nl : List Cond := [
  (Cond.fieldLinkNest "WireHosts$Host" (147 : Nat) "WireHosts$Link" "line" "LWireHosts$Rows;" "WireHosts"),
  (Cond.fieldLinkNest "WireHosts$Host" (144 : Nat) "WireHosts$Link" "knownFor" "I" "WireHosts"),
  (Cond.fieldLinkNest "WireHosts$Host" (159 : Nat) "WireHosts$Link" "station" "I" "WireHosts"),
  (Cond.fieldLinkNest "WireHosts$Host" (156 : Nat) "WireHosts$Link" "askTimer" "I" "WireHosts"),
  (Cond.fieldLinkNest "WireHosts$Pieces" (45 : Nat) "WireHosts$Slot" "bytes" "[I" "WireHosts"),
  (Cond.fieldLinkNest "WireHosts$Pieces" (51 : Nat) "WireHosts$Slot" "used" "Z" "WireHosts"),
  (Cond.fieldLinkNest "WireHosts$Pieces" (48 : Nat) "WireHosts$Slot" "protocol" "I" "WireHosts"),
  (Cond.fieldLinkNest "WireHosts$Pieces" (79 : Nat) "WireHosts$Slot" "age" "I" "WireHosts"),
  (Cond.fieldLinkNest "WireHosts$Pieces" (37 : Nat) "WireHosts$Slot" "whole" "I" "WireHosts"),
  (Cond.fieldLinkNest "WireHosts$Host" (99 : Nat) "WireHosts$Pieces" "size" "I" "WireHosts"),
  (Cond.fieldLinkNest "WireHosts$Host" (96 : Nat) "WireHosts$Pieces" "protocol" "I" "WireHosts"),
  (Cond.fieldLinkNest "WireHosts$Receiving" (53 : Nat) "WireHosts$Segment" "dataCount" "I" "WireHosts"),
  (Cond.fieldLinkNest "WireHosts$Host" (113 : Nat) "WireHosts$Segment" "number" "I" "WireHosts"),
  (Cond.fieldLinkNest "WireHosts$Receiving" (43 : Nat) "WireHosts$Segment" "seq" "I" "WireHosts"),
  (Cond.fieldLinkNest "WireHosts$Endpoint" (186 : Nat) "WireHosts$Segment" "seq" "I" "WireHosts"),
  (Cond.fieldLinkNest "WireHosts$Endpoint" (183 : Nat) "WireHosts$Segment" "ack" "I" "WireHosts"),
  (Cond.fieldLinkNest "WireHosts$Endpoint" (195 : Nat) "WireHosts$Segment" "window" "I" "WireHosts"),
  (Cond.fieldLinkNest "WireHosts$Endpoint" (136 : Nat) "WireHosts$Sending" "count" "I" "WireHosts"),
  (Cond.fieldLinkNest "WireHosts$Endpoint" (54 : Nat) "WireHosts$Sending" "first" "I" "WireHosts"),
  (Cond.fieldLinkNest "WireHosts$Endpoint" (127 : Nat) "WireHosts$Sending" "una" "I" "WireHosts"),
  (Cond.fieldLinkNest "WireHosts$Endpoint" (94 : Nat) "WireHosts$Sending" "nxt" "I" "WireHosts"),
  (Cond.fieldLinkNest "WireHosts$Endpoint" (133 : Nat) "WireHosts$Sending" "window" "I" "WireHosts"),
  (Cond.fieldLinkNest "WireHosts$Endpoint" (65 : Nat) "WireHosts$Sending" "ending" "Z" "WireHosts"),
  (Cond.fieldLinkNest "WireHosts$Endpoint" (139 : Nat) "WireHosts$Receiving" "count" "I" "WireHosts"),
  (Cond.fieldLinkNest "WireHosts$Endpoint" (130 : Nat) "WireHosts$Receiving" "rcv" "I" "WireHosts")]
theorem tv_0 : (Cond.fieldLinkNest "WireHosts$Host" (147 : Nat) "WireHosts$Link" "line" "LWireHosts$Rows;" "WireHosts") ∈ tb_nl := List.mem_of_getElem? (i := 0) rfl
theorem tv_1 : (Cond.fieldLinkNest "WireHosts$Host" (144 : Nat) "WireHosts$Link" "knownFor" "I" "WireHosts") ∈ tb_nl := List.mem_of_getElem? (i := 1) rfl
theorem tv_2 : (Cond.fieldLinkNest "WireHosts$Host" (159 : Nat) "WireHosts$Link" "station" "I" "WireHosts") ∈ tb_nl := List.mem_of_getElem? (i := 2) rfl
theorem tv_3 : (Cond.fieldLinkNest "WireHosts$Host" (156 : Nat) "WireHosts$Link" "askTimer" "I" "WireHosts") ∈ tb_nl := List.mem_of_getElem? (i := 3) rfl
theorem tv_4 : (Cond.fieldLinkNest "WireHosts$Pieces" (45 : Nat) "WireHosts$Slot" "bytes" "[I" "WireHosts") ∈ tb_nl := List.mem_of_getElem? (i := 4) rfl
theorem tv_5 : (Cond.fieldLinkNest "WireHosts$Pieces" (51 : Nat) "WireHosts$Slot" "used" "Z" "WireHosts") ∈ tb_nl := List.mem_of_getElem? (i := 5) rfl
theorem tv_6 : (Cond.fieldLinkNest "WireHosts$Pieces" (48 : Nat) "WireHosts$Slot" "protocol" "I" "WireHosts") ∈ tb_nl := List.mem_of_getElem? (i := 6) rfl
theorem tv_7 : (Cond.fieldLinkNest "WireHosts$Pieces" (79 : Nat) "WireHosts$Slot" "age" "I" "WireHosts") ∈ tb_nl := List.mem_of_getElem? (i := 7) rfl
theorem tv_8 : (Cond.fieldLinkNest "WireHosts$Pieces" (37 : Nat) "WireHosts$Slot" "whole" "I" "WireHosts") ∈ tb_nl := List.mem_of_getElem? (i := 8) rfl
theorem tv_9 : (Cond.fieldLinkNest "WireHosts$Host" (99 : Nat) "WireHosts$Pieces" "size" "I" "WireHosts") ∈ tb_nl := List.mem_of_getElem? (i := 9) rfl
theorem tv_10 : (Cond.fieldLinkNest "WireHosts$Host" (96 : Nat) "WireHosts$Pieces" "protocol" "I" "WireHosts") ∈ tb_nl := List.mem_of_getElem? (i := 10) rfl
theorem tv_11 : (Cond.fieldLinkNest "WireHosts$Receiving" (53 : Nat) "WireHosts$Segment" "dataCount" "I" "WireHosts") ∈ tb_nl := List.mem_of_getElem? (i := 11) rfl
theorem tv_12 : (Cond.fieldLinkNest "WireHosts$Host" (113 : Nat) "WireHosts$Segment" "number" "I" "WireHosts") ∈ tb_nl := List.mem_of_getElem? (i := 12) rfl
theorem tv_13 : (Cond.fieldLinkNest "WireHosts$Receiving" (43 : Nat) "WireHosts$Segment" "seq" "I" "WireHosts") ∈ tb_nl := List.mem_of_getElem? (i := 13) rfl
theorem tv_14 : (Cond.fieldLinkNest "WireHosts$Endpoint" (186 : Nat) "WireHosts$Segment" "seq" "I" "WireHosts") ∈ tb_nl := List.mem_of_getElem? (i := 14) rfl
theorem tv_15 : (Cond.fieldLinkNest "WireHosts$Endpoint" (183 : Nat) "WireHosts$Segment" "ack" "I" "WireHosts") ∈ tb_nl := List.mem_of_getElem? (i := 15) rfl
theorem tv_16 : (Cond.fieldLinkNest "WireHosts$Endpoint" (195 : Nat) "WireHosts$Segment" "window" "I" "WireHosts") ∈ tb_nl := List.mem_of_getElem? (i := 16) rfl
theorem tv_17 : (Cond.fieldLinkNest "WireHosts$Endpoint" (136 : Nat) "WireHosts$Sending" "count" "I" "WireHosts") ∈ tb_nl := List.mem_of_getElem? (i := 17) rfl
theorem tv_18 : (Cond.fieldLinkNest "WireHosts$Endpoint" (54 : Nat) "WireHosts$Sending" "first" "I" "WireHosts") ∈ tb_nl := List.mem_of_getElem? (i := 18) rfl
theorem tv_19 : (Cond.fieldLinkNest "WireHosts$Endpoint" (127 : Nat) "WireHosts$Sending" "una" "I" "WireHosts") ∈ tb_nl := List.mem_of_getElem? (i := 19) rfl
theorem tv_20 : (Cond.fieldLinkNest "WireHosts$Endpoint" (94 : Nat) "WireHosts$Sending" "nxt" "I" "WireHosts") ∈ tb_nl := List.mem_of_getElem? (i := 20) rfl
theorem tv_21 : (Cond.fieldLinkNest "WireHosts$Endpoint" (133 : Nat) "WireHosts$Sending" "window" "I" "WireHosts") ∈ tb_nl := List.mem_of_getElem? (i := 21) rfl
theorem tv_22 : (Cond.fieldLinkNest "WireHosts$Endpoint" (65 : Nat) "WireHosts$Sending" "ending" "Z" "WireHosts") ∈ tb_nl := List.mem_of_getElem? (i := 22) rfl
theorem tv_23 : (Cond.fieldLinkNest "WireHosts$Endpoint" (139 : Nat) "WireHosts$Receiving" "count" "I" "WireHosts") ∈ tb_nl := List.mem_of_getElem? (i := 23) rfl
theorem tv_24 : (Cond.fieldLinkNest "WireHosts$Endpoint" (130 : Nat) "WireHosts$Receiving" "rcv" "I" "WireHosts") ∈ tb_nl := List.mem_of_getElem? (i := 24) rfl
def tb_isN (w : Cond) : Bool := match w with
  | .fieldLinkNest .. => true
  | _ => false
theorem tb_nlN : tb_nl.all tb_isN = true := rfl
def tb_ml : List (MethodName × ByteArray × Nat × Option FieldType) := [
  (({ cls := "WireHosts", name := "<init>", desc := "()V" } : MethodName), prog_1_method_1_code, 3, (Option.none : Option FieldType)),
  (({ cls := "java/lang/Object", name := "<init>", desc := "()V" } : MethodName), object_method_1_code, 1, (Option.none : Option FieldType)),
  (({ cls := "WireHosts$Rows", name := "<init>", desc := "(II)V" } : MethodName), prog_8_method_1_code, 3, (Option.none : Option FieldType)),
  (({ cls := "WireHosts$Host", name := "<init>", desc := "(ILWireHosts$Rows;)V" } : MethodName), prog_3_method_1_code, 5, (Option.none : Option FieldType)),
  (({ cls := "WireHosts$Link", name := "<init>", desc := "(ILWireHosts$Rows;)V" } : MethodName), prog_4_method_1_code, 3, (Option.none : Option FieldType)),
  (({ cls := "WireHosts$Pieces", name := "<init>", desc := "([I)V" } : MethodName), prog_6_method_1_code, 2, (Option.none : Option FieldType)),
  (({ cls := "WireHosts$Slot", name := "<init>", desc := "()V" } : MethodName), prog_11_method_1_code, 1, (Option.none : Option FieldType)),
  (({ cls := "WireHosts$Segment", name := "<init>", desc := "([I)V" } : MethodName), prog_9_method_1_code, 2, (Option.none : Option FieldType)),
  (({ cls := "WireHosts$Endpoint", name := "<init>", desc := "(IILWireHosts$Rows;)V" } : MethodName), prog_2_method_1_code, 4, (Option.none : Option FieldType)),
  (({ cls := "WireHosts$Sending", name := "<init>", desc := "()V" } : MethodName), prog_10_method_1_code, 1, (Option.none : Option FieldType)),
  (({ cls := "WireHosts$Receiving", name := "<init>", desc := "()V" } : MethodName), prog_7_method_1_code, 1, (Option.none : Option FieldType)),
  (({ cls := "java/util/Arrays", name := "fill", desc := "([II)V" } : MethodName), prog_16_method_103_code, 4, (Option.none : Option FieldType)),
  (({ cls := "WireHosts", name := "listen", desc := "(II)Z" } : MethodName), prog_1_method_2_code, 4, (Option.some FieldType.boolean)),
  (({ cls := "WireHosts", name := "endpointAt", desc := "(II)LWireHosts$Endpoint;" } : MethodName), prog_1_method_18_code, 3, (Option.some (FieldType.object "WireHosts$Endpoint"))),
  (({ cls := "WireHosts", name := "isHost", desc := "(I)Z" } : MethodName), prog_1_method_17_code, 2, (Option.some FieldType.boolean)),
  (({ cls := "WireHosts$Host", name := "endpointAt", desc := "(I)LWireHosts$Endpoint;" } : MethodName), prog_3_method_2_code, 2, (Option.some (FieldType.object "WireHosts$Endpoint"))),
  (({ cls := "WireHosts$Endpoint", name := "startListening", desc := "()Z" } : MethodName), prog_2_method_2_code, 1, (Option.some FieldType.boolean)),
  (({ cls := "WireHosts", name := "connect", desc := "(II)Z" } : MethodName), prog_1_method_3_code, 4, (Option.some FieldType.boolean)),
  (({ cls := "WireHosts$Endpoint", name := "startConnecting", desc := "(I)Z" } : MethodName), prog_2_method_3_code, 2, (Option.some FieldType.boolean)),
  (({ cls := "WireHosts$Endpoint", name := "begin", desc := "(I)V" } : MethodName), prog_2_method_13_code, 2, (Option.none : Option FieldType)),
  (({ cls := "WireHosts$Sending", name := "begin", desc := "(I)V" } : MethodName), prog_10_method_3_code, 2, (Option.none : Option FieldType)),
  (({ cls := "WireHosts$Endpoint", name := "emit", desc := "(II)V" } : MethodName), prog_2_method_31_code, 3, (Option.none : Option FieldType)),
  (({ cls := "WireHosts$Endpoint", name := "emitWhole", desc := "(IIIII)V" } : MethodName), prog_2_method_32_code, 9, (Option.none : Option FieldType)),
  (({ cls := "WireHosts$Numbers", name := "putPair", desc := "([III)V" } : MethodName), prog_5_method_3_code, 3, (Option.none : Option FieldType)),
  (({ cls := "WireHosts$Receiving", name := "room", desc := "()I" } : MethodName), prog_7_method_3_code, 1, (Option.some FieldType.int)),
  (({ cls := "WireHosts$Sending", name := "copyTo", desc := "([IIII)V" } : MethodName), prog_10_method_14_code, 5, (Option.none : Option FieldType)),
  (({ cls := "WireHosts$Link", name := "addressOf", desc := "(I)I" } : MethodName), prog_4_method_2_code, 1, (Option.some FieldType.int)),
  (({ cls := "WireHosts$Segment", name := "startOfCheck", desc := "(III)I" } : MethodName), prog_9_method_2_code, 3, (Option.some FieldType.int)),
  (({ cls := "WireHosts$Numbers", name := "check", desc := "(I[III)I" } : MethodName), prog_5_method_4_code, 6, (Option.some FieldType.int)),
  (({ cls := "WireHosts$Rows", name := "add", desc := "([II)V" } : MethodName), prog_8_method_5_code, 3, (Option.none : Option FieldType)),
  (({ cls := "WireHosts$Host", name := "sendOut", desc := "()Z" } : MethodName), prog_3_method_6_code, 5, (Option.some FieldType.boolean)),
  (({ cls := "WireHosts$Rows", name := "count", desc := "()I" } : MethodName), prog_8_method_2_code, 1, (Option.some FieldType.int)),
  (({ cls := "WireHosts$Rows", name := "takeFirst", desc := "([II)I" } : MethodName), prog_8_method_6_code, 4, (Option.some FieldType.int)),
  (({ cls := "WireHosts$Rows", name := "dropFirst", desc := "()V" } : MethodName), prog_8_method_7_code, 1, (Option.none : Option FieldType)),
  (({ cls := "java/lang/Math", name := "min", desc := "(II)I" } : MethodName), prog_14_method_69_code, 2, (Option.some FieldType.int)),
  (({ cls := "WireHosts$Host", name := "sendPacket", desc := "(IIZ)V" } : MethodName), prog_3_method_12_code, 4, (Option.none : Option FieldType)),
  (({ cls := "WireHosts$Link", name := "sendPacket", desc := "([II)V" } : MethodName), prog_4_method_4_code, 3, (Option.none : Option FieldType)),
  (({ cls := "WireHosts$Link", name := "sendFrame", desc := "(III)V" } : MethodName), prog_4_method_9_code, 4, (Option.none : Option FieldType)),
  (({ cls := "WireHosts$Link", name := "sendAsk", desc := "(II)V" } : MethodName), prog_4_method_8_code, 3, (Option.none : Option FieldType)),
  (({ cls := "WireHosts", name := "send", desc := "(III)Z" } : MethodName), prog_1_method_4_code, 5, (Option.some FieldType.boolean)),
  (({ cls := "WireHosts$Endpoint", name := "offerByte", desc := "(I)Z" } : MethodName), prog_2_method_4_code, 2, (Option.some FieldType.boolean)),
  (({ cls := "WireHosts$Endpoint", name := "isSendingState", desc := "()Z" } : MethodName), prog_2_method_11_code, 1, (Option.some FieldType.boolean)),
  (({ cls := "WireHosts$Sending", name := "isFull", desc := "()Z" } : MethodName), prog_10_method_4_code, 1, (Option.some FieldType.boolean)),
  (({ cls := "WireHosts$Sending", name := "add", desc := "(I)V" } : MethodName), prog_10_method_5_code, 2, (Option.none : Option FieldType)),
  (({ cls := "WireHosts$Endpoint", name := "push", desc := "()V" } : MethodName), prog_2_method_15_code, 1, (Option.none : Option FieldType)),
  (({ cls := "WireHosts$Endpoint", name := "pushBytes", desc := "()V" } : MethodName), prog_2_method_16_code, 3, (Option.none : Option FieldType)),
  (({ cls := "WireHosts$Sending", name := "sendableCount", desc := "()I" } : MethodName), prog_10_method_9_code, 3, (Option.some FieldType.int)),
  (({ cls := "WireHosts$Sending", name := "sentCount", desc := "()I" } : MethodName), prog_10_method_7_code, 1, (Option.some FieldType.int)),
  (({ cls := "WireHosts$Sending", name := "countSent", desc := "(I)V" } : MethodName), prog_10_method_6_code, 2, (Option.none : Option FieldType)),
  (({ cls := "WireHosts$Sending", name := "unsentCount", desc := "()I" } : MethodName), prog_10_method_8_code, 1, (Option.some FieldType.int)),
  (({ cls := "WireHosts$Sending", name := "isAllConfirmed", desc := "()Z" } : MethodName), prog_10_method_13_code, 1, (Option.some FieldType.boolean)),
  (({ cls := "WireHosts", name := "read", desc := "(II)I" } : MethodName), prog_1_method_5_code, 5, (Option.some FieldType.int)),
  (({ cls := "WireHosts$Endpoint", name := "takeByte", desc := "()I" } : MethodName), prog_2_method_5_code, 3, (Option.some FieldType.int)),
  (({ cls := "WireHosts$Receiving", name := "takeFirst", desc := "()I" } : MethodName), prog_7_method_8_code, 2, (Option.some FieldType.int)),
  (({ cls := "WireHosts$Endpoint", name := "isReceivingState", desc := "()Z" } : MethodName), prog_2_method_12_code, 1, (Option.some FieldType.boolean)),
  (({ cls := "WireHosts$Endpoint", name := "emitAck", desc := "()V" } : MethodName), prog_2_method_30_code, 1, (Option.none : Option FieldType)),
  (({ cls := "WireHosts", name := "close", desc := "(II)Z" } : MethodName), prog_1_method_6_code, 4, (Option.some FieldType.boolean)),
  (({ cls := "WireHosts$Endpoint", name := "startEnding", desc := "()Z" } : MethodName), prog_2_method_6_code, 1, (Option.some FieldType.boolean)),
  (({ cls := "WireHosts$Endpoint", name := "shut", desc := "()V" } : MethodName), prog_2_method_14_code, 1, (Option.none : Option FieldType)),
  (({ cls := "WireHosts$Sending", name := "clear", desc := "()V" } : MethodName), prog_10_method_2_code, 1, (Option.none : Option FieldType)),
  (({ cls := "WireHosts$Receiving", name := "clear", desc := "()V" } : MethodName), prog_7_method_2_code, 1, (Option.none : Option FieldType)),
  (({ cls := "WireHosts", name := "abort", desc := "(II)Z" } : MethodName), prog_1_method_7_code, 4, (Option.some FieldType.boolean)),
  (({ cls := "WireHosts$Endpoint", name := "breakOff", desc := "()Z" } : MethodName), prog_2_method_7_code, 1, (Option.some FieldType.boolean)),
  (({ cls := "WireHosts", name := "ping", desc := "(III)Z" } : MethodName), prog_1_method_8_code, 4, (Option.some FieldType.boolean)),
  (({ cls := "WireHosts$Host", name := "askEcho", desc := "(II)Z" } : MethodName), prog_3_method_3_code, 4, (Option.some FieldType.boolean)),
  (({ cls := "WireHosts$Host", name := "leaveEcho", desc := "(I)V" } : MethodName), prog_3_method_11_code, 2, (Option.none : Option FieldType)),
  (({ cls := "WireHosts", name := "carry", desc := "(I)I" } : MethodName), prog_1_method_9_code, 3, (Option.some FieldType.int)),
  (({ cls := "WireHosts", name := "flying", desc := "(I)I" } : MethodName), prog_1_method_13_code, 2, (Option.some FieldType.int)),
  (({ cls := "WireHosts$Rows", name := "at", desc := "(II)I" } : MethodName), prog_8_method_4_code, 3, (Option.some FieldType.int)),
  (({ cls := "WireHosts$Rows", name := "sizeOf", desc := "(I)I" } : MethodName), prog_8_method_3_code, 2, (Option.some FieldType.int)),
  (({ cls := "WireHosts$Host", name := "takeFrame", desc := "(LWireHosts$Rows;)Z" } : MethodName), prog_3_method_4_code, 3, (Option.some FieldType.boolean)),
  (({ cls := "WireHosts$Link", name := "isForMe", desc := "(I)Z" } : MethodName), prog_4_method_3_code, 2, (Option.some FieldType.boolean)),
  (({ cls := "WireHosts$Link", name := "takeAsk", desc := "([II)V" } : MethodName), prog_4_method_5_code, 5, (Option.none : Option FieldType)),
  (({ cls := "WireHosts$Link", name := "isRightAsk", desc := "([II)Z" } : MethodName), prog_4_method_7_code, 3, (Option.some FieldType.boolean)),
  (({ cls := "WireHosts$Host", name := "takePacket", desc := "(I)Z" } : MethodName), prog_3_method_9_code, 2, (Option.some FieldType.boolean)),
  (({ cls := "WireHosts$Pieces", name := "takePacket", desc := "([II)Z" } : MethodName), prog_6_method_2_code, 8, (Option.some FieldType.boolean)),
  (({ cls := "WireHosts$Pieces", name := "keepMessage", desc := "([IIII)V" } : MethodName), prog_6_method_5_code, 5, (Option.none : Option FieldType)),
  (({ cls := "WireHosts$Pieces", name := "slotFor", desc := "(II)LWireHosts$Slot;" } : MethodName), prog_6_method_6_code, 4, (Option.some (FieldType.object "WireHosts$Slot"))),
  (({ cls := "WireHosts$Slot", name := "holds", desc := "(II)Z" } : MethodName), prog_11_method_2_code, 3, (Option.some FieldType.boolean)),
  (({ cls := "WireHosts$Pieces", name := "slotToBegin", desc := "()LWireHosts$Slot;" } : MethodName), prog_6_method_7_code, 1, (Option.some (FieldType.object "WireHosts$Slot"))),
  (({ cls := "WireHosts$Slot", name := "begin", desc := "(II)V" } : MethodName), prog_11_method_3_code, 3, (Option.none : Option FieldType)),
  (({ cls := "WireHosts$Slot", name := "put", desc := "(II)V" } : MethodName), prog_11_method_4_code, 3, (Option.none : Option FieldType)),
  (({ cls := "WireHosts$Slot", name := "isWhole", desc := "()Z" } : MethodName), prog_11_method_5_code, 2, (Option.some FieldType.boolean)),
  (({ cls := "WireHosts$Host", name := "takeMessage", desc := "(I)V" } : MethodName), prog_3_method_5_code, 3, (Option.none : Option FieldType)),
  (({ cls := "WireHosts$Host", name := "takeEcho", desc := "(I)V" } : MethodName), prog_3_method_10_code, 2, (Option.none : Option FieldType)),
  (({ cls := "WireHosts$Segment", name := "isRight", desc := "(III)Z" } : MethodName), prog_9_method_3_code, 4, (Option.some FieldType.boolean)),
  (({ cls := "WireHosts$Numbers", name := "pairAt", desc := "([II)I" } : MethodName), prog_5_method_2_code, 2, (Option.some FieldType.int)),
  (({ cls := "WireHosts$Endpoint", name := "takeSegment", desc := "(LWireHosts$Segment;I)V" } : MethodName), prog_2_method_9_code, 3, (Option.none : Option FieldType)),
  (({ cls := "WireHosts$Endpoint", name := "answerWhenClosed", desc := "(LWireHosts$Segment;)V" } : MethodName), prog_2_method_19_code, 2, (Option.none : Option FieldType)),
  (({ cls := "WireHosts$Segment", name := "has", desc := "(I)Z" } : MethodName), prog_9_method_4_code, 2, (Option.some FieldType.boolean)),
  (({ cls := "WireHosts$Segment", name := "length", desc := "()I" } : MethodName), prog_9_method_5_code, 1, (Option.some FieldType.int)),
  (({ cls := "WireHosts$Endpoint", name := "answerWhenListening", desc := "(LWireHosts$Segment;I)V" } : MethodName), prog_2_method_20_code, 3, (Option.none : Option FieldType)),
  (({ cls := "WireHosts$Receiving", name := "startAfter", desc := "(I)V" } : MethodName), prog_7_method_4_code, 2, (Option.none : Option FieldType)),
  (({ cls := "WireHosts$Endpoint", name := "answerWhenSynSent", desc := "(LWireHosts$Segment;)V" } : MethodName), prog_2_method_21_code, 2, (Option.none : Option FieldType)),
  (({ cls := "WireHosts$Sending", name := "confirm", desc := "(I)V" } : MethodName), prog_10_method_12_code, 3, (Option.none : Option FieldType)),
  (({ cls := "WireHosts$Endpoint", name := "restartTimer", desc := "()V" } : MethodName), prog_2_method_25_code, 1, (Option.none : Option FieldType)),
  (({ cls := "WireHosts$Endpoint", name := "isAdmitted", desc := "(LWireHosts$Segment;)Z" } : MethodName), prog_2_method_22_code, 2, (Option.some FieldType.boolean)),
  (({ cls := "WireHosts$Receiving", name := "fits", desc := "(LWireHosts$Segment;)Z" } : MethodName), prog_7_method_5_code, 3, (Option.some FieldType.boolean)),
  (({ cls := "WireHosts$Receiving", name := "isNear", desc := "(II)Z" } : MethodName), prog_7_method_9_code, 3, (Option.some FieldType.boolean)),
  (({ cls := "WireHosts$Endpoint", name := "isOpenFor", desc := "(LWireHosts$Segment;)Z" } : MethodName), prog_2_method_23_code, 2, (Option.some FieldType.boolean)),
  (({ cls := "WireHosts$Endpoint", name := "takeConfirmation", desc := "(LWireHosts$Segment;)Z" } : MethodName), prog_2_method_24_code, 2, (Option.some FieldType.boolean)),
  (({ cls := "WireHosts$Sending", name := "confirms", desc := "(I)Z" } : MethodName), prog_10_method_10_code, 3, (Option.some FieldType.boolean)),
  (({ cls := "WireHosts$Sending", name := "isAhead", desc := "(I)Z" } : MethodName), prog_10_method_11_code, 3, (Option.some FieldType.boolean)),
  (({ cls := "WireHosts$Endpoint", name := "allIsConfirmed", desc := "()V" } : MethodName), prog_2_method_26_code, 1, (Option.none : Option FieldType)),
  (({ cls := "WireHosts$Endpoint", name := "startTime", desc := "()V" } : MethodName), prog_2_method_27_code, 1, (Option.none : Option FieldType)),
  (({ cls := "WireHosts$Endpoint", name := "takeContents", desc := "(LWireHosts$Segment;)V" } : MethodName), prog_2_method_28_code, 2, (Option.none : Option FieldType)),
  (({ cls := "WireHosts$Receiving", name := "keep", desc := "(LWireHosts$Segment;)V" } : MethodName), prog_7_method_6_code, 5, (Option.none : Option FieldType)),
  (({ cls := "WireHosts$Segment", name := "dataAt", desc := "(I)I" } : MethodName), prog_9_method_6_code, 2, (Option.some FieldType.int)),
  (({ cls := "WireHosts$Receiving", name := "advance", desc := "()Z" } : MethodName), prog_7_method_7_code, 3, (Option.some FieldType.boolean)),
  (({ cls := "WireHosts$Endpoint", name := "otherIsAtEnd", desc := "()V" } : MethodName), prog_2_method_29_code, 1, (Option.none : Option FieldType)),
  (({ cls := "WireHosts", name := "disturb", desc := "(II)Z" } : MethodName), prog_1_method_10_code, 3, (Option.some FieldType.boolean)),
  (({ cls := "WireHosts$Rows", name := "putFirstLast", desc := "()V" } : MethodName), prog_8_method_8_code, 1, (Option.none : Option FieldType)),
  (({ cls := "WireHosts$Rows", name := "copyFirstToEnd", desc := "()V" } : MethodName), prog_8_method_11_code, 1, (Option.none : Option FieldType)),
  (({ cls := "WireHosts$Rows", name := "copyFirstBehind", desc := "()Z" } : MethodName), prog_8_method_9_code, 1, (Option.some FieldType.boolean)),
  (({ cls := "WireHosts", name := "alter", desc := "(III)Z" } : MethodName), prog_1_method_11_code, 4, (Option.some FieldType.boolean)),
  (({ cls := "WireHosts$Rows", name := "alterFirst", desc := "(II)Z" } : MethodName), prog_8_method_10_code, 3, (Option.some FieldType.boolean)),
  (({ cls := "WireHosts", name := "tick", desc := "(I)I" } : MethodName), prog_1_method_12_code, 7, (Option.some FieldType.int)),
  (({ cls := "WireHosts$Host", name := "passTick", desc := "()V" } : MethodName), prog_3_method_7_code, 1, (Option.none : Option FieldType)),
  (({ cls := "WireHosts$Link", name := "passTick", desc := "()V" } : MethodName), prog_4_method_6_code, 1, (Option.none : Option FieldType)),
  (({ cls := "WireHosts$Pieces", name := "passTick", desc := "()V" } : MethodName), prog_6_method_4_code, 1, (Option.none : Option FieldType)),
  (({ cls := "WireHosts$Slot", name := "passTick", desc := "()V" } : MethodName), prog_11_method_6_code, 1, (Option.none : Option FieldType)),
  (({ cls := "WireHosts$Endpoint", name := "passTick", desc := "()V" } : MethodName), prog_2_method_8_code, 1, (Option.none : Option FieldType)),
  (({ cls := "WireHosts$Endpoint", name := "timeIsOver", desc := "()V" } : MethodName), prog_2_method_17_code, 1, (Option.none : Option FieldType)),
  (({ cls := "WireHosts$Endpoint", name := "sendAgain", desc := "()V" } : MethodName), prog_2_method_18_code, 2, (Option.none : Option FieldType)),
  (({ cls := "WireHosts", name := "octet", desc := "(III)I" } : MethodName), prog_1_method_14_code, 4, (Option.some FieldType.int)),
  (({ cls := "WireHosts", name := "socket", desc := "(III)I" } : MethodName), prog_1_method_15_code, 5, (Option.some FieldType.int)),
  (({ cls := "WireHosts$Endpoint", name := "about", desc := "(I)I" } : MethodName), prog_2_method_10_code, 2, (Option.some FieldType.int)),
  (({ cls := "WireHosts", name := "host", desc := "(II)I" } : MethodName), prog_1_method_16_code, 3, (Option.some FieldType.int)),
  (({ cls := "WireHosts$Host", name := "about", desc := "(I)I" } : MethodName), prog_3_method_8_code, 2, (Option.some FieldType.int)),
  (({ cls := "WireHosts$Pieces", name := "slotsInUse", desc := "()I" } : MethodName), prog_6_method_3_code, 1, (Option.some FieldType.int)),
  (({ cls := "WireHostsModel", name := "<init>", desc := "()V" } : MethodName), prog_13_method_1_code, 1, (Option.none : Option FieldType)),
  (({ cls := "WireHostsModel", name := "ping", desc := "(III)Z" } : MethodName), prog_13_method_22_code, 5, (Option.some FieldType.boolean)),
  (({ cls := "WireHostsModel", name := "isHost", desc := "(I)Z" } : MethodName), prog_13_method_5_code, 1, (Option.some FieldType.boolean)),
  (({ cls := "WireHostsModel", name := "sendEcho", desc := "(II)V" } : MethodName), prog_13_method_20_code, 4, (Option.none : Option FieldType)),
  (({ cls := "WireHostsModel", name := "copyRow", desc := "([II)V" } : MethodName), prog_13_method_3_code, 4, (Option.none : Option FieldType)),
  (({ cls := "WireHostsModel", name := "check", desc := "()I" } : MethodName), prog_13_method_2_code, 3, (Option.some FieldType.int)),
  (({ cls := "WireHostsModel", name := "sends", desc := "(II)V" } : MethodName), prog_13_method_14_code, 3, (Option.none : Option FieldType)),
  (({ cls := "WireHostsModel", name := "part", desc := "(IIIIZ)V" } : MethodName), prog_13_method_13_code, 8, (Option.none : Option FieldType)),
  (({ cls := "WireHostsModel", name := "sendPacket", desc := "(I)V" } : MethodName), prog_13_method_12_code, 4, (Option.none : Option FieldType)),
  (({ cls := "WireHostsModel", name := "goes", desc := "(I)V" } : MethodName), prog_13_method_11_code, 4, (Option.none : Option FieldType)),
  (({ cls := "WireHostsModel", name := "fly", desc := "(I)V" } : MethodName), prog_13_method_8_code, 5, (Option.none : Option FieldType)),
  (({ cls := "WireHostsModel", name := "asks", desc := "(III)V" } : MethodName), prog_13_method_10_code, 4, (Option.none : Option FieldType)),
  (({ cls := "WireHostsModel", name := "listen", desc := "(II)Z" } : MethodName), prog_13_method_44_code, 3, (Option.some FieldType.boolean)),
  (({ cls := "WireHostsModel", name := "isSocket", desc := "(II)Z" } : MethodName), prog_13_method_6_code, 2, (Option.some FieldType.boolean)),
  (({ cls := "WireHostsModel", name := "at", desc := "(II)I" } : MethodName), prog_13_method_7_code, 2, (Option.some FieldType.int)),
  (({ cls := "WireHostsModel", name := "fresh", desc := "(I)V" } : MethodName), prog_13_method_28_code, 3, (Option.none : Option FieldType)),
  (({ cls := "WireHostsModel", name := "connect", desc := "(II)Z" } : MethodName), prog_13_method_45_code, 4, (Option.some FieldType.boolean)),
  (({ cls := "WireHostsModel", name := "begins", desc := "(I)V" } : MethodName), prog_13_method_30_code, 2, (Option.none : Option FieldType)),
  (({ cls := "WireHostsModel", name := "go", desc := "(III)V" } : MethodName), prog_13_method_27_code, 4, (Option.none : Option FieldType)),
  (({ cls := "WireHostsModel", name := "segmentGoes", desc := "(IIIIII)V" } : MethodName), prog_13_method_26_code, 9, (Option.none : Option FieldType)),
  (({ cls := "WireHostsModel", name := "put", desc := "(II)V" } : MethodName), prog_13_method_25_code, 3, (Option.none : Option FieldType)),
  (({ cls := "WireHostsModel", name := "room", desc := "(I)I" } : MethodName), prog_13_method_24_code, 2, (Option.some FieldType.int)),
  (({ cls := "WireHostsModel", name := "segmentRow", desc := "(II)V" } : MethodName), prog_13_method_23_code, 4, (Option.none : Option FieldType)),
  (({ cls := "WireHostsModel", name := "send", desc := "(III)Z" } : MethodName), prog_13_method_46_code, 5, (Option.some FieldType.boolean)),
  (({ cls := "WireHostsModel", name := "push", desc := "(I)V" } : MethodName), prog_13_method_32_code, 5, (Option.none : Option FieldType)),
  (({ cls := "WireHostsModel", name := "sent", desc := "(I)I" } : MethodName), prog_13_method_31_code, 3, (Option.some FieldType.int)),
  (({ cls := "WireHostsModel", name := "less", desc := "(II)I" } : MethodName), prog_13_method_4_code, 2, (Option.some FieldType.int)),
  (({ cls := "WireHostsModel", name := "read", desc := "(II)I" } : MethodName), prog_13_method_47_code, 7, (Option.some FieldType.int)),
  (({ cls := "WireHostsModel", name := "close", desc := "(II)Z" } : MethodName), prog_13_method_48_code, 4, (Option.some FieldType.boolean)),
  (({ cls := "WireHostsModel", name := "closes", desc := "(I)V" } : MethodName), prog_13_method_29_code, 2, (Option.none : Option FieldType)),
  (({ cls := "WireHostsModel", name := "abort", desc := "(II)Z" } : MethodName), prog_13_method_49_code, 4, (Option.some FieldType.boolean)),
  (({ cls := "WireHostsModel", name := "carry", desc := "(I)I" } : MethodName), prog_13_method_51_code, 4, (Option.some FieldType.int)),
  (({ cls := "WireHostsModel", name := "any", desc := "(I)Z" } : MethodName), prog_13_method_50_code, 2, (Option.some FieldType.boolean)),
  (({ cls := "WireHostsModel", name := "land", desc := "(I)V" } : MethodName), prog_13_method_9_code, 4, (Option.none : Option FieldType)),
  (({ cls := "WireHostsModel", name := "asked", desc := "(I)V" } : MethodName), prog_13_method_15_code, 6, (Option.none : Option FieldType)),
  (({ cls := "WireHostsModel", name := "came", desc := "(I)V" } : MethodName), prog_13_method_16_code, 4, (Option.none : Option FieldType)),
  (({ cls := "WireHostsModel", name := "arrives", desc := "(II)V" } : MethodName), prog_13_method_19_code, 3, (Option.none : Option FieldType)),
  (({ cls := "WireHostsModel", name := "echo", desc := "(I)V" } : MethodName), prog_13_method_21_code, 2, (Option.none : Option FieldType)),
  (({ cls := "WireHostsModel", name := "segment", desc := "(I)V" } : MethodName), prog_13_method_34_code, 3, (Option.none : Option FieldType)),
  (({ cls := "WireHostsModel", name := "has", desc := "(I)Z" } : MethodName), prog_13_method_35_code, 2, (Option.some FieldType.boolean)),
  (({ cls := "WireHostsModel", name := "span", desc := "()I" } : MethodName), prog_13_method_36_code, 1, (Option.some FieldType.int)),
  (({ cls := "WireHostsModel", name := "listens", desc := "(I)V" } : MethodName), prog_13_method_37_code, 2, (Option.none : Option FieldType)),
  (({ cls := "WireHostsModel", name := "awaits", desc := "(I)V" } : MethodName), prog_13_method_38_code, 2, (Option.none : Option FieldType)),
  (({ cls := "WireHostsModel", name := "other", desc := "(I)V" } : MethodName), prog_13_method_40_code, 2, (Option.none : Option FieldType)),
  (({ cls := "WireHostsModel", name := "fits", desc := "(I)Z" } : MethodName), prog_13_method_39_code, 3, (Option.some FieldType.boolean)),
  (({ cls := "WireHostsModel", name := "confirms", desc := "(I)Z" } : MethodName), prog_13_method_41_code, 6, (Option.some FieldType.boolean)),
  (({ cls := "WireHostsModel", name := "ends", desc := "(I)Z" } : MethodName), prog_13_method_42_code, 2, (Option.some FieldType.boolean)),
  (({ cls := "WireHostsModel", name := "takes", desc := "(I)V" } : MethodName), prog_13_method_43_code, 5, (Option.none : Option FieldType)),
  (({ cls := "WireHostsModel", name := "piece", desc := "(II)V" } : MethodName), prog_13_method_18_code, 7, (Option.none : Option FieldType)),
  (({ cls := "WireHostsModel", name := "slotFor", desc := "(I)I" } : MethodName), prog_13_method_17_code, 4, (Option.some FieldType.int)),
  (({ cls := "WireHostsModel", name := "disturb", desc := "(II)Z" } : MethodName), prog_13_method_52_code, 4, (Option.some FieldType.boolean)),
  (({ cls := "WireHostsModel", name := "alter", desc := "(III)Z" } : MethodName), prog_13_method_53_code, 4, (Option.some FieldType.boolean)),
  (({ cls := "WireHostsModel", name := "tick", desc := "(I)I" } : MethodName), prog_13_method_55_code, 3, (Option.some FieldType.int)),
  (({ cls := "WireHostsModel", name := "beats", desc := "(I)V" } : MethodName), prog_13_method_54_code, 3, (Option.none : Option FieldType)),
  (({ cls := "WireHostsModel", name := "due", desc := "(I)V" } : MethodName), prog_13_method_33_code, 2, (Option.none : Option FieldType)),
  (({ cls := "WireHostsModel", name := "flying", desc := "(I)I" } : MethodName), prog_13_method_56_code, 2, (Option.some FieldType.int)),
  (({ cls := "WireHostsModel", name := "octet", desc := "(III)I" } : MethodName), prog_13_method_57_code, 5, (Option.some FieldType.int)),
  (({ cls := "WireHostsModel", name := "socket", desc := "(III)I" } : MethodName), prog_13_method_58_code, 5, (Option.some FieldType.int)),
  (({ cls := "WireHostsModel", name := "host", desc := "(II)I" } : MethodName), prog_13_method_59_code, 3, (Option.some FieldType.int))]
def tb_m (j : Nat) : MethodName × ByteArray × Nat × Option FieldType := tb_ml.getD j (⟨"", "", ""⟩, ⟨#[]⟩, 0, none)
def tT_0 : u_T := fun k => match k with
  | 0 => ("WireHosts", "ways", "[LWireHosts$Rows;", true)
  | 1 => ("WireHosts", "hosts", "[LWireHosts$Host;", true)
  | _ => ("WireHosts", "clock", "I", false)
def tY_0 : Nat → FieldType := fun k => match k with
  | 0 => (.array (.object "WireHosts$Rows"))
  | 1 => (.array (.object "WireHosts$Host"))
  | _ => .int
theorem tn_0 : ∀ a, a < 3 → ∀ b, b < 3 → a ≠ b → (tT_0 a).2.1 ≠ (tT_0 b).2.1 := by decide +kernel
theorem ty_0 : ∀ k, k < 3 → parseFieldDescriptor (tT_0 k).2.2.1 = some (tY_0 k) := by decide +kernel
theorem tx_0 : ∀ k, k < 3 → u_lay "WireHosts" tT_0 k ∈ tb_ws
  | 0, _ => tw_323
  | 1, _ => tw_325
  | 2, _ => tw_327
  | k + 3, h => absurd h (by omega)
theorem tu_0 : ∀ w ∈ u_ws "WireHosts" tT_0 3, w ∈ tb_ws := fun w hw => by
  obtain ⟨k, hk, rfl⟩ := List.mem_map.mp hw
  exact tx_0 k (List.mem_range.mp hk)
def tT_1 : u_T := fun k => match k with
  | 0 => ("WireHosts$Rows", "most", "I", true)
  | 1 => ("WireHosts$Rows", "width", "I", true)
  | 2 => ("WireHosts$Rows", "bytes", "[I", true)
  | 3 => ("WireHosts$Rows", "sizes", "[I", true)
  | _ => ("WireHosts$Rows", "count", "I", false)
def tY_1 : Nat → FieldType := fun k => match k with
  | 0 => .int
  | 1 => .int
  | 2 => (.array .int)
  | 3 => (.array .int)
  | _ => .int
theorem tn_1 : ∀ a, a < 5 → ∀ b, b < 5 → a ≠ b → (tT_1 a).2.1 ≠ (tT_1 b).2.1 := by decide +kernel
theorem ty_1 : ∀ k, k < 5 → parseFieldDescriptor (tT_1 k).2.2.1 = some (tY_1 k) := by decide +kernel
theorem tx_1 : ∀ k, k < 5 → u_lay "WireHosts$Rows" tT_1 k ∈ tb_ws
  | 0, _ => tw_35
  | 1, _ => tw_37
  | 2, _ => tw_39
  | 3, _ => tw_41
  | 4, _ => tw_43
  | k + 5, h => absurd h (by omega)
theorem tu_1 : ∀ w ∈ u_ws "WireHosts$Rows" tT_1 5, w ∈ tb_ws := fun w hw => by
  obtain ⟨k, hk, rfl⟩ := List.mem_map.mp hw
  exact tx_1 k (List.mem_range.mp hk)
def tT_2 : u_T := fun k => match k with
  | 0 => ("WireHosts$Host", "number", "I", true)
  | 1 => ("WireHosts$Host", "link", "LWireHosts$Link;", true)
  | 2 => ("WireHosts$Host", "pieces", "LWireHosts$Pieces;", true)
  | 3 => ("WireHosts$Host", "segment", "LWireHosts$Segment;", true)
  | 4 => ("WireHosts$Host", "one", "LWireHosts$Endpoint;", true)
  | 5 => ("WireHosts$Host", "two", "LWireHosts$Endpoint;", true)
  | 6 => ("WireHosts$Host", "outbox", "LWireHosts$Rows;", true)
  | 7 => ("WireHosts$Host", "message", "[I", true)
  | 8 => ("WireHosts$Host", "frame", "[I", true)
  | 9 => ("WireHosts$Host", "packet", "[I", true)
  | 10 => ("WireHosts$Host", "leaving", "[I", true)
  | 11 => ("WireHosts$Host", "ident", "I", false)
  | 12 => ("WireHosts$Host", "pongs", "I", false)
  | _ => ("WireHosts$Host", "token", "I", false)
def tY_2 : Nat → FieldType := fun k => match k with
  | 0 => .int
  | 1 => (.object "WireHosts$Link")
  | 2 => (.object "WireHosts$Pieces")
  | 3 => (.object "WireHosts$Segment")
  | 4 => (.object "WireHosts$Endpoint")
  | 5 => (.object "WireHosts$Endpoint")
  | 6 => (.object "WireHosts$Rows")
  | 7 => (.array .int)
  | 8 => (.array .int)
  | 9 => (.array .int)
  | 10 => (.array .int)
  | 11 => .int
  | 12 => .int
  | _ => .int
theorem tn_2 : ∀ a, a < 14 → ∀ b, b < 14 → a ≠ b → (tT_2 a).2.1 ≠ (tT_2 b).2.1 := by decide +kernel
theorem ty_2 : ∀ k, k < 14 → parseFieldDescriptor (tT_2 k).2.2.1 = some (tY_2 k) := by decide +kernel
theorem tx_2 : ∀ k, k < 14 → u_lay "WireHosts$Host" tT_2 k ∈ tb_ws
  | 0, _ => tw_291
  | 1, _ => tw_293
  | 2, _ => tw_295
  | 3, _ => tw_297
  | 4, _ => tw_299
  | 5, _ => tw_301
  | 6, _ => tw_303
  | 7, _ => tw_305
  | 8, _ => tw_307
  | 9, _ => tw_309
  | 10, _ => tw_311
  | 11, _ => tw_313
  | 12, _ => tw_315
  | 13, _ => tw_317
  | k + 14, h => absurd h (by omega)
theorem tu_2 : ∀ w ∈ u_ws "WireHosts$Host" tT_2 14, w ∈ tb_ws := fun w hw => by
  obtain ⟨k, hk, rfl⟩ := List.mem_map.mp hw
  exact tx_2 k (List.mem_range.mp hk)
def tT_3 : u_T := fun k => match k with
  | 0 => ("WireHosts$Link", "number", "I", true)
  | 1 => ("WireHosts$Link", "way", "LWireHosts$Rows;", true)
  | 2 => ("WireHosts$Link", "line", "LWireHosts$Rows;", true)
  | 3 => ("WireHosts$Link", "frame", "[I", true)
  | 4 => ("WireHosts$Link", "knownFor", "I", false)
  | 5 => ("WireHosts$Link", "station", "I", false)
  | _ => ("WireHosts$Link", "askTimer", "I", false)
def tY_3 : Nat → FieldType := fun k => match k with
  | 0 => .int
  | 1 => (.object "WireHosts$Rows")
  | 2 => (.object "WireHosts$Rows")
  | 3 => (.array .int)
  | 4 => .int
  | 5 => .int
  | _ => .int
theorem tn_3 : ∀ a, a < 7 → ∀ b, b < 7 → a ≠ b → (tT_3 a).2.1 ≠ (tT_3 b).2.1 := by decide +kernel
theorem ty_3 : ∀ k, k < 7 → parseFieldDescriptor (tT_3 k).2.2.1 = some (tY_3 k) := by decide +kernel
theorem tx_3 : ∀ k, k < 7 → u_lay "WireHosts$Link" tT_3 k ∈ tb_ws
  | 0, _ => tw_76
  | 1, _ => tw_78
  | 2, _ => tw_80
  | 3, _ => tw_82
  | 4, _ => tw_84
  | 5, _ => tw_86
  | 6, _ => tw_88
  | k + 7, h => absurd h (by omega)
theorem tu_3 : ∀ w ∈ u_ws "WireHosts$Link" tT_3 7, w ∈ tb_ws := fun w hw => by
  obtain ⟨k, hk, rfl⟩ := List.mem_map.mp hw
  exact tx_3 k (List.mem_range.mp hk)
def tT_4 : u_T := fun k => match k with
  | 0 => ("WireHosts$Pieces", "first", "LWireHosts$Slot;", true)
  | 1 => ("WireHosts$Pieces", "second", "LWireHosts$Slot;", true)
  | 2 => ("WireHosts$Pieces", "message", "[I", true)
  | 3 => ("WireHosts$Pieces", "size", "I", false)
  | _ => ("WireHosts$Pieces", "protocol", "I", false)
def tY_4 : Nat → FieldType := fun k => match k with
  | 0 => (.object "WireHosts$Slot")
  | 1 => (.object "WireHosts$Slot")
  | 2 => (.array .int)
  | 3 => .int
  | _ => .int
theorem tn_4 : ∀ a, a < 5 → ∀ b, b < 5 → a ≠ b → (tT_4 a).2.1 ≠ (tT_4 b).2.1 := by decide +kernel
theorem ty_4 : ∀ k, k < 5 → parseFieldDescriptor (tT_4 k).2.2.1 = some (tY_4 k) := by decide +kernel
theorem tx_4 : ∀ k, k < 5 → u_lay "WireHosts$Pieces" tT_4 k ∈ tb_ws
  | 0, _ => tw_134
  | 1, _ => tw_136
  | 2, _ => tw_138
  | 3, _ => tw_140
  | 4, _ => tw_142
  | k + 5, h => absurd h (by omega)
theorem tu_4 : ∀ w ∈ u_ws "WireHosts$Pieces" tT_4 5, w ∈ tb_ws := fun w hw => by
  obtain ⟨k, hk, rfl⟩ := List.mem_map.mp hw
  exact tx_4 k (List.mem_range.mp hk)
def tT_5 : u_T := fun k => match k with
  | 0 => ("WireHosts$Slot", "bytes", "[I", true)
  | 1 => ("WireHosts$Slot", "used", "Z", false)
  | 2 => ("WireHosts$Slot", "ident", "I", false)
  | 3 => ("WireHosts$Slot", "protocol", "I", false)
  | 4 => ("WireHosts$Slot", "age", "I", false)
  | _ => ("WireHosts$Slot", "whole", "I", false)
def tY_5 : Nat → FieldType := fun k => match k with
  | 0 => (.array .int)
  | 1 => .boolean
  | 2 => .int
  | 3 => .int
  | 4 => .int
  | _ => .int
theorem tn_5 : ∀ a, a < 6 → ∀ b, b < 6 → a ≠ b → (tT_5 a).2.1 ≠ (tT_5 b).2.1 := by decide +kernel
theorem ty_5 : ∀ k, k < 6 → parseFieldDescriptor (tT_5 k).2.2.1 = some (tY_5 k) := by decide +kernel
theorem tx_5 : ∀ k, k < 6 → u_lay "WireHosts$Slot" tT_5 k ∈ tb_ws
  | 0, _ => tw_114
  | 1, _ => tw_116
  | 2, _ => tw_118
  | 3, _ => tw_120
  | 4, _ => tw_122
  | 5, _ => tw_124
  | k + 6, h => absurd h (by omega)
theorem tu_5 : ∀ w ∈ u_ws "WireHosts$Slot" tT_5 6, w ∈ tb_ws := fun w hw => by
  obtain ⟨k, hk, rfl⟩ := List.mem_map.mp hw
  exact tx_5 k (List.mem_range.mp hk)
def tT_6 : u_T := fun k => match k with
  | 0 => ("WireHosts$Segment", "row", "[I", true)
  | 1 => ("WireHosts$Segment", "dataCount", "I", false)
  | 2 => ("WireHosts$Segment", "number", "I", false)
  | 3 => ("WireHosts$Segment", "flags", "I", false)
  | 4 => ("WireHosts$Segment", "seq", "I", false)
  | 5 => ("WireHosts$Segment", "ack", "I", false)
  | _ => ("WireHosts$Segment", "window", "I", false)
def tY_6 : Nat → FieldType := fun k => match k with
  | 0 => (.array .int)
  | 1 => .int
  | 2 => .int
  | 3 => .int
  | 4 => .int
  | 5 => .int
  | _ => .int
theorem tn_6 : ∀ a, a < 7 → ∀ b, b < 7 → a ≠ b → (tT_6 a).2.1 ≠ (tT_6 b).2.1 := by decide +kernel
theorem ty_6 : ∀ k, k < 7 → parseFieldDescriptor (tT_6 k).2.2.1 = some (tY_6 k) := by decide +kernel
theorem tx_6 : ∀ k, k < 7 → u_lay "WireHosts$Segment" tT_6 k ∈ tb_ws
  | 0, _ => tw_164
  | 1, _ => tw_166
  | 2, _ => tw_168
  | 3, _ => tw_170
  | 4, _ => tw_172
  | 5, _ => tw_174
  | 6, _ => tw_176
  | k + 7, h => absurd h (by omega)
theorem tu_6 : ∀ w ∈ u_ws "WireHosts$Segment" tT_6 7, w ∈ tb_ws := fun w hw => by
  obtain ⟨k, hk, rfl⟩ := List.mem_map.mp hw
  exact tx_6 k (List.mem_range.mp hk)
def tT_7 : u_T := fun k => match k with
  | 0 => ("WireHosts$Endpoint", "hostNumber", "I", true)
  | 1 => ("WireHosts$Endpoint", "number", "I", true)
  | 2 => ("WireHosts$Endpoint", "outbox", "LWireHosts$Rows;", true)
  | 3 => ("WireHosts$Endpoint", "row", "[I", true)
  | 4 => ("WireHosts$Endpoint", "sending", "LWireHosts$Sending;", true)
  | 5 => ("WireHosts$Endpoint", "receiving", "LWireHosts$Receiving;", true)
  | 6 => ("WireHosts$Endpoint", "state", "I", false)
  | 7 => ("WireHosts$Endpoint", "timer", "I", false)
  | 8 => ("WireHosts$Endpoint", "rto", "I", false)
  | _ => ("WireHosts$Endpoint", "tries", "I", false)
def tY_7 : Nat → FieldType := fun k => match k with
  | 0 => .int
  | 1 => .int
  | 2 => (.object "WireHosts$Rows")
  | 3 => (.array .int)
  | 4 => (.object "WireHosts$Sending")
  | 5 => (.object "WireHosts$Receiving")
  | 6 => .int
  | 7 => .int
  | 8 => .int
  | _ => .int
theorem tn_7 : ∀ a, a < 10 → ∀ b, b < 10 → a ≠ b → (tT_7 a).2.1 ≠ (tT_7 b).2.1 := by decide +kernel
theorem ty_7 : ∀ k, k < 10 → parseFieldDescriptor (tT_7 k).2.2.1 = some (tY_7 k) := by decide +kernel
theorem tx_7 : ∀ k, k < 10 → u_lay "WireHosts$Endpoint" tT_7 k ∈ tb_ws
  | 0, _ => tw_256
  | 1, _ => tw_258
  | 2, _ => tw_260
  | 3, _ => tw_262
  | 4, _ => tw_264
  | 5, _ => tw_266
  | 6, _ => tw_268
  | 7, _ => tw_270
  | 8, _ => tw_272
  | 9, _ => tw_274
  | k + 10, h => absurd h (by omega)
theorem tu_7 : ∀ w ∈ u_ws "WireHosts$Endpoint" tT_7 10, w ∈ tb_ws := fun w hw => by
  obtain ⟨k, hk, rfl⟩ := List.mem_map.mp hw
  exact tx_7 k (List.mem_range.mp hk)
def tT_8 : u_T := fun k => match k with
  | 0 => ("WireHosts$Sending", "bytes", "[I", true)
  | 1 => ("WireHosts$Sending", "count", "I", false)
  | 2 => ("WireHosts$Sending", "first", "I", false)
  | 3 => ("WireHosts$Sending", "una", "I", false)
  | 4 => ("WireHosts$Sending", "nxt", "I", false)
  | 5 => ("WireHosts$Sending", "window", "I", false)
  | _ => ("WireHosts$Sending", "ending", "Z", false)
def tY_8 : Nat → FieldType := fun k => match k with
  | 0 => (.array .int)
  | 1 => .int
  | 2 => .int
  | 3 => .int
  | 4 => .int
  | 5 => .int
  | _ => .boolean
theorem tn_8 : ∀ a, a < 7 → ∀ b, b < 7 → a ≠ b → (tT_8 a).2.1 ≠ (tT_8 b).2.1 := by decide +kernel
theorem ty_8 : ∀ k, k < 7 → parseFieldDescriptor (tT_8 k).2.2.1 = some (tY_8 k) := by decide +kernel
theorem tx_8 : ∀ k, k < 7 → u_lay "WireHosts$Sending" tT_8 k ∈ tb_ws
  | 0, _ => tw_204
  | 1, _ => tw_206
  | 2, _ => tw_208
  | 3, _ => tw_210
  | 4, _ => tw_212
  | 5, _ => tw_214
  | 6, _ => tw_216
  | k + 7, h => absurd h (by omega)
theorem tu_8 : ∀ w ∈ u_ws "WireHosts$Sending" tT_8 7, w ∈ tb_ws := fun w hw => by
  obtain ⟨k, hk, rfl⟩ := List.mem_map.mp hw
  exact tx_8 k (List.mem_range.mp hk)
def tT_9 : u_T := fun k => match k with
  | 0 => ("WireHosts$Receiving", "bytes", "[I", true)
  | 1 => ("WireHosts$Receiving", "kept", "[I", true)
  | 2 => ("WireHosts$Receiving", "count", "I", false)
  | 3 => ("WireHosts$Receiving", "rcv", "I", false)
  | _ => ("WireHosts$Receiving", "finNumber", "I", false)
def tY_9 : Nat → FieldType := fun k => match k with
  | 0 => (.array .int)
  | 1 => (.array .int)
  | 2 => .int
  | 3 => .int
  | _ => .int
theorem tn_9 : ∀ a, a < 5 → ∀ b, b < 5 → a ≠ b → (tT_9 a).2.1 ≠ (tT_9 b).2.1 := by decide +kernel
theorem ty_9 : ∀ k, k < 5 → parseFieldDescriptor (tT_9 k).2.2.1 = some (tY_9 k) := by decide +kernel
theorem tx_9 : ∀ k, k < 5 → u_lay "WireHosts$Receiving" tT_9 k ∈ tb_ws
  | 0, _ => tw_235
  | 1, _ => tw_237
  | 2, _ => tw_239
  | 3, _ => tw_241
  | 4, _ => tw_243
  | k + 5, h => absurd h (by omega)
theorem tu_9 : ∀ w ∈ u_ws "WireHosts$Receiving" tT_9 5, w ∈ tb_ws := fun w hw => by
  obtain ⟨k, hk, rfl⟩ := List.mem_map.mp hw
  exact tx_9 k (List.mem_range.mp hk)
def tT_10 : u_T := fun k => match k with
  | 0 => ("WireHostsModel", "clock", "I", false)
  | 1 => ("WireHostsModel", "flying", "[I", true)
  | 2 => ("WireHostsModel", "airSize", "[I", true)
  | 3 => ("WireHostsModel", "air", "[I", true)
  | 4 => ("WireHostsModel", "lined", "[I", true)
  | 5 => ("WireHostsModel", "lineSize", "[I", true)
  | 6 => ("WireHostsModel", "line", "[I", true)
  | 7 => ("WireHostsModel", "askTimer", "[I", true)
  | 8 => ("WireHostsModel", "knownFor", "[I", true)
  | 9 => ("WireHostsModel", "station", "[I", true)
  | 10 => ("WireHostsModel", "ident", "[I", true)
  | 11 => ("WireHostsModel", "pongs", "[I", true)
  | 12 => ("WireHostsModel", "token", "[I", true)
  | 13 => ("WireHostsModel", "used", "[Z", true)
  | 14 => ("WireHostsModel", "slotIdent", "[I", true)
  | 15 => ("WireHostsModel", "slotProtocol", "[I", true)
  | 16 => ("WireHostsModel", "age", "[I", true)
  | 17 => ("WireHostsModel", "whole", "[I", true)
  | 18 => ("WireHostsModel", "slot", "[I", true)
  | 19 => ("WireHostsModel", "filled", "[Z", true)
  | 20 => ("WireHostsModel", "state", "[I", true)
  | 21 => ("WireHostsModel", "first", "[I", true)
  | 22 => ("WireHostsModel", "una", "[I", true)
  | 23 => ("WireHostsModel", "nxt", "[I", true)
  | 24 => ("WireHostsModel", "rcv", "[I", true)
  | 25 => ("WireHostsModel", "win", "[I", true)
  | 26 => ("WireHostsModel", "outs", "[I", true)
  | 27 => ("WireHostsModel", "out", "[I", true)
  | 28 => ("WireHostsModel", "ending", "[Z", true)
  | 29 => ("WireHostsModel", "finSent", "[Z", true)
  | 30 => ("WireHostsModel", "ins", "[I", true)
  | 31 => ("WireHostsModel", "in", "[I", true)
  | 32 => ("WireHostsModel", "early", "[Z", true)
  | 33 => ("WireHostsModel", "kept", "[I", true)
  | 34 => ("WireHostsModel", "finAt", "[I", true)
  | 35 => ("WireHostsModel", "timer", "[I", true)
  | 36 => ("WireHostsModel", "rto", "[I", true)
  | 37 => ("WireHostsModel", "tries", "[I", true)
  | 38 => ("WireHostsModel", "frame", "[I", true)
  | 39 => ("WireHostsModel", "frameSize", "I", false)
  | 40 => ("WireHostsModel", "message", "[I", true)
  | 41 => ("WireHostsModel", "length", "I", false)
  | 42 => ("WireHostsModel", "row", "[I", true)
  | 43 => ("WireHostsModel", "size", "I", false)
  | 44 => ("WireHostsModel", "packet", "[I", true)
  | 45 => ("WireHostsModel", "flags", "I", false)
  | 46 => ("WireHostsModel", "seq", "I", false)
  | 47 => ("WireHostsModel", "ackNumber", "I", false)
  | 48 => ("WireHostsModel", "window", "I", false)
  | _ => ("WireHostsModel", "data", "I", false)
def tY_10 : Nat → FieldType := fun k => match k with
  | 0 => .int
  | 1 => (.array .int)
  | 2 => (.array .int)
  | 3 => (.array .int)
  | 4 => (.array .int)
  | 5 => (.array .int)
  | 6 => (.array .int)
  | 7 => (.array .int)
  | 8 => (.array .int)
  | 9 => (.array .int)
  | 10 => (.array .int)
  | 11 => (.array .int)
  | 12 => (.array .int)
  | 13 => (.array .boolean)
  | 14 => (.array .int)
  | 15 => (.array .int)
  | 16 => (.array .int)
  | 17 => (.array .int)
  | 18 => (.array .int)
  | 19 => (.array .boolean)
  | 20 => (.array .int)
  | 21 => (.array .int)
  | 22 => (.array .int)
  | 23 => (.array .int)
  | 24 => (.array .int)
  | 25 => (.array .int)
  | 26 => (.array .int)
  | 27 => (.array .int)
  | 28 => (.array .boolean)
  | 29 => (.array .boolean)
  | 30 => (.array .int)
  | 31 => (.array .int)
  | 32 => (.array .boolean)
  | 33 => (.array .int)
  | 34 => (.array .int)
  | 35 => (.array .int)
  | 36 => (.array .int)
  | 37 => (.array .int)
  | 38 => (.array .int)
  | 39 => .int
  | 40 => (.array .int)
  | 41 => .int
  | 42 => (.array .int)
  | 43 => .int
  | 44 => (.array .int)
  | 45 => .int
  | 46 => .int
  | 47 => .int
  | 48 => .int
  | _ => .int
theorem tn_10 : ∀ a, a < 50 → ∀ b, b < 50 → a ≠ b → (tT_10 a).2.1 ≠ (tT_10 b).2.1 := by decide +kernel
theorem ty_10 : ∀ k, k < 50 → parseFieldDescriptor (tT_10 k).2.2.1 = some (tY_10 k) := by decide +kernel
theorem tx_10 : ∀ k, k < 50 → u_lay "WireHostsModel" tT_10 k ∈ tb_ws
  | 0, _ => tw_886
  | 1, _ => tw_888
  | 2, _ => tw_890
  | 3, _ => tw_892
  | 4, _ => tw_894
  | 5, _ => tw_896
  | 6, _ => tw_898
  | 7, _ => tw_900
  | 8, _ => tw_902
  | 9, _ => tw_904
  | 10, _ => tw_906
  | 11, _ => tw_908
  | 12, _ => tw_910
  | 13, _ => tw_912
  | 14, _ => tw_914
  | 15, _ => tw_916
  | 16, _ => tw_918
  | 17, _ => tw_920
  | 18, _ => tw_922
  | 19, _ => tw_924
  | 20, _ => tw_926
  | 21, _ => tw_928
  | 22, _ => tw_930
  | 23, _ => tw_932
  | 24, _ => tw_934
  | 25, _ => tw_936
  | 26, _ => tw_938
  | 27, _ => tw_940
  | 28, _ => tw_942
  | 29, _ => tw_944
  | 30, _ => tw_946
  | 31, _ => tw_948
  | 32, _ => tw_950
  | 33, _ => tw_952
  | 34, _ => tw_954
  | 35, _ => tw_956
  | 36, _ => tw_958
  | 37, _ => tw_960
  | 38, _ => tw_962
  | 39, _ => tw_964
  | 40, _ => tw_966
  | 41, _ => tw_968
  | 42, _ => tw_970
  | 43, _ => tw_972
  | 44, _ => tw_974
  | 45, _ => tw_976
  | 46, _ => tw_978
  | 47, _ => tw_980
  | 48, _ => tw_982
  | 49, _ => tw_984
  | k + 50, h => absurd h (by omega)
theorem tu_10 : ∀ w ∈ u_ws "WireHostsModel" tT_10 50, w ∈ tb_ws := fun w hw => by
  obtain ⟨k, hk, rfl⟩ := List.mem_map.mp hw
  exact tx_10 k (List.mem_range.mp hk)
def tb_cl : List vw_C := [("WireHosts", tT_0, 3), ("WireHosts$Rows", tT_1, 5), ("WireHosts$Host", tT_2, 14), ("WireHosts$Link", tT_3, 7), ("WireHosts$Pieces", tT_4, 5), ("WireHosts$Slot", tT_5, 6), ("WireHosts$Segment", tT_6, 7), ("WireHosts$Endpoint", tT_7, 10), ("WireHosts$Sending", tT_8, 7), ("WireHosts$Receiving", tT_9, 5), ("WireHostsModel", tT_10, 50)]
theorem tb_clN : tb_cl.length ≤ 1000000 := by decide
def tb_ty : List FieldType := [.int, .boolean, (.object "WireHosts$Rows"), (.object "WireHosts$Host")]
theorem tb_ty0 : tb_ty[0]? = some .int := rfl
theorem tb_ty1 : tb_ty[1]? = some .boolean := rfl
