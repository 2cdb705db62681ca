section
-- ===== PART A: goes FIRST, ahead of the names: the tables' words, and 'selects' of the private methods out of them =====
/-- a private method of a class that the tables say can be made, by its rows of tables_1 -/
def lw_okq (q : MethodName × Nat) : Prop := (q.1.cls ≠ "java/lang/invoke/MethodHandle" ∧ q.1.cls ≠ "java/lang/invoke/VarHandle") ∧ Cond.instantiable q.1.cls q.2 ∈ tables_1 ∧ Cond.privateMethod q.1 ∈ tables_1 ∧ Cond.instanceMethod q.1 ∈ tables_1
theorem lw_p0 : lw_okq (⟨"CodeYard", "addBytes", "(I)V"⟩, 4) := ⟨⟨by decide +kernel, by decide +kernel⟩, List.mem_of_getElem? (i := 11) (by decide +kernel), List.mem_of_getElem? (i := 210) (by decide +kernel), List.mem_of_getElem? (i := 211) (by decide +kernel)⟩
theorem lw_p1 : lw_okq (⟨"CodeYard$Row", "add", "(I)V"⟩, 2) := ⟨⟨by decide +kernel, by decide +kernel⟩, List.mem_of_getElem? (i := 19) (by decide +kernel), List.mem_of_getElem? (i := 214) (by decide +kernel), List.mem_of_getElem? (i := 215) (by decide +kernel)⟩
theorem lw_p2 : lw_okq (⟨"CodeYard$Row", "shorten", "(I)V"⟩, 2) := ⟨⟨by decide +kernel, by decide +kernel⟩, List.mem_of_getElem? (i := 19) (by decide +kernel), List.mem_of_getElem? (i := 222) (by decide +kernel), List.mem_of_getElem? (i := 223) (by decide +kernel)⟩
theorem lw_p3 : lw_okq (⟨"CodeYard$Row", "at", "(II)I"⟩, 2) := ⟨⟨by decide +kernel, by decide +kernel⟩, List.mem_of_getElem? (i := 19) (by decide +kernel), List.mem_of_getElem? (i := 233) (by decide +kernel), List.mem_of_getElem? (i := 234) (by decide +kernel)⟩
theorem lw_p4 : lw_okq (⟨"CodeYard$Row", "put", "(II)V"⟩, 2) := ⟨⟨by decide +kernel, by decide +kernel⟩, List.mem_of_getElem? (i := 19) (by decide +kernel), List.mem_of_getElem? (i := 237) (by decide +kernel), List.mem_of_getElem? (i := 238) (by decide +kernel)⟩
theorem lw_p5 : lw_okq (⟨"CodeYard$Shelf", "slot", "(I)LCodeYard$Code;"⟩, 1) := ⟨⟨by decide +kernel, by decide +kernel⟩, List.mem_of_getElem? (i := 40) (by decide +kernel), List.mem_of_getElem? (i := 245) (by decide +kernel), List.mem_of_getElem? (i := 246) (by decide +kernel)⟩
theorem lw_p6 : lw_okq (⟨"CodeYard$Run", "isHeld", "()Z"⟩, 10) := ⟨⟨by decide +kernel, by decide +kernel⟩, List.mem_of_getElem? (i := 112) (by decide +kernel), List.mem_of_getElem? (i := 249) (by decide +kernel), List.mem_of_getElem? (i := 250) (by decide +kernel)⟩
theorem lw_p7 : lw_okq (⟨"CodeYard$Survey", "lookOver", "(LCodeYard$Row;)I"⟩, 6) := ⟨⟨by decide +kernel, by decide +kernel⟩, List.mem_of_getElem? (i := 83) (by decide +kernel), List.mem_of_getElem? (i := 253) (by decide +kernel), List.mem_of_getElem? (i := 254) (by decide +kernel)⟩
theorem lw_p8 : lw_okq (⟨"CodeYard$Survey", "clear", "(I)V"⟩, 6) := ⟨⟨by decide +kernel, by decide +kernel⟩, List.mem_of_getElem? (i := 83) (by decide +kernel), List.mem_of_getElem? (i := 260) (by decide +kernel), List.mem_of_getElem? (i := 261) (by decide +kernel)⟩
theorem lw_p9 : lw_okq (⟨"CodeYard$Row", "become", "(II)V"⟩, 2) := ⟨⟨by decide +kernel, by decide +kernel⟩, List.mem_of_getElem? (i := 19) (by decide +kernel), List.mem_of_getElem? (i := 264) (by decide +kernel), List.mem_of_getElem? (i := 265) (by decide +kernel)⟩
theorem lw_p10 : lw_okq (⟨"CodeYard$Survey", "readInstructions", "(LCodeYard$Row;)I"⟩, 6) := ⟨⟨by decide +kernel, by decide +kernel⟩, List.mem_of_getElem? (i := 83) (by decide +kernel), List.mem_of_getElem? (i := 268) (by decide +kernel), List.mem_of_getElem? (i := 269) (by decide +kernel)⟩
theorem lw_p11 : lw_okq (⟨"CodeYard$Row", "has", "(I)Z"⟩, 2) := ⟨⟨by decide +kernel, by decide +kernel⟩, List.mem_of_getElem? (i := 19) (by decide +kernel), List.mem_of_getElem? (i := 288) (by decide +kernel), List.mem_of_getElem? (i := 289) (by decide +kernel)⟩
theorem lw_p12 : lw_okq (⟨"CodeYard$Survey", "lookAtPlaces", "(LCodeYard$Row;)I"⟩, 6) := ⟨⟨by decide +kernel, by decide +kernel⟩, List.mem_of_getElem? (i := 83) (by decide +kernel), List.mem_of_getElem? (i := 297) (by decide +kernel), List.mem_of_getElem? (i := 298) (by decide +kernel)⟩
theorem lw_p13 : lw_okq (⟨"CodeYard$Survey", "tellsPlace", "(LCodeYard$Row;I)Z"⟩, 6) := ⟨⟨by decide +kernel, by decide +kernel⟩, List.mem_of_getElem? (i := 83) (by decide +kernel), List.mem_of_getElem? (i := 301) (by decide +kernel), List.mem_of_getElem? (i := 302) (by decide +kernel)⟩
theorem lw_p14 : lw_okq (⟨"CodeYard$Survey", "goThroughAll", "(LCodeYard$Row;)I"⟩, 6) := ⟨⟨by decide +kernel, by decide +kernel⟩, List.mem_of_getElem? (i := 83) (by decide +kernel), List.mem_of_getElem? (i := 308) (by decide +kernel), List.mem_of_getElem? (i := 309) (by decide +kernel)⟩
theorem lw_p15 : lw_okq (⟨"CodeYard$Survey", "comeTo", "(II)I"⟩, 6) := ⟨⟨by decide +kernel, by decide +kernel⟩, List.mem_of_getElem? (i := 83) (by decide +kernel), List.mem_of_getElem? (i := 312) (by decide +kernel), List.mem_of_getElem? (i := 313) (by decide +kernel)⟩
def lw_privs_1 : List (MethodName × Nat) := [(⟨"CodeYard", "addBytes", "(I)V"⟩, 4), (⟨"CodeYard$Row", "add", "(I)V"⟩, 2), (⟨"CodeYard$Row", "shorten", "(I)V"⟩, 2), (⟨"CodeYard$Row", "at", "(II)I"⟩, 2), (⟨"CodeYard$Row", "put", "(II)V"⟩, 2), (⟨"CodeYard$Shelf", "slot", "(I)LCodeYard$Code;"⟩, 1), (⟨"CodeYard$Run", "isHeld", "()Z"⟩, 10), (⟨"CodeYard$Survey", "lookOver", "(LCodeYard$Row;)I"⟩, 6), (⟨"CodeYard$Survey", "clear", "(I)V"⟩, 6), (⟨"CodeYard$Row", "become", "(II)V"⟩, 2), (⟨"CodeYard$Survey", "readInstructions", "(LCodeYard$Row;)I"⟩, 6), (⟨"CodeYard$Row", "has", "(I)Z"⟩, 2), (⟨"CodeYard$Survey", "lookAtPlaces", "(LCodeYard$Row;)I"⟩, 6), (⟨"CodeYard$Survey", "tellsPlace", "(LCodeYard$Row;I)Z"⟩, 6), (⟨"CodeYard$Survey", "goThroughAll", "(LCodeYard$Row;)I"⟩, 6), (⟨"CodeYard$Survey", "comeTo", "(II)I"⟩, 6)]
theorem lw_r1 : ∀ q ∈ lw_privs_1, lw_okq q := List.forall_mem_cons.mpr ⟨lw_p0, List.forall_mem_cons.mpr ⟨lw_p1, List.forall_mem_cons.mpr ⟨lw_p2, List.forall_mem_cons.mpr ⟨lw_p3, List.forall_mem_cons.mpr ⟨lw_p4, List.forall_mem_cons.mpr ⟨lw_p5, List.forall_mem_cons.mpr ⟨lw_p6, List.forall_mem_cons.mpr ⟨lw_p7, List.forall_mem_cons.mpr ⟨lw_p8, List.forall_mem_cons.mpr ⟨lw_p9, List.forall_mem_cons.mpr ⟨lw_p10, List.forall_mem_cons.mpr ⟨lw_p11, List.forall_mem_cons.mpr ⟨lw_p12, List.forall_mem_cons.mpr ⟨lw_p13, List.forall_mem_cons.mpr ⟨lw_p14, List.forall_mem_cons.mpr ⟨lw_p15, fun _ h => absurd h List.not_mem_nil⟩⟩⟩⟩⟩⟩⟩⟩⟩⟩⟩⟩⟩⟩⟩⟩
theorem lw_p16 : lw_okq (⟨"CodeYard$Survey", "leastWaiting", "()I"⟩, 6) := ⟨⟨by decide +kernel, by decide +kernel⟩, List.mem_of_getElem? (i := 83) (by decide +kernel), List.mem_of_getElem? (i := 317) (by decide +kernel), List.mem_of_getElem? (i := 318) (by decide +kernel)⟩
theorem lw_p17 : lw_okq (⟨"CodeYard$Survey", "goThrough", "(LCodeYard$Row;I)I"⟩, 6) := ⟨⟨by decide +kernel, by decide +kernel⟩, List.mem_of_getElem? (i := 83) (by decide +kernel), List.mem_of_getElem? (i := 321) (by decide +kernel), List.mem_of_getElem? (i := 322) (by decide +kernel)⟩
theorem lw_p18 : lw_okq (⟨"CodeYard$Code", "take", "(LCodeYard$Row;LCodeYard$Row;)V"⟩, 5) := ⟨⟨by decide +kernel, by decide +kernel⟩, List.mem_of_getElem? (i := 47) (by decide +kernel), List.mem_of_getElem? (i := 336) (by decide +kernel), List.mem_of_getElem? (i := 337) (by decide +kernel)⟩
theorem lw_p19 : lw_okq (⟨"CodeYard$Row", "becomeLike", "(LCodeYard$Row;)V"⟩, 2) := ⟨⟨by decide +kernel, by decide +kernel⟩, List.mem_of_getElem? (i := 19) (by decide +kernel), List.mem_of_getElem? (i := 340) (by decide +kernel), List.mem_of_getElem? (i := 341) (by decide +kernel)⟩
theorem lw_p20 : lw_okq (⟨"CodeYard$Shelf", "taken", "(I)LCodeYard$Code;"⟩, 1) := ⟨⟨by decide +kernel, by decide +kernel⟩, List.mem_of_getElem? (i := 40) (by decide +kernel), List.mem_of_getElem? (i := 351) (by decide +kernel), List.mem_of_getElem? (i := 352) (by decide +kernel)⟩
theorem lw_p21 : lw_okq (⟨"CodeYard$Code", "isTaken", "()Z"⟩, 5) := ⟨⟨by decide +kernel, by decide +kernel⟩, List.mem_of_getElem? (i := 47) (by decide +kernel), List.mem_of_getElem? (i := 356) (by decide +kernel), List.mem_of_getElem? (i := 357) (by decide +kernel)⟩
theorem lw_p22 : lw_okq (⟨"CodeYard$Run", "start", "(LCodeYard$Code;ILCodeYard$Row;)V"⟩, 10) := ⟨⟨by decide +kernel, by decide +kernel⟩, List.mem_of_getElem? (i := 112) (by decide +kernel), List.mem_of_getElem? (i := 360) (by decide +kernel), List.mem_of_getElem? (i := 361) (by decide +kernel)⟩
theorem lw_p23 : lw_okq (⟨"CodeYard$Shelf", "bringCellsBack", "()V"⟩, 1) := ⟨⟨by decide +kernel, by decide +kernel⟩, List.mem_of_getElem? (i := 40) (by decide +kernel), List.mem_of_getElem? (i := 365) (by decide +kernel), List.mem_of_getElem? (i := 366) (by decide +kernel)⟩
theorem lw_p24 : lw_okq (⟨"CodeYard$Shelf", "keepCells", "()V"⟩, 1) := ⟨⟨by decide +kernel, by decide +kernel⟩, List.mem_of_getElem? (i := 40) (by decide +kernel), List.mem_of_getElem? (i := 370) (by decide +kernel), List.mem_of_getElem? (i := 371) (by decide +kernel)⟩
theorem lw_p25 : lw_okq (⟨"CodeYard$Frame", "enter", "(LCodeYard$Code;I)V"⟩, 7) := ⟨⟨by decide +kernel, by decide +kernel⟩, List.mem_of_getElem? (i := 122) (by decide +kernel), List.mem_of_getElem? (i := 376) (by decide +kernel), List.mem_of_getElem? (i := 377) (by decide +kernel)⟩
theorem lw_p26 : lw_okq (⟨"CodeYard$Run", "advance", "(I)I"⟩, 10) := ⟨⟨by decide +kernel, by decide +kernel⟩, List.mem_of_getElem? (i := 112) (by decide +kernel), List.mem_of_getElem? (i := 387) (by decide +kernel), List.mem_of_getElem? (i := 388) (by decide +kernel)⟩
theorem lw_p27 : lw_okq (⟨"CodeYard$Run", "step", "()V"⟩, 10) := ⟨⟨by decide +kernel, by decide +kernel⟩, List.mem_of_getElem? (i := 112) (by decide +kernel), List.mem_of_getElem? (i := 391) (by decide +kernel), List.mem_of_getElem? (i := 392) (by decide +kernel)⟩
theorem lw_p28 : lw_okq (⟨"CodeYard$Run", "fail", "(I)V"⟩, 10) := ⟨⟨by decide +kernel, by decide +kernel⟩, List.mem_of_getElem? (i := 112) (by decide +kernel), List.mem_of_getElem? (i := 395) (by decide +kernel), List.mem_of_getElem? (i := 396) (by decide +kernel)⟩
theorem lw_p29 : lw_okq (⟨"CodeYard$Frame", "nextByte", "()I"⟩, 7) := ⟨⟨by decide +kernel, by decide +kernel⟩, List.mem_of_getElem? (i := 122) (by decide +kernel), List.mem_of_getElem? (i := 399) (by decide +kernel), List.mem_of_getElem? (i := 400) (by decide +kernel)⟩
theorem lw_p30 : lw_okq (⟨"CodeYard$Run", "move", "(II)V"⟩, 10) := ⟨⟨by decide +kernel, by decide +kernel⟩, List.mem_of_getElem? (i := 112) (by decide +kernel), List.mem_of_getElem? (i := 404) (by decide +kernel), List.mem_of_getElem? (i := 405) (by decide +kernel)⟩
theorem lw_p31 : lw_okq (⟨"CodeYard$Row", "takeLast", "()I"⟩, 2) := ⟨⟨by decide +kernel, by decide +kernel⟩, List.mem_of_getElem? (i := 19) (by decide +kernel), List.mem_of_getElem? (i := 410) (by decide +kernel), List.mem_of_getElem? (i := 411) (by decide +kernel)⟩
def lw_privs_2 : List (MethodName × Nat) := [(⟨"CodeYard$Survey", "leastWaiting", "()I"⟩, 6), (⟨"CodeYard$Survey", "goThrough", "(LCodeYard$Row;I)I"⟩, 6), (⟨"CodeYard$Code", "take", "(LCodeYard$Row;LCodeYard$Row;)V"⟩, 5), (⟨"CodeYard$Row", "becomeLike", "(LCodeYard$Row;)V"⟩, 2), (⟨"CodeYard$Shelf", "taken", "(I)LCodeYard$Code;"⟩, 1), (⟨"CodeYard$Code", "isTaken", "()Z"⟩, 5), (⟨"CodeYard$Run", "start", "(LCodeYard$Code;ILCodeYard$Row;)V"⟩, 10), (⟨"CodeYard$Shelf", "bringCellsBack", "()V"⟩, 1), (⟨"CodeYard$Shelf", "keepCells", "()V"⟩, 1), (⟨"CodeYard$Frame", "enter", "(LCodeYard$Code;I)V"⟩, 7), (⟨"CodeYard$Run", "advance", "(I)I"⟩, 10), (⟨"CodeYard$Run", "step", "()V"⟩, 10), (⟨"CodeYard$Run", "fail", "(I)V"⟩, 10), (⟨"CodeYard$Frame", "nextByte", "()I"⟩, 7), (⟨"CodeYard$Run", "move", "(II)V"⟩, 10), (⟨"CodeYard$Row", "takeLast", "()I"⟩, 2)]
theorem lw_r2 : ∀ q ∈ lw_privs_2, lw_okq q := List.forall_mem_cons.mpr ⟨lw_p16, List.forall_mem_cons.mpr ⟨lw_p17, List.forall_mem_cons.mpr ⟨lw_p18, List.forall_mem_cons.mpr ⟨lw_p19, List.forall_mem_cons.mpr ⟨lw_p20, List.forall_mem_cons.mpr ⟨lw_p21, List.forall_mem_cons.mpr ⟨lw_p22, List.forall_mem_cons.mpr ⟨lw_p23, List.forall_mem_cons.mpr ⟨lw_p24, List.forall_mem_cons.mpr ⟨lw_p25, List.forall_mem_cons.mpr ⟨lw_p26, List.forall_mem_cons.mpr ⟨lw_p27, List.forall_mem_cons.mpr ⟨lw_p28, List.forall_mem_cons.mpr ⟨lw_p29, List.forall_mem_cons.mpr ⟨lw_p30, List.forall_mem_cons.mpr ⟨lw_p31, fun _ h => absurd h List.not_mem_nil⟩⟩⟩⟩⟩⟩⟩⟩⟩⟩⟩⟩⟩⟩⟩⟩
theorem lw_p32 : lw_okq (⟨"CodeYard$Run", "combine", "(I)V"⟩, 10) := ⟨⟨by decide +kernel, by decide +kernel⟩, List.mem_of_getElem? (i := 112) (by decide +kernel), List.mem_of_getElem? (i := 415) (by decide +kernel), List.mem_of_getElem? (i := 416) (by decide +kernel)⟩
theorem lw_p33 : lw_okq (⟨"CodeYard$Run", "rearrange", "(I)V"⟩, 10) := ⟨⟨by decide +kernel, by decide +kernel⟩, List.mem_of_getElem? (i := 112) (by decide +kernel), List.mem_of_getElem? (i := 422) (by decide +kernel), List.mem_of_getElem? (i := 423) (by decide +kernel)⟩
theorem lw_p34 : lw_okq (⟨"CodeYard$Run", "jump", "(II)V"⟩, 10) := ⟨⟨by decide +kernel, by decide +kernel⟩, List.mem_of_getElem? (i := 112) (by decide +kernel), List.mem_of_getElem? (i := 426) (by decide +kernel), List.mem_of_getElem? (i := 427) (by decide +kernel)⟩
theorem lw_p35 : lw_okq (⟨"CodeYard$Run", "doOther", "(II)V"⟩, 10) := ⟨⟨by decide +kernel, by decide +kernel⟩, List.mem_of_getElem? (i := 112) (by decide +kernel), List.mem_of_getElem? (i := 430) (by decide +kernel), List.mem_of_getElem? (i := 431) (by decide +kernel)⟩
theorem lw_p36 : lw_okq (⟨"CodeYard$Run", "readInput", "(I)V"⟩, 10) := ⟨⟨by decide +kernel, by decide +kernel⟩, List.mem_of_getElem? (i := 112) (by decide +kernel), List.mem_of_getElem? (i := 434) (by decide +kernel), List.mem_of_getElem? (i := 435) (by decide +kernel)⟩
theorem lw_p37 : lw_okq (⟨"CodeYard$Run", "putOut", "(I)V"⟩, 10) := ⟨⟨by decide +kernel, by decide +kernel⟩, List.mem_of_getElem? (i := 112) (by decide +kernel), List.mem_of_getElem? (i := 439) (by decide +kernel), List.mem_of_getElem? (i := 440) (by decide +kernel)⟩
theorem lw_p38 : lw_okq (⟨"CodeYard$Run", "finish", "(I)V"⟩, 10) := ⟨⟨by decide +kernel, by decide +kernel⟩, List.mem_of_getElem? (i := 112) (by decide +kernel), List.mem_of_getElem? (i := 443) (by decide +kernel), List.mem_of_getElem? (i := 444) (by decide +kernel)⟩
theorem lw_p39 : lw_okq (⟨"CodeYard$Run", "divide", "(I)V"⟩, 10) := ⟨⟨by decide +kernel, by decide +kernel⟩, List.mem_of_getElem? (i := 112) (by decide +kernel), List.mem_of_getElem? (i := 447) (by decide +kernel), List.mem_of_getElem? (i := 448) (by decide +kernel)⟩
theorem lw_p40 : lw_okq (⟨"CodeYard$Run", "callCode", "(LCodeYard$Code;I)V"⟩, 10) := ⟨⟨by decide +kernel, by decide +kernel⟩, List.mem_of_getElem? (i := 112) (by decide +kernel), List.mem_of_getElem? (i := 452) (by decide +kernel), List.mem_of_getElem? (i := 453) (by decide +kernel)⟩
theorem lw_p41 : lw_okq (⟨"CodeYard$Run", "tell", "(I)I"⟩, 10) := ⟨⟨by decide +kernel, by decide +kernel⟩, List.mem_of_getElem? (i := 112) (by decide +kernel), List.mem_of_getElem? (i := 460) (by decide +kernel), List.mem_of_getElem? (i := 461) (by decide +kernel)⟩
theorem lw_p42 : lw_okq (⟨"CodeYardModel", "putFour", "(I)V"⟩, 29) := ⟨⟨by decide +kernel, by decide +kernel⟩, List.mem_of_getElem? (i := 488) (by decide +kernel), List.mem_of_getElem? (i := 588) (by decide +kernel), List.mem_of_getElem? (i := 589) (by decide +kernel)⟩
theorem lw_p43 : lw_okq (⟨"CodeYardModel", "look", "()I"⟩, 29) := ⟨⟨by decide +kernel, by decide +kernel⟩, List.mem_of_getElem? (i := 488) (by decide +kernel), List.mem_of_getElem? (i := 604) (by decide +kernel), List.mem_of_getElem? (i := 605) (by decide +kernel)⟩
theorem lw_p44 : lw_okq (⟨"CodeYardModel", "bad", "(II)V"⟩, 29) := ⟨⟨by decide +kernel, by decide +kernel⟩, List.mem_of_getElem? (i := 488) (by decide +kernel), List.mem_of_getElem? (i := 608) (by decide +kernel), List.mem_of_getElem? (i := 609) (by decide +kernel)⟩
theorem lw_p45 : lw_okq (⟨"CodeYardModel", "at", "(I)I"⟩, 29) := ⟨⟨by decide +kernel, by decide +kernel⟩, List.mem_of_getElem? (i := 488) (by decide +kernel), List.mem_of_getElem? (i := 612) (by decide +kernel), List.mem_of_getElem? (i := 613) (by decide +kernel)⟩
theorem lw_p46 : lw_okq (⟨"CodeYardModel", "walk", "()V"⟩, 29) := ⟨⟨by decide +kernel, by decide +kernel⟩, List.mem_of_getElem? (i := 488) (by decide +kernel), List.mem_of_getElem? (i := 622) (by decide +kernel), List.mem_of_getElem? (i := 623) (by decide +kernel)⟩
theorem lw_p47 : lw_okq (⟨"CodeYardModel", "come", "(II)V"⟩, 29) := ⟨⟨by decide +kernel, by decide +kernel⟩, List.mem_of_getElem? (i := 488) (by decide +kernel), List.mem_of_getElem? (i := 626) (by decide +kernel), List.mem_of_getElem? (i := 627) (by decide +kernel)⟩
def lw_privs_3 : List (MethodName × Nat) := [(⟨"CodeYard$Run", "combine", "(I)V"⟩, 10), (⟨"CodeYard$Run", "rearrange", "(I)V"⟩, 10), (⟨"CodeYard$Run", "jump", "(II)V"⟩, 10), (⟨"CodeYard$Run", "doOther", "(II)V"⟩, 10), (⟨"CodeYard$Run", "readInput", "(I)V"⟩, 10), (⟨"CodeYard$Run", "putOut", "(I)V"⟩, 10), (⟨"CodeYard$Run", "finish", "(I)V"⟩, 10), (⟨"CodeYard$Run", "divide", "(I)V"⟩, 10), (⟨"CodeYard$Run", "callCode", "(LCodeYard$Code;I)V"⟩, 10), (⟨"CodeYard$Run", "tell", "(I)I"⟩, 10), (⟨"CodeYardModel", "putFour", "(I)V"⟩, 29), (⟨"CodeYardModel", "look", "()I"⟩, 29), (⟨"CodeYardModel", "bad", "(II)V"⟩, 29), (⟨"CodeYardModel", "at", "(I)I"⟩, 29), (⟨"CodeYardModel", "walk", "()V"⟩, 29), (⟨"CodeYardModel", "come", "(II)V"⟩, 29)]
theorem lw_r3 : ∀ q ∈ lw_privs_3, lw_okq q := List.forall_mem_cons.mpr ⟨lw_p32, List.forall_mem_cons.mpr ⟨lw_p33, List.forall_mem_cons.mpr ⟨lw_p34, List.forall_mem_cons.mpr ⟨lw_p35, List.forall_mem_cons.mpr ⟨lw_p36, List.forall_mem_cons.mpr ⟨lw_p37, List.forall_mem_cons.mpr ⟨lw_p38, List.forall_mem_cons.mpr ⟨lw_p39, List.forall_mem_cons.mpr ⟨lw_p40, List.forall_mem_cons.mpr ⟨lw_p41, List.forall_mem_cons.mpr ⟨lw_p42, List.forall_mem_cons.mpr ⟨lw_p43, List.forall_mem_cons.mpr ⟨lw_p44, List.forall_mem_cons.mpr ⟨lw_p45, List.forall_mem_cons.mpr ⟨lw_p46, List.forall_mem_cons.mpr ⟨lw_p47, fun _ h => absurd h List.not_mem_nil⟩⟩⟩⟩⟩⟩⟩⟩⟩⟩⟩⟩⟩⟩⟩⟩
theorem lw_p48 : lw_okq (⟨"CodeYardModel", "goThrough", "(I)V"⟩, 29) := ⟨⟨by decide +kernel, by decide +kernel⟩, List.mem_of_getElem? (i := 488) (by decide +kernel), List.mem_of_getElem? (i := 630) (by decide +kernel), List.mem_of_getElem? (i := 631) (by decide +kernel)⟩
theorem lw_p49 : lw_okq (⟨"CodeYardModel", "undo", "()V"⟩, 29) := ⟨⟨by decide +kernel, by decide +kernel⟩, List.mem_of_getElem? (i := 488) (by decide +kernel), List.mem_of_getElem? (i := 644) (by decide +kernel), List.mem_of_getElem? (i := 645) (by decide +kernel)⟩
theorem lw_p50 : lw_okq (⟨"CodeYardModel", "enter", "(II)V"⟩, 29) := ⟨⟨by decide +kernel, by decide +kernel⟩, List.mem_of_getElem? (i := 488) (by decide +kernel), List.mem_of_getElem? (i := 648) (by decide +kernel), List.mem_of_getElem? (i := 649) (by decide +kernel)⟩
theorem lw_p51 : lw_okq (⟨"CodeYardModel", "throwFor", "(I)V"⟩, 29) := ⟨⟨by decide +kernel, by decide +kernel⟩, List.mem_of_getElem? (i := 488) (by decide +kernel), List.mem_of_getElem? (i := 656) (by decide +kernel), List.mem_of_getElem? (i := 657) (by decide +kernel)⟩
theorem lw_p52 : lw_okq (⟨"CodeYardModel", "oneStep", "()V"⟩, 29) := ⟨⟨by decide +kernel, by decide +kernel⟩, List.mem_of_getElem? (i := 488) (by decide +kernel), List.mem_of_getElem? (i := 660) (by decide +kernel), List.mem_of_getElem? (i := 661) (by decide +kernel)⟩
theorem lw_p53 : lw_okq (⟨"CodeYardModel", "simple", "(IIII)V"⟩, 29) := ⟨⟨by decide +kernel, by decide +kernel⟩, List.mem_of_getElem? (i := 488) (by decide +kernel), List.mem_of_getElem? (i := 664) (by decide +kernel), List.mem_of_getElem? (i := 665) (by decide +kernel)⟩
theorem lw_p54 : lw_okq (⟨"CodeYardModel", "push", "(I)V"⟩, 29) := ⟨⟨by decide +kernel, by decide +kernel⟩, List.mem_of_getElem? (i := 488) (by decide +kernel), List.mem_of_getElem? (i := 668) (by decide +kernel), List.mem_of_getElem? (i := 669) (by decide +kernel)⟩
theorem lw_p55 : lw_okq (⟨"CodeYardModel", "pop", "()I"⟩, 29) := ⟨⟨by decide +kernel, by decide +kernel⟩, List.mem_of_getElem? (i := 488) (by decide +kernel), List.mem_of_getElem? (i := 672) (by decide +kernel), List.mem_of_getElem? (i := 673) (by decide +kernel)⟩
theorem lw_p56 : lw_okq (⟨"CodeYardModel", "works", "(I)V"⟩, 29) := ⟨⟨by decide +kernel, by decide +kernel⟩, List.mem_of_getElem? (i := 488) (by decide +kernel), List.mem_of_getElem? (i := 676) (by decide +kernel), List.mem_of_getElem? (i := 677) (by decide +kernel)⟩
theorem lw_p57 : lw_okq (⟨"CodeYardModel", "jumps", "(III)V"⟩, 29) := ⟨⟨by decide +kernel, by decide +kernel⟩, List.mem_of_getElem? (i := 488) (by decide +kernel), List.mem_of_getElem? (i := 680) (by decide +kernel), List.mem_of_getElem? (i := 681) (by decide +kernel)⟩
theorem lw_p58 : lw_okq (⟨"CodeYardModel", "bytes", "(I)V"⟩, 29) := ⟨⟨by decide +kernel, by decide +kernel⟩, List.mem_of_getElem? (i := 488) (by decide +kernel), List.mem_of_getElem? (i := 684) (by decide +kernel), List.mem_of_getElem? (i := 685) (by decide +kernel)⟩
theorem lw_p59 : lw_okq (⟨"CodeYardModel", "finish", "(I)V"⟩, 29) := ⟨⟨by decide +kernel, by decide +kernel⟩, List.mem_of_getElem? (i := 488) (by decide +kernel), List.mem_of_getElem? (i := 688) (by decide +kernel), List.mem_of_getElem? (i := 689) (by decide +kernel)⟩
theorem lw_p60 : lw_okq (⟨"CodeYardModel", "ends", "(I)V"⟩, 29) := ⟨⟨by decide +kernel, by decide +kernel⟩, List.mem_of_getElem? (i := 488) (by decide +kernel), List.mem_of_getElem? (i := 692) (by decide +kernel), List.mem_of_getElem? (i := 693) (by decide +kernel)⟩
theorem lw_p61 : lw_okq (⟨"CodeYardModel", "divide", "(I)V"⟩, 29) := ⟨⟨by decide +kernel, by decide +kernel⟩, List.mem_of_getElem? (i := 488) (by decide +kernel), List.mem_of_getElem? (i := 696) (by decide +kernel), List.mem_of_getElem? (i := 697) (by decide +kernel)⟩
theorem lw_p62 : lw_okq (⟨"CodeYardModel", "call", "(I)V"⟩, 29) := ⟨⟨by decide +kernel, by decide +kernel⟩, List.mem_of_getElem? (i := 488) (by decide +kernel), List.mem_of_getElem? (i := 700) (by decide +kernel), List.mem_of_getElem? (i := 701) (by decide +kernel)⟩
def lw_privs_4 : List (MethodName × Nat) := [(⟨"CodeYardModel", "goThrough", "(I)V"⟩, 29), (⟨"CodeYardModel", "undo", "()V"⟩, 29), (⟨"CodeYardModel", "enter", "(II)V"⟩, 29), (⟨"CodeYardModel", "throwFor", "(I)V"⟩, 29), (⟨"CodeYardModel", "oneStep", "()V"⟩, 29), (⟨"CodeYardModel", "simple", "(IIII)V"⟩, 29), (⟨"CodeYardModel", "push", "(I)V"⟩, 29), (⟨"CodeYardModel", "pop", "()I"⟩, 29), (⟨"CodeYardModel", "works", "(I)V"⟩, 29), (⟨"CodeYardModel", "jumps", "(III)V"⟩, 29), (⟨"CodeYardModel", "bytes", "(I)V"⟩, 29), (⟨"CodeYardModel", "finish", "(I)V"⟩, 29), (⟨"CodeYardModel", "ends", "(I)V"⟩, 29), (⟨"CodeYardModel", "divide", "(I)V"⟩, 29), (⟨"CodeYardModel", "call", "(I)V"⟩, 29)]
theorem lw_r4 : ∀ q ∈ lw_privs_4, lw_okq q := List.forall_mem_cons.mpr ⟨lw_p48, List.forall_mem_cons.mpr ⟨lw_p49, List.forall_mem_cons.mpr ⟨lw_p50, List.forall_mem_cons.mpr ⟨lw_p51, List.forall_mem_cons.mpr ⟨lw_p52, List.forall_mem_cons.mpr ⟨lw_p53, List.forall_mem_cons.mpr ⟨lw_p54, List.forall_mem_cons.mpr ⟨lw_p55, List.forall_mem_cons.mpr ⟨lw_p56, List.forall_mem_cons.mpr ⟨lw_p57, List.forall_mem_cons.mpr ⟨lw_p58, List.forall_mem_cons.mpr ⟨lw_p59, List.forall_mem_cons.mpr ⟨lw_p60, List.forall_mem_cons.mpr ⟨lw_p61, List.forall_mem_cons.mpr ⟨lw_p62, fun _ h => absurd h List.not_mem_nil⟩⟩⟩⟩⟩⟩⟩⟩⟩⟩⟩⟩⟩⟩⟩
def lw_privs : List (MethodName × Nat) := lw_privs_1 ++ (lw_privs_2 ++ (lw_privs_3 ++ (lw_privs_4)))
def lw_tbl : List Cond := k2_sels lw_privs ++ tables_1
theorem lw_privs_ok : ∀ q ∈ lw_privs, lw_okq q := by
  show ∀ q ∈ lw_privs_1 ++ (lw_privs_2 ++ (lw_privs_3 ++ (lw_privs_4))), lw_okq q
  exact List.forall_mem_append.mpr ⟨lw_r1, List.forall_mem_append.mpr ⟨lw_r2, List.forall_mem_append.mpr ⟨lw_r3, lw_r4⟩⟩⟩
end
section
def R_Row : String := "CodeYard$Row"
def F_Row : u_T := fun k => match k with
  | 0 => ("CodeYard$Row", "items", "[I", true)
  | _ => ("CodeYard$Row", "count", "I", false)
def t_Row : Nat → FieldType := fun k => match k with
  | 0 => .array .int
  | _ => .int
theorem n_Row : ∀ a, a < 2 → ∀ b, b < 2 → a ≠ b → (F_Row a).2.1 ≠ (F_Row b).2.1 := by decide +kernel
theorem t_Row_ok : ∀ k, k < 2 → parseFieldDescriptor (F_Row k).2.2.1 = some (t_Row k) := by decide +kernel
theorem i_Row : ∀ w ∈ u_ws R_Row F_Row 2, w ∈ lw_tbl := by decide +kernel
def R_Code : String := "CodeYard$Code"
def F_Code : u_T := fun k => match k with
  | 0 => ("CodeYard$Code", "number", "I", true)
  | 1 => ("CodeYard$Code", "bytes", "LCodeYard$Row;", true)
  | 2 => ("CodeYard$Code", "heights", "LCodeYard$Row;", true)
  | 3 => ("CodeYard$Code", "cells", "LCodeYard$Row;", true)
  | _ => ("CodeYard$Code", "cellsBefore", "LCodeYard$Row;", true)
def t_Code : Nat → FieldType := fun k => match k with
  | 0 => .int
  | 1 => .object "CodeYard$Row"
  | 2 => .object "CodeYard$Row"
  | 3 => .object "CodeYard$Row"
  | _ => .object "CodeYard$Row"
theorem n_Code : ∀ a, a < 5 → ∀ b, b < 5 → a ≠ b → (F_Code a).2.1 ≠ (F_Code b).2.1 := by decide +kernel
theorem t_Code_ok : ∀ k, k < 5 → parseFieldDescriptor (F_Code k).2.2.1 = some (t_Code k) := by decide +kernel
theorem i_Code : ∀ w ∈ u_ws R_Code F_Code 5, w ∈ lw_tbl := by decide +kernel
def R_Shelf : String := "CodeYard$Shelf"
def F_Shelf : u_T := fun k => match k with
  | _ => ("CodeYard$Shelf", "codes", "[LCodeYard$Code;", true)
def t_Shelf : Nat → FieldType := fun k => match k with
  | _ => .array (.object "CodeYard$Code")
theorem n_Shelf : ∀ a, a < 1 → ∀ b, b < 1 → a ≠ b → (F_Shelf a).2.1 ≠ (F_Shelf b).2.1 := by decide +kernel
theorem t_Shelf_ok : ∀ k, k < 1 → parseFieldDescriptor (F_Shelf k).2.2.1 = some (t_Shelf k) := by decide +kernel
theorem i_Shelf : ∀ w ∈ u_ws R_Shelf F_Shelf 1, w ∈ lw_tbl := by decide +kernel
def R_Survey : String := "CodeYard$Survey"
def F_Survey : u_T := fun k => match k with
  | 0 => ("CodeYard$Survey", "starts", "LCodeYard$Row;", true)
  | 1 => ("CodeYard$Survey", "heights", "LCodeYard$Row;", true)
  | 2 => ("CodeYard$Survey", "waiting", "LCodeYard$Row;", true)
  | 3 => ("CodeYard$Survey", "instructions", "I", false)
  | 4 => ("CodeYard$Survey", "lastStart", "I", false)
  | _ => ("CodeYard$Survey", "searchFrom", "I", false)
def t_Survey : Nat → FieldType := fun k => match k with
  | 0 => .object "CodeYard$Row"
  | 1 => .object "CodeYard$Row"
  | 2 => .object "CodeYard$Row"
  | 3 => .int
  | 4 => .int
  | _ => .int
theorem n_Survey : ∀ a, a < 6 → ∀ b, b < 6 → a ≠ b → (F_Survey a).2.1 ≠ (F_Survey b).2.1 := by decide +kernel
theorem t_Survey_ok : ∀ k, k < 6 → parseFieldDescriptor (F_Survey k).2.2.1 = some (t_Survey k) := by decide +kernel
theorem i_Survey : ∀ w ∈ u_ws R_Survey F_Survey 6, w ∈ lw_tbl := by decide +kernel
def R_Frame : String := "CodeYard$Frame"
def F_Frame : u_T := fun k => match k with
  | 0 => ("CodeYard$Frame", "level", "I", true)
  | 1 => ("CodeYard$Frame", "outer", "LCodeYard$Frame;", true)
  | 2 => ("CodeYard$Frame", "inner", "LCodeYard$Frame;", false)
  | 3 => ("CodeYard$Frame", "pile", "LCodeYard$Row;", true)
  | 4 => ("CodeYard$Frame", "locals", "LCodeYard$Row;", true)
  | 5 => ("CodeYard$Frame", "code", "LCodeYard$Code;", false)
  | _ => ("CodeYard$Frame", "place", "I", false)
def t_Frame : Nat → FieldType := fun k => match k with
  | 0 => .int
  | 1 => .object "CodeYard$Frame"
  | 2 => .object "CodeYard$Frame"
  | 3 => .object "CodeYard$Row"
  | 4 => .object "CodeYard$Row"
  | 5 => .object "CodeYard$Code"
  | _ => .int
theorem n_Frame : ∀ a, a < 7 → ∀ b, b < 7 → a ≠ b → (F_Frame a).2.1 ≠ (F_Frame b).2.1 := by decide +kernel
theorem t_Frame_ok : ∀ k, k < 7 → parseFieldDescriptor (F_Frame k).2.2.1 = some (t_Frame k) := by decide +kernel
theorem i_Frame : ∀ w ∈ u_ws R_Frame F_Frame 7, w ∈ lw_tbl := by decide +kernel
def R_Run : String := "CodeYard$Run"
def F_Run : u_T := fun k => match k with
  | 0 => ("CodeYard$Run", "shelf", "LCodeYard$Shelf;", true)
  | 1 => ("CodeYard$Run", "first", "LCodeYard$Frame;", true)
  | 2 => ("CodeYard$Run", "input", "LCodeYard$Row;", true)
  | 3 => ("CodeYard$Run", "output", "LCodeYard$Row;", true)
  | 4 => ("CodeYard$Run", "work", "LCodeYard$Frame;", false)
  | 5 => ("CodeYard$Run", "begun", "Z", false)
  | 6 => ("CodeYard$Run", "status", "I", false)
  | 7 => ("CodeYard$Run", "result", "I", false)
  | 8 => ("CodeYard$Run", "reason", "I", false)
  | _ => ("CodeYard$Run", "done", "I", false)
def t_Run : Nat → FieldType := fun k => match k with
  | 0 => .object "CodeYard$Shelf"
  | 1 => .object "CodeYard$Frame"
  | 2 => .object "CodeYard$Row"
  | 3 => .object "CodeYard$Row"
  | 4 => .object "CodeYard$Frame"
  | 5 => .boolean
  | 6 => .int
  | 7 => .int
  | 8 => .int
  | _ => .int
theorem n_Run : ∀ a, a < 10 → ∀ b, b < 10 → a ≠ b → (F_Run a).2.1 ≠ (F_Run b).2.1 := by decide +kernel
theorem t_Run_ok : ∀ k, k < 10 → parseFieldDescriptor (F_Run k).2.2.1 = some (t_Run k) := by decide +kernel
theorem i_Run : ∀ w ∈ u_ws R_Run F_Run 10, w ∈ lw_tbl := by decide +kernel
def R_Yard : String := "CodeYard"
def F_Yard : u_T := fun k => match k with
  | 0 => ("CodeYard", "tape", "LCodeYard$Row;", true)
  | 1 => ("CodeYard", "shelf", "LCodeYard$Shelf;", true)
  | 2 => ("CodeYard", "survey", "LCodeYard$Survey;", true)
  | _ => ("CodeYard", "run", "LCodeYard$Run;", true)
def t_Yard : Nat → FieldType := fun k => match k with
  | 0 => .object "CodeYard$Row"
  | 1 => .object "CodeYard$Shelf"
  | 2 => .object "CodeYard$Survey"
  | _ => .object "CodeYard$Run"
theorem n_Yard : ∀ a, a < 4 → ∀ b, b < 4 → a ≠ b → (F_Yard a).2.1 ≠ (F_Yard b).2.1 := by decide +kernel
theorem t_Yard_ok : ∀ k, k < 4 → parseFieldDescriptor (F_Yard k).2.2.1 = some (t_Yard k) := by decide +kernel
theorem i_Yard : ∀ w ∈ u_ws R_Yard F_Yard 4, w ∈ lw_tbl := by decide +kernel
def R_Model : String := "CodeYardModel"
def F_Model : u_T := fun k => match k with
  | 0 => ("CodeYardModel", "tape", "[B", true)
  | 1 => ("CodeYardModel", "taped", "I", false)
  | 2 => ("CodeYardModel", "code", "[B", true)
  | 3 => ("CodeYardModel", "size", "[I", true)
  | 4 => ("CodeYardModel", "heights", "[I", true)
  | 5 => ("CodeYardModel", "cells", "[I", true)
  | 6 => ("CodeYardModel", "before", "[I", true)
  | 7 => ("CodeYardModel", "n", "I", false)
  | 8 => ("CodeYardModel", "starts", "[Z", true)
  | 9 => ("CodeYardModel", "high", "[I", true)
  | 10 => ("CodeYardModel", "through", "[Z", true)
  | 11 => ("CodeYardModel", "fault", "I", false)
  | 12 => ("CodeYardModel", "faultPlace", "I", false)
  | 13 => ("CodeYardModel", "is", "Z", false)
  | 14 => ("CodeYardModel", "held", "Z", false)
  | 15 => ("CodeYardModel", "thrown", "Z", false)
  | 16 => ("CodeYardModel", "value", "I", false)
  | 17 => ("CodeYardModel", "reason", "I", false)
  | 18 => ("CodeYardModel", "done", "I", false)
  | 19 => ("CodeYardModel", "depth", "I", false)
  | 20 => ("CodeYardModel", "which", "[I", true)
  | 21 => ("CodeYardModel", "place", "[I", true)
  | 22 => ("CodeYardModel", "piled", "[I", true)
  | 23 => ("CodeYardModel", "pile", "[I", true)
  | 24 => ("CodeYardModel", "locals", "[I", true)
  | 25 => ("CodeYardModel", "input", "[B", true)
  | 26 => ("CodeYardModel", "inputSize", "I", false)
  | 27 => ("CodeYardModel", "out", "[B", true)
  | _ => ("CodeYardModel", "outSize", "I", false)
def t_Model : Nat → FieldType := fun k => match k with
  | 0 => .array .byte
  | 1 => .int
  | 2 => .array .byte
  | 3 => .array .int
  | 4 => .array .int
  | 5 => .array .int
  | 6 => .array .int
  | 7 => .int
  | 8 => .array .boolean
  | 9 => .array .int
  | 10 => .array .boolean
  | 11 => .int
  | 12 => .int
  | 13 => .boolean
  | 14 => .boolean
  | 15 => .boolean
  | 16 => .int
  | 17 => .int
  | 18 => .int
  | 19 => .int
  | 20 => .array .int
  | 21 => .array .int
  | 22 => .array .int
  | 23 => .array .int
  | 24 => .array .int
  | 25 => .array .byte
  | 26 => .int
  | 27 => .array .byte
  | _ => .int
theorem n_Model : ∀ a, a < 29 → ∀ b, b < 29 → a ≠ b → (F_Model a).2.1 ≠ (F_Model b).2.1 := by decide +kernel
theorem t_Model_ok : ∀ k, k < 29 → parseFieldDescriptor (F_Model k).2.2.1 = some (t_Model k) := by decide +kernel
theorem i_Model : ∀ w ∈ u_ws R_Model F_Model 29, w ∈ lw_tbl := by decide +kernel
def R_Law : String := "CodeYardLaw"
abbrev cy_cl : List vw_C := [(R_Row, F_Row, 2), (R_Code, F_Code, 5), (R_Shelf, F_Shelf, 1), (R_Survey, F_Survey, 6), (R_Frame, F_Frame, 7), (R_Run, F_Run, 10), (R_Yard, F_Yard, 4), (R_Model, F_Model, 29)]
def cy_AO : List String := ["CodeYard$Code"]
def cy_OM (j : Nat) : Int32 := ([255, 15, 15, 7, 7, -1, -1, -1, -1, -1, -1, -1, -1, -1, -1, -1, 255, 255, 255, -1, -1, -1, -1, -1, -1, -1, -1, 23] : List Int32).getD j 0
def cy_TK (j : Nat) : Int32 := ([0, 0, 1, 0, 1, 2, 2, 2, 2, 2, 2, 2, 2, 1, 1, 2, 0, 1, 2, 1, 0, 1, 1, 0, 0, 2, 2, 0] : List Int32).getD j 0
def cy_GV (j : Nat) : Int32 := ([1, 1, 0, 1, 0, 1, 1, 1, 1, 1, 1, 1, 1, 2, 0, 2, 0, 0, 0, 1, 1, 0, 0, 0, 0, 1, 1, 1] : List Int32).getD j 0
def cy_ST : List (String × String × String × Nat × (Nat → Value)) := [("CodeYard", "OPERAND_MOST", "[I", 28, fun j => .int (cy_OM j)), ("CodeYard", "TAKES", "[I", 28, fun j => .int (cy_TK j)), ("CodeYard", "GIVES", "[I", 28, fun j => .int (cy_GV j))]
abbrev b_Yard_init : ByteArray := prog_1_method_1_code
def y_Yard_init : MethodName := ⟨R_Yard, "<init>", "()V"⟩
abbrev m_Yard_init : MethodName × ByteArray × Nat × Option FieldType := (y_Yard_init, b_Yard_init, 1, none)
abbrev b_Row_init : ByteArray := prog_4_method_1_code
def y_Row_init : MethodName := ⟨R_Row, "<init>", "(I)V"⟩
abbrev m_Row_init : MethodName × ByteArray × Nat × Option FieldType := (y_Row_init, b_Row_init, 2, none)
abbrev b_Shelf_init : ByteArray := prog_6_method_1_code
def y_Shelf_init : MethodName := ⟨R_Shelf, "<init>", "()V"⟩
abbrev m_Shelf_init : MethodName × ByteArray × Nat × Option FieldType := (y_Shelf_init, b_Shelf_init, 2, none)
abbrev b_Code_init : ByteArray := prog_2_method_1_code
def y_Code_init : MethodName := ⟨R_Code, "<init>", "(I)V"⟩
abbrev m_Code_init : MethodName × ByteArray × Nat × Option FieldType := (y_Code_init, b_Code_init, 2, none)
abbrev b_Survey_init : ByteArray := prog_7_method_1_code
def y_Survey_init : MethodName := ⟨R_Survey, "<init>", "()V"⟩
abbrev m_Survey_init : MethodName × ByteArray × Nat × Option FieldType := (y_Survey_init, b_Survey_init, 1, none)
abbrev b_Run_init : ByteArray := prog_5_method_1_code
def y_Run_init : MethodName := ⟨R_Run, "<init>", "(LCodeYard$Shelf;)V"⟩
abbrev m_Run_init : MethodName × ByteArray × Nat × Option FieldType := (y_Run_init, b_Run_init, 6, none)
abbrev b_Frame_init : ByteArray := prog_3_method_1_code
def y_Frame_init : MethodName := ⟨R_Frame, "<init>", "(ILCodeYard$Frame;LCodeYard$Code;)V"⟩
abbrev m_Frame_init : MethodName × ByteArray × Nat × Option FieldType := (y_Frame_init, b_Frame_init, 4, none)
abbrev b_Yard_feed : ByteArray := prog_1_method_2_code
def y_Yard_feed : MethodName := ⟨R_Yard, "feed", "(IIIII)I"⟩
abbrev m_Yard_feed : MethodName × ByteArray × Nat × Option FieldType := (y_Yard_feed, b_Yard_feed, 6, (some .int))
abbrev b_Yard_addBytes : ByteArray := prog_1_method_3_code
def y_Yard_addBytes : MethodName := ⟨R_Yard, "addBytes", "(I)V"⟩
abbrev m_Yard_addBytes : MethodName × ByteArray × Nat × Option FieldType := (y_Yard_addBytes, b_Yard_addBytes, 3, none)
abbrev b_Row_add : ByteArray := prog_4_method_5_code
def y_Row_add : MethodName := ⟨R_Row, "add", "(I)V"⟩
abbrev m_Row_add : MethodName × ByteArray × Nat × Option FieldType := (y_Row_add, b_Row_add, 2, none)
abbrev b_Yard_end : ByteArray := prog_1_method_4_code
def y_Yard_end : MethodName := ⟨R_Yard, "end", "(I)I"⟩
abbrev m_Yard_end : MethodName × ByteArray × Nat × Option FieldType := (y_Yard_end, b_Yard_end, 2, (some .int))
abbrev b_Row_shorten : ByteArray := prog_4_method_7_code
def y_Row_shorten : MethodName := ⟨R_Row, "shorten", "(I)V"⟩
abbrev m_Row_shorten : MethodName × ByteArray × Nat × Option FieldType := (y_Row_shorten, b_Row_shorten, 2, none)
abbrev b_Yard_poke : ByteArray := prog_1_method_5_code
def y_Yard_poke : MethodName := ⟨R_Yard, "poke", "(II)I"⟩
abbrev m_Yard_poke : MethodName × ByteArray × Nat × Option FieldType := (y_Yard_poke, b_Yard_poke, 4, (some .int))
abbrev b_Row_at : ByteArray := prog_4_method_3_code
def y_Row_at : MethodName := ⟨R_Row, "at", "(II)I"⟩
abbrev m_Row_at : MethodName × ByteArray × Nat × Option FieldType := (y_Row_at, b_Row_at, 3, (some .int))
abbrev b_Row_put : ByteArray := prog_4_method_4_code
def y_Row_put : MethodName := ⟨R_Row, "put", "(II)V"⟩
abbrev m_Row_put : MethodName × ByteArray × Nat × Option FieldType := (y_Row_put, b_Row_put, 3, none)
abbrev b_Yard_load : ByteArray := prog_1_method_6_code
def y_Yard_load : MethodName := ⟨R_Yard, "load", "(I)I"⟩
abbrev m_Yard_load : MethodName × ByteArray × Nat × Option FieldType := (y_Yard_load, b_Yard_load, 4, (some .int))
abbrev b_Shelf_slot : ByteArray := prog_6_method_2_code
def y_Shelf_slot : MethodName := ⟨R_Shelf, "slot", "(I)LCodeYard$Code;"⟩
abbrev m_Shelf_slot : MethodName × ByteArray × Nat × Option FieldType := (y_Shelf_slot, b_Shelf_slot, 2, (some (.object "CodeYard$Code")))
abbrev b_Run_isHeld : ByteArray := prog_5_method_2_code
def y_Run_isHeld : MethodName := ⟨R_Run, "isHeld", "()Z"⟩
abbrev m_Run_isHeld : MethodName × ByteArray × Nat × Option FieldType := (y_Run_isHeld, b_Run_isHeld, 1, (some .boolean))
abbrev b_Survey_lookOver : ByteArray := prog_7_method_2_code
def y_Survey_lookOver : MethodName := ⟨R_Survey, "lookOver", "(LCodeYard$Row;)I"⟩
abbrev m_Survey_lookOver : MethodName × ByteArray × Nat × Option FieldType := (y_Survey_lookOver, b_Survey_lookOver, 3, (some .int))
abbrev b_Survey_fault : ByteArray := prog_7_method_3_code
def y_Survey_fault : MethodName := ⟨R_Survey, "fault", "(II)I"⟩
abbrev m_Survey_fault : MethodName × ByteArray × Nat × Option FieldType := (y_Survey_fault, b_Survey_fault, 2, (some .int))
abbrev b_Survey_clear : ByteArray := prog_7_method_4_code
def y_Survey_clear : MethodName := ⟨R_Survey, "clear", "(I)V"⟩
abbrev m_Survey_clear : MethodName × ByteArray × Nat × Option FieldType := (y_Survey_clear, b_Survey_clear, 2, none)
abbrev b_Row_become : ByteArray := prog_4_method_8_code
def y_Row_become : MethodName := ⟨R_Row, "become", "(II)V"⟩
abbrev m_Row_become : MethodName × ByteArray × Nat × Option FieldType := (y_Row_become, b_Row_become, 4, none)
abbrev b_Survey_readInstructions : ByteArray := prog_7_method_5_code
def y_Survey_readInstructions : MethodName := ⟨R_Survey, "readInstructions", "(LCodeYard$Row;)I"⟩
abbrev m_Survey_readInstructions : MethodName × ByteArray × Nat × Option FieldType := (y_Survey_readInstructions, b_Survey_readInstructions, 4, (some .int))
abbrev b_Survey_readingFault : ByteArray := prog_7_method_6_code
def y_Survey_readingFault : MethodName := ⟨R_Survey, "readingFault", "(LCodeYard$Row;I)I"⟩
abbrev m_Survey_readingFault : MethodName × ByteArray × Nat × Option FieldType := (y_Survey_readingFault, b_Survey_readingFault, 3, (some .int))
abbrev b_Yard_isInstruction : ByteArray := prog_1_method_16_code
def y_Yard_isInstruction : MethodName := ⟨R_Yard, "isInstruction", "(I)Z"⟩
abbrev m_Yard_isInstruction : MethodName × ByteArray × Nat × Option FieldType := (y_Yard_isInstruction, b_Yard_isInstruction, 1, (some .boolean))
abbrev b_Yard_hasOperand : ByteArray := prog_1_method_18_code
def y_Yard_hasOperand : MethodName := ⟨R_Yard, "hasOperand", "(I)Z"⟩
abbrev m_Yard_hasOperand : MethodName × ByteArray × Nat × Option FieldType := (y_Yard_hasOperand, b_Yard_hasOperand, 1, (some .boolean))
abbrev b_Yard_operandMost : ByteArray := prog_1_method_17_code
def y_Yard_operandMost : MethodName := ⟨R_Yard, "operandMost", "(I)I"⟩
abbrev m_Yard_operandMost : MethodName × ByteArray × Nat × Option FieldType := (y_Yard_operandMost, b_Yard_operandMost, 1, (some .int))
abbrev b_Row_has : ByteArray := prog_4_method_2_code
def y_Row_has : MethodName := ⟨R_Row, "has", "(I)Z"⟩
abbrev m_Row_has : MethodName × ByteArray × Nat × Option FieldType := (y_Row_has, b_Row_has, 2, (some .boolean))
abbrev b_Yard_isEnding : ByteArray := prog_1_method_21_code
def y_Yard_isEnding : MethodName := ⟨R_Yard, "isEnding", "(I)Z"⟩
abbrev m_Yard_isEnding : MethodName × ByteArray × Nat × Option FieldType := (y_Yard_isEnding, b_Yard_isEnding, 1, (some .boolean))
abbrev b_Survey_lookAtPlaces : ByteArray := prog_7_method_7_code
def y_Survey_lookAtPlaces : MethodName := ⟨R_Survey, "lookAtPlaces", "(LCodeYard$Row;)I"⟩
abbrev m_Survey_lookAtPlaces : MethodName × ByteArray × Nat × Option FieldType := (y_Survey_lookAtPlaces, b_Survey_lookAtPlaces, 3, (some .int))
abbrev b_Survey_tellsPlace : ByteArray := prog_7_method_8_code
def y_Survey_tellsPlace : MethodName := ⟨R_Survey, "tellsPlace", "(LCodeYard$Row;I)Z"⟩
abbrev m_Survey_tellsPlace : MethodName × ByteArray × Nat × Option FieldType := (y_Survey_tellsPlace, b_Survey_tellsPlace, 3, (some .boolean))
abbrev b_Yard_isJump : ByteArray := prog_1_method_22_code
def y_Yard_isJump : MethodName := ⟨R_Yard, "isJump", "(I)Z"⟩
abbrev m_Yard_isJump : MethodName × ByteArray × Nat × Option FieldType := (y_Yard_isJump, b_Yard_isJump, 1, (some .boolean))
abbrev b_Survey_goThroughAll : ByteArray := prog_7_method_9_code
def y_Survey_goThroughAll : MethodName := ⟨R_Survey, "goThroughAll", "(LCodeYard$Row;)I"⟩
abbrev m_Survey_goThroughAll : MethodName × ByteArray × Nat × Option FieldType := (y_Survey_goThroughAll, b_Survey_goThroughAll, 5, (some .int))
abbrev b_Survey_comeTo : ByteArray := prog_7_method_12_code
def y_Survey_comeTo : MethodName := ⟨R_Survey, "comeTo", "(II)I"⟩
abbrev m_Survey_comeTo : MethodName × ByteArray × Nat × Option FieldType := (y_Survey_comeTo, b_Survey_comeTo, 4, (some .int))
abbrev b_Survey_leastWaiting : ByteArray := prog_7_method_10_code
def y_Survey_leastWaiting : MethodName := ⟨R_Survey, "leastWaiting", "()I"⟩
abbrev m_Survey_leastWaiting : MethodName × ByteArray × Nat × Option FieldType := (y_Survey_leastWaiting, b_Survey_leastWaiting, 2, (some .int))
abbrev b_Survey_goThrough : ByteArray := prog_7_method_11_code
def y_Survey_goThrough : MethodName := ⟨R_Survey, "goThrough", "(LCodeYard$Row;I)I"⟩
abbrev m_Survey_goThrough : MethodName × ByteArray × Nat × Option FieldType := (y_Survey_goThrough, b_Survey_goThrough, 9, (some .int))
abbrev b_Yard_takes : ByteArray := prog_1_method_19_code
def y_Yard_takes : MethodName := ⟨R_Yard, "takes", "(I)I"⟩
abbrev m_Yard_takes : MethodName × ByteArray × Nat × Option FieldType := (y_Yard_takes, b_Yard_takes, 1, (some .int))
abbrev b_Yard_gives : ByteArray := prog_1_method_20_code
def y_Yard_gives : MethodName := ⟨R_Yard, "gives", "(I)I"⟩
abbrev m_Yard_gives : MethodName × ByteArray × Nat × Option FieldType := (y_Yard_gives, b_Yard_gives, 1, (some .int))
abbrev b_Code_take : ByteArray := prog_2_method_3_code
def y_Code_take : MethodName := ⟨R_Code, "take", "(LCodeYard$Row;LCodeYard$Row;)V"⟩
abbrev m_Code_take : MethodName × ByteArray × Nat × Option FieldType := (y_Code_take, b_Code_take, 3, none)
abbrev b_Row_becomeLike : ByteArray := prog_4_method_9_code
def y_Row_becomeLike : MethodName := ⟨R_Row, "becomeLike", "(LCodeYard$Row;)V"⟩
abbrev m_Row_becomeLike : MethodName × ByteArray × Nat × Option FieldType := (y_Row_becomeLike, b_Row_becomeLike, 3, none)
abbrev b_Yard_begin : ByteArray := prog_1_method_7_code
def y_Yard_begin : MethodName := ⟨R_Yard, "begin", "(II)I"⟩
abbrev m_Yard_begin : MethodName × ByteArray × Nat × Option FieldType := (y_Yard_begin, b_Yard_begin, 4, (some .int))
abbrev b_Shelf_taken : ByteArray := prog_6_method_3_code
def y_Shelf_taken : MethodName := ⟨R_Shelf, "taken", "(I)LCodeYard$Code;"⟩
abbrev m_Shelf_taken : MethodName × ByteArray × Nat × Option FieldType := (y_Shelf_taken, b_Shelf_taken, 3, (some (.object "CodeYard$Code")))
abbrev b_Code_isTaken : ByteArray := prog_2_method_2_code
def y_Code_isTaken : MethodName := ⟨R_Code, "isTaken", "()Z"⟩
abbrev m_Code_isTaken : MethodName × ByteArray × Nat × Option FieldType := (y_Code_isTaken, b_Code_isTaken, 1, (some .boolean))
abbrev b_Run_start : ByteArray := prog_5_method_3_code
def y_Run_start : MethodName := ⟨R_Run, "start", "(LCodeYard$Code;ILCodeYard$Row;)V"⟩
abbrev m_Run_start : MethodName × ByteArray × Nat × Option FieldType := (y_Run_start, b_Run_start, 4, none)
abbrev b_Shelf_bringCellsBack : ByteArray := prog_6_method_5_code
def y_Shelf_bringCellsBack : MethodName := ⟨R_Shelf, "bringCellsBack", "()V"⟩
abbrev m_Shelf_bringCellsBack : MethodName × ByteArray × Nat × Option FieldType := (y_Shelf_bringCellsBack, b_Shelf_bringCellsBack, 3, none)
abbrev b_Shelf_keepCells : ByteArray := prog_6_method_4_code
def y_Shelf_keepCells : MethodName := ⟨R_Shelf, "keepCells", "()V"⟩
abbrev m_Shelf_keepCells : MethodName × ByteArray × Nat × Option FieldType := (y_Shelf_keepCells, b_Shelf_keepCells, 3, none)
abbrev b_Frame_enter : ByteArray := prog_3_method_2_code
def y_Frame_enter : MethodName := ⟨R_Frame, "enter", "(LCodeYard$Code;I)V"⟩
abbrev m_Frame_enter : MethodName × ByteArray × Nat × Option FieldType := (y_Frame_enter, b_Frame_enter, 3, none)
abbrev b_Yard_go : ByteArray := prog_1_method_8_code
def y_Yard_go : MethodName := ⟨R_Yard, "go", "(I)I"⟩
abbrev m_Yard_go : MethodName × ByteArray × Nat × Option FieldType := (y_Yard_go, b_Yard_go, 2, (some .int))
abbrev b_Run_advance : ByteArray := prog_5_method_4_code
def y_Run_advance : MethodName := ⟨R_Run, "advance", "(I)I"⟩
abbrev m_Run_advance : MethodName × ByteArray × Nat × Option FieldType := (y_Run_advance, b_Run_advance, 3, (some .int))
abbrev b_Run_step : ByteArray := prog_5_method_6_code
def y_Run_step : MethodName := ⟨R_Run, "step", "()V"⟩
abbrev m_Run_step : MethodName × ByteArray × Nat × Option FieldType := (y_Run_step, b_Run_step, 3, none)
abbrev b_Run_fail : ByteArray := prog_5_method_7_code
def y_Run_fail : MethodName := ⟨R_Run, "fail", "(I)V"⟩
abbrev m_Run_fail : MethodName × ByteArray × Nat × Option FieldType := (y_Run_fail, b_Run_fail, 2, none)
abbrev b_Frame_nextByte : ByteArray := prog_3_method_3_code
def y_Frame_nextByte : MethodName := ⟨R_Frame, "nextByte", "()I"⟩
abbrev m_Frame_nextByte : MethodName × ByteArray × Nat × Option FieldType := (y_Frame_nextByte, b_Frame_nextByte, 2, (some .int))
abbrev b_Run_move : ByteArray := prog_5_method_8_code
def y_Run_move : MethodName := ⟨R_Run, "move", "(II)V"⟩
abbrev m_Run_move : MethodName × ByteArray × Nat × Option FieldType := (y_Run_move, b_Run_move, 4, none)
abbrev b_Row_takeLast : ByteArray := prog_4_method_6_code
def y_Row_takeLast : MethodName := ⟨R_Row, "takeLast", "()I"⟩
abbrev m_Row_takeLast : MethodName × ByteArray × Nat × Option FieldType := (y_Row_takeLast, b_Row_takeLast, 1, (some .int))
abbrev b_Run_combine : ByteArray := prog_5_method_9_code
def y_Run_combine : MethodName := ⟨R_Run, "combine", "(I)V"⟩
abbrev m_Run_combine : MethodName × ByteArray × Nat × Option FieldType := (y_Run_combine, b_Run_combine, 4, none)
abbrev b_Run_combined : ByteArray := prog_5_method_10_code
def y_Run_combined : MethodName := ⟨R_Run, "combined", "(III)I"⟩
abbrev m_Run_combined : MethodName × ByteArray × Nat × Option FieldType := (y_Run_combined, b_Run_combined, 3, (some .int))
abbrev b_Run_rearrange : ByteArray := prog_5_method_11_code
def y_Run_rearrange : MethodName := ⟨R_Run, "rearrange", "(I)V"⟩
abbrev m_Run_rearrange : MethodName × ByteArray × Nat × Option FieldType := (y_Run_rearrange, b_Run_rearrange, 5, none)
abbrev b_Run_jump : ByteArray := prog_5_method_12_code
def y_Run_jump : MethodName := ⟨R_Run, "jump", "(II)V"⟩
abbrev m_Run_jump : MethodName × ByteArray × Nat × Option FieldType := (y_Run_jump, b_Run_jump, 6, none)
abbrev b_Run_doOther : ByteArray := prog_5_method_13_code
def y_Run_doOther : MethodName := ⟨R_Run, "doOther", "(II)V"⟩
abbrev m_Run_doOther : MethodName × ByteArray × Nat × Option FieldType := (y_Run_doOther, b_Run_doOther, 3, none)
abbrev b_Run_readInput : ByteArray := prog_5_method_14_code
def y_Run_readInput : MethodName := ⟨R_Run, "readInput", "(I)V"⟩
abbrev m_Run_readInput : MethodName × ByteArray × Nat × Option FieldType := (y_Run_readInput, b_Run_readInput, 2, none)
abbrev b_Run_putOut : ByteArray := prog_5_method_15_code
def y_Run_putOut : MethodName := ⟨R_Run, "putOut", "(I)V"⟩
abbrev m_Run_putOut : MethodName × ByteArray × Nat × Option FieldType := (y_Run_putOut, b_Run_putOut, 2, none)
abbrev b_Run_finish : ByteArray := prog_5_method_18_code
def y_Run_finish : MethodName := ⟨R_Run, "finish", "(I)V"⟩
abbrev m_Run_finish : MethodName × ByteArray × Nat × Option FieldType := (y_Run_finish, b_Run_finish, 3, none)
abbrev b_Run_divide : ByteArray := prog_5_method_16_code
def y_Run_divide : MethodName := ⟨R_Run, "divide", "(I)V"⟩
abbrev m_Run_divide : MethodName × ByteArray × Nat × Option FieldType := (y_Run_divide, b_Run_divide, 4, none)
abbrev b_Run_callCode : ByteArray := prog_5_method_17_code
def y_Run_callCode : MethodName := ⟨R_Run, "callCode", "(LCodeYard$Code;I)V"⟩
abbrev m_Run_callCode : MethodName × ByteArray × Nat × Option FieldType := (y_Run_callCode, b_Run_callCode, 4, none)
abbrev b_Yard_state : ByteArray := prog_1_method_9_code
def y_Yard_state : MethodName := ⟨R_Yard, "state", "(I)I"⟩
abbrev m_Yard_state : MethodName × ByteArray × Nat × Option FieldType := (y_Yard_state, b_Yard_state, 2, (some .int))
abbrev b_Run_tell : ByteArray := prog_5_method_5_code
def y_Run_tell : MethodName := ⟨R_Run, "tell", "(I)I"⟩
abbrev m_Run_tell : MethodName × ByteArray × Nat × Option FieldType := (y_Run_tell, b_Run_tell, 2, (some .int))
abbrev b_Yard_stack : ByteArray := prog_1_method_10_code
def y_Yard_stack : MethodName := ⟨R_Yard, "stack", "(I)I"⟩
abbrev m_Yard_stack : MethodName × ByteArray × Nat × Option FieldType := (y_Yard_stack, b_Yard_stack, 2, (some .int))
abbrev b_Yard_local : ByteArray := prog_1_method_11_code
def y_Yard_local : MethodName := ⟨R_Yard, "local", "(I)I"⟩
abbrev m_Yard_local : MethodName × ByteArray × Nat × Option FieldType := (y_Yard_local, b_Yard_local, 2, (some .int))
abbrev b_Yard_cell : ByteArray := prog_1_method_12_code
def y_Yard_cell : MethodName := ⟨R_Yard, "cell", "(II)I"⟩
abbrev m_Yard_cell : MethodName × ByteArray × Nat × Option FieldType := (y_Yard_cell, b_Yard_cell, 4, (some .int))
abbrev b_Yard_out : ByteArray := prog_1_method_13_code
def y_Yard_out : MethodName := ⟨R_Yard, "out", "(I)I"⟩
abbrev m_Yard_out : MethodName × ByteArray × Nat × Option FieldType := (y_Yard_out, b_Yard_out, 2, (some .int))
abbrev b_Yard_height : ByteArray := prog_1_method_14_code
def y_Yard_height : MethodName := ⟨R_Yard, "height", "(II)I"⟩
abbrev m_Yard_height : MethodName × ByteArray × Nat × Option FieldType := (y_Yard_height, b_Yard_height, 4, (some .int))
abbrev b_Yard_size : ByteArray := prog_1_method_15_code
def y_Yard_size : MethodName := ⟨R_Yard, "size", "(I)I"⟩
abbrev m_Yard_size : MethodName × ByteArray × Nat × Option FieldType := (y_Yard_size, b_Yard_size, 3, (some .int))
abbrev b_Model_init : ByteArray := prog_9_method_1_code
def y_Model_init : MethodName := ⟨R_Model, "<init>", "()V"⟩
abbrev m_Model_init : MethodName × ByteArray × Nat × Option FieldType := (y_Model_init, b_Model_init, 1, none)
abbrev b_Model_feed : ByteArray := prog_9_method_3_code
def y_Model_feed : MethodName := ⟨R_Model, "feed", "(IIIII)I"⟩
abbrev m_Model_feed : MethodName × ByteArray × Nat × Option FieldType := (y_Model_feed, b_Model_feed, 6, (some .int))
abbrev b_Model_putFour : ByteArray := prog_9_method_2_code
def y_Model_putFour : MethodName := ⟨R_Model, "putFour", "(I)V"⟩
abbrev m_Model_putFour : MethodName × ByteArray × Nat × Option FieldType := (y_Model_putFour, b_Model_putFour, 3, none)
abbrev b_Model_end : ByteArray := prog_9_method_4_code
def y_Model_end : MethodName := ⟨R_Model, "end", "(I)I"⟩
abbrev m_Model_end : MethodName × ByteArray × Nat × Option FieldType := (y_Model_end, b_Model_end, 2, (some .int))
abbrev b_Model_poke : ByteArray := prog_9_method_5_code
def y_Model_poke : MethodName := ⟨R_Model, "poke", "(II)I"⟩
abbrev m_Model_poke : MethodName × ByteArray × Nat × Option FieldType := (y_Model_poke, b_Model_poke, 4, (some .int))
abbrev b_Model_load : ByteArray := prog_9_method_16_code
def y_Model_load : MethodName := ⟨R_Model, "load", "(I)I"⟩
abbrev m_Model_load : MethodName × ByteArray × Nat × Option FieldType := (y_Model_load, b_Model_load, 4, (some .int))
abbrev b_Model_look : ByteArray := prog_9_method_12_code
def y_Model_look : MethodName := ⟨R_Model, "look", "()I"⟩
abbrev m_Model_look : MethodName × ByteArray × Nat × Option FieldType := (y_Model_look, b_Model_look, 6, (some .int))
abbrev b_Model_bad : ByteArray := prog_9_method_7_code
def y_Model_bad : MethodName := ⟨R_Model, "bad", "(II)V"⟩
abbrev m_Model_bad : MethodName × ByteArray × Nat × Option FieldType := (y_Model_bad, b_Model_bad, 3, none)
abbrev b_Model_at : ByteArray := prog_9_method_6_code
def y_Model_at : MethodName := ⟨R_Model, "at", "(I)I"⟩
abbrev m_Model_at : MethodName × ByteArray × Nat × Option FieldType := (y_Model_at, b_Model_at, 2, (some .int))
abbrev b_Model_hasOperand : ByteArray := prog_9_method_8_code
def y_Model_hasOperand : MethodName := ⟨R_Model, "hasOperand", "(I)Z"⟩
abbrev m_Model_hasOperand : MethodName × ByteArray × Nat × Option FieldType := (y_Model_hasOperand, b_Model_hasOperand, 1, (some .boolean))
abbrev b_Model_isOperand : ByteArray := prog_9_method_11_code
def y_Model_isOperand : MethodName := ⟨R_Model, "isOperand", "(II)Z"⟩
abbrev m_Model_isOperand : MethodName × ByteArray × Nat × Option FieldType := (y_Model_isOperand, b_Model_isOperand, 2, (some .boolean))
abbrev b_Model_walk : ByteArray := prog_9_method_14_code
def y_Model_walk : MethodName := ⟨R_Model, "walk", "()V"⟩
abbrev m_Model_walk : MethodName × ByteArray × Nat × Option FieldType := (y_Model_walk, b_Model_walk, 3, none)
abbrev b_Model_come : ByteArray := prog_9_method_13_code
def y_Model_come : MethodName := ⟨R_Model, "come", "(II)V"⟩
abbrev m_Model_come : MethodName × ByteArray × Nat × Option FieldType := (y_Model_come, b_Model_come, 3, none)
abbrev b_Model_goThrough : ByteArray := prog_9_method_15_code
def y_Model_goThrough : MethodName := ⟨R_Model, "goThrough", "(I)V"⟩
abbrev m_Model_goThrough : MethodName × ByteArray × Nat × Option FieldType := (y_Model_goThrough, b_Model_goThrough, 6, none)
abbrev b_Model_takes : ByteArray := prog_9_method_9_code
def y_Model_takes : MethodName := ⟨R_Model, "takes", "(I)I"⟩
abbrev m_Model_takes : MethodName × ByteArray × Nat × Option FieldType := (y_Model_takes, b_Model_takes, 1, (some .int))
abbrev b_Model_gives : ByteArray := prog_9_method_10_code
def y_Model_gives : MethodName := ⟨R_Model, "gives", "(I)I"⟩
abbrev m_Model_gives : MethodName × ByteArray × Nat × Option FieldType := (y_Model_gives, b_Model_gives, 1, (some .int))
abbrev b_Model_begin : ByteArray := prog_9_method_17_code
def y_Model_begin : MethodName := ⟨R_Model, "begin", "(II)I"⟩
abbrev m_Model_begin : MethodName × ByteArray × Nat × Option FieldType := (y_Model_begin, b_Model_begin, 4, (some .int))
abbrev b_Model_undo : ByteArray := prog_9_method_19_code
def y_Model_undo : MethodName := ⟨R_Model, "undo", "()V"⟩
abbrev m_Model_undo : MethodName × ByteArray × Nat × Option FieldType := (y_Model_undo, b_Model_undo, 2, none)
abbrev b_Model_enter : ByteArray := prog_9_method_18_code
def y_Model_enter : MethodName := ⟨R_Model, "enter", "(II)V"⟩
abbrev m_Model_enter : MethodName × ByteArray × Nat × Option FieldType := (y_Model_enter, b_Model_enter, 4, none)
abbrev b_Model_go : ByteArray := prog_9_method_24_code
def y_Model_go : MethodName := ⟨R_Model, "go", "(I)I"⟩
abbrev m_Model_go : MethodName × ByteArray × Nat × Option FieldType := (y_Model_go, b_Model_go, 3, (some .int))
abbrev b_Model_throwFor : ByteArray := prog_9_method_20_code
def y_Model_throwFor : MethodName := ⟨R_Model, "throwFor", "(I)V"⟩
abbrev m_Model_throwFor : MethodName × ByteArray × Nat × Option FieldType := (y_Model_throwFor, b_Model_throwFor, 2, none)
abbrev b_Model_oneStep : ByteArray := prog_9_method_25_code
def y_Model_oneStep : MethodName := ⟨R_Model, "oneStep", "()V"⟩
abbrev m_Model_oneStep : MethodName × ByteArray × Nat × Option FieldType := (y_Model_oneStep, b_Model_oneStep, 6, none)
abbrev b_Model_simple : ByteArray := prog_9_method_26_code
def y_Model_simple : MethodName := ⟨R_Model, "simple", "(IIII)V"⟩
abbrev m_Model_simple : MethodName × ByteArray × Nat × Option FieldType := (y_Model_simple, b_Model_simple, 5, none)
abbrev b_Model_push : ByteArray := prog_9_method_21_code
def y_Model_push : MethodName := ⟨R_Model, "push", "(I)V"⟩
abbrev m_Model_push : MethodName × ByteArray × Nat × Option FieldType := (y_Model_push, b_Model_push, 3, none)
abbrev b_Model_pop : ByteArray := prog_9_method_22_code
def y_Model_pop : MethodName := ⟨R_Model, "pop", "()I"⟩
abbrev m_Model_pop : MethodName × ByteArray × Nat × Option FieldType := (y_Model_pop, b_Model_pop, 3, (some .int))
abbrev b_Model_works : ByteArray := prog_9_method_27_code
def y_Model_works : MethodName := ⟨R_Model, "works", "(I)V"⟩
abbrev m_Model_works : MethodName × ByteArray × Nat × Option FieldType := (y_Model_works, b_Model_works, 4, none)
abbrev b_Model_jumps : ByteArray := prog_9_method_28_code
def y_Model_jumps : MethodName := ⟨R_Model, "jumps", "(III)V"⟩
abbrev m_Model_jumps : MethodName × ByteArray × Nat × Option FieldType := (y_Model_jumps, b_Model_jumps, 6, none)
abbrev b_Model_bytes : ByteArray := prog_9_method_29_code
def y_Model_bytes : MethodName := ⟨R_Model, "bytes", "(I)V"⟩
abbrev m_Model_bytes : MethodName × ByteArray × Nat × Option FieldType := (y_Model_bytes, b_Model_bytes, 3, none)
abbrev b_Model_finish : ByteArray := prog_9_method_30_code
def y_Model_finish : MethodName := ⟨R_Model, "finish", "(I)V"⟩
abbrev m_Model_finish : MethodName × ByteArray × Nat × Option FieldType := (y_Model_finish, b_Model_finish, 2, none)
abbrev b_Model_ends : ByteArray := prog_9_method_23_code
def y_Model_ends : MethodName := ⟨R_Model, "ends", "(I)V"⟩
abbrev m_Model_ends : MethodName × ByteArray × Nat × Option FieldType := (y_Model_ends, b_Model_ends, 2, none)
abbrev b_Model_divide : ByteArray := prog_9_method_31_code
def y_Model_divide : MethodName := ⟨R_Model, "divide", "(I)V"⟩
abbrev m_Model_divide : MethodName × ByteArray × Nat × Option FieldType := (y_Model_divide, b_Model_divide, 4, none)
abbrev b_Model_call : ByteArray := prog_9_method_32_code
def y_Model_call : MethodName := ⟨R_Model, "call", "(I)V"⟩
abbrev m_Model_call : MethodName × ByteArray × Nat × Option FieldType := (y_Model_call, b_Model_call, 2, none)
abbrev b_Model_state : ByteArray := prog_9_method_33_code
def y_Model_state : MethodName := ⟨R_Model, "state", "(I)I"⟩
abbrev m_Model_state : MethodName × ByteArray × Nat × Option FieldType := (y_Model_state, b_Model_state, 2, (some .int))
abbrev b_Model_stack : ByteArray := prog_9_method_34_code
def y_Model_stack : MethodName := ⟨R_Model, "stack", "(I)I"⟩
abbrev m_Model_stack : MethodName × ByteArray × Nat × Option FieldType := (y_Model_stack, b_Model_stack, 2, (some .int))
abbrev b_Model_local : ByteArray := prog_9_method_35_code
def y_Model_local : MethodName := ⟨R_Model, "local", "(I)I"⟩
abbrev m_Model_local : MethodName × ByteArray × Nat × Option FieldType := (y_Model_local, b_Model_local, 2, (some .int))
abbrev b_Model_cell : ByteArray := prog_9_method_36_code
def y_Model_cell : MethodName := ⟨R_Model, "cell", "(II)I"⟩
abbrev m_Model_cell : MethodName × ByteArray × Nat × Option FieldType := (y_Model_cell, b_Model_cell, 3, (some .int))
abbrev b_Model_out : ByteArray := prog_9_method_37_code
def y_Model_out : MethodName := ⟨R_Model, "out", "(I)I"⟩
abbrev m_Model_out : MethodName × ByteArray × Nat × Option FieldType := (y_Model_out, b_Model_out, 2, (some .int))
abbrev b_Model_height : ByteArray := prog_9_method_38_code
def y_Model_height : MethodName := ⟨R_Model, "height", "(II)I"⟩
abbrev m_Model_height : MethodName × ByteArray × Nat × Option FieldType := (y_Model_height, b_Model_height, 3, (some .int))
abbrev b_Model_size : ByteArray := prog_9_method_39_code
def y_Model_size : MethodName := ⟨R_Model, "size", "(I)I"⟩
abbrev m_Model_size : MethodName × ByteArray × Nat × Option FieldType := (y_Model_size, b_Model_size, 2, (some .int))
end
section
theorem d_Yard_init_0 : decode b_Yard_init 0 = .ok (.aload_n 0, 1) := by decide +kernel
theorem d_Yard_init_1 : decode b_Yard_init 1 = .ok (.invokespecial 1, 3) := by decide +kernel
theorem d_Yard_init_4 : decode b_Yard_init 4 = .ok (.aload_n 0, 1) := by decide +kernel
theorem d_Yard_init_5 : decode b_Yard_init 5 = .ok (.new 7, 3) := by decide +kernel
theorem d_Yard_init_8 : decode b_Yard_init 8 = .ok (.dup, 1) := by decide +kernel
theorem d_Yard_init_9 : decode b_Yard_init 9 = .ok (.sipush 300, 3) := by decide +kernel
theorem d_Yard_init_12 : decode b_Yard_init 12 = .ok (.invokespecial 11, 3) := by decide +kernel
theorem d_Yard_init_15 : decode b_Yard_init 15 = .ok (.putfield 14, 3) := by decide +kernel
theorem d_Yard_init_18 : decode b_Yard_init 18 = .ok (.aload_n 0, 1) := by decide +kernel
theorem d_Yard_init_19 : decode b_Yard_init 19 = .ok (.new 18, 3) := by decide +kernel
theorem d_Yard_init_22 : decode b_Yard_init 22 = .ok (.dup, 1) := by decide +kernel
theorem d_Yard_init_23 : decode b_Yard_init 23 = .ok (.invokespecial 20, 3) := by decide +kernel
theorem d_Yard_init_26 : decode b_Yard_init 26 = .ok (.putfield 21, 3) := by decide +kernel
theorem d_Yard_init_29 : decode b_Yard_init 29 = .ok (.aload_n 0, 1) := by decide +kernel
theorem d_Yard_init_30 : decode b_Yard_init 30 = .ok (.new 25, 3) := by decide +kernel
theorem d_Yard_init_33 : decode b_Yard_init 33 = .ok (.dup, 1) := by decide +kernel
theorem d_Yard_init_34 : decode b_Yard_init 34 = .ok (.invokespecial 27, 3) := by decide +kernel
theorem d_Yard_init_37 : decode b_Yard_init 37 = .ok (.putfield 28, 3) := by decide +kernel
theorem d_Yard_init_40 : decode b_Yard_init 40 = .ok (.aload_n 0, 1) := by decide +kernel
theorem d_Yard_init_41 : decode b_Yard_init 41 = .ok (.new 32, 3) := by decide +kernel
theorem d_Yard_init_44 : decode b_Yard_init 44 = .ok (.dup, 1) := by decide +kernel
theorem d_Yard_init_45 : decode b_Yard_init 45 = .ok (.aload_n 0, 1) := by decide +kernel
theorem d_Yard_init_46 : decode b_Yard_init 46 = .ok (.getfield 21, 3) := by decide +kernel
theorem d_Yard_init_49 : decode b_Yard_init 49 = .ok (.invokespecial 34, 3) := by decide +kernel
theorem d_Yard_init_52 : decode b_Yard_init 52 = .ok (.putfield 37, 3) := by decide +kernel
theorem d_Yard_init_55 : decode b_Yard_init 55 = .ok (.return_, 1) := by decide +kernel
theorem d_Yard_feed_0 : decode b_Yard_feed 0 = .ok (.aload_n 0, 1) := by decide +kernel
theorem d_Yard_feed_1 : decode b_Yard_feed 1 = .ok (.getfield 14, 3) := by decide +kernel
theorem d_Yard_feed_4 : decode b_Yard_feed 4 = .ok (.getfield 41, 3) := by decide +kernel
theorem d_Yard_feed_7 : decode b_Yard_feed 7 = .ok (.bipush 20, 2) := by decide +kernel
theorem d_Yard_feed_9 : decode b_Yard_feed 9 = .ok (.iadd, 1) := by decide +kernel
theorem d_Yard_feed_10 : decode b_Yard_feed 10 = .ok (.sipush 300, 3) := by decide +kernel
theorem d_Yard_feed_13 : decode b_Yard_feed 13 = .ok (.if_icmp .le 5, 3) := by decide +kernel
theorem d_Yard_feed_16 : decode b_Yard_feed 16 = .ok (.iconst (-1), 1) := by decide +kernel
theorem d_Yard_feed_17 : decode b_Yard_feed 17 = .ok (.ireturn, 1) := by decide +kernel
theorem d_Yard_feed_18 : decode b_Yard_feed 18 = .ok (.aload_n 0, 1) := by decide +kernel
theorem d_Yard_feed_19 : decode b_Yard_feed 19 = .ok (.iload_n 1, 1) := by decide +kernel
theorem d_Yard_feed_20 : decode b_Yard_feed 20 = .ok (.invokevirtual 45, 3) := by decide +kernel
theorem d_Yard_feed_23 : decode b_Yard_feed 23 = .ok (.aload_n 0, 1) := by decide +kernel
theorem d_Yard_feed_24 : decode b_Yard_feed 24 = .ok (.iload_n 2, 1) := by decide +kernel
theorem d_Yard_feed_25 : decode b_Yard_feed 25 = .ok (.invokevirtual 45, 3) := by decide +kernel
theorem d_Yard_feed_28 : decode b_Yard_feed 28 = .ok (.aload_n 0, 1) := by decide +kernel
theorem d_Yard_feed_29 : decode b_Yard_feed 29 = .ok (.iload_n 3, 1) := by decide +kernel
theorem d_Yard_feed_30 : decode b_Yard_feed 30 = .ok (.invokevirtual 45, 3) := by decide +kernel
theorem d_Yard_feed_33 : decode b_Yard_feed 33 = .ok (.aload_n 0, 1) := by decide +kernel
theorem d_Yard_feed_34 : decode b_Yard_feed 34 = .ok (.iload 4, 2) := by decide +kernel
theorem d_Yard_feed_36 : decode b_Yard_feed 36 = .ok (.invokevirtual 45, 3) := by decide +kernel
theorem d_Yard_feed_39 : decode b_Yard_feed 39 = .ok (.aload_n 0, 1) := by decide +kernel
theorem d_Yard_feed_40 : decode b_Yard_feed 40 = .ok (.iload 5, 2) := by decide +kernel
theorem d_Yard_feed_42 : decode b_Yard_feed 42 = .ok (.invokevirtual 45, 3) := by decide +kernel
theorem d_Yard_feed_45 : decode b_Yard_feed 45 = .ok (.aload_n 0, 1) := by decide +kernel
theorem d_Yard_feed_46 : decode b_Yard_feed 46 = .ok (.getfield 14, 3) := by decide +kernel
theorem d_Yard_feed_49 : decode b_Yard_feed 49 = .ok (.getfield 41, 3) := by decide +kernel
theorem d_Yard_feed_52 : decode b_Yard_feed 52 = .ok (.ireturn, 1) := by decide +kernel
theorem d_Yard_addBytes_0 : decode b_Yard_addBytes 0 = .ok (.bipush 24, 2) := by decide +kernel
theorem d_Yard_addBytes_2 : decode b_Yard_addBytes 2 = .ok (.istore_n 2, 1) := by decide +kernel
theorem d_Yard_addBytes_3 : decode b_Yard_addBytes 3 = .ok (.iload_n 2, 1) := by decide +kernel
theorem d_Yard_addBytes_4 : decode b_Yard_addBytes 4 = .ok (.ifCond .lt 23, 3) := by decide +kernel
theorem d_Yard_addBytes_7 : decode b_Yard_addBytes 7 = .ok (.aload_n 0, 1) := by decide +kernel
theorem d_Yard_addBytes_8 : decode b_Yard_addBytes 8 = .ok (.getfield 14, 3) := by decide +kernel
theorem d_Yard_addBytes_11 : decode b_Yard_addBytes 11 = .ok (.iload_n 1, 1) := by decide +kernel
theorem d_Yard_addBytes_12 : decode b_Yard_addBytes 12 = .ok (.iload_n 2, 1) := by decide +kernel
theorem d_Yard_addBytes_13 : decode b_Yard_addBytes 13 = .ok (.iushr, 1) := by decide +kernel
theorem d_Yard_addBytes_14 : decode b_Yard_addBytes 14 = .ok (.sipush 255, 3) := by decide +kernel
theorem d_Yard_addBytes_17 : decode b_Yard_addBytes 17 = .ok (.iand, 1) := by decide +kernel
theorem d_Yard_addBytes_18 : decode b_Yard_addBytes 18 = .ok (.invokevirtual 48, 3) := by decide +kernel
theorem d_Yard_addBytes_21 : decode b_Yard_addBytes 21 = .ok (.iinc 2 (-8), 3) := by decide +kernel
theorem d_Yard_addBytes_24 : decode b_Yard_addBytes 24 = .ok (.goto (-21), 3) := by decide +kernel
theorem d_Yard_addBytes_27 : decode b_Yard_addBytes 27 = .ok (.return_, 1) := by decide +kernel
theorem d_Yard_end_0 : decode b_Yard_end 0 = .ok (.iload_n 1, 1) := by decide +kernel
theorem d_Yard_end_1 : decode b_Yard_end 1 = .ok (.ifCond .lt 14, 3) := by decide +kernel
theorem d_Yard_end_4 : decode b_Yard_end 4 = .ok (.iload_n 1, 1) := by decide +kernel
theorem d_Yard_end_5 : decode b_Yard_end 5 = .ok (.aload_n 0, 1) := by decide +kernel
theorem d_Yard_end_6 : decode b_Yard_end 6 = .ok (.getfield 14, 3) := by decide +kernel
theorem d_Yard_end_9 : decode b_Yard_end 9 = .ok (.getfield 41, 3) := by decide +kernel
theorem d_Yard_end_12 : decode b_Yard_end 12 = .ok (.if_icmp .le 5, 3) := by decide +kernel
theorem d_Yard_end_15 : decode b_Yard_end 15 = .ok (.iconst (-1), 1) := by decide +kernel
theorem d_Yard_end_16 : decode b_Yard_end 16 = .ok (.ireturn, 1) := by decide +kernel
theorem d_Yard_end_17 : decode b_Yard_end 17 = .ok (.aload_n 0, 1) := by decide +kernel
theorem d_Yard_end_18 : decode b_Yard_end 18 = .ok (.getfield 14, 3) := by decide +kernel
theorem d_Yard_end_21 : decode b_Yard_end 21 = .ok (.iload_n 1, 1) := by decide +kernel
theorem d_Yard_end_22 : decode b_Yard_end 22 = .ok (.invokevirtual 51, 3) := by decide +kernel
theorem d_Yard_end_25 : decode b_Yard_end 25 = .ok (.iload_n 1, 1) := by decide +kernel
theorem d_Yard_end_26 : decode b_Yard_end 26 = .ok (.ireturn, 1) := by decide +kernel
theorem d_Yard_poke_0 : decode b_Yard_poke 0 = .ok (.aload_n 0, 1) := by decide +kernel
theorem d_Yard_poke_1 : decode b_Yard_poke 1 = .ok (.getfield 14, 3) := by decide +kernel
theorem d_Yard_poke_4 : decode b_Yard_poke 4 = .ok (.iload_n 1, 1) := by decide +kernel
theorem d_Yard_poke_5 : decode b_Yard_poke 5 = .ok (.iconst (-1), 1) := by decide +kernel
theorem d_Yard_poke_6 : decode b_Yard_poke 6 = .ok (.invokevirtual 54, 3) := by decide +kernel
theorem d_Yard_poke_9 : decode b_Yard_poke 9 = .ok (.istore_n 3, 1) := by decide +kernel
theorem d_Yard_poke_10 : decode b_Yard_poke 10 = .ok (.aload_n 0, 1) := by decide +kernel
theorem d_Yard_poke_11 : decode b_Yard_poke 11 = .ok (.getfield 14, 3) := by decide +kernel
theorem d_Yard_poke_14 : decode b_Yard_poke 14 = .ok (.iload_n 1, 1) := by decide +kernel
theorem d_Yard_poke_15 : decode b_Yard_poke 15 = .ok (.iload_n 2, 1) := by decide +kernel
theorem d_Yard_poke_16 : decode b_Yard_poke 16 = .ok (.sipush 255, 3) := by decide +kernel
theorem d_Yard_poke_19 : decode b_Yard_poke 19 = .ok (.iand, 1) := by decide +kernel
theorem d_Yard_poke_20 : decode b_Yard_poke 20 = .ok (.invokevirtual 58, 3) := by decide +kernel
theorem d_Yard_poke_23 : decode b_Yard_poke 23 = .ok (.iload_n 3, 1) := by decide +kernel
theorem d_Yard_poke_24 : decode b_Yard_poke 24 = .ok (.ireturn, 1) := by decide +kernel
theorem d_Yard_load_0 : decode b_Yard_load 0 = .ok (.aload_n 0, 1) := by decide +kernel
theorem d_Yard_load_1 : decode b_Yard_load 1 = .ok (.getfield 21, 3) := by decide +kernel
theorem d_Yard_load_4 : decode b_Yard_load 4 = .ok (.iload_n 1, 1) := by decide +kernel
theorem d_Yard_load_5 : decode b_Yard_load 5 = .ok (.invokevirtual 62, 3) := by decide +kernel
theorem d_Yard_load_8 : decode b_Yard_load 8 = .ok (.astore_n 2, 1) := by decide +kernel
theorem d_Yard_load_9 : decode b_Yard_load 9 = .ok (.aload_n 2, 1) := by decide +kernel
theorem d_Yard_load_10 : decode b_Yard_load 10 = .ok (.ifnull 13, 3) := by decide +kernel
theorem d_Yard_load_13 : decode b_Yard_load 13 = .ok (.aload_n 0, 1) := by decide +kernel
theorem d_Yard_load_14 : decode b_Yard_load 14 = .ok (.getfield 37, 3) := by decide +kernel
theorem d_Yard_load_17 : decode b_Yard_load 17 = .ok (.invokevirtual 66, 3) := by decide +kernel
theorem d_Yard_load_20 : decode b_Yard_load 20 = .ok (.ifCond .eq 5, 3) := by decide +kernel
theorem d_Yard_load_23 : decode b_Yard_load 23 = .ok (.iconst (-1), 1) := by decide +kernel
theorem d_Yard_load_24 : decode b_Yard_load 24 = .ok (.ireturn, 1) := by decide +kernel
theorem d_Yard_load_25 : decode b_Yard_load 25 = .ok (.aload_n 0, 1) := by decide +kernel
theorem d_Yard_load_26 : decode b_Yard_load 26 = .ok (.getfield 28, 3) := by decide +kernel
theorem d_Yard_load_29 : decode b_Yard_load 29 = .ok (.aload_n 0, 1) := by decide +kernel
theorem d_Yard_load_30 : decode b_Yard_load 30 = .ok (.getfield 14, 3) := by decide +kernel
theorem d_Yard_load_33 : decode b_Yard_load 33 = .ok (.invokevirtual 70, 3) := by decide +kernel
theorem d_Yard_load_36 : decode b_Yard_load 36 = .ok (.istore_n 3, 1) := by decide +kernel
theorem d_Yard_load_37 : decode b_Yard_load 37 = .ok (.iload_n 3, 1) := by decide +kernel
theorem d_Yard_load_38 : decode b_Yard_load 38 = .ok (.ifCond .ne 18, 3) := by decide +kernel
theorem d_Yard_load_41 : decode b_Yard_load 41 = .ok (.aload_n 2, 1) := by decide +kernel
theorem d_Yard_load_42 : decode b_Yard_load 42 = .ok (.aload_n 0, 1) := by decide +kernel
theorem d_Yard_load_43 : decode b_Yard_load 43 = .ok (.getfield 14, 3) := by decide +kernel
theorem d_Yard_load_46 : decode b_Yard_load 46 = .ok (.aload_n 0, 1) := by decide +kernel
theorem d_Yard_load_47 : decode b_Yard_load 47 = .ok (.getfield 28, 3) := by decide +kernel
theorem d_Yard_load_50 : decode b_Yard_load 50 = .ok (.getfield 74, 3) := by decide +kernel
theorem d_Yard_load_53 : decode b_Yard_load 53 = .ok (.invokevirtual 77, 3) := by decide +kernel
theorem d_Yard_load_56 : decode b_Yard_load 56 = .ok (.aload_n 0, 1) := by decide +kernel
theorem d_Yard_load_57 : decode b_Yard_load 57 = .ok (.getfield 14, 3) := by decide +kernel
theorem d_Yard_load_60 : decode b_Yard_load 60 = .ok (.iconst 0, 1) := by decide +kernel
theorem d_Yard_load_61 : decode b_Yard_load 61 = .ok (.invokevirtual 51, 3) := by decide +kernel
theorem d_Yard_load_64 : decode b_Yard_load 64 = .ok (.iload_n 3, 1) := by decide +kernel
theorem d_Yard_load_65 : decode b_Yard_load 65 = .ok (.ifCond .ne 13, 3) := by decide +kernel
theorem d_Yard_load_68 : decode b_Yard_load 68 = .ok (.aload_n 0, 1) := by decide +kernel
theorem d_Yard_load_69 : decode b_Yard_load 69 = .ok (.getfield 28, 3) := by decide +kernel
theorem d_Yard_load_72 : decode b_Yard_load 72 = .ok (.getfield 83, 3) := by decide +kernel
theorem d_Yard_load_75 : decode b_Yard_load 75 = .ok (.goto 4, 3) := by decide +kernel
theorem d_Yard_load_78 : decode b_Yard_load 78 = .ok (.iload_n 3, 1) := by decide +kernel
theorem d_Yard_load_79 : decode b_Yard_load 79 = .ok (.ireturn, 1) := by decide +kernel
theorem d_Yard_begin_0 : decode b_Yard_begin 0 = .ok (.aload_n 0, 1) := by decide +kernel
theorem d_Yard_begin_1 : decode b_Yard_begin 1 = .ok (.getfield 21, 3) := by decide +kernel
theorem d_Yard_begin_4 : decode b_Yard_begin 4 = .ok (.iload_n 1, 1) := by decide +kernel
theorem d_Yard_begin_5 : decode b_Yard_begin 5 = .ok (.invokevirtual 86, 3) := by decide +kernel
theorem d_Yard_begin_8 : decode b_Yard_begin 8 = .ok (.astore_n 3, 1) := by decide +kernel
theorem d_Yard_begin_9 : decode b_Yard_begin 9 = .ok (.aload_n 3, 1) := by decide +kernel
theorem d_Yard_begin_10 : decode b_Yard_begin 10 = .ok (.ifnull 12, 3) := by decide +kernel
theorem d_Yard_begin_13 : decode b_Yard_begin 13 = .ok (.iload_n 2, 1) := by decide +kernel
theorem d_Yard_begin_14 : decode b_Yard_begin 14 = .ok (.ifCond .lt 8, 3) := by decide +kernel
theorem d_Yard_begin_17 : decode b_Yard_begin 17 = .ok (.iload_n 2, 1) := by decide +kernel
theorem d_Yard_begin_18 : decode b_Yard_begin 18 = .ok (.iconst 3, 1) := by decide +kernel
theorem d_Yard_begin_19 : decode b_Yard_begin 19 = .ok (.if_icmp .lt 5, 3) := by decide +kernel
theorem d_Yard_begin_22 : decode b_Yard_begin 22 = .ok (.iconst (-1), 1) := by decide +kernel
theorem d_Yard_begin_23 : decode b_Yard_begin 23 = .ok (.ireturn, 1) := by decide +kernel
theorem d_Yard_begin_24 : decode b_Yard_begin 24 = .ok (.aload_n 0, 1) := by decide +kernel
theorem d_Yard_begin_25 : decode b_Yard_begin 25 = .ok (.getfield 37, 3) := by decide +kernel
theorem d_Yard_begin_28 : decode b_Yard_begin 28 = .ok (.aload_n 3, 1) := by decide +kernel
theorem d_Yard_begin_29 : decode b_Yard_begin 29 = .ok (.iload_n 2, 1) := by decide +kernel
theorem d_Yard_begin_30 : decode b_Yard_begin 30 = .ok (.aload_n 0, 1) := by decide +kernel
theorem d_Yard_begin_31 : decode b_Yard_begin 31 = .ok (.getfield 14, 3) := by decide +kernel
theorem d_Yard_begin_34 : decode b_Yard_begin 34 = .ok (.invokevirtual 89, 3) := by decide +kernel
theorem d_Yard_begin_37 : decode b_Yard_begin 37 = .ok (.aload_n 0, 1) := by decide +kernel
theorem d_Yard_begin_38 : decode b_Yard_begin 38 = .ok (.getfield 14, 3) := by decide +kernel
theorem d_Yard_begin_41 : decode b_Yard_begin 41 = .ok (.iconst 0, 1) := by decide +kernel
theorem d_Yard_begin_42 : decode b_Yard_begin 42 = .ok (.invokevirtual 51, 3) := by decide +kernel
theorem d_Yard_begin_45 : decode b_Yard_begin 45 = .ok (.iconst 1, 1) := by decide +kernel
theorem d_Yard_begin_46 : decode b_Yard_begin 46 = .ok (.ireturn, 1) := by decide +kernel
theorem d_Yard_go_0 : decode b_Yard_go 0 = .ok (.iload_n 1, 1) := by decide +kernel
theorem d_Yard_go_1 : decode b_Yard_go 1 = .ok (.ifCond .lt 20, 3) := by decide +kernel
theorem d_Yard_go_4 : decode b_Yard_go 4 = .ok (.iload_n 1, 1) := by decide +kernel
theorem d_Yard_go_5 : decode b_Yard_go 5 = .ok (.sipush 2001, 3) := by decide +kernel
theorem d_Yard_go_8 : decode b_Yard_go 8 = .ok (.if_icmp .gt 13, 3) := by decide +kernel
theorem d_Yard_go_11 : decode b_Yard_go 11 = .ok (.aload_n 0, 1) := by decide +kernel
theorem d_Yard_go_12 : decode b_Yard_go 12 = .ok (.getfield 37, 3) := by decide +kernel
theorem d_Yard_go_15 : decode b_Yard_go 15 = .ok (.invokevirtual 66, 3) := by decide +kernel
theorem d_Yard_go_18 : decode b_Yard_go 18 = .ok (.ifCond .ne 5, 3) := by decide +kernel
theorem d_Yard_go_21 : decode b_Yard_go 21 = .ok (.iconst (-1), 1) := by decide +kernel
theorem d_Yard_go_22 : decode b_Yard_go 22 = .ok (.ireturn, 1) := by decide +kernel
theorem d_Yard_go_23 : decode b_Yard_go 23 = .ok (.aload_n 0, 1) := by decide +kernel
theorem d_Yard_go_24 : decode b_Yard_go 24 = .ok (.getfield 37, 3) := by decide +kernel
theorem d_Yard_go_27 : decode b_Yard_go 27 = .ok (.iload_n 1, 1) := by decide +kernel
theorem d_Yard_go_28 : decode b_Yard_go 28 = .ok (.invokevirtual 93, 3) := by decide +kernel
theorem d_Yard_go_31 : decode b_Yard_go 31 = .ok (.ireturn, 1) := by decide +kernel
theorem d_Yard_state_0 : decode b_Yard_state 0 = .ok (.aload_n 0, 1) := by decide +kernel
theorem d_Yard_state_1 : decode b_Yard_state 1 = .ok (.getfield 37, 3) := by decide +kernel
theorem d_Yard_state_4 : decode b_Yard_state 4 = .ok (.iload_n 1, 1) := by decide +kernel
theorem d_Yard_state_5 : decode b_Yard_state 5 = .ok (.invokevirtual 97, 3) := by decide +kernel
theorem d_Yard_state_8 : decode b_Yard_state 8 = .ok (.ireturn, 1) := by decide +kernel
theorem d_Yard_stack_0 : decode b_Yard_stack 0 = .ok (.aload_n 0, 1) := by decide +kernel
theorem d_Yard_stack_1 : decode b_Yard_stack 1 = .ok (.getfield 37, 3) := by decide +kernel
theorem d_Yard_stack_4 : decode b_Yard_stack 4 = .ok (.invokevirtual 66, 3) := by decide +kernel
theorem d_Yard_stack_7 : decode b_Yard_stack 7 = .ok (.ifCond .eq 21, 3) := by decide +kernel
theorem d_Yard_stack_10 : decode b_Yard_stack 10 = .ok (.aload_n 0, 1) := by decide +kernel
theorem d_Yard_stack_11 : decode b_Yard_stack 11 = .ok (.getfield 37, 3) := by decide +kernel
theorem d_Yard_stack_14 : decode b_Yard_stack 14 = .ok (.getfield 100, 3) := by decide +kernel
theorem d_Yard_stack_17 : decode b_Yard_stack 17 = .ok (.getfield 104, 3) := by decide +kernel
theorem d_Yard_stack_20 : decode b_Yard_stack 20 = .ok (.iload_n 1, 1) := by decide +kernel
theorem d_Yard_stack_21 : decode b_Yard_stack 21 = .ok (.iconst 0, 1) := by decide +kernel
theorem d_Yard_stack_22 : decode b_Yard_stack 22 = .ok (.invokevirtual 54, 3) := by decide +kernel
theorem d_Yard_stack_25 : decode b_Yard_stack 25 = .ok (.goto 4, 3) := by decide +kernel
theorem d_Yard_stack_28 : decode b_Yard_stack 28 = .ok (.iconst 0, 1) := by decide +kernel
theorem d_Yard_stack_29 : decode b_Yard_stack 29 = .ok (.ireturn, 1) := by decide +kernel
theorem d_Yard_local_0 : decode b_Yard_local 0 = .ok (.aload_n 0, 1) := by decide +kernel
theorem d_Yard_local_1 : decode b_Yard_local 1 = .ok (.getfield 37, 3) := by decide +kernel
theorem d_Yard_local_4 : decode b_Yard_local 4 = .ok (.invokevirtual 66, 3) := by decide +kernel
theorem d_Yard_local_7 : decode b_Yard_local 7 = .ok (.ifCond .eq 21, 3) := by decide +kernel
theorem d_Yard_local_10 : decode b_Yard_local 10 = .ok (.aload_n 0, 1) := by decide +kernel
theorem d_Yard_local_11 : decode b_Yard_local 11 = .ok (.getfield 37, 3) := by decide +kernel
theorem d_Yard_local_14 : decode b_Yard_local 14 = .ok (.getfield 100, 3) := by decide +kernel
theorem d_Yard_local_17 : decode b_Yard_local 17 = .ok (.getfield 109, 3) := by decide +kernel
theorem d_Yard_local_20 : decode b_Yard_local 20 = .ok (.iload_n 1, 1) := by decide +kernel
theorem d_Yard_local_21 : decode b_Yard_local 21 = .ok (.iconst 0, 1) := by decide +kernel
theorem d_Yard_local_22 : decode b_Yard_local 22 = .ok (.invokevirtual 54, 3) := by decide +kernel
theorem d_Yard_local_25 : decode b_Yard_local 25 = .ok (.goto 4, 3) := by decide +kernel
theorem d_Yard_local_28 : decode b_Yard_local 28 = .ok (.iconst 0, 1) := by decide +kernel
theorem d_Yard_local_29 : decode b_Yard_local 29 = .ok (.ireturn, 1) := by decide +kernel
theorem d_Yard_cell_0 : decode b_Yard_cell 0 = .ok (.aload_n 0, 1) := by decide +kernel
theorem d_Yard_cell_1 : decode b_Yard_cell 1 = .ok (.getfield 21, 3) := by decide +kernel
theorem d_Yard_cell_4 : decode b_Yard_cell 4 = .ok (.iload_n 1, 1) := by decide +kernel
theorem d_Yard_cell_5 : decode b_Yard_cell 5 = .ok (.invokevirtual 86, 3) := by decide +kernel
theorem d_Yard_cell_8 : decode b_Yard_cell 8 = .ok (.astore_n 3, 1) := by decide +kernel
theorem d_Yard_cell_9 : decode b_Yard_cell 9 = .ok (.aload_n 3, 1) := by decide +kernel
theorem d_Yard_cell_10 : decode b_Yard_cell 10 = .ok (.ifnonnull 7, 3) := by decide +kernel
theorem d_Yard_cell_13 : decode b_Yard_cell 13 = .ok (.iconst 0, 1) := by decide +kernel
theorem d_Yard_cell_14 : decode b_Yard_cell 14 = .ok (.goto 12, 3) := by decide +kernel
theorem d_Yard_cell_17 : decode b_Yard_cell 17 = .ok (.aload_n 3, 1) := by decide +kernel
theorem d_Yard_cell_18 : decode b_Yard_cell 18 = .ok (.getfield 112, 3) := by decide +kernel
theorem d_Yard_cell_21 : decode b_Yard_cell 21 = .ok (.iload_n 2, 1) := by decide +kernel
theorem d_Yard_cell_22 : decode b_Yard_cell 22 = .ok (.iconst 0, 1) := by decide +kernel
theorem d_Yard_cell_23 : decode b_Yard_cell 23 = .ok (.invokevirtual 54, 3) := by decide +kernel
theorem d_Yard_cell_26 : decode b_Yard_cell 26 = .ok (.ireturn, 1) := by decide +kernel
theorem d_Yard_out_0 : decode b_Yard_out 0 = .ok (.aload_n 0, 1) := by decide +kernel
theorem d_Yard_out_1 : decode b_Yard_out 1 = .ok (.getfield 37, 3) := by decide +kernel
theorem d_Yard_out_4 : decode b_Yard_out 4 = .ok (.getfield 115, 3) := by decide +kernel
theorem d_Yard_out_7 : decode b_Yard_out 7 = .ok (.iload_n 1, 1) := by decide +kernel
theorem d_Yard_out_8 : decode b_Yard_out 8 = .ok (.iconst (-1), 1) := by decide +kernel
theorem d_Yard_out_9 : decode b_Yard_out 9 = .ok (.invokevirtual 54, 3) := by decide +kernel
theorem d_Yard_out_12 : decode b_Yard_out 12 = .ok (.ireturn, 1) := by decide +kernel
theorem d_Yard_height_0 : decode b_Yard_height 0 = .ok (.aload_n 0, 1) := by decide +kernel
theorem d_Yard_height_1 : decode b_Yard_height 1 = .ok (.getfield 21, 3) := by decide +kernel
theorem d_Yard_height_4 : decode b_Yard_height 4 = .ok (.iload_n 1, 1) := by decide +kernel
theorem d_Yard_height_5 : decode b_Yard_height 5 = .ok (.invokevirtual 86, 3) := by decide +kernel
theorem d_Yard_height_8 : decode b_Yard_height 8 = .ok (.astore_n 3, 1) := by decide +kernel
theorem d_Yard_height_9 : decode b_Yard_height 9 = .ok (.aload_n 3, 1) := by decide +kernel
theorem d_Yard_height_10 : decode b_Yard_height 10 = .ok (.ifnonnull 7, 3) := by decide +kernel
theorem d_Yard_height_13 : decode b_Yard_height 13 = .ok (.iconst (-1), 1) := by decide +kernel
theorem d_Yard_height_14 : decode b_Yard_height 14 = .ok (.goto 12, 3) := by decide +kernel
theorem d_Yard_height_17 : decode b_Yard_height 17 = .ok (.aload_n 3, 1) := by decide +kernel
theorem d_Yard_height_18 : decode b_Yard_height 18 = .ok (.getfield 118, 3) := by decide +kernel
theorem d_Yard_height_21 : decode b_Yard_height 21 = .ok (.iload_n 2, 1) := by decide +kernel
theorem d_Yard_height_22 : decode b_Yard_height 22 = .ok (.iconst (-1), 1) := by decide +kernel
theorem d_Yard_height_23 : decode b_Yard_height 23 = .ok (.invokevirtual 54, 3) := by decide +kernel
theorem d_Yard_height_26 : decode b_Yard_height 26 = .ok (.ireturn, 1) := by decide +kernel
theorem d_Yard_size_0 : decode b_Yard_size 0 = .ok (.aload_n 0, 1) := by decide +kernel
theorem d_Yard_size_1 : decode b_Yard_size 1 = .ok (.getfield 21, 3) := by decide +kernel
theorem d_Yard_size_4 : decode b_Yard_size 4 = .ok (.iload_n 1, 1) := by decide +kernel
theorem d_Yard_size_5 : decode b_Yard_size 5 = .ok (.invokevirtual 86, 3) := by decide +kernel
theorem d_Yard_size_8 : decode b_Yard_size 8 = .ok (.astore_n 2, 1) := by decide +kernel
theorem d_Yard_size_9 : decode b_Yard_size 9 = .ok (.aload_n 2, 1) := by decide +kernel
theorem d_Yard_size_10 : decode b_Yard_size 10 = .ok (.ifnonnull 7, 3) := by decide +kernel
theorem d_Yard_size_13 : decode b_Yard_size 13 = .ok (.iconst (-1), 1) := by decide +kernel
theorem d_Yard_size_14 : decode b_Yard_size 14 = .ok (.goto 10, 3) := by decide +kernel
theorem d_Yard_size_17 : decode b_Yard_size 17 = .ok (.aload_n 2, 1) := by decide +kernel
theorem d_Yard_size_18 : decode b_Yard_size 18 = .ok (.getfield 119, 3) := by decide +kernel
theorem d_Yard_size_21 : decode b_Yard_size 21 = .ok (.getfield 41, 3) := by decide +kernel
theorem d_Yard_size_24 : decode b_Yard_size 24 = .ok (.ireturn, 1) := by decide +kernel
theorem d_Yard_isInstruction_0 : decode b_Yard_isInstruction 0 = .ok (.iload_n 0, 1) := by decide +kernel
theorem d_Yard_isInstruction_1 : decode b_Yard_isInstruction 1 = .ok (.ifCond .lt 15, 3) := by decide +kernel
theorem d_Yard_isInstruction_4 : decode b_Yard_isInstruction 4 = .ok (.iload_n 0, 1) := by decide +kernel
theorem d_Yard_isInstruction_5 : decode b_Yard_isInstruction 5 = .ok (.getstatic 122, 3) := by decide +kernel
theorem d_Yard_isInstruction_8 : decode b_Yard_isInstruction 8 = .ok (.arraylength, 1) := by decide +kernel
theorem d_Yard_isInstruction_9 : decode b_Yard_isInstruction 9 = .ok (.if_icmp .ge 7, 3) := by decide +kernel
theorem d_Yard_isInstruction_12 : decode b_Yard_isInstruction 12 = .ok (.iconst 1, 1) := by decide +kernel
theorem d_Yard_isInstruction_13 : decode b_Yard_isInstruction 13 = .ok (.goto 4, 3) := by decide +kernel
theorem d_Yard_isInstruction_16 : decode b_Yard_isInstruction 16 = .ok (.iconst 0, 1) := by decide +kernel
theorem d_Yard_isInstruction_17 : decode b_Yard_isInstruction 17 = .ok (.ireturn, 1) := by decide +kernel
theorem d_Yard_operandMost_0 : decode b_Yard_operandMost 0 = .ok (.iload_n 0, 1) := by decide +kernel
theorem d_Yard_operandMost_1 : decode b_Yard_operandMost 1 = .ok (.invokestatic 126, 3) := by decide +kernel
theorem d_Yard_operandMost_4 : decode b_Yard_operandMost 4 = .ok (.ifCond .eq 11, 3) := by decide +kernel
theorem d_Yard_operandMost_7 : decode b_Yard_operandMost 7 = .ok (.getstatic 122, 3) := by decide +kernel
theorem d_Yard_operandMost_10 : decode b_Yard_operandMost 10 = .ok (.iload_n 0, 1) := by decide +kernel
theorem d_Yard_operandMost_11 : decode b_Yard_operandMost 11 = .ok (.iaload, 1) := by decide +kernel
theorem d_Yard_operandMost_12 : decode b_Yard_operandMost 12 = .ok (.goto 4, 3) := by decide +kernel
theorem d_Yard_operandMost_15 : decode b_Yard_operandMost 15 = .ok (.iconst (-1), 1) := by decide +kernel
theorem d_Yard_operandMost_16 : decode b_Yard_operandMost 16 = .ok (.ireturn, 1) := by decide +kernel
theorem d_Yard_hasOperand_0 : decode b_Yard_hasOperand 0 = .ok (.iload_n 0, 1) := by decide +kernel
theorem d_Yard_hasOperand_1 : decode b_Yard_hasOperand 1 = .ok (.invokestatic 130, 3) := by decide +kernel
theorem d_Yard_hasOperand_4 : decode b_Yard_hasOperand 4 = .ok (.iconst (-1), 1) := by decide +kernel
theorem d_Yard_hasOperand_5 : decode b_Yard_hasOperand 5 = .ok (.if_icmp .eq 7, 3) := by decide +kernel
theorem d_Yard_hasOperand_8 : decode b_Yard_hasOperand 8 = .ok (.iconst 1, 1) := by decide +kernel
theorem d_Yard_hasOperand_9 : decode b_Yard_hasOperand 9 = .ok (.goto 4, 3) := by decide +kernel
theorem d_Yard_hasOperand_12 : decode b_Yard_hasOperand 12 = .ok (.iconst 0, 1) := by decide +kernel
theorem d_Yard_hasOperand_13 : decode b_Yard_hasOperand 13 = .ok (.ireturn, 1) := by decide +kernel
theorem d_Yard_takes_0 : decode b_Yard_takes 0 = .ok (.iload_n 0, 1) := by decide +kernel
theorem d_Yard_takes_1 : decode b_Yard_takes 1 = .ok (.ifCond .lt 19, 3) := by decide +kernel
theorem d_Yard_takes_4 : decode b_Yard_takes 4 = .ok (.iload_n 0, 1) := by decide +kernel
theorem d_Yard_takes_5 : decode b_Yard_takes 5 = .ok (.getstatic 133, 3) := by decide +kernel
theorem d_Yard_takes_8 : decode b_Yard_takes 8 = .ok (.arraylength, 1) := by decide +kernel
theorem d_Yard_takes_9 : decode b_Yard_takes 9 = .ok (.if_icmp .ge 11, 3) := by decide +kernel
theorem d_Yard_takes_12 : decode b_Yard_takes 12 = .ok (.getstatic 133, 3) := by decide +kernel
theorem d_Yard_takes_15 : decode b_Yard_takes 15 = .ok (.iload_n 0, 1) := by decide +kernel
theorem d_Yard_takes_16 : decode b_Yard_takes 16 = .ok (.iaload, 1) := by decide +kernel
theorem d_Yard_takes_17 : decode b_Yard_takes 17 = .ok (.goto 4, 3) := by decide +kernel
theorem d_Yard_takes_20 : decode b_Yard_takes 20 = .ok (.iconst 0, 1) := by decide +kernel
theorem d_Yard_takes_21 : decode b_Yard_takes 21 = .ok (.ireturn, 1) := by decide +kernel
theorem d_Yard_gives_0 : decode b_Yard_gives 0 = .ok (.iload_n 0, 1) := by decide +kernel
theorem d_Yard_gives_1 : decode b_Yard_gives 1 = .ok (.ifCond .lt 19, 3) := by decide +kernel
theorem d_Yard_gives_4 : decode b_Yard_gives 4 = .ok (.iload_n 0, 1) := by decide +kernel
theorem d_Yard_gives_5 : decode b_Yard_gives 5 = .ok (.getstatic 136, 3) := by decide +kernel
theorem d_Yard_gives_8 : decode b_Yard_gives 8 = .ok (.arraylength, 1) := by decide +kernel
theorem d_Yard_gives_9 : decode b_Yard_gives 9 = .ok (.if_icmp .ge 11, 3) := by decide +kernel
theorem d_Yard_gives_12 : decode b_Yard_gives 12 = .ok (.getstatic 136, 3) := by decide +kernel
theorem d_Yard_gives_15 : decode b_Yard_gives 15 = .ok (.iload_n 0, 1) := by decide +kernel
theorem d_Yard_gives_16 : decode b_Yard_gives 16 = .ok (.iaload, 1) := by decide +kernel
theorem d_Yard_gives_17 : decode b_Yard_gives 17 = .ok (.goto 4, 3) := by decide +kernel
theorem d_Yard_gives_20 : decode b_Yard_gives 20 = .ok (.iconst 0, 1) := by decide +kernel
theorem d_Yard_gives_21 : decode b_Yard_gives 21 = .ok (.ireturn, 1) := by decide +kernel
theorem d_Yard_isEnding_0 : decode b_Yard_isEnding 0 = .ok (.iload_n 0, 1) := by decide +kernel
theorem d_Yard_isEnding_1 : decode b_Yard_isEnding 1 = .ok (.bipush 22, 2) := by decide +kernel
theorem d_Yard_isEnding_3 : decode b_Yard_isEnding 3 = .ok (.if_icmp .eq 15, 3) := by decide +kernel
theorem d_Yard_isEnding_6 : decode b_Yard_isEnding 6 = .ok (.iload_n 0, 1) := by decide +kernel
theorem d_Yard_isEnding_7 : decode b_Yard_isEnding 7 = .ok (.bipush 23, 2) := by decide +kernel
theorem d_Yard_isEnding_9 : decode b_Yard_isEnding 9 = .ok (.if_icmp .eq 9, 3) := by decide +kernel
theorem d_Yard_isEnding_12 : decode b_Yard_isEnding 12 = .ok (.iload_n 0, 1) := by decide +kernel
theorem d_Yard_isEnding_13 : decode b_Yard_isEnding 13 = .ok (.bipush 24, 2) := by decide +kernel
theorem d_Yard_isEnding_15 : decode b_Yard_isEnding 15 = .ok (.if_icmp .ne 7, 3) := by decide +kernel
theorem d_Yard_isEnding_18 : decode b_Yard_isEnding 18 = .ok (.iconst 1, 1) := by decide +kernel
theorem d_Yard_isEnding_19 : decode b_Yard_isEnding 19 = .ok (.goto 4, 3) := by decide +kernel
theorem d_Yard_isEnding_22 : decode b_Yard_isEnding 22 = .ok (.iconst 0, 1) := by decide +kernel
theorem d_Yard_isEnding_23 : decode b_Yard_isEnding 23 = .ok (.ireturn, 1) := by decide +kernel
theorem d_Yard_isJump_0 : decode b_Yard_isJump 0 = .ok (.iload_n 0, 1) := by decide +kernel
theorem d_Yard_isJump_1 : decode b_Yard_isJump 1 = .ok (.bipush 16, 2) := by decide +kernel
theorem d_Yard_isJump_3 : decode b_Yard_isJump 3 = .ok (.if_icmp .eq 15, 3) := by decide +kernel
theorem d_Yard_isJump_6 : decode b_Yard_isJump 6 = .ok (.iload_n 0, 1) := by decide +kernel
theorem d_Yard_isJump_7 : decode b_Yard_isJump 7 = .ok (.bipush 17, 2) := by decide +kernel
theorem d_Yard_isJump_9 : decode b_Yard_isJump 9 = .ok (.if_icmp .eq 9, 3) := by decide +kernel
theorem d_Yard_isJump_12 : decode b_Yard_isJump 12 = .ok (.iload_n 0, 1) := by decide +kernel
theorem d_Yard_isJump_13 : decode b_Yard_isJump 13 = .ok (.bipush 18, 2) := by decide +kernel
theorem d_Yard_isJump_15 : decode b_Yard_isJump 15 = .ok (.if_icmp .ne 7, 3) := by decide +kernel
theorem d_Yard_isJump_18 : decode b_Yard_isJump 18 = .ok (.iconst 1, 1) := by decide +kernel
theorem d_Yard_isJump_19 : decode b_Yard_isJump 19 = .ok (.goto 4, 3) := by decide +kernel
theorem d_Yard_isJump_22 : decode b_Yard_isJump 22 = .ok (.iconst 0, 1) := by decide +kernel
theorem d_Yard_isJump_23 : decode b_Yard_isJump 23 = .ok (.ireturn, 1) := by decide +kernel
theorem d_Code_init_0 : decode b_Code_init 0 = .ok (.aload_n 0, 1) := by decide +kernel
theorem d_Code_init_1 : decode b_Code_init 1 = .ok (.invokespecial 3, 3) := by decide +kernel
theorem d_Code_init_4 : decode b_Code_init 4 = .ok (.aload_n 0, 1) := by decide +kernel
theorem d_Code_init_5 : decode b_Code_init 5 = .ok (.iload_n 1, 1) := by decide +kernel
theorem d_Code_init_6 : decode b_Code_init 6 = .ok (.putfield 9, 3) := by decide +kernel
theorem d_Code_init_9 : decode b_Code_init 9 = .ok (.aload_n 0, 1) := by decide +kernel
theorem d_Code_init_10 : decode b_Code_init 10 = .ok (.new 15, 3) := by decide +kernel
theorem d_Code_init_13 : decode b_Code_init 13 = .ok (.dup, 1) := by decide +kernel
theorem d_Code_init_14 : decode b_Code_init 14 = .ok (.sipush 256, 3) := by decide +kernel
theorem d_Code_init_17 : decode b_Code_init 17 = .ok (.invokespecial 17, 3) := by decide +kernel
theorem d_Code_init_20 : decode b_Code_init 20 = .ok (.putfield 20, 3) := by decide +kernel
theorem d_Code_init_23 : decode b_Code_init 23 = .ok (.aload_n 0, 1) := by decide +kernel
theorem d_Code_init_24 : decode b_Code_init 24 = .ok (.new 15, 3) := by decide +kernel
theorem d_Code_init_27 : decode b_Code_init 27 = .ok (.dup, 1) := by decide +kernel
theorem d_Code_init_28 : decode b_Code_init 28 = .ok (.sipush 256, 3) := by decide +kernel
theorem d_Code_init_31 : decode b_Code_init 31 = .ok (.invokespecial 17, 3) := by decide +kernel
theorem d_Code_init_34 : decode b_Code_init 34 = .ok (.putfield 24, 3) := by decide +kernel
theorem d_Code_init_37 : decode b_Code_init 37 = .ok (.aload_n 0, 1) := by decide +kernel
theorem d_Code_init_38 : decode b_Code_init 38 = .ok (.new 15, 3) := by decide +kernel
theorem d_Code_init_41 : decode b_Code_init 41 = .ok (.dup, 1) := by decide +kernel
theorem d_Code_init_42 : decode b_Code_init 42 = .ok (.bipush 16, 2) := by decide +kernel
theorem d_Code_init_44 : decode b_Code_init 44 = .ok (.invokespecial 17, 3) := by decide +kernel
theorem d_Code_init_47 : decode b_Code_init 47 = .ok (.putfield 27, 3) := by decide +kernel
theorem d_Code_init_50 : decode b_Code_init 50 = .ok (.aload_n 0, 1) := by decide +kernel
theorem d_Code_init_51 : decode b_Code_init 51 = .ok (.new 15, 3) := by decide +kernel
theorem d_Code_init_54 : decode b_Code_init 54 = .ok (.dup, 1) := by decide +kernel
theorem d_Code_init_55 : decode b_Code_init 55 = .ok (.bipush 16, 2) := by decide +kernel
theorem d_Code_init_57 : decode b_Code_init 57 = .ok (.invokespecial 17, 3) := by decide +kernel
theorem d_Code_init_60 : decode b_Code_init 60 = .ok (.putfield 30, 3) := by decide +kernel
theorem d_Code_init_63 : decode b_Code_init 63 = .ok (.return_, 1) := by decide +kernel
theorem d_Code_isTaken_0 : decode b_Code_isTaken 0 = .ok (.aload_n 0, 1) := by decide +kernel
theorem d_Code_isTaken_1 : decode b_Code_isTaken 1 = .ok (.getfield 20, 3) := by decide +kernel
theorem d_Code_isTaken_4 : decode b_Code_isTaken 4 = .ok (.getfield 33, 3) := by decide +kernel
theorem d_Code_isTaken_7 : decode b_Code_isTaken 7 = .ok (.ifCond .le 7, 3) := by decide +kernel
theorem d_Code_isTaken_10 : decode b_Code_isTaken 10 = .ok (.iconst 1, 1) := by decide +kernel
theorem d_Code_isTaken_11 : decode b_Code_isTaken 11 = .ok (.goto 4, 3) := by decide +kernel
theorem d_Code_isTaken_14 : decode b_Code_isTaken 14 = .ok (.iconst 0, 1) := by decide +kernel
theorem d_Code_isTaken_15 : decode b_Code_isTaken 15 = .ok (.ireturn, 1) := by decide +kernel
theorem d_Code_take_0 : decode b_Code_take 0 = .ok (.aload_n 0, 1) := by decide +kernel
theorem d_Code_take_1 : decode b_Code_take 1 = .ok (.getfield 20, 3) := by decide +kernel
theorem d_Code_take_4 : decode b_Code_take 4 = .ok (.aload_n 1, 1) := by decide +kernel
theorem d_Code_take_5 : decode b_Code_take 5 = .ok (.invokevirtual 36, 3) := by decide +kernel
theorem d_Code_take_8 : decode b_Code_take 8 = .ok (.aload_n 0, 1) := by decide +kernel
theorem d_Code_take_9 : decode b_Code_take 9 = .ok (.getfield 24, 3) := by decide +kernel
theorem d_Code_take_12 : decode b_Code_take 12 = .ok (.aload_n 2, 1) := by decide +kernel
theorem d_Code_take_13 : decode b_Code_take 13 = .ok (.invokevirtual 36, 3) := by decide +kernel
theorem d_Code_take_16 : decode b_Code_take 16 = .ok (.aload_n 0, 1) := by decide +kernel
theorem d_Code_take_17 : decode b_Code_take 17 = .ok (.getfield 27, 3) := by decide +kernel
theorem d_Code_take_20 : decode b_Code_take 20 = .ok (.bipush 16, 2) := by decide +kernel
theorem d_Code_take_22 : decode b_Code_take 22 = .ok (.iconst 0, 1) := by decide +kernel
theorem d_Code_take_23 : decode b_Code_take 23 = .ok (.invokevirtual 40, 3) := by decide +kernel
theorem d_Code_take_26 : decode b_Code_take 26 = .ok (.return_, 1) := by decide +kernel
theorem d_Frame_init_0 : decode b_Frame_init 0 = .ok (.aload_n 0, 1) := by decide +kernel
theorem d_Frame_init_1 : decode b_Frame_init 1 = .ok (.invokespecial 3, 3) := by decide +kernel
theorem d_Frame_init_4 : decode b_Frame_init 4 = .ok (.aload_n 0, 1) := by decide +kernel
theorem d_Frame_init_5 : decode b_Frame_init 5 = .ok (.iload_n 1, 1) := by decide +kernel
theorem d_Frame_init_6 : decode b_Frame_init 6 = .ok (.putfield 9, 3) := by decide +kernel
theorem d_Frame_init_9 : decode b_Frame_init 9 = .ok (.aload_n 0, 1) := by decide +kernel
theorem d_Frame_init_10 : decode b_Frame_init 10 = .ok (.aload_n 2, 1) := by decide +kernel
theorem d_Frame_init_11 : decode b_Frame_init 11 = .ok (.putfield 15, 3) := by decide +kernel
theorem d_Frame_init_14 : decode b_Frame_init 14 = .ok (.aload_n 0, 1) := by decide +kernel
theorem d_Frame_init_15 : decode b_Frame_init 15 = .ok (.new 19, 3) := by decide +kernel
theorem d_Frame_init_18 : decode b_Frame_init 18 = .ok (.dup, 1) := by decide +kernel
theorem d_Frame_init_19 : decode b_Frame_init 19 = .ok (.bipush 8, 2) := by decide +kernel
theorem d_Frame_init_21 : decode b_Frame_init 21 = .ok (.invokespecial 21, 3) := by decide +kernel
theorem d_Frame_init_24 : decode b_Frame_init 24 = .ok (.putfield 24, 3) := by decide +kernel
theorem d_Frame_init_27 : decode b_Frame_init 27 = .ok (.aload_n 0, 1) := by decide +kernel
theorem d_Frame_init_28 : decode b_Frame_init 28 = .ok (.new 19, 3) := by decide +kernel
theorem d_Frame_init_31 : decode b_Frame_init 31 = .ok (.dup, 1) := by decide +kernel
theorem d_Frame_init_32 : decode b_Frame_init 32 = .ok (.bipush 8, 2) := by decide +kernel
theorem d_Frame_init_34 : decode b_Frame_init 34 = .ok (.invokespecial 21, 3) := by decide +kernel
theorem d_Frame_init_37 : decode b_Frame_init 37 = .ok (.putfield 28, 3) := by decide +kernel
theorem d_Frame_init_40 : decode b_Frame_init 40 = .ok (.aload_n 0, 1) := by decide +kernel
theorem d_Frame_init_41 : decode b_Frame_init 41 = .ok (.aload_n 3, 1) := by decide +kernel
theorem d_Frame_init_42 : decode b_Frame_init 42 = .ok (.putfield 31, 3) := by decide +kernel
theorem d_Frame_init_45 : decode b_Frame_init 45 = .ok (.return_, 1) := by decide +kernel
theorem d_Frame_enter_0 : decode b_Frame_enter 0 = .ok (.aload_n 0, 1) := by decide +kernel
theorem d_Frame_enter_1 : decode b_Frame_enter 1 = .ok (.aload_n 1, 1) := by decide +kernel
theorem d_Frame_enter_2 : decode b_Frame_enter 2 = .ok (.putfield 31, 3) := by decide +kernel
theorem d_Frame_enter_5 : decode b_Frame_enter 5 = .ok (.aload_n 0, 1) := by decide +kernel
theorem d_Frame_enter_6 : decode b_Frame_enter 6 = .ok (.aload_n 1, 1) := by decide +kernel
theorem d_Frame_enter_7 : decode b_Frame_enter 7 = .ok (.getfield 35, 3) := by decide +kernel
theorem d_Frame_enter_10 : decode b_Frame_enter 10 = .ok (.iload_n 2, 1) := by decide +kernel
theorem d_Frame_enter_11 : decode b_Frame_enter 11 = .ok (.iconst 0, 1) := by decide +kernel
theorem d_Frame_enter_12 : decode b_Frame_enter 12 = .ok (.invokevirtual 40, 3) := by decide +kernel
theorem d_Frame_enter_15 : decode b_Frame_enter 15 = .ok (.putfield 44, 3) := by decide +kernel
theorem d_Frame_enter_18 : decode b_Frame_enter 18 = .ok (.aload_n 0, 1) := by decide +kernel
theorem d_Frame_enter_19 : decode b_Frame_enter 19 = .ok (.getfield 24, 3) := by decide +kernel
theorem d_Frame_enter_22 : decode b_Frame_enter 22 = .ok (.iconst 0, 1) := by decide +kernel
theorem d_Frame_enter_23 : decode b_Frame_enter 23 = .ok (.invokevirtual 47, 3) := by decide +kernel
theorem d_Frame_enter_26 : decode b_Frame_enter 26 = .ok (.aload_n 0, 1) := by decide +kernel
theorem d_Frame_enter_27 : decode b_Frame_enter 27 = .ok (.getfield 28, 3) := by decide +kernel
theorem d_Frame_enter_30 : decode b_Frame_enter 30 = .ok (.bipush 8, 2) := by decide +kernel
theorem d_Frame_enter_32 : decode b_Frame_enter 32 = .ok (.iconst 0, 1) := by decide +kernel
theorem d_Frame_enter_33 : decode b_Frame_enter 33 = .ok (.invokevirtual 50, 3) := by decide +kernel
theorem d_Frame_enter_36 : decode b_Frame_enter 36 = .ok (.return_, 1) := by decide +kernel
theorem d_Frame_nextByte_0 : decode b_Frame_nextByte 0 = .ok (.aload_n 0, 1) := by decide +kernel
theorem d_Frame_nextByte_1 : decode b_Frame_nextByte 1 = .ok (.getfield 31, 3) := by decide +kernel
theorem d_Frame_nextByte_4 : decode b_Frame_nextByte 4 = .ok (.getfield 35, 3) := by decide +kernel
theorem d_Frame_nextByte_7 : decode b_Frame_nextByte 7 = .ok (.aload_n 0, 1) := by decide +kernel
theorem d_Frame_nextByte_8 : decode b_Frame_nextByte 8 = .ok (.getfield 44, 3) := by decide +kernel
theorem d_Frame_nextByte_11 : decode b_Frame_nextByte 11 = .ok (.iconst 0, 1) := by decide +kernel
theorem d_Frame_nextByte_12 : decode b_Frame_nextByte 12 = .ok (.invokevirtual 40, 3) := by decide +kernel
theorem d_Frame_nextByte_15 : decode b_Frame_nextByte 15 = .ok (.istore_n 1, 1) := by decide +kernel
theorem d_Frame_nextByte_16 : decode b_Frame_nextByte 16 = .ok (.aload_n 0, 1) := by decide +kernel
theorem d_Frame_nextByte_17 : decode b_Frame_nextByte 17 = .ok (.dup, 1) := by decide +kernel
theorem d_Frame_nextByte_18 : decode b_Frame_nextByte 18 = .ok (.getfield 44, 3) := by decide +kernel
theorem d_Frame_nextByte_21 : decode b_Frame_nextByte 21 = .ok (.iconst 1, 1) := by decide +kernel
theorem d_Frame_nextByte_22 : decode b_Frame_nextByte 22 = .ok (.iadd, 1) := by decide +kernel
theorem d_Frame_nextByte_23 : decode b_Frame_nextByte 23 = .ok (.putfield 44, 3) := by decide +kernel
theorem d_Frame_nextByte_26 : decode b_Frame_nextByte 26 = .ok (.iload_n 1, 1) := by decide +kernel
theorem d_Frame_nextByte_27 : decode b_Frame_nextByte 27 = .ok (.ireturn, 1) := by decide +kernel
theorem d_Row_init_0 : decode b_Row_init 0 = .ok (.aload_n 0, 1) := by decide +kernel
theorem d_Row_init_1 : decode b_Row_init 1 = .ok (.invokespecial 1, 3) := by decide +kernel
theorem d_Row_init_4 : decode b_Row_init 4 = .ok (.aload_n 0, 1) := by decide +kernel
theorem d_Row_init_5 : decode b_Row_init 5 = .ok (.iload_n 1, 1) := by decide +kernel
theorem d_Row_init_6 : decode b_Row_init 6 = .ok (.iconst 0, 1) := by decide +kernel
theorem d_Row_init_7 : decode b_Row_init 7 = .ok (.invokestatic 7, 3) := by decide +kernel
theorem d_Row_init_10 : decode b_Row_init 10 = .ok (.newarray .int, 2) := by decide +kernel
theorem d_Row_init_12 : decode b_Row_init 12 = .ok (.putfield 13, 3) := by decide +kernel
theorem d_Row_init_15 : decode b_Row_init 15 = .ok (.aload_n 0, 1) := by decide +kernel
theorem d_Row_init_16 : decode b_Row_init 16 = .ok (.iconst 0, 1) := by decide +kernel
theorem d_Row_init_17 : decode b_Row_init 17 = .ok (.putfield 19, 3) := by decide +kernel
theorem d_Row_init_20 : decode b_Row_init 20 = .ok (.return_, 1) := by decide +kernel
theorem d_Row_has_0 : decode b_Row_has 0 = .ok (.iload_n 1, 1) := by decide +kernel
theorem d_Row_has_1 : decode b_Row_has 1 = .ok (.ifCond .lt 24, 3) := by decide +kernel
theorem d_Row_has_4 : decode b_Row_has 4 = .ok (.iload_n 1, 1) := by decide +kernel
theorem d_Row_has_5 : decode b_Row_has 5 = .ok (.aload_n 0, 1) := by decide +kernel
theorem d_Row_has_6 : decode b_Row_has 6 = .ok (.getfield 19, 3) := by decide +kernel
theorem d_Row_has_9 : decode b_Row_has 9 = .ok (.if_icmp .ge 16, 3) := by decide +kernel
theorem d_Row_has_12 : decode b_Row_has 12 = .ok (.iload_n 1, 1) := by decide +kernel
theorem d_Row_has_13 : decode b_Row_has 13 = .ok (.aload_n 0, 1) := by decide +kernel
theorem d_Row_has_14 : decode b_Row_has 14 = .ok (.getfield 13, 3) := by decide +kernel
theorem d_Row_has_17 : decode b_Row_has 17 = .ok (.arraylength, 1) := by decide +kernel
theorem d_Row_has_18 : decode b_Row_has 18 = .ok (.if_icmp .ge 7, 3) := by decide +kernel
theorem d_Row_has_21 : decode b_Row_has 21 = .ok (.iconst 1, 1) := by decide +kernel
theorem d_Row_has_22 : decode b_Row_has 22 = .ok (.goto 4, 3) := by decide +kernel
theorem d_Row_has_25 : decode b_Row_has 25 = .ok (.iconst 0, 1) := by decide +kernel
theorem d_Row_has_26 : decode b_Row_has 26 = .ok (.ireturn, 1) := by decide +kernel
theorem d_Row_at_0 : decode b_Row_at 0 = .ok (.iload_n 1, 1) := by decide +kernel
theorem d_Row_at_1 : decode b_Row_at 1 = .ok (.ifCond .lt 29, 3) := by decide +kernel
theorem d_Row_at_4 : decode b_Row_at 4 = .ok (.iload_n 1, 1) := by decide +kernel
theorem d_Row_at_5 : decode b_Row_at 5 = .ok (.aload_n 0, 1) := by decide +kernel
theorem d_Row_at_6 : decode b_Row_at 6 = .ok (.getfield 19, 3) := by decide +kernel
theorem d_Row_at_9 : decode b_Row_at 9 = .ok (.if_icmp .ge 21, 3) := by decide +kernel
theorem d_Row_at_12 : decode b_Row_at 12 = .ok (.iload_n 1, 1) := by decide +kernel
theorem d_Row_at_13 : decode b_Row_at 13 = .ok (.aload_n 0, 1) := by decide +kernel
theorem d_Row_at_14 : decode b_Row_at 14 = .ok (.getfield 13, 3) := by decide +kernel
theorem d_Row_at_17 : decode b_Row_at 17 = .ok (.arraylength, 1) := by decide +kernel
theorem d_Row_at_18 : decode b_Row_at 18 = .ok (.if_icmp .ge 12, 3) := by decide +kernel
theorem d_Row_at_21 : decode b_Row_at 21 = .ok (.aload_n 0, 1) := by decide +kernel
theorem d_Row_at_22 : decode b_Row_at 22 = .ok (.getfield 13, 3) := by decide +kernel
theorem d_Row_at_25 : decode b_Row_at 25 = .ok (.iload_n 1, 1) := by decide +kernel
theorem d_Row_at_26 : decode b_Row_at 26 = .ok (.iaload, 1) := by decide +kernel
theorem d_Row_at_27 : decode b_Row_at 27 = .ok (.goto 4, 3) := by decide +kernel
theorem d_Row_at_30 : decode b_Row_at 30 = .ok (.iload_n 2, 1) := by decide +kernel
theorem d_Row_at_31 : decode b_Row_at 31 = .ok (.ireturn, 1) := by decide +kernel
theorem d_Row_put_0 : decode b_Row_put 0 = .ok (.iload_n 1, 1) := by decide +kernel
theorem d_Row_put_1 : decode b_Row_put 1 = .ok (.ifCond .lt 27, 3) := by decide +kernel
theorem d_Row_put_4 : decode b_Row_put 4 = .ok (.iload_n 1, 1) := by decide +kernel
theorem d_Row_put_5 : decode b_Row_put 5 = .ok (.aload_n 0, 1) := by decide +kernel
theorem d_Row_put_6 : decode b_Row_put 6 = .ok (.getfield 19, 3) := by decide +kernel
theorem d_Row_put_9 : decode b_Row_put 9 = .ok (.if_icmp .ge 19, 3) := by decide +kernel
theorem d_Row_put_12 : decode b_Row_put 12 = .ok (.iload_n 1, 1) := by decide +kernel
theorem d_Row_put_13 : decode b_Row_put 13 = .ok (.aload_n 0, 1) := by decide +kernel
theorem d_Row_put_14 : decode b_Row_put 14 = .ok (.getfield 13, 3) := by decide +kernel
theorem d_Row_put_17 : decode b_Row_put 17 = .ok (.arraylength, 1) := by decide +kernel
theorem d_Row_put_18 : decode b_Row_put 18 = .ok (.if_icmp .ge 10, 3) := by decide +kernel
theorem d_Row_put_21 : decode b_Row_put 21 = .ok (.aload_n 0, 1) := by decide +kernel
theorem d_Row_put_22 : decode b_Row_put 22 = .ok (.getfield 13, 3) := by decide +kernel
theorem d_Row_put_25 : decode b_Row_put 25 = .ok (.iload_n 1, 1) := by decide +kernel
theorem d_Row_put_26 : decode b_Row_put 26 = .ok (.iload_n 2, 1) := by decide +kernel
theorem d_Row_put_27 : decode b_Row_put 27 = .ok (.iastore, 1) := by decide +kernel
theorem d_Row_put_28 : decode b_Row_put 28 = .ok (.return_, 1) := by decide +kernel
theorem d_Row_add_0 : decode b_Row_add 0 = .ok (.aload_n 0, 1) := by decide +kernel
theorem d_Row_add_1 : decode b_Row_add 1 = .ok (.getfield 19, 3) := by decide +kernel
theorem d_Row_add_4 : decode b_Row_add 4 = .ok (.ifCond .lt 35, 3) := by decide +kernel
theorem d_Row_add_7 : decode b_Row_add 7 = .ok (.aload_n 0, 1) := by decide +kernel
theorem d_Row_add_8 : decode b_Row_add 8 = .ok (.getfield 19, 3) := by decide +kernel
theorem d_Row_add_11 : decode b_Row_add 11 = .ok (.aload_n 0, 1) := by decide +kernel
theorem d_Row_add_12 : decode b_Row_add 12 = .ok (.getfield 13, 3) := by decide +kernel
theorem d_Row_add_15 : decode b_Row_add 15 = .ok (.arraylength, 1) := by decide +kernel
theorem d_Row_add_16 : decode b_Row_add 16 = .ok (.if_icmp .ge 23, 3) := by decide +kernel
theorem d_Row_add_19 : decode b_Row_add 19 = .ok (.aload_n 0, 1) := by decide +kernel
theorem d_Row_add_20 : decode b_Row_add 20 = .ok (.getfield 13, 3) := by decide +kernel
theorem d_Row_add_23 : decode b_Row_add 23 = .ok (.aload_n 0, 1) := by decide +kernel
theorem d_Row_add_24 : decode b_Row_add 24 = .ok (.getfield 19, 3) := by decide +kernel
theorem d_Row_add_27 : decode b_Row_add 27 = .ok (.iload_n 1, 1) := by decide +kernel
theorem d_Row_add_28 : decode b_Row_add 28 = .ok (.iastore, 1) := by decide +kernel
theorem d_Row_add_29 : decode b_Row_add 29 = .ok (.aload_n 0, 1) := by decide +kernel
theorem d_Row_add_30 : decode b_Row_add 30 = .ok (.dup, 1) := by decide +kernel
theorem d_Row_add_31 : decode b_Row_add 31 = .ok (.getfield 19, 3) := by decide +kernel
theorem d_Row_add_34 : decode b_Row_add 34 = .ok (.iconst 1, 1) := by decide +kernel
theorem d_Row_add_35 : decode b_Row_add 35 = .ok (.iadd, 1) := by decide +kernel
theorem d_Row_add_36 : decode b_Row_add 36 = .ok (.putfield 19, 3) := by decide +kernel
theorem d_Row_add_39 : decode b_Row_add 39 = .ok (.return_, 1) := by decide +kernel
theorem d_Row_takeLast_0 : decode b_Row_takeLast 0 = .ok (.aload_n 0, 1) := by decide +kernel
theorem d_Row_takeLast_1 : decode b_Row_takeLast 1 = .ok (.getfield 19, 3) := by decide +kernel
theorem d_Row_takeLast_4 : decode b_Row_takeLast 4 = .ok (.ifCond .le 15, 3) := by decide +kernel
theorem d_Row_takeLast_7 : decode b_Row_takeLast 7 = .ok (.aload_n 0, 1) := by decide +kernel
theorem d_Row_takeLast_8 : decode b_Row_takeLast 8 = .ok (.getfield 19, 3) := by decide +kernel
theorem d_Row_takeLast_11 : decode b_Row_takeLast 11 = .ok (.aload_n 0, 1) := by decide +kernel
theorem d_Row_takeLast_12 : decode b_Row_takeLast 12 = .ok (.getfield 13, 3) := by decide +kernel
theorem d_Row_takeLast_15 : decode b_Row_takeLast 15 = .ok (.arraylength, 1) := by decide +kernel
theorem d_Row_takeLast_16 : decode b_Row_takeLast 16 = .ok (.if_icmp .le 5, 3) := by decide +kernel
theorem d_Row_takeLast_19 : decode b_Row_takeLast 19 = .ok (.iconst 0, 1) := by decide +kernel
theorem d_Row_takeLast_20 : decode b_Row_takeLast 20 = .ok (.ireturn, 1) := by decide +kernel
theorem d_Row_takeLast_21 : decode b_Row_takeLast 21 = .ok (.aload_n 0, 1) := by decide +kernel
theorem d_Row_takeLast_22 : decode b_Row_takeLast 22 = .ok (.dup, 1) := by decide +kernel
theorem d_Row_takeLast_23 : decode b_Row_takeLast 23 = .ok (.getfield 19, 3) := by decide +kernel
theorem d_Row_takeLast_26 : decode b_Row_takeLast 26 = .ok (.iconst 1, 1) := by decide +kernel
theorem d_Row_takeLast_27 : decode b_Row_takeLast 27 = .ok (.isub, 1) := by decide +kernel
theorem d_Row_takeLast_28 : decode b_Row_takeLast 28 = .ok (.putfield 19, 3) := by decide +kernel
theorem d_Row_takeLast_31 : decode b_Row_takeLast 31 = .ok (.aload_n 0, 1) := by decide +kernel
theorem d_Row_takeLast_32 : decode b_Row_takeLast 32 = .ok (.getfield 13, 3) := by decide +kernel
theorem d_Row_takeLast_35 : decode b_Row_takeLast 35 = .ok (.aload_n 0, 1) := by decide +kernel
theorem d_Row_takeLast_36 : decode b_Row_takeLast 36 = .ok (.getfield 19, 3) := by decide +kernel
theorem d_Row_takeLast_39 : decode b_Row_takeLast 39 = .ok (.iaload, 1) := by decide +kernel
theorem d_Row_takeLast_40 : decode b_Row_takeLast 40 = .ok (.ireturn, 1) := by decide +kernel
theorem d_Row_shorten_0 : decode b_Row_shorten 0 = .ok (.aload_n 0, 1) := by decide +kernel
theorem d_Row_shorten_1 : decode b_Row_shorten 1 = .ok (.iconst 0, 1) := by decide +kernel
theorem d_Row_shorten_2 : decode b_Row_shorten 2 = .ok (.iload_n 1, 1) := by decide +kernel
theorem d_Row_shorten_3 : decode b_Row_shorten 3 = .ok (.aload_n 0, 1) := by decide +kernel
theorem d_Row_shorten_4 : decode b_Row_shorten 4 = .ok (.getfield 19, 3) := by decide +kernel
theorem d_Row_shorten_7 : decode b_Row_shorten 7 = .ok (.invokestatic 23, 3) := by decide +kernel
theorem d_Row_shorten_10 : decode b_Row_shorten 10 = .ok (.invokestatic 7, 3) := by decide +kernel
theorem d_Row_shorten_13 : decode b_Row_shorten 13 = .ok (.putfield 19, 3) := by decide +kernel
theorem d_Row_shorten_16 : decode b_Row_shorten 16 = .ok (.return_, 1) := by decide +kernel
theorem d_Row_become_0 : decode b_Row_become 0 = .ok (.aload_n 0, 1) := by decide +kernel
theorem d_Row_become_1 : decode b_Row_become 1 = .ok (.iconst 0, 1) := by decide +kernel
theorem d_Row_become_2 : decode b_Row_become 2 = .ok (.iload_n 1, 1) := by decide +kernel
theorem d_Row_become_3 : decode b_Row_become 3 = .ok (.aload_n 0, 1) := by decide +kernel
theorem d_Row_become_4 : decode b_Row_become 4 = .ok (.getfield 13, 3) := by decide +kernel
theorem d_Row_become_7 : decode b_Row_become 7 = .ok (.arraylength, 1) := by decide +kernel
theorem d_Row_become_8 : decode b_Row_become 8 = .ok (.invokestatic 23, 3) := by decide +kernel
theorem d_Row_become_11 : decode b_Row_become 11 = .ok (.invokestatic 7, 3) := by decide +kernel
theorem d_Row_become_14 : decode b_Row_become 14 = .ok (.putfield 19, 3) := by decide +kernel
theorem d_Row_become_17 : decode b_Row_become 17 = .ok (.iconst 0, 1) := by decide +kernel
theorem d_Row_become_18 : decode b_Row_become 18 = .ok (.istore_n 3, 1) := by decide +kernel
theorem d_Row_become_19 : decode b_Row_become 19 = .ok (.iload_n 3, 1) := by decide +kernel
theorem d_Row_become_20 : decode b_Row_become 20 = .ok (.aload_n 0, 1) := by decide +kernel
theorem d_Row_become_21 : decode b_Row_become 21 = .ok (.getfield 19, 3) := by decide +kernel
theorem d_Row_become_24 : decode b_Row_become 24 = .ok (.if_icmp .ge 25, 3) := by decide +kernel
theorem d_Row_become_27 : decode b_Row_become 27 = .ok (.iload_n 3, 1) := by decide +kernel
theorem d_Row_become_28 : decode b_Row_become 28 = .ok (.aload_n 0, 1) := by decide +kernel
theorem d_Row_become_29 : decode b_Row_become 29 = .ok (.getfield 13, 3) := by decide +kernel
theorem d_Row_become_32 : decode b_Row_become 32 = .ok (.arraylength, 1) := by decide +kernel
theorem d_Row_become_33 : decode b_Row_become 33 = .ok (.if_icmp .ge 16, 3) := by decide +kernel
theorem d_Row_become_36 : decode b_Row_become 36 = .ok (.aload_n 0, 1) := by decide +kernel
theorem d_Row_become_37 : decode b_Row_become 37 = .ok (.getfield 13, 3) := by decide +kernel
theorem d_Row_become_40 : decode b_Row_become 40 = .ok (.iload_n 3, 1) := by decide +kernel
theorem d_Row_become_41 : decode b_Row_become 41 = .ok (.iload_n 2, 1) := by decide +kernel
theorem d_Row_become_42 : decode b_Row_become 42 = .ok (.iastore, 1) := by decide +kernel
theorem d_Row_become_43 : decode b_Row_become 43 = .ok (.iinc 3 1, 3) := by decide +kernel
theorem d_Row_become_46 : decode b_Row_become 46 = .ok (.goto (-27), 3) := by decide +kernel
theorem d_Row_become_49 : decode b_Row_become 49 = .ok (.return_, 1) := by decide +kernel
theorem d_Row_becomeLike_0 : decode b_Row_becomeLike 0 = .ok (.aload_n 0, 1) := by decide +kernel
theorem d_Row_becomeLike_1 : decode b_Row_becomeLike 1 = .ok (.iconst 0, 1) := by decide +kernel
theorem d_Row_becomeLike_2 : decode b_Row_becomeLike 2 = .ok (.putfield 19, 3) := by decide +kernel
theorem d_Row_becomeLike_5 : decode b_Row_becomeLike 5 = .ok (.iconst 0, 1) := by decide +kernel
theorem d_Row_becomeLike_6 : decode b_Row_becomeLike 6 = .ok (.istore_n 2, 1) := by decide +kernel
theorem d_Row_becomeLike_7 : decode b_Row_becomeLike 7 = .ok (.iload_n 2, 1) := by decide +kernel
theorem d_Row_becomeLike_8 : decode b_Row_becomeLike 8 = .ok (.aload_n 1, 1) := by decide +kernel
theorem d_Row_becomeLike_9 : decode b_Row_becomeLike 9 = .ok (.getfield 19, 3) := by decide +kernel
theorem d_Row_becomeLike_12 : decode b_Row_becomeLike 12 = .ok (.if_icmp .ge 19, 3) := by decide +kernel
theorem d_Row_becomeLike_15 : decode b_Row_becomeLike 15 = .ok (.aload_n 0, 1) := by decide +kernel
theorem d_Row_becomeLike_16 : decode b_Row_becomeLike 16 = .ok (.aload_n 1, 1) := by decide +kernel
theorem d_Row_becomeLike_17 : decode b_Row_becomeLike 17 = .ok (.iload_n 2, 1) := by decide +kernel
theorem d_Row_becomeLike_18 : decode b_Row_becomeLike 18 = .ok (.iconst 0, 1) := by decide +kernel
theorem d_Row_becomeLike_19 : decode b_Row_becomeLike 19 = .ok (.invokevirtual 26, 3) := by decide +kernel
theorem d_Row_becomeLike_22 : decode b_Row_becomeLike 22 = .ok (.invokevirtual 29, 3) := by decide +kernel
theorem d_Row_becomeLike_25 : decode b_Row_becomeLike 25 = .ok (.iinc 2 1, 3) := by decide +kernel
theorem d_Row_becomeLike_28 : decode b_Row_becomeLike 28 = .ok (.goto (-21), 3) := by decide +kernel
theorem d_Row_becomeLike_31 : decode b_Row_becomeLike 31 = .ok (.return_, 1) := by decide +kernel
theorem d_Shelf_init_0 : decode b_Shelf_init 0 = .ok (.aload_n 0, 1) := by decide +kernel
theorem d_Shelf_init_1 : decode b_Shelf_init 1 = .ok (.invokespecial 3, 3) := by decide +kernel
theorem d_Shelf_init_4 : decode b_Shelf_init 4 = .ok (.aload_n 0, 1) := by decide +kernel
theorem d_Shelf_init_5 : decode b_Shelf_init 5 = .ok (.bipush 8, 2) := by decide +kernel
theorem d_Shelf_init_7 : decode b_Shelf_init 7 = .ok (.anewarray 9, 3) := by decide +kernel
theorem d_Shelf_init_10 : decode b_Shelf_init 10 = .ok (.putfield 11, 3) := by decide +kernel
theorem d_Shelf_init_13 : decode b_Shelf_init 13 = .ok (.iconst 0, 1) := by decide +kernel
theorem d_Shelf_init_14 : decode b_Shelf_init 14 = .ok (.istore_n 1, 1) := by decide +kernel
theorem d_Shelf_init_15 : decode b_Shelf_init 15 = .ok (.iload_n 1, 1) := by decide +kernel
theorem d_Shelf_init_16 : decode b_Shelf_init 16 = .ok (.aload_n 0, 1) := by decide +kernel
theorem d_Shelf_init_17 : decode b_Shelf_init 17 = .ok (.getfield 11, 3) := by decide +kernel
theorem d_Shelf_init_20 : decode b_Shelf_init 20 = .ok (.arraylength, 1) := by decide +kernel
theorem d_Shelf_init_21 : decode b_Shelf_init 21 = .ok (.if_icmp .ge 23, 3) := by decide +kernel
theorem d_Shelf_init_24 : decode b_Shelf_init 24 = .ok (.aload_n 0, 1) := by decide +kernel
theorem d_Shelf_init_25 : decode b_Shelf_init 25 = .ok (.getfield 11, 3) := by decide +kernel
theorem d_Shelf_init_28 : decode b_Shelf_init 28 = .ok (.iload_n 1, 1) := by decide +kernel
theorem d_Shelf_init_29 : decode b_Shelf_init 29 = .ok (.new 9, 3) := by decide +kernel
theorem d_Shelf_init_32 : decode b_Shelf_init 32 = .ok (.dup, 1) := by decide +kernel
theorem d_Shelf_init_33 : decode b_Shelf_init 33 = .ok (.iload_n 1, 1) := by decide +kernel
theorem d_Shelf_init_34 : decode b_Shelf_init 34 = .ok (.invokespecial 17, 3) := by decide +kernel
theorem d_Shelf_init_37 : decode b_Shelf_init 37 = .ok (.aastore, 1) := by decide +kernel
theorem d_Shelf_init_38 : decode b_Shelf_init 38 = .ok (.iinc 1 1, 3) := by decide +kernel
theorem d_Shelf_init_41 : decode b_Shelf_init 41 = .ok (.goto (-26), 3) := by decide +kernel
theorem d_Shelf_init_44 : decode b_Shelf_init 44 = .ok (.return_, 1) := by decide +kernel
theorem d_Shelf_slot_0 : decode b_Shelf_slot 0 = .ok (.iload_n 1, 1) := by decide +kernel
theorem d_Shelf_slot_1 : decode b_Shelf_slot 1 = .ok (.ifCond .lt 21, 3) := by decide +kernel
theorem d_Shelf_slot_4 : decode b_Shelf_slot 4 = .ok (.iload_n 1, 1) := by decide +kernel
theorem d_Shelf_slot_5 : decode b_Shelf_slot 5 = .ok (.aload_n 0, 1) := by decide +kernel
theorem d_Shelf_slot_6 : decode b_Shelf_slot 6 = .ok (.getfield 11, 3) := by decide +kernel
theorem d_Shelf_slot_9 : decode b_Shelf_slot 9 = .ok (.arraylength, 1) := by decide +kernel
theorem d_Shelf_slot_10 : decode b_Shelf_slot 10 = .ok (.if_icmp .ge 12, 3) := by decide +kernel
theorem d_Shelf_slot_13 : decode b_Shelf_slot 13 = .ok (.aload_n 0, 1) := by decide +kernel
theorem d_Shelf_slot_14 : decode b_Shelf_slot 14 = .ok (.getfield 11, 3) := by decide +kernel
theorem d_Shelf_slot_17 : decode b_Shelf_slot 17 = .ok (.iload_n 1, 1) := by decide +kernel
theorem d_Shelf_slot_18 : decode b_Shelf_slot 18 = .ok (.aaload, 1) := by decide +kernel
theorem d_Shelf_slot_19 : decode b_Shelf_slot 19 = .ok (.goto 4, 3) := by decide +kernel
theorem d_Shelf_slot_22 : decode b_Shelf_slot 22 = .ok (.aconst_null, 1) := by decide +kernel
theorem d_Shelf_slot_23 : decode b_Shelf_slot 23 = .ok (.areturn, 1) := by decide +kernel
theorem d_Shelf_taken_0 : decode b_Shelf_taken 0 = .ok (.aload_n 0, 1) := by decide +kernel
theorem d_Shelf_taken_1 : decode b_Shelf_taken 1 = .ok (.iload_n 1, 1) := by decide +kernel
theorem d_Shelf_taken_2 : decode b_Shelf_taken 2 = .ok (.invokevirtual 20, 3) := by decide +kernel
theorem d_Shelf_taken_5 : decode b_Shelf_taken 5 = .ok (.astore_n 2, 1) := by decide +kernel
theorem d_Shelf_taken_6 : decode b_Shelf_taken 6 = .ok (.aload_n 2, 1) := by decide +kernel
theorem d_Shelf_taken_7 : decode b_Shelf_taken 7 = .ok (.ifnull 14, 3) := by decide +kernel
theorem d_Shelf_taken_10 : decode b_Shelf_taken 10 = .ok (.aload_n 2, 1) := by decide +kernel
theorem d_Shelf_taken_11 : decode b_Shelf_taken 11 = .ok (.invokevirtual 24, 3) := by decide +kernel
theorem d_Shelf_taken_14 : decode b_Shelf_taken 14 = .ok (.ifCond .eq 7, 3) := by decide +kernel
theorem d_Shelf_taken_17 : decode b_Shelf_taken 17 = .ok (.aload_n 2, 1) := by decide +kernel
theorem d_Shelf_taken_18 : decode b_Shelf_taken 18 = .ok (.goto 4, 3) := by decide +kernel
theorem d_Shelf_taken_21 : decode b_Shelf_taken 21 = .ok (.aconst_null, 1) := by decide +kernel
theorem d_Shelf_taken_22 : decode b_Shelf_taken 22 = .ok (.areturn, 1) := by decide +kernel
theorem d_Shelf_keepCells_0 : decode b_Shelf_keepCells 0 = .ok (.iconst 0, 1) := by decide +kernel
theorem d_Shelf_keepCells_1 : decode b_Shelf_keepCells 1 = .ok (.istore_n 1, 1) := by decide +kernel
theorem d_Shelf_keepCells_2 : decode b_Shelf_keepCells 2 = .ok (.iload_n 1, 1) := by decide +kernel
theorem d_Shelf_keepCells_3 : decode b_Shelf_keepCells 3 = .ok (.bipush 8, 2) := by decide +kernel
theorem d_Shelf_keepCells_5 : decode b_Shelf_keepCells 5 = .ok (.if_icmp .ge 30, 3) := by decide +kernel
theorem d_Shelf_keepCells_8 : decode b_Shelf_keepCells 8 = .ok (.aload_n 0, 1) := by decide +kernel
theorem d_Shelf_keepCells_9 : decode b_Shelf_keepCells 9 = .ok (.iload_n 1, 1) := by decide +kernel
theorem d_Shelf_keepCells_10 : decode b_Shelf_keepCells 10 = .ok (.invokevirtual 20, 3) := by decide +kernel
theorem d_Shelf_keepCells_13 : decode b_Shelf_keepCells 13 = .ok (.astore_n 2, 1) := by decide +kernel
theorem d_Shelf_keepCells_14 : decode b_Shelf_keepCells 14 = .ok (.aload_n 2, 1) := by decide +kernel
theorem d_Shelf_keepCells_15 : decode b_Shelf_keepCells 15 = .ok (.ifnull 14, 3) := by decide +kernel
theorem d_Shelf_keepCells_18 : decode b_Shelf_keepCells 18 = .ok (.aload_n 2, 1) := by decide +kernel
theorem d_Shelf_keepCells_19 : decode b_Shelf_keepCells 19 = .ok (.getfield 28, 3) := by decide +kernel
theorem d_Shelf_keepCells_22 : decode b_Shelf_keepCells 22 = .ok (.aload_n 2, 1) := by decide +kernel
theorem d_Shelf_keepCells_23 : decode b_Shelf_keepCells 23 = .ok (.getfield 32, 3) := by decide +kernel
theorem d_Shelf_keepCells_26 : decode b_Shelf_keepCells 26 = .ok (.invokevirtual 35, 3) := by decide +kernel
theorem d_Shelf_keepCells_29 : decode b_Shelf_keepCells 29 = .ok (.iinc 1 1, 3) := by decide +kernel
theorem d_Shelf_keepCells_32 : decode b_Shelf_keepCells 32 = .ok (.goto (-30), 3) := by decide +kernel
theorem d_Shelf_keepCells_35 : decode b_Shelf_keepCells 35 = .ok (.return_, 1) := by decide +kernel
theorem d_Shelf_bringCellsBack_0 : decode b_Shelf_bringCellsBack 0 = .ok (.iconst 0, 1) := by decide +kernel
theorem d_Shelf_bringCellsBack_1 : decode b_Shelf_bringCellsBack 1 = .ok (.istore_n 1, 1) := by decide +kernel
theorem d_Shelf_bringCellsBack_2 : decode b_Shelf_bringCellsBack 2 = .ok (.iload_n 1, 1) := by decide +kernel
theorem d_Shelf_bringCellsBack_3 : decode b_Shelf_bringCellsBack 3 = .ok (.bipush 8, 2) := by decide +kernel
theorem d_Shelf_bringCellsBack_5 : decode b_Shelf_bringCellsBack 5 = .ok (.if_icmp .ge 30, 3) := by decide +kernel
theorem d_Shelf_bringCellsBack_8 : decode b_Shelf_bringCellsBack 8 = .ok (.aload_n 0, 1) := by decide +kernel
theorem d_Shelf_bringCellsBack_9 : decode b_Shelf_bringCellsBack 9 = .ok (.iload_n 1, 1) := by decide +kernel
theorem d_Shelf_bringCellsBack_10 : decode b_Shelf_bringCellsBack 10 = .ok (.invokevirtual 20, 3) := by decide +kernel
theorem d_Shelf_bringCellsBack_13 : decode b_Shelf_bringCellsBack 13 = .ok (.astore_n 2, 1) := by decide +kernel
theorem d_Shelf_bringCellsBack_14 : decode b_Shelf_bringCellsBack 14 = .ok (.aload_n 2, 1) := by decide +kernel
theorem d_Shelf_bringCellsBack_15 : decode b_Shelf_bringCellsBack 15 = .ok (.ifnull 14, 3) := by decide +kernel
theorem d_Shelf_bringCellsBack_18 : decode b_Shelf_bringCellsBack 18 = .ok (.aload_n 2, 1) := by decide +kernel
theorem d_Shelf_bringCellsBack_19 : decode b_Shelf_bringCellsBack 19 = .ok (.getfield 32, 3) := by decide +kernel
theorem d_Shelf_bringCellsBack_22 : decode b_Shelf_bringCellsBack 22 = .ok (.aload_n 2, 1) := by decide +kernel
theorem d_Shelf_bringCellsBack_23 : decode b_Shelf_bringCellsBack 23 = .ok (.getfield 28, 3) := by decide +kernel
theorem d_Shelf_bringCellsBack_26 : decode b_Shelf_bringCellsBack 26 = .ok (.invokevirtual 35, 3) := by decide +kernel
theorem d_Shelf_bringCellsBack_29 : decode b_Shelf_bringCellsBack 29 = .ok (.iinc 1 1, 3) := by decide +kernel
theorem d_Shelf_bringCellsBack_32 : decode b_Shelf_bringCellsBack 32 = .ok (.goto (-30), 3) := by decide +kernel
theorem d_Shelf_bringCellsBack_35 : decode b_Shelf_bringCellsBack 35 = .ok (.return_, 1) := by decide +kernel
end
section
theorem d_Run_init_0 : decode b_Run_init 0 = .ok (.aload_n 0, 1) := by decide +kernel
theorem d_Run_init_1 : decode b_Run_init 1 = .ok (.invokespecial 3, 3) := by decide +kernel
theorem d_Run_init_4 : decode b_Run_init 4 = .ok (.aload_n 0, 1) := by decide +kernel
theorem d_Run_init_5 : decode b_Run_init 5 = .ok (.aload_n 1, 1) := by decide +kernel
theorem d_Run_init_6 : decode b_Run_init 6 = .ok (.putfield 9, 3) := by decide +kernel
theorem d_Run_init_9 : decode b_Run_init 9 = .ok (.aload_n 0, 1) := by decide +kernel
theorem d_Run_init_10 : decode b_Run_init 10 = .ok (.new 15, 3) := by decide +kernel
theorem d_Run_init_13 : decode b_Run_init 13 = .ok (.dup, 1) := by decide +kernel
theorem d_Run_init_14 : decode b_Run_init 14 = .ok (.sipush 300, 3) := by decide +kernel
theorem d_Run_init_17 : decode b_Run_init 17 = .ok (.invokespecial 17, 3) := by decide +kernel
theorem d_Run_init_20 : decode b_Run_init 20 = .ok (.putfield 20, 3) := by decide +kernel
theorem d_Run_init_23 : decode b_Run_init 23 = .ok (.aload_n 0, 1) := by decide +kernel
theorem d_Run_init_24 : decode b_Run_init 24 = .ok (.new 15, 3) := by decide +kernel
theorem d_Run_init_27 : decode b_Run_init 27 = .ok (.dup, 1) := by decide +kernel
theorem d_Run_init_28 : decode b_Run_init 28 = .ok (.bipush 64, 2) := by decide +kernel
theorem d_Run_init_30 : decode b_Run_init 30 = .ok (.invokespecial 17, 3) := by decide +kernel
theorem d_Run_init_33 : decode b_Run_init 33 = .ok (.putfield 24, 3) := by decide +kernel
theorem d_Run_init_36 : decode b_Run_init 36 = .ok (.new 27, 3) := by decide +kernel
theorem d_Run_init_39 : decode b_Run_init 39 = .ok (.dup, 1) := by decide +kernel
theorem d_Run_init_40 : decode b_Run_init 40 = .ok (.iconst (-1), 1) := by decide +kernel
theorem d_Run_init_41 : decode b_Run_init 41 = .ok (.invokespecial 29, 3) := by decide +kernel
theorem d_Run_init_44 : decode b_Run_init 44 = .ok (.astore_n 2, 1) := by decide +kernel
theorem d_Run_init_45 : decode b_Run_init 45 = .ok (.aload_n 0, 1) := by decide +kernel
theorem d_Run_init_46 : decode b_Run_init 46 = .ok (.new 30, 3) := by decide +kernel
theorem d_Run_init_49 : decode b_Run_init 49 = .ok (.dup, 1) := by decide +kernel
theorem d_Run_init_50 : decode b_Run_init 50 = .ok (.iconst 1, 1) := by decide +kernel
theorem d_Run_init_51 : decode b_Run_init 51 = .ok (.aconst_null, 1) := by decide +kernel
theorem d_Run_init_52 : decode b_Run_init 52 = .ok (.aload_n 2, 1) := by decide +kernel
theorem d_Run_init_53 : decode b_Run_init 53 = .ok (.invokespecial 32, 3) := by decide +kernel
theorem d_Run_init_56 : decode b_Run_init 56 = .ok (.putfield 35, 3) := by decide +kernel
theorem d_Run_init_59 : decode b_Run_init 59 = .ok (.aload_n 0, 1) := by decide +kernel
theorem d_Run_init_60 : decode b_Run_init 60 = .ok (.aload_n 0, 1) := by decide +kernel
theorem d_Run_init_61 : decode b_Run_init 61 = .ok (.getfield 35, 3) := by decide +kernel
theorem d_Run_init_64 : decode b_Run_init 64 = .ok (.putfield 39, 3) := by decide +kernel
theorem d_Run_init_67 : decode b_Run_init 67 = .ok (.aload_n 0, 1) := by decide +kernel
theorem d_Run_init_68 : decode b_Run_init 68 = .ok (.getfield 35, 3) := by decide +kernel
theorem d_Run_init_71 : decode b_Run_init 71 = .ok (.astore_n 3, 1) := by decide +kernel
theorem d_Run_init_72 : decode b_Run_init 72 = .ok (.iconst 2, 1) := by decide +kernel
theorem d_Run_init_73 : decode b_Run_init 73 = .ok (.istore 4, 2) := by decide +kernel
theorem d_Run_init_75 : decode b_Run_init 75 = .ok (.iload 4, 2) := by decide +kernel
theorem d_Run_init_77 : decode b_Run_init 77 = .ok (.bipush 8, 2) := by decide +kernel
theorem d_Run_init_79 : decode b_Run_init 79 = .ok (.if_icmp .gt 31, 3) := by decide +kernel
theorem d_Run_init_82 : decode b_Run_init 82 = .ok (.new 30, 3) := by decide +kernel
theorem d_Run_init_85 : decode b_Run_init 85 = .ok (.dup, 1) := by decide +kernel
theorem d_Run_init_86 : decode b_Run_init 86 = .ok (.iload 4, 2) := by decide +kernel
theorem d_Run_init_88 : decode b_Run_init 88 = .ok (.aload_n 3, 1) := by decide +kernel
theorem d_Run_init_89 : decode b_Run_init 89 = .ok (.aload_n 2, 1) := by decide +kernel
theorem d_Run_init_90 : decode b_Run_init 90 = .ok (.invokespecial 32, 3) := by decide +kernel
theorem d_Run_init_93 : decode b_Run_init 93 = .ok (.astore 5, 2) := by decide +kernel
theorem d_Run_init_95 : decode b_Run_init 95 = .ok (.aload_n 3, 1) := by decide +kernel
theorem d_Run_init_96 : decode b_Run_init 96 = .ok (.aload 5, 2) := by decide +kernel
theorem d_Run_init_98 : decode b_Run_init 98 = .ok (.putfield 42, 3) := by decide +kernel
theorem d_Run_init_101 : decode b_Run_init 101 = .ok (.aload 5, 2) := by decide +kernel
theorem d_Run_init_103 : decode b_Run_init 103 = .ok (.astore_n 3, 1) := by decide +kernel
theorem d_Run_init_104 : decode b_Run_init 104 = .ok (.iinc 4 1, 3) := by decide +kernel
theorem d_Run_init_107 : decode b_Run_init 107 = .ok (.goto (-32), 3) := by decide +kernel
theorem d_Run_init_110 : decode b_Run_init 110 = .ok (.return_, 1) := by decide +kernel
theorem d_Run_isHeld_0 : decode b_Run_isHeld 0 = .ok (.aload_n 0, 1) := by decide +kernel
theorem d_Run_isHeld_1 : decode b_Run_isHeld 1 = .ok (.getfield 45, 3) := by decide +kernel
theorem d_Run_isHeld_4 : decode b_Run_isHeld 4 = .ok (.ifCond .eq 15, 3) := by decide +kernel
theorem d_Run_isHeld_7 : decode b_Run_isHeld 7 = .ok (.aload_n 0, 1) := by decide +kernel
theorem d_Run_isHeld_8 : decode b_Run_isHeld 8 = .ok (.getfield 49, 3) := by decide +kernel
theorem d_Run_isHeld_11 : decode b_Run_isHeld 11 = .ok (.iconst 1, 1) := by decide +kernel
theorem d_Run_isHeld_12 : decode b_Run_isHeld 12 = .ok (.if_icmp .ne 7, 3) := by decide +kernel
theorem d_Run_isHeld_15 : decode b_Run_isHeld 15 = .ok (.iconst 1, 1) := by decide +kernel
theorem d_Run_isHeld_16 : decode b_Run_isHeld 16 = .ok (.goto 4, 3) := by decide +kernel
theorem d_Run_isHeld_19 : decode b_Run_isHeld 19 = .ok (.iconst 0, 1) := by decide +kernel
theorem d_Run_isHeld_20 : decode b_Run_isHeld 20 = .ok (.ireturn, 1) := by decide +kernel
theorem d_Run_start_0 : decode b_Run_start 0 = .ok (.aload_n 0, 1) := by decide +kernel
theorem d_Run_start_1 : decode b_Run_start 1 = .ok (.invokevirtual 53, 3) := by decide +kernel
theorem d_Run_start_4 : decode b_Run_start 4 = .ok (.ifCond .eq 10, 3) := by decide +kernel
theorem d_Run_start_7 : decode b_Run_start 7 = .ok (.aload_n 0, 1) := by decide +kernel
theorem d_Run_start_8 : decode b_Run_start 8 = .ok (.getfield 9, 3) := by decide +kernel
theorem d_Run_start_11 : decode b_Run_start 11 = .ok (.invokevirtual 57, 3) := by decide +kernel
theorem d_Run_start_14 : decode b_Run_start 14 = .ok (.aload_n 0, 1) := by decide +kernel
theorem d_Run_start_15 : decode b_Run_start 15 = .ok (.getfield 9, 3) := by decide +kernel
theorem d_Run_start_18 : decode b_Run_start 18 = .ok (.invokevirtual 62, 3) := by decide +kernel
theorem d_Run_start_21 : decode b_Run_start 21 = .ok (.aload_n 0, 1) := by decide +kernel
theorem d_Run_start_22 : decode b_Run_start 22 = .ok (.getfield 20, 3) := by decide +kernel
theorem d_Run_start_25 : decode b_Run_start 25 = .ok (.aload_n 3, 1) := by decide +kernel
theorem d_Run_start_26 : decode b_Run_start 26 = .ok (.invokevirtual 65, 3) := by decide +kernel
theorem d_Run_start_29 : decode b_Run_start 29 = .ok (.aload_n 0, 1) := by decide +kernel
theorem d_Run_start_30 : decode b_Run_start 30 = .ok (.getfield 24, 3) := by decide +kernel
theorem d_Run_start_33 : decode b_Run_start 33 = .ok (.iconst 0, 1) := by decide +kernel
theorem d_Run_start_34 : decode b_Run_start 34 = .ok (.invokevirtual 69, 3) := by decide +kernel
theorem d_Run_start_37 : decode b_Run_start 37 = .ok (.aload_n 0, 1) := by decide +kernel
theorem d_Run_start_38 : decode b_Run_start 38 = .ok (.getfield 35, 3) := by decide +kernel
theorem d_Run_start_41 : decode b_Run_start 41 = .ok (.aload_n 1, 1) := by decide +kernel
theorem d_Run_start_42 : decode b_Run_start 42 = .ok (.iload_n 2, 1) := by decide +kernel
theorem d_Run_start_43 : decode b_Run_start 43 = .ok (.invokevirtual 72, 3) := by decide +kernel
theorem d_Run_start_46 : decode b_Run_start 46 = .ok (.aload_n 0, 1) := by decide +kernel
theorem d_Run_start_47 : decode b_Run_start 47 = .ok (.aload_n 0, 1) := by decide +kernel
theorem d_Run_start_48 : decode b_Run_start 48 = .ok (.getfield 35, 3) := by decide +kernel
theorem d_Run_start_51 : decode b_Run_start 51 = .ok (.putfield 39, 3) := by decide +kernel
theorem d_Run_start_54 : decode b_Run_start 54 = .ok (.aload_n 0, 1) := by decide +kernel
theorem d_Run_start_55 : decode b_Run_start 55 = .ok (.iconst 1, 1) := by decide +kernel
theorem d_Run_start_56 : decode b_Run_start 56 = .ok (.putfield 45, 3) := by decide +kernel
theorem d_Run_start_59 : decode b_Run_start 59 = .ok (.aload_n 0, 1) := by decide +kernel
theorem d_Run_start_60 : decode b_Run_start 60 = .ok (.iconst 1, 1) := by decide +kernel
theorem d_Run_start_61 : decode b_Run_start 61 = .ok (.putfield 49, 3) := by decide +kernel
theorem d_Run_start_64 : decode b_Run_start 64 = .ok (.aload_n 0, 1) := by decide +kernel
theorem d_Run_start_65 : decode b_Run_start 65 = .ok (.iconst 0, 1) := by decide +kernel
theorem d_Run_start_66 : decode b_Run_start 66 = .ok (.putfield 76, 3) := by decide +kernel
theorem d_Run_start_69 : decode b_Run_start 69 = .ok (.aload_n 0, 1) := by decide +kernel
theorem d_Run_start_70 : decode b_Run_start 70 = .ok (.iconst 0, 1) := by decide +kernel
theorem d_Run_start_71 : decode b_Run_start 71 = .ok (.putfield 79, 3) := by decide +kernel
theorem d_Run_start_74 : decode b_Run_start 74 = .ok (.aload_n 0, 1) := by decide +kernel
theorem d_Run_start_75 : decode b_Run_start 75 = .ok (.iconst 0, 1) := by decide +kernel
theorem d_Run_start_76 : decode b_Run_start 76 = .ok (.putfield 82, 3) := by decide +kernel
theorem d_Run_start_79 : decode b_Run_start 79 = .ok (.return_, 1) := by decide +kernel
theorem d_Run_advance_0 : decode b_Run_advance 0 = .ok (.iconst 0, 1) := by decide +kernel
theorem d_Run_advance_1 : decode b_Run_advance 1 = .ok (.istore_n 2, 1) := by decide +kernel
theorem d_Run_advance_2 : decode b_Run_advance 2 = .ok (.iload_n 2, 1) := by decide +kernel
theorem d_Run_advance_3 : decode b_Run_advance 3 = .ok (.iload_n 1, 1) := by decide +kernel
theorem d_Run_advance_4 : decode b_Run_advance 4 = .ok (.if_icmp .ge 21, 3) := by decide +kernel
theorem d_Run_advance_7 : decode b_Run_advance 7 = .ok (.aload_n 0, 1) := by decide +kernel
theorem d_Run_advance_8 : decode b_Run_advance 8 = .ok (.getfield 49, 3) := by decide +kernel
theorem d_Run_advance_11 : decode b_Run_advance 11 = .ok (.iconst 1, 1) := by decide +kernel
theorem d_Run_advance_12 : decode b_Run_advance 12 = .ok (.if_icmp .ne 13, 3) := by decide +kernel
theorem d_Run_advance_15 : decode b_Run_advance 15 = .ok (.aload_n 0, 1) := by decide +kernel
theorem d_Run_advance_16 : decode b_Run_advance 16 = .ok (.invokevirtual 85, 3) := by decide +kernel
theorem d_Run_advance_19 : decode b_Run_advance 19 = .ok (.iinc 2 1, 3) := by decide +kernel
theorem d_Run_advance_22 : decode b_Run_advance 22 = .ok (.goto (-20), 3) := by decide +kernel
theorem d_Run_advance_25 : decode b_Run_advance 25 = .ok (.aload_n 0, 1) := by decide +kernel
theorem d_Run_advance_26 : decode b_Run_advance 26 = .ok (.getfield 49, 3) := by decide +kernel
theorem d_Run_advance_29 : decode b_Run_advance 29 = .ok (.iconst 2, 1) := by decide +kernel
theorem d_Run_advance_30 : decode b_Run_advance 30 = .ok (.if_icmp .ne 10, 3) := by decide +kernel
theorem d_Run_advance_33 : decode b_Run_advance 33 = .ok (.aload_n 0, 1) := by decide +kernel
theorem d_Run_advance_34 : decode b_Run_advance 34 = .ok (.getfield 9, 3) := by decide +kernel
theorem d_Run_advance_37 : decode b_Run_advance 37 = .ok (.invokevirtual 57, 3) := by decide +kernel
theorem d_Run_advance_40 : decode b_Run_advance 40 = .ok (.aload_n 0, 1) := by decide +kernel
theorem d_Run_advance_41 : decode b_Run_advance 41 = .ok (.getfield 49, 3) := by decide +kernel
theorem d_Run_advance_44 : decode b_Run_advance 44 = .ok (.ireturn, 1) := by decide +kernel
theorem d_Run_tell_0 : decode b_Run_tell 0 = .ok (.aload_n 0, 1) := by decide +kernel
theorem d_Run_tell_1 : decode b_Run_tell 1 = .ok (.getfield 45, 3) := by decide +kernel
theorem d_Run_tell_4 : decode b_Run_tell 4 = .ok (.ifCond .ne 5, 3) := by decide +kernel
theorem d_Run_tell_7 : decode b_Run_tell 7 = .ok (.iconst (-1), 1) := by decide +kernel
theorem d_Run_tell_8 : decode b_Run_tell 8 = .ok (.ireturn, 1) := by decide +kernel
theorem d_Run_tell_9 : decode b_Run_tell 9 = .ok (.iload_n 1, 1) := by decide +kernel
theorem d_Run_tell_10 : decode b_Run_tell 10 = .ok (.tableswitch 137 0 7 #[46, 51, 56, 61, 66, 86, 109, 129], 46) := by decide +kernel
theorem d_Run_tell_56 : decode b_Run_tell 56 = .ok (.aload_n 0, 1) := by decide +kernel
theorem d_Run_tell_57 : decode b_Run_tell 57 = .ok (.getfield 49, 3) := by decide +kernel
theorem d_Run_tell_60 : decode b_Run_tell 60 = .ok (.ireturn, 1) := by decide +kernel
theorem d_Run_tell_61 : decode b_Run_tell 61 = .ok (.aload_n 0, 1) := by decide +kernel
theorem d_Run_tell_62 : decode b_Run_tell 62 = .ok (.getfield 76, 3) := by decide +kernel
theorem d_Run_tell_65 : decode b_Run_tell 65 = .ok (.ireturn, 1) := by decide +kernel
theorem d_Run_tell_66 : decode b_Run_tell 66 = .ok (.aload_n 0, 1) := by decide +kernel
theorem d_Run_tell_67 : decode b_Run_tell 67 = .ok (.getfield 79, 3) := by decide +kernel
theorem d_Run_tell_70 : decode b_Run_tell 70 = .ok (.ireturn, 1) := by decide +kernel
theorem d_Run_tell_71 : decode b_Run_tell 71 = .ok (.aload_n 0, 1) := by decide +kernel
theorem d_Run_tell_72 : decode b_Run_tell 72 = .ok (.getfield 82, 3) := by decide +kernel
theorem d_Run_tell_75 : decode b_Run_tell 75 = .ok (.ireturn, 1) := by decide +kernel
theorem d_Run_tell_76 : decode b_Run_tell 76 = .ok (.aload_n 0, 1) := by decide +kernel
theorem d_Run_tell_77 : decode b_Run_tell 77 = .ok (.getfield 49, 3) := by decide +kernel
theorem d_Run_tell_80 : decode b_Run_tell 80 = .ok (.iconst 1, 1) := by decide +kernel
theorem d_Run_tell_81 : decode b_Run_tell 81 = .ok (.if_icmp .ne 13, 3) := by decide +kernel
theorem d_Run_tell_84 : decode b_Run_tell 84 = .ok (.aload_n 0, 1) := by decide +kernel
theorem d_Run_tell_85 : decode b_Run_tell 85 = .ok (.getfield 39, 3) := by decide +kernel
theorem d_Run_tell_88 : decode b_Run_tell 88 = .ok (.getfield 88, 3) := by decide +kernel
theorem d_Run_tell_91 : decode b_Run_tell 91 = .ok (.goto 4, 3) := by decide +kernel
theorem d_Run_tell_94 : decode b_Run_tell 94 = .ok (.iconst 0, 1) := by decide +kernel
theorem d_Run_tell_95 : decode b_Run_tell 95 = .ok (.ireturn, 1) := by decide +kernel
theorem d_Run_tell_96 : decode b_Run_tell 96 = .ok (.aload_n 0, 1) := by decide +kernel
theorem d_Run_tell_97 : decode b_Run_tell 97 = .ok (.getfield 49, 3) := by decide +kernel
theorem d_Run_tell_100 : decode b_Run_tell 100 = .ok (.iconst 1, 1) := by decide +kernel
theorem d_Run_tell_101 : decode b_Run_tell 101 = .ok (.if_icmp .ne 16, 3) := by decide +kernel
theorem d_Run_tell_104 : decode b_Run_tell 104 = .ok (.aload_n 0, 1) := by decide +kernel
theorem d_Run_tell_105 : decode b_Run_tell 105 = .ok (.getfield 39, 3) := by decide +kernel
theorem d_Run_tell_108 : decode b_Run_tell 108 = .ok (.getfield 91, 3) := by decide +kernel
theorem d_Run_tell_111 : decode b_Run_tell 111 = .ok (.getfield 95, 3) := by decide +kernel
theorem d_Run_tell_114 : decode b_Run_tell 114 = .ok (.goto 4, 3) := by decide +kernel
theorem d_Run_tell_117 : decode b_Run_tell 117 = .ok (.iconst (-1), 1) := by decide +kernel
theorem d_Run_tell_118 : decode b_Run_tell 118 = .ok (.ireturn, 1) := by decide +kernel
theorem d_Run_tell_119 : decode b_Run_tell 119 = .ok (.aload_n 0, 1) := by decide +kernel
theorem d_Run_tell_120 : decode b_Run_tell 120 = .ok (.getfield 49, 3) := by decide +kernel
theorem d_Run_tell_123 : decode b_Run_tell 123 = .ok (.iconst 1, 1) := by decide +kernel
theorem d_Run_tell_124 : decode b_Run_tell 124 = .ok (.if_icmp .ne 13, 3) := by decide +kernel
theorem d_Run_tell_127 : decode b_Run_tell 127 = .ok (.aload_n 0, 1) := by decide +kernel
theorem d_Run_tell_128 : decode b_Run_tell 128 = .ok (.getfield 39, 3) := by decide +kernel
theorem d_Run_tell_131 : decode b_Run_tell 131 = .ok (.getfield 98, 3) := by decide +kernel
theorem d_Run_tell_134 : decode b_Run_tell 134 = .ok (.goto 4, 3) := by decide +kernel
theorem d_Run_tell_137 : decode b_Run_tell 137 = .ok (.iconst (-1), 1) := by decide +kernel
theorem d_Run_tell_138 : decode b_Run_tell 138 = .ok (.ireturn, 1) := by decide +kernel
theorem d_Run_tell_139 : decode b_Run_tell 139 = .ok (.aload_n 0, 1) := by decide +kernel
theorem d_Run_tell_140 : decode b_Run_tell 140 = .ok (.getfield 24, 3) := by decide +kernel
theorem d_Run_tell_143 : decode b_Run_tell 143 = .ok (.getfield 101, 3) := by decide +kernel
theorem d_Run_tell_146 : decode b_Run_tell 146 = .ok (.ireturn, 1) := by decide +kernel
theorem d_Run_tell_147 : decode b_Run_tell 147 = .ok (.iconst (-1), 1) := by decide +kernel
theorem d_Run_tell_148 : decode b_Run_tell 148 = .ok (.ireturn, 1) := by decide +kernel
theorem d_Run_step_0 : decode b_Run_step 0 = .ok (.aload_n 0, 1) := by decide +kernel
theorem d_Run_step_1 : decode b_Run_step 1 = .ok (.getfield 82, 3) := by decide +kernel
theorem d_Run_step_4 : decode b_Run_step 4 = .ok (.sipush 2000, 3) := by decide +kernel
theorem d_Run_step_7 : decode b_Run_step 7 = .ok (.if_icmp .lt 10, 3) := by decide +kernel
theorem d_Run_step_10 : decode b_Run_step 10 = .ok (.aload_n 0, 1) := by decide +kernel
theorem d_Run_step_11 : decode b_Run_step 11 = .ok (.bipush 6, 2) := by decide +kernel
theorem d_Run_step_13 : decode b_Run_step 13 = .ok (.invokevirtual 104, 3) := by decide +kernel
theorem d_Run_step_16 : decode b_Run_step 16 = .ok (.return_, 1) := by decide +kernel
theorem d_Run_step_17 : decode b_Run_step 17 = .ok (.aload_n 0, 1) := by decide +kernel
theorem d_Run_step_18 : decode b_Run_step 18 = .ok (.dup, 1) := by decide +kernel
theorem d_Run_step_19 : decode b_Run_step 19 = .ok (.getfield 82, 3) := by decide +kernel
theorem d_Run_step_22 : decode b_Run_step 22 = .ok (.iconst 1, 1) := by decide +kernel
theorem d_Run_step_23 : decode b_Run_step 23 = .ok (.iadd, 1) := by decide +kernel
theorem d_Run_step_24 : decode b_Run_step 24 = .ok (.putfield 82, 3) := by decide +kernel
theorem d_Run_step_27 : decode b_Run_step 27 = .ok (.aload_n 0, 1) := by decide +kernel
theorem d_Run_step_28 : decode b_Run_step 28 = .ok (.getfield 39, 3) := by decide +kernel
theorem d_Run_step_31 : decode b_Run_step 31 = .ok (.invokevirtual 107, 3) := by decide +kernel
theorem d_Run_step_34 : decode b_Run_step 34 = .ok (.istore_n 1, 1) := by decide +kernel
theorem d_Run_step_35 : decode b_Run_step 35 = .ok (.iload_n 1, 1) := by decide +kernel
theorem d_Run_step_36 : decode b_Run_step 36 = .ok (.invokestatic 111, 3) := by decide +kernel
theorem d_Run_step_39 : decode b_Run_step 39 = .ok (.ifCond .eq 13, 3) := by decide +kernel
theorem d_Run_step_42 : decode b_Run_step 42 = .ok (.aload_n 0, 1) := by decide +kernel
theorem d_Run_step_43 : decode b_Run_step 43 = .ok (.getfield 39, 3) := by decide +kernel
theorem d_Run_step_46 : decode b_Run_step 46 = .ok (.invokevirtual 107, 3) := by decide +kernel
theorem d_Run_step_49 : decode b_Run_step 49 = .ok (.goto 4, 3) := by decide +kernel
theorem d_Run_step_52 : decode b_Run_step 52 = .ok (.iconst 0, 1) := by decide +kernel
theorem d_Run_step_53 : decode b_Run_step 53 = .ok (.istore_n 2, 1) := by decide +kernel
theorem d_Run_step_54 : decode b_Run_step 54 = .ok (.iload_n 1, 1) := by decide +kernel
theorem d_Run_step_55 : decode b_Run_step 55 = .ok (.iconst 4, 1) := by decide +kernel
theorem d_Run_step_56 : decode b_Run_step 56 = .ok (.if_icmp .gt 12, 3) := by decide +kernel
theorem d_Run_step_59 : decode b_Run_step 59 = .ok (.aload_n 0, 1) := by decide +kernel
theorem d_Run_step_60 : decode b_Run_step 60 = .ok (.iload_n 1, 1) := by decide +kernel
theorem d_Run_step_61 : decode b_Run_step 61 = .ok (.iload_n 2, 1) := by decide +kernel
theorem d_Run_step_62 : decode b_Run_step 62 = .ok (.invokevirtual 115, 3) := by decide +kernel
theorem d_Run_step_65 : decode b_Run_step 65 = .ok (.goto 52, 3) := by decide +kernel
theorem d_Run_step_68 : decode b_Run_step 68 = .ok (.iload_n 1, 1) := by decide +kernel
theorem d_Run_step_69 : decode b_Run_step 69 = .ok (.bipush 12, 2) := by decide +kernel
theorem d_Run_step_71 : decode b_Run_step 71 = .ok (.if_icmp .gt 11, 3) := by decide +kernel
theorem d_Run_step_74 : decode b_Run_step 74 = .ok (.aload_n 0, 1) := by decide +kernel
theorem d_Run_step_75 : decode b_Run_step 75 = .ok (.iload_n 1, 1) := by decide +kernel
theorem d_Run_step_76 : decode b_Run_step 76 = .ok (.invokevirtual 119, 3) := by decide +kernel
theorem d_Run_step_79 : decode b_Run_step 79 = .ok (.goto 38, 3) := by decide +kernel
theorem d_Run_step_82 : decode b_Run_step 82 = .ok (.iload_n 1, 1) := by decide +kernel
theorem d_Run_step_83 : decode b_Run_step 83 = .ok (.bipush 15, 2) := by decide +kernel
theorem d_Run_step_85 : decode b_Run_step 85 = .ok (.if_icmp .gt 11, 3) := by decide +kernel
theorem d_Run_step_88 : decode b_Run_step 88 = .ok (.aload_n 0, 1) := by decide +kernel
theorem d_Run_step_89 : decode b_Run_step 89 = .ok (.iload_n 1, 1) := by decide +kernel
theorem d_Run_step_90 : decode b_Run_step 90 = .ok (.invokevirtual 122, 3) := by decide +kernel
theorem d_Run_step_93 : decode b_Run_step 93 = .ok (.goto 24, 3) := by decide +kernel
theorem d_Run_step_96 : decode b_Run_step 96 = .ok (.iload_n 1, 1) := by decide +kernel
theorem d_Run_step_97 : decode b_Run_step 97 = .ok (.bipush 18, 2) := by decide +kernel
theorem d_Run_step_99 : decode b_Run_step 99 = .ok (.if_icmp .gt 12, 3) := by decide +kernel
theorem d_Run_step_102 : decode b_Run_step 102 = .ok (.aload_n 0, 1) := by decide +kernel
theorem d_Run_step_103 : decode b_Run_step 103 = .ok (.iload_n 1, 1) := by decide +kernel
theorem d_Run_step_104 : decode b_Run_step 104 = .ok (.iload_n 2, 1) := by decide +kernel
theorem d_Run_step_105 : decode b_Run_step 105 = .ok (.invokevirtual 125, 3) := by decide +kernel
theorem d_Run_step_108 : decode b_Run_step 108 = .ok (.goto 9, 3) := by decide +kernel
theorem d_Run_step_111 : decode b_Run_step 111 = .ok (.aload_n 0, 1) := by decide +kernel
theorem d_Run_step_112 : decode b_Run_step 112 = .ok (.iload_n 1, 1) := by decide +kernel
theorem d_Run_step_113 : decode b_Run_step 113 = .ok (.iload_n 2, 1) := by decide +kernel
theorem d_Run_step_114 : decode b_Run_step 114 = .ok (.invokevirtual 128, 3) := by decide +kernel
theorem d_Run_step_117 : decode b_Run_step 117 = .ok (.return_, 1) := by decide +kernel
theorem d_Run_fail_0 : decode b_Run_fail 0 = .ok (.aload_n 0, 1) := by decide +kernel
theorem d_Run_fail_1 : decode b_Run_fail 1 = .ok (.iconst 2, 1) := by decide +kernel
theorem d_Run_fail_2 : decode b_Run_fail 2 = .ok (.putfield 49, 3) := by decide +kernel
theorem d_Run_fail_5 : decode b_Run_fail 5 = .ok (.aload_n 0, 1) := by decide +kernel
theorem d_Run_fail_6 : decode b_Run_fail 6 = .ok (.iload_n 1, 1) := by decide +kernel
theorem d_Run_fail_7 : decode b_Run_fail 7 = .ok (.putfield 79, 3) := by decide +kernel
theorem d_Run_fail_10 : decode b_Run_fail 10 = .ok (.return_, 1) := by decide +kernel
theorem d_Run_move_0 : decode b_Run_move 0 = .ok (.aload_n 0, 1) := by decide +kernel
theorem d_Run_move_1 : decode b_Run_move 1 = .ok (.getfield 39, 3) := by decide +kernel
theorem d_Run_move_4 : decode b_Run_move 4 = .ok (.getfield 131, 3) := by decide +kernel
theorem d_Run_move_7 : decode b_Run_move 7 = .ok (.astore_n 3, 1) := by decide +kernel
theorem d_Run_move_8 : decode b_Run_move 8 = .ok (.iload_n 1, 1) := by decide +kernel
theorem d_Run_move_9 : decode b_Run_move 9 = .ok (.tableswitch 102 0 3 #[31, 40, 62, 83], 31) := by decide +kernel
theorem d_Run_move_40 : decode b_Run_move 40 = .ok (.aload_n 3, 1) := by decide +kernel
theorem d_Run_move_41 : decode b_Run_move 41 = .ok (.iload_n 2, 1) := by decide +kernel
theorem d_Run_move_42 : decode b_Run_move 42 = .ok (.i2b, 1) := by decide +kernel
theorem d_Run_move_43 : decode b_Run_move 43 = .ok (.invokevirtual 134, 3) := by decide +kernel
theorem d_Run_move_46 : decode b_Run_move 46 = .ok (.goto 80, 3) := by decide +kernel
theorem d_Run_move_49 : decode b_Run_move 49 = .ok (.aload_n 3, 1) := by decide +kernel
theorem d_Run_move_50 : decode b_Run_move 50 = .ok (.aload_n 0, 1) := by decide +kernel
theorem d_Run_move_51 : decode b_Run_move 51 = .ok (.getfield 39, 3) := by decide +kernel
theorem d_Run_move_54 : decode b_Run_move 54 = .ok (.getfield 91, 3) := by decide +kernel
theorem d_Run_move_57 : decode b_Run_move 57 = .ok (.getfield 137, 3) := by decide +kernel
theorem d_Run_move_60 : decode b_Run_move 60 = .ok (.iload_n 2, 1) := by decide +kernel
theorem d_Run_move_61 : decode b_Run_move 61 = .ok (.iconst 0, 1) := by decide +kernel
theorem d_Run_move_62 : decode b_Run_move 62 = .ok (.invokevirtual 140, 3) := by decide +kernel
theorem d_Run_move_65 : decode b_Run_move 65 = .ok (.invokevirtual 134, 3) := by decide +kernel
theorem d_Run_move_68 : decode b_Run_move 68 = .ok (.goto 58, 3) := by decide +kernel
theorem d_Run_move_71 : decode b_Run_move 71 = .ok (.aload_n 0, 1) := by decide +kernel
theorem d_Run_move_72 : decode b_Run_move 72 = .ok (.getfield 39, 3) := by decide +kernel
theorem d_Run_move_75 : decode b_Run_move 75 = .ok (.getfield 91, 3) := by decide +kernel
theorem d_Run_move_78 : decode b_Run_move 78 = .ok (.getfield 137, 3) := by decide +kernel
theorem d_Run_move_81 : decode b_Run_move 81 = .ok (.iload_n 2, 1) := by decide +kernel
theorem d_Run_move_82 : decode b_Run_move 82 = .ok (.aload_n 3, 1) := by decide +kernel
theorem d_Run_move_83 : decode b_Run_move 83 = .ok (.invokevirtual 144, 3) := by decide +kernel
theorem d_Run_move_86 : decode b_Run_move 86 = .ok (.invokevirtual 147, 3) := by decide +kernel
theorem d_Run_move_89 : decode b_Run_move 89 = .ok (.goto 37, 3) := by decide +kernel
theorem d_Run_move_92 : decode b_Run_move 92 = .ok (.aload_n 3, 1) := by decide +kernel
theorem d_Run_move_93 : decode b_Run_move 93 = .ok (.aload_n 0, 1) := by decide +kernel
theorem d_Run_move_94 : decode b_Run_move 94 = .ok (.getfield 39, 3) := by decide +kernel
theorem d_Run_move_97 : decode b_Run_move 97 = .ok (.getfield 150, 3) := by decide +kernel
theorem d_Run_move_100 : decode b_Run_move 100 = .ok (.iload_n 2, 1) := by decide +kernel
theorem d_Run_move_101 : decode b_Run_move 101 = .ok (.iconst 0, 1) := by decide +kernel
theorem d_Run_move_102 : decode b_Run_move 102 = .ok (.invokevirtual 140, 3) := by decide +kernel
theorem d_Run_move_105 : decode b_Run_move 105 = .ok (.invokevirtual 134, 3) := by decide +kernel
theorem d_Run_move_108 : decode b_Run_move 108 = .ok (.goto 18, 3) := by decide +kernel
theorem d_Run_move_111 : decode b_Run_move 111 = .ok (.aload_n 0, 1) := by decide +kernel
theorem d_Run_move_112 : decode b_Run_move 112 = .ok (.getfield 39, 3) := by decide +kernel
theorem d_Run_move_115 : decode b_Run_move 115 = .ok (.getfield 150, 3) := by decide +kernel
theorem d_Run_move_118 : decode b_Run_move 118 = .ok (.iload_n 2, 1) := by decide +kernel
theorem d_Run_move_119 : decode b_Run_move 119 = .ok (.aload_n 3, 1) := by decide +kernel
theorem d_Run_move_120 : decode b_Run_move 120 = .ok (.invokevirtual 144, 3) := by decide +kernel
theorem d_Run_move_123 : decode b_Run_move 123 = .ok (.invokevirtual 147, 3) := by decide +kernel
theorem d_Run_move_126 : decode b_Run_move 126 = .ok (.return_, 1) := by decide +kernel
theorem d_Run_combine_0 : decode b_Run_combine 0 = .ok (.aload_n 0, 1) := by decide +kernel
theorem d_Run_combine_1 : decode b_Run_combine 1 = .ok (.getfield 39, 3) := by decide +kernel
theorem d_Run_combine_4 : decode b_Run_combine 4 = .ok (.getfield 131, 3) := by decide +kernel
theorem d_Run_combine_7 : decode b_Run_combine 7 = .ok (.invokevirtual 144, 3) := by decide +kernel
theorem d_Run_combine_10 : decode b_Run_combine 10 = .ok (.istore_n 2, 1) := by decide +kernel
theorem d_Run_combine_11 : decode b_Run_combine 11 = .ok (.aload_n 0, 1) := by decide +kernel
theorem d_Run_combine_12 : decode b_Run_combine 12 = .ok (.getfield 39, 3) := by decide +kernel
theorem d_Run_combine_15 : decode b_Run_combine 15 = .ok (.getfield 131, 3) := by decide +kernel
theorem d_Run_combine_18 : decode b_Run_combine 18 = .ok (.invokevirtual 144, 3) := by decide +kernel
theorem d_Run_combine_21 : decode b_Run_combine 21 = .ok (.istore_n 3, 1) := by decide +kernel
theorem d_Run_combine_22 : decode b_Run_combine 22 = .ok (.aload_n 0, 1) := by decide +kernel
theorem d_Run_combine_23 : decode b_Run_combine 23 = .ok (.getfield 39, 3) := by decide +kernel
theorem d_Run_combine_26 : decode b_Run_combine 26 = .ok (.getfield 131, 3) := by decide +kernel
theorem d_Run_combine_29 : decode b_Run_combine 29 = .ok (.iload_n 1, 1) := by decide +kernel
theorem d_Run_combine_30 : decode b_Run_combine 30 = .ok (.iload_n 3, 1) := by decide +kernel
theorem d_Run_combine_31 : decode b_Run_combine 31 = .ok (.iload_n 2, 1) := by decide +kernel
theorem d_Run_combine_32 : decode b_Run_combine 32 = .ok (.invokestatic 153, 3) := by decide +kernel
theorem d_Run_combine_35 : decode b_Run_combine 35 = .ok (.invokevirtual 134, 3) := by decide +kernel
theorem d_Run_combine_38 : decode b_Run_combine 38 = .ok (.return_, 1) := by decide +kernel
theorem d_Run_combined_0 : decode b_Run_combined 0 = .ok (.iload_n 0, 1) := by decide +kernel
theorem d_Run_combined_1 : decode b_Run_combined 1 = .ok (.tableswitch 71 5 11 #[43, 47, 51, 55, 59, 63, 67], 43) := by decide +kernel
theorem d_Run_combined_44 : decode b_Run_combined 44 = .ok (.iload_n 1, 1) := by decide +kernel
theorem d_Run_combined_45 : decode b_Run_combined 45 = .ok (.iload_n 2, 1) := by decide +kernel
theorem d_Run_combined_46 : decode b_Run_combined 46 = .ok (.iadd, 1) := by decide +kernel
theorem d_Run_combined_47 : decode b_Run_combined 47 = .ok (.ireturn, 1) := by decide +kernel
theorem d_Run_combined_48 : decode b_Run_combined 48 = .ok (.iload_n 1, 1) := by decide +kernel
theorem d_Run_combined_49 : decode b_Run_combined 49 = .ok (.iload_n 2, 1) := by decide +kernel
theorem d_Run_combined_50 : decode b_Run_combined 50 = .ok (.isub, 1) := by decide +kernel
theorem d_Run_combined_51 : decode b_Run_combined 51 = .ok (.ireturn, 1) := by decide +kernel
theorem d_Run_combined_52 : decode b_Run_combined 52 = .ok (.iload_n 1, 1) := by decide +kernel
theorem d_Run_combined_53 : decode b_Run_combined 53 = .ok (.iload_n 2, 1) := by decide +kernel
theorem d_Run_combined_54 : decode b_Run_combined 54 = .ok (.imul, 1) := by decide +kernel
theorem d_Run_combined_55 : decode b_Run_combined 55 = .ok (.ireturn, 1) := by decide +kernel
theorem d_Run_combined_56 : decode b_Run_combined 56 = .ok (.iload_n 1, 1) := by decide +kernel
theorem d_Run_combined_57 : decode b_Run_combined 57 = .ok (.iload_n 2, 1) := by decide +kernel
theorem d_Run_combined_58 : decode b_Run_combined 58 = .ok (.iand, 1) := by decide +kernel
theorem d_Run_combined_59 : decode b_Run_combined 59 = .ok (.ireturn, 1) := by decide +kernel
theorem d_Run_combined_60 : decode b_Run_combined 60 = .ok (.iload_n 1, 1) := by decide +kernel
theorem d_Run_combined_61 : decode b_Run_combined 61 = .ok (.iload_n 2, 1) := by decide +kernel
theorem d_Run_combined_62 : decode b_Run_combined 62 = .ok (.ior, 1) := by decide +kernel
theorem d_Run_combined_63 : decode b_Run_combined 63 = .ok (.ireturn, 1) := by decide +kernel
theorem d_Run_combined_64 : decode b_Run_combined 64 = .ok (.iload_n 1, 1) := by decide +kernel
theorem d_Run_combined_65 : decode b_Run_combined 65 = .ok (.iload_n 2, 1) := by decide +kernel
theorem d_Run_combined_66 : decode b_Run_combined 66 = .ok (.ixor, 1) := by decide +kernel
theorem d_Run_combined_67 : decode b_Run_combined 67 = .ok (.ireturn, 1) := by decide +kernel
theorem d_Run_combined_68 : decode b_Run_combined 68 = .ok (.iload_n 1, 1) := by decide +kernel
theorem d_Run_combined_69 : decode b_Run_combined 69 = .ok (.iload_n 2, 1) := by decide +kernel
theorem d_Run_combined_70 : decode b_Run_combined 70 = .ok (.ishl, 1) := by decide +kernel
theorem d_Run_combined_71 : decode b_Run_combined 71 = .ok (.ireturn, 1) := by decide +kernel
theorem d_Run_combined_72 : decode b_Run_combined 72 = .ok (.iload_n 1, 1) := by decide +kernel
theorem d_Run_combined_73 : decode b_Run_combined 73 = .ok (.iload_n 2, 1) := by decide +kernel
theorem d_Run_combined_74 : decode b_Run_combined 74 = .ok (.ishr, 1) := by decide +kernel
theorem d_Run_combined_75 : decode b_Run_combined 75 = .ok (.ireturn, 1) := by decide +kernel
theorem d_Run_rearrange_0 : decode b_Run_rearrange 0 = .ok (.aload_n 0, 1) := by decide +kernel
theorem d_Run_rearrange_1 : decode b_Run_rearrange 1 = .ok (.getfield 39, 3) := by decide +kernel
theorem d_Run_rearrange_4 : decode b_Run_rearrange 4 = .ok (.getfield 131, 3) := by decide +kernel
theorem d_Run_rearrange_7 : decode b_Run_rearrange 7 = .ok (.astore_n 2, 1) := by decide +kernel
theorem d_Run_rearrange_8 : decode b_Run_rearrange 8 = .ok (.aload_n 2, 1) := by decide +kernel
theorem d_Run_rearrange_9 : decode b_Run_rearrange 9 = .ok (.invokevirtual 144, 3) := by decide +kernel
theorem d_Run_rearrange_12 : decode b_Run_rearrange 12 = .ok (.istore_n 3, 1) := by decide +kernel
theorem d_Run_rearrange_13 : decode b_Run_rearrange 13 = .ok (.iload_n 1, 1) := by decide +kernel
theorem d_Run_rearrange_14 : decode b_Run_rearrange 14 = .ok (.bipush 14, 2) := by decide +kernel
theorem d_Run_rearrange_16 : decode b_Run_rearrange 16 = .ok (.if_icmp .eq 30, 3) := by decide +kernel
theorem d_Run_rearrange_19 : decode b_Run_rearrange 19 = .ok (.iload_n 1, 1) := by decide +kernel
theorem d_Run_rearrange_20 : decode b_Run_rearrange 20 = .ok (.bipush 13, 2) := by decide +kernel
theorem d_Run_rearrange_22 : decode b_Run_rearrange 22 = .ok (.if_icmp .ne 7, 3) := by decide +kernel
theorem d_Run_rearrange_25 : decode b_Run_rearrange 25 = .ok (.iload_n 3, 1) := by decide +kernel
theorem d_Run_rearrange_26 : decode b_Run_rearrange 26 = .ok (.goto 7, 3) := by decide +kernel
theorem d_Run_rearrange_29 : decode b_Run_rearrange 29 = .ok (.aload_n 2, 1) := by decide +kernel
theorem d_Run_rearrange_30 : decode b_Run_rearrange 30 = .ok (.invokevirtual 144, 3) := by decide +kernel
theorem d_Run_rearrange_33 : decode b_Run_rearrange 33 = .ok (.istore 4, 2) := by decide +kernel
theorem d_Run_rearrange_35 : decode b_Run_rearrange 35 = .ok (.aload_n 2, 1) := by decide +kernel
theorem d_Run_rearrange_36 : decode b_Run_rearrange 36 = .ok (.iload_n 3, 1) := by decide +kernel
theorem d_Run_rearrange_37 : decode b_Run_rearrange 37 = .ok (.invokevirtual 134, 3) := by decide +kernel
theorem d_Run_rearrange_40 : decode b_Run_rearrange 40 = .ok (.aload_n 2, 1) := by decide +kernel
theorem d_Run_rearrange_41 : decode b_Run_rearrange 41 = .ok (.iload 4, 2) := by decide +kernel
theorem d_Run_rearrange_43 : decode b_Run_rearrange 43 = .ok (.invokevirtual 134, 3) := by decide +kernel
theorem d_Run_rearrange_46 : decode b_Run_rearrange 46 = .ok (.return_, 1) := by decide +kernel
theorem d_Run_jump_0 : decode b_Run_jump 0 = .ok (.iconst 1, 1) := by decide +kernel
theorem d_Run_jump_1 : decode b_Run_jump 1 = .ok (.istore_n 3, 1) := by decide +kernel
theorem d_Run_jump_2 : decode b_Run_jump 2 = .ok (.iload_n 1, 1) := by decide +kernel
theorem d_Run_jump_3 : decode b_Run_jump 3 = .ok (.bipush 17, 2) := by decide +kernel
theorem d_Run_jump_5 : decode b_Run_jump 5 = .ok (.if_icmp .ne 25, 3) := by decide +kernel
theorem d_Run_jump_8 : decode b_Run_jump 8 = .ok (.aload_n 0, 1) := by decide +kernel
theorem d_Run_jump_9 : decode b_Run_jump 9 = .ok (.getfield 39, 3) := by decide +kernel
theorem d_Run_jump_12 : decode b_Run_jump 12 = .ok (.getfield 131, 3) := by decide +kernel
theorem d_Run_jump_15 : decode b_Run_jump 15 = .ok (.invokevirtual 144, 3) := by decide +kernel
theorem d_Run_jump_18 : decode b_Run_jump 18 = .ok (.ifCond .ne 7, 3) := by decide +kernel
theorem d_Run_jump_21 : decode b_Run_jump 21 = .ok (.iconst 1, 1) := by decide +kernel
theorem d_Run_jump_22 : decode b_Run_jump 22 = .ok (.goto 4, 3) := by decide +kernel
theorem d_Run_jump_25 : decode b_Run_jump 25 = .ok (.iconst 0, 1) := by decide +kernel
theorem d_Run_jump_26 : decode b_Run_jump 26 = .ok (.istore_n 3, 1) := by decide +kernel
theorem d_Run_jump_27 : decode b_Run_jump 27 = .ok (.goto 46, 3) := by decide +kernel
theorem d_Run_jump_30 : decode b_Run_jump 30 = .ok (.iload_n 1, 1) := by decide +kernel
theorem d_Run_jump_31 : decode b_Run_jump 31 = .ok (.bipush 18, 2) := by decide +kernel
theorem d_Run_jump_33 : decode b_Run_jump 33 = .ok (.if_icmp .ne 40, 3) := by decide +kernel
theorem d_Run_jump_36 : decode b_Run_jump 36 = .ok (.aload_n 0, 1) := by decide +kernel
theorem d_Run_jump_37 : decode b_Run_jump 37 = .ok (.getfield 39, 3) := by decide +kernel
theorem d_Run_jump_40 : decode b_Run_jump 40 = .ok (.getfield 131, 3) := by decide +kernel
theorem d_Run_jump_43 : decode b_Run_jump 43 = .ok (.invokevirtual 144, 3) := by decide +kernel
theorem d_Run_jump_46 : decode b_Run_jump 46 = .ok (.istore 4, 2) := by decide +kernel
theorem d_Run_jump_48 : decode b_Run_jump 48 = .ok (.aload_n 0, 1) := by decide +kernel
theorem d_Run_jump_49 : decode b_Run_jump 49 = .ok (.getfield 39, 3) := by decide +kernel
theorem d_Run_jump_52 : decode b_Run_jump 52 = .ok (.getfield 131, 3) := by decide +kernel
theorem d_Run_jump_55 : decode b_Run_jump 55 = .ok (.invokevirtual 144, 3) := by decide +kernel
theorem d_Run_jump_58 : decode b_Run_jump 58 = .ok (.istore 5, 2) := by decide +kernel
theorem d_Run_jump_60 : decode b_Run_jump 60 = .ok (.iload 5, 2) := by decide +kernel
theorem d_Run_jump_62 : decode b_Run_jump 62 = .ok (.iload 4, 2) := by decide +kernel
theorem d_Run_jump_64 : decode b_Run_jump 64 = .ok (.if_icmp .ge 7, 3) := by decide +kernel
theorem d_Run_jump_67 : decode b_Run_jump 67 = .ok (.iconst 1, 1) := by decide +kernel
theorem d_Run_jump_68 : decode b_Run_jump 68 = .ok (.goto 4, 3) := by decide +kernel
theorem d_Run_jump_71 : decode b_Run_jump 71 = .ok (.iconst 0, 1) := by decide +kernel
theorem d_Run_jump_72 : decode b_Run_jump 72 = .ok (.istore_n 3, 1) := by decide +kernel
theorem d_Run_jump_73 : decode b_Run_jump 73 = .ok (.iload_n 3, 1) := by decide +kernel
theorem d_Run_jump_74 : decode b_Run_jump 74 = .ok (.ifCond .eq 11, 3) := by decide +kernel
theorem d_Run_jump_77 : decode b_Run_jump 77 = .ok (.aload_n 0, 1) := by decide +kernel
theorem d_Run_jump_78 : decode b_Run_jump 78 = .ok (.getfield 39, 3) := by decide +kernel
theorem d_Run_jump_81 : decode b_Run_jump 81 = .ok (.iload_n 2, 1) := by decide +kernel
theorem d_Run_jump_82 : decode b_Run_jump 82 = .ok (.putfield 98, 3) := by decide +kernel
theorem d_Run_jump_85 : decode b_Run_jump 85 = .ok (.return_, 1) := by decide +kernel
theorem d_Run_doOther_0 : decode b_Run_doOther 0 = .ok (.iload_n 1, 1) := by decide +kernel
theorem d_Run_doOther_1 : decode b_Run_doOther 1 = .ok (.tableswitch 160 19 27 #[51, 68, 88, 105, 122, 160, 130, 130, 138], 51) := by decide +kernel
theorem d_Run_doOther_52 : decode b_Run_doOther 52 = .ok (.aload_n 0, 1) := by decide +kernel
theorem d_Run_doOther_53 : decode b_Run_doOther 53 = .ok (.aload_n 0, 1) := by decide +kernel
theorem d_Run_doOther_54 : decode b_Run_doOther 54 = .ok (.getfield 39, 3) := by decide +kernel
theorem d_Run_doOther_57 : decode b_Run_doOther 57 = .ok (.getfield 131, 3) := by decide +kernel
theorem d_Run_doOther_60 : decode b_Run_doOther 60 = .ok (.invokevirtual 144, 3) := by decide +kernel
theorem d_Run_doOther_63 : decode b_Run_doOther 63 = .ok (.invokevirtual 157, 3) := by decide +kernel
theorem d_Run_doOther_66 : decode b_Run_doOther 66 = .ok (.goto 100, 3) := by decide +kernel
theorem d_Run_doOther_69 : decode b_Run_doOther 69 = .ok (.aload_n 0, 1) := by decide +kernel
theorem d_Run_doOther_70 : decode b_Run_doOther 70 = .ok (.getfield 39, 3) := by decide +kernel
theorem d_Run_doOther_73 : decode b_Run_doOther 73 = .ok (.getfield 131, 3) := by decide +kernel
theorem d_Run_doOther_76 : decode b_Run_doOther 76 = .ok (.aload_n 0, 1) := by decide +kernel
theorem d_Run_doOther_77 : decode b_Run_doOther 77 = .ok (.getfield 20, 3) := by decide +kernel
theorem d_Run_doOther_80 : decode b_Run_doOther 80 = .ok (.getfield 101, 3) := by decide +kernel
theorem d_Run_doOther_83 : decode b_Run_doOther 83 = .ok (.invokevirtual 134, 3) := by decide +kernel
theorem d_Run_doOther_86 : decode b_Run_doOther 86 = .ok (.goto 80, 3) := by decide +kernel
theorem d_Run_doOther_89 : decode b_Run_doOther 89 = .ok (.aload_n 0, 1) := by decide +kernel
theorem d_Run_doOther_90 : decode b_Run_doOther 90 = .ok (.aload_n 0, 1) := by decide +kernel
theorem d_Run_doOther_91 : decode b_Run_doOther 91 = .ok (.getfield 39, 3) := by decide +kernel
theorem d_Run_doOther_94 : decode b_Run_doOther 94 = .ok (.getfield 131, 3) := by decide +kernel
theorem d_Run_doOther_97 : decode b_Run_doOther 97 = .ok (.invokevirtual 144, 3) := by decide +kernel
theorem d_Run_doOther_100 : decode b_Run_doOther 100 = .ok (.invokevirtual 160, 3) := by decide +kernel
theorem d_Run_doOther_103 : decode b_Run_doOther 103 = .ok (.goto 63, 3) := by decide +kernel
theorem d_Run_doOther_106 : decode b_Run_doOther 106 = .ok (.aload_n 0, 1) := by decide +kernel
theorem d_Run_doOther_107 : decode b_Run_doOther 107 = .ok (.aload_n 0, 1) := by decide +kernel
theorem d_Run_doOther_108 : decode b_Run_doOther 108 = .ok (.getfield 39, 3) := by decide +kernel
theorem d_Run_doOther_111 : decode b_Run_doOther 111 = .ok (.getfield 131, 3) := by decide +kernel
theorem d_Run_doOther_114 : decode b_Run_doOther 114 = .ok (.invokevirtual 144, 3) := by decide +kernel
theorem d_Run_doOther_117 : decode b_Run_doOther 117 = .ok (.invokevirtual 163, 3) := by decide +kernel
theorem d_Run_doOther_120 : decode b_Run_doOther 120 = .ok (.goto 46, 3) := by decide +kernel
theorem d_Run_doOther_123 : decode b_Run_doOther 123 = .ok (.aload_n 0, 1) := by decide +kernel
theorem d_Run_doOther_124 : decode b_Run_doOther 124 = .ok (.iconst 0, 1) := by decide +kernel
theorem d_Run_doOther_125 : decode b_Run_doOther 125 = .ok (.invokevirtual 163, 3) := by decide +kernel
theorem d_Run_doOther_128 : decode b_Run_doOther 128 = .ok (.goto 38, 3) := by decide +kernel
theorem d_Run_doOther_131 : decode b_Run_doOther 131 = .ok (.aload_n 0, 1) := by decide +kernel
theorem d_Run_doOther_132 : decode b_Run_doOther 132 = .ok (.iload_n 1, 1) := by decide +kernel
theorem d_Run_doOther_133 : decode b_Run_doOther 133 = .ok (.invokevirtual 166, 3) := by decide +kernel
theorem d_Run_doOther_136 : decode b_Run_doOther 136 = .ok (.goto 30, 3) := by decide +kernel
theorem d_Run_doOther_139 : decode b_Run_doOther 139 = .ok (.aload_n 0, 1) := by decide +kernel
theorem d_Run_doOther_140 : decode b_Run_doOther 140 = .ok (.aload_n 0, 1) := by decide +kernel
theorem d_Run_doOther_141 : decode b_Run_doOther 141 = .ok (.getfield 9, 3) := by decide +kernel
theorem d_Run_doOther_144 : decode b_Run_doOther 144 = .ok (.iload_n 2, 1) := by decide +kernel
theorem d_Run_doOther_145 : decode b_Run_doOther 145 = .ok (.bipush 8, 2) := by decide +kernel
theorem d_Run_doOther_147 : decode b_Run_doOther 147 = .ok (.irem, 1) := by decide +kernel
theorem d_Run_doOther_148 : decode b_Run_doOther 148 = .ok (.invokevirtual 169, 3) := by decide +kernel
theorem d_Run_doOther_151 : decode b_Run_doOther 151 = .ok (.iload_n 2, 1) := by decide +kernel
theorem d_Run_doOther_152 : decode b_Run_doOther 152 = .ok (.bipush 8, 2) := by decide +kernel
theorem d_Run_doOther_154 : decode b_Run_doOther 154 = .ok (.idiv, 1) := by decide +kernel
theorem d_Run_doOther_155 : decode b_Run_doOther 155 = .ok (.invokevirtual 173, 3) := by decide +kernel
theorem d_Run_doOther_158 : decode b_Run_doOther 158 = .ok (.goto 8, 3) := by decide +kernel
theorem d_Run_doOther_161 : decode b_Run_doOther 161 = .ok (.aload_n 0, 1) := by decide +kernel
theorem d_Run_doOther_162 : decode b_Run_doOther 162 = .ok (.iconst 1, 1) := by decide +kernel
theorem d_Run_doOther_163 : decode b_Run_doOther 163 = .ok (.invokevirtual 104, 3) := by decide +kernel
theorem d_Run_doOther_166 : decode b_Run_doOther 166 = .ok (.return_, 1) := by decide +kernel
theorem d_Run_readInput_0 : decode b_Run_readInput 0 = .ok (.aload_n 0, 1) := by decide +kernel
theorem d_Run_readInput_1 : decode b_Run_readInput 1 = .ok (.getfield 20, 3) := by decide +kernel
theorem d_Run_readInput_4 : decode b_Run_readInput 4 = .ok (.iload_n 1, 1) := by decide +kernel
theorem d_Run_readInput_5 : decode b_Run_readInput 5 = .ok (.invokevirtual 176, 3) := by decide +kernel
theorem d_Run_readInput_8 : decode b_Run_readInput 8 = .ok (.ifCond .eq 25, 3) := by decide +kernel
theorem d_Run_readInput_11 : decode b_Run_readInput 11 = .ok (.aload_n 0, 1) := by decide +kernel
theorem d_Run_readInput_12 : decode b_Run_readInput 12 = .ok (.getfield 39, 3) := by decide +kernel
theorem d_Run_readInput_15 : decode b_Run_readInput 15 = .ok (.getfield 131, 3) := by decide +kernel
theorem d_Run_readInput_18 : decode b_Run_readInput 18 = .ok (.aload_n 0, 1) := by decide +kernel
theorem d_Run_readInput_19 : decode b_Run_readInput 19 = .ok (.getfield 20, 3) := by decide +kernel
theorem d_Run_readInput_22 : decode b_Run_readInput 22 = .ok (.iload_n 1, 1) := by decide +kernel
theorem d_Run_readInput_23 : decode b_Run_readInput 23 = .ok (.iconst 0, 1) := by decide +kernel
theorem d_Run_readInput_24 : decode b_Run_readInput 24 = .ok (.invokevirtual 140, 3) := by decide +kernel
theorem d_Run_readInput_27 : decode b_Run_readInput 27 = .ok (.invokevirtual 134, 3) := by decide +kernel
theorem d_Run_readInput_30 : decode b_Run_readInput 30 = .ok (.goto 8, 3) := by decide +kernel
theorem d_Run_readInput_33 : decode b_Run_readInput 33 = .ok (.aload_n 0, 1) := by decide +kernel
theorem d_Run_readInput_34 : decode b_Run_readInput 34 = .ok (.iconst 2, 1) := by decide +kernel
theorem d_Run_readInput_35 : decode b_Run_readInput 35 = .ok (.invokevirtual 104, 3) := by decide +kernel
theorem d_Run_readInput_38 : decode b_Run_readInput 38 = .ok (.return_, 1) := by decide +kernel
theorem d_Run_putOut_0 : decode b_Run_putOut 0 = .ok (.aload_n 0, 1) := by decide +kernel
theorem d_Run_putOut_1 : decode b_Run_putOut 1 = .ok (.getfield 24, 3) := by decide +kernel
theorem d_Run_putOut_4 : decode b_Run_putOut 4 = .ok (.getfield 101, 3) := by decide +kernel
theorem d_Run_putOut_7 : decode b_Run_putOut 7 = .ok (.bipush 64, 2) := by decide +kernel
theorem d_Run_putOut_9 : decode b_Run_putOut 9 = .ok (.if_icmp .ge 18, 3) := by decide +kernel
theorem d_Run_putOut_12 : decode b_Run_putOut 12 = .ok (.aload_n 0, 1) := by decide +kernel
theorem d_Run_putOut_13 : decode b_Run_putOut 13 = .ok (.getfield 24, 3) := by decide +kernel
theorem d_Run_putOut_16 : decode b_Run_putOut 16 = .ok (.iload_n 1, 1) := by decide +kernel
theorem d_Run_putOut_17 : decode b_Run_putOut 17 = .ok (.sipush 255, 3) := by decide +kernel
theorem d_Run_putOut_20 : decode b_Run_putOut 20 = .ok (.iand, 1) := by decide +kernel
theorem d_Run_putOut_21 : decode b_Run_putOut 21 = .ok (.invokevirtual 134, 3) := by decide +kernel
theorem d_Run_putOut_24 : decode b_Run_putOut 24 = .ok (.goto 8, 3) := by decide +kernel
theorem d_Run_putOut_27 : decode b_Run_putOut 27 = .ok (.aload_n 0, 1) := by decide +kernel
theorem d_Run_putOut_28 : decode b_Run_putOut 28 = .ok (.iconst 3, 1) := by decide +kernel
theorem d_Run_putOut_29 : decode b_Run_putOut 29 = .ok (.invokevirtual 104, 3) := by decide +kernel
theorem d_Run_putOut_32 : decode b_Run_putOut 32 = .ok (.return_, 1) := by decide +kernel
theorem d_Run_divide_0 : decode b_Run_divide 0 = .ok (.aload_n 0, 1) := by decide +kernel
theorem d_Run_divide_1 : decode b_Run_divide 1 = .ok (.getfield 39, 3) := by decide +kernel
theorem d_Run_divide_4 : decode b_Run_divide 4 = .ok (.getfield 131, 3) := by decide +kernel
theorem d_Run_divide_7 : decode b_Run_divide 7 = .ok (.invokevirtual 144, 3) := by decide +kernel
theorem d_Run_divide_10 : decode b_Run_divide 10 = .ok (.istore_n 2, 1) := by decide +kernel
theorem d_Run_divide_11 : decode b_Run_divide 11 = .ok (.aload_n 0, 1) := by decide +kernel
theorem d_Run_divide_12 : decode b_Run_divide 12 = .ok (.getfield 39, 3) := by decide +kernel
theorem d_Run_divide_15 : decode b_Run_divide 15 = .ok (.getfield 131, 3) := by decide +kernel
theorem d_Run_divide_18 : decode b_Run_divide 18 = .ok (.invokevirtual 144, 3) := by decide +kernel
theorem d_Run_divide_21 : decode b_Run_divide 21 = .ok (.istore_n 3, 1) := by decide +kernel
theorem d_Run_divide_22 : decode b_Run_divide 22 = .ok (.iload_n 2, 1) := by decide +kernel
theorem d_Run_divide_23 : decode b_Run_divide 23 = .ok (.ifCond .ne 11, 3) := by decide +kernel
theorem d_Run_divide_26 : decode b_Run_divide 26 = .ok (.aload_n 0, 1) := by decide +kernel
theorem d_Run_divide_27 : decode b_Run_divide 27 = .ok (.iconst 1, 1) := by decide +kernel
theorem d_Run_divide_28 : decode b_Run_divide 28 = .ok (.invokevirtual 104, 3) := by decide +kernel
theorem d_Run_divide_31 : decode b_Run_divide 31 = .ok (.goto 28, 3) := by decide +kernel
theorem d_Run_divide_34 : decode b_Run_divide 34 = .ok (.aload_n 0, 1) := by decide +kernel
theorem d_Run_divide_35 : decode b_Run_divide 35 = .ok (.getfield 39, 3) := by decide +kernel
theorem d_Run_divide_38 : decode b_Run_divide 38 = .ok (.getfield 131, 3) := by decide +kernel
theorem d_Run_divide_41 : decode b_Run_divide 41 = .ok (.iload_n 1, 1) := by decide +kernel
theorem d_Run_divide_42 : decode b_Run_divide 42 = .ok (.bipush 25, 2) := by decide +kernel
theorem d_Run_divide_44 : decode b_Run_divide 44 = .ok (.if_icmp .ne 9, 3) := by decide +kernel
theorem d_Run_divide_47 : decode b_Run_divide 47 = .ok (.iload_n 3, 1) := by decide +kernel
theorem d_Run_divide_48 : decode b_Run_divide 48 = .ok (.iload_n 2, 1) := by decide +kernel
theorem d_Run_divide_49 : decode b_Run_divide 49 = .ok (.idiv, 1) := by decide +kernel
theorem d_Run_divide_50 : decode b_Run_divide 50 = .ok (.goto 6, 3) := by decide +kernel
theorem d_Run_divide_53 : decode b_Run_divide 53 = .ok (.iload_n 3, 1) := by decide +kernel
theorem d_Run_divide_54 : decode b_Run_divide 54 = .ok (.iload_n 2, 1) := by decide +kernel
theorem d_Run_divide_55 : decode b_Run_divide 55 = .ok (.irem, 1) := by decide +kernel
theorem d_Run_divide_56 : decode b_Run_divide 56 = .ok (.invokevirtual 134, 3) := by decide +kernel
theorem d_Run_divide_59 : decode b_Run_divide 59 = .ok (.return_, 1) := by decide +kernel
theorem d_Run_callCode_0 : decode b_Run_callCode 0 = .ok (.aload_n 0, 1) := by decide +kernel
theorem d_Run_callCode_1 : decode b_Run_callCode 1 = .ok (.getfield 39, 3) := by decide +kernel
theorem d_Run_callCode_4 : decode b_Run_callCode 4 = .ok (.getfield 42, 3) := by decide +kernel
theorem d_Run_callCode_7 : decode b_Run_callCode 7 = .ok (.astore_n 3, 1) := by decide +kernel
theorem d_Run_callCode_8 : decode b_Run_callCode 8 = .ok (.aload_n 1, 1) := by decide +kernel
theorem d_Run_callCode_9 : decode b_Run_callCode 9 = .ok (.ifnonnull 11, 3) := by decide +kernel
theorem d_Run_callCode_12 : decode b_Run_callCode 12 = .ok (.aload_n 0, 1) := by decide +kernel
theorem d_Run_callCode_13 : decode b_Run_callCode 13 = .ok (.iconst 4, 1) := by decide +kernel
theorem d_Run_callCode_14 : decode b_Run_callCode 14 = .ok (.invokevirtual 104, 3) := by decide +kernel
theorem d_Run_callCode_17 : decode b_Run_callCode 17 = .ok (.goto 26, 3) := by decide +kernel
theorem d_Run_callCode_20 : decode b_Run_callCode 20 = .ok (.aload_n 3, 1) := by decide +kernel
theorem d_Run_callCode_21 : decode b_Run_callCode 21 = .ok (.ifnonnull 11, 3) := by decide +kernel
theorem d_Run_callCode_24 : decode b_Run_callCode 24 = .ok (.aload_n 0, 1) := by decide +kernel
theorem d_Run_callCode_25 : decode b_Run_callCode 25 = .ok (.iconst 5, 1) := by decide +kernel
theorem d_Run_callCode_26 : decode b_Run_callCode 26 = .ok (.invokevirtual 104, 3) := by decide +kernel
theorem d_Run_callCode_29 : decode b_Run_callCode 29 = .ok (.goto 14, 3) := by decide +kernel
theorem d_Run_callCode_32 : decode b_Run_callCode 32 = .ok (.aload_n 3, 1) := by decide +kernel
theorem d_Run_callCode_33 : decode b_Run_callCode 33 = .ok (.aload_n 1, 1) := by decide +kernel
theorem d_Run_callCode_34 : decode b_Run_callCode 34 = .ok (.iload_n 2, 1) := by decide +kernel
theorem d_Run_callCode_35 : decode b_Run_callCode 35 = .ok (.invokevirtual 72, 3) := by decide +kernel
theorem d_Run_callCode_38 : decode b_Run_callCode 38 = .ok (.aload_n 0, 1) := by decide +kernel
theorem d_Run_callCode_39 : decode b_Run_callCode 39 = .ok (.aload_n 3, 1) := by decide +kernel
theorem d_Run_callCode_40 : decode b_Run_callCode 40 = .ok (.putfield 39, 3) := by decide +kernel
theorem d_Run_callCode_43 : decode b_Run_callCode 43 = .ok (.return_, 1) := by decide +kernel
theorem d_Run_finish_0 : decode b_Run_finish 0 = .ok (.aload_n 0, 1) := by decide +kernel
theorem d_Run_finish_1 : decode b_Run_finish 1 = .ok (.getfield 39, 3) := by decide +kernel
theorem d_Run_finish_4 : decode b_Run_finish 4 = .ok (.getfield 179, 3) := by decide +kernel
theorem d_Run_finish_7 : decode b_Run_finish 7 = .ok (.astore_n 2, 1) := by decide +kernel
theorem d_Run_finish_8 : decode b_Run_finish 8 = .ok (.aload_n 2, 1) := by decide +kernel
theorem d_Run_finish_9 : decode b_Run_finish 9 = .ok (.ifnonnull 16, 3) := by decide +kernel
theorem d_Run_finish_12 : decode b_Run_finish 12 = .ok (.aload_n 0, 1) := by decide +kernel
theorem d_Run_finish_13 : decode b_Run_finish 13 = .ok (.iconst 0, 1) := by decide +kernel
theorem d_Run_finish_14 : decode b_Run_finish 14 = .ok (.putfield 49, 3) := by decide +kernel
theorem d_Run_finish_17 : decode b_Run_finish 17 = .ok (.aload_n 0, 1) := by decide +kernel
theorem d_Run_finish_18 : decode b_Run_finish 18 = .ok (.iload_n 1, 1) := by decide +kernel
theorem d_Run_finish_19 : decode b_Run_finish 19 = .ok (.putfield 76, 3) := by decide +kernel
theorem d_Run_finish_22 : decode b_Run_finish 22 = .ok (.goto 16, 3) := by decide +kernel
theorem d_Run_finish_25 : decode b_Run_finish 25 = .ok (.aload_n 2, 1) := by decide +kernel
theorem d_Run_finish_26 : decode b_Run_finish 26 = .ok (.getfield 131, 3) := by decide +kernel
theorem d_Run_finish_29 : decode b_Run_finish 29 = .ok (.iload_n 1, 1) := by decide +kernel
theorem d_Run_finish_30 : decode b_Run_finish 30 = .ok (.invokevirtual 134, 3) := by decide +kernel
theorem d_Run_finish_33 : decode b_Run_finish 33 = .ok (.aload_n 0, 1) := by decide +kernel
theorem d_Run_finish_34 : decode b_Run_finish 34 = .ok (.aload_n 2, 1) := by decide +kernel
theorem d_Run_finish_35 : decode b_Run_finish 35 = .ok (.putfield 39, 3) := by decide +kernel
theorem d_Run_finish_38 : decode b_Run_finish 38 = .ok (.return_, 1) := by decide +kernel
theorem d_Survey_init_0 : decode b_Survey_init 0 = .ok (.aload_n 0, 1) := by decide +kernel
theorem d_Survey_init_1 : decode b_Survey_init 1 = .ok (.invokespecial 3, 3) := by decide +kernel
theorem d_Survey_init_4 : decode b_Survey_init 4 = .ok (.aload_n 0, 1) := by decide +kernel
theorem d_Survey_init_5 : decode b_Survey_init 5 = .ok (.new 9, 3) := by decide +kernel
theorem d_Survey_init_8 : decode b_Survey_init 8 = .ok (.dup, 1) := by decide +kernel
theorem d_Survey_init_9 : decode b_Survey_init 9 = .ok (.sipush 256, 3) := by decide +kernel
theorem d_Survey_init_12 : decode b_Survey_init 12 = .ok (.invokespecial 11, 3) := by decide +kernel
theorem d_Survey_init_15 : decode b_Survey_init 15 = .ok (.putfield 14, 3) := by decide +kernel
theorem d_Survey_init_18 : decode b_Survey_init 18 = .ok (.aload_n 0, 1) := by decide +kernel
theorem d_Survey_init_19 : decode b_Survey_init 19 = .ok (.new 9, 3) := by decide +kernel
theorem d_Survey_init_22 : decode b_Survey_init 22 = .ok (.dup, 1) := by decide +kernel
theorem d_Survey_init_23 : decode b_Survey_init 23 = .ok (.sipush 256, 3) := by decide +kernel
theorem d_Survey_init_26 : decode b_Survey_init 26 = .ok (.invokespecial 11, 3) := by decide +kernel
theorem d_Survey_init_29 : decode b_Survey_init 29 = .ok (.putfield 20, 3) := by decide +kernel
theorem d_Survey_init_32 : decode b_Survey_init 32 = .ok (.aload_n 0, 1) := by decide +kernel
theorem d_Survey_init_33 : decode b_Survey_init 33 = .ok (.new 9, 3) := by decide +kernel
theorem d_Survey_init_36 : decode b_Survey_init 36 = .ok (.dup, 1) := by decide +kernel
theorem d_Survey_init_37 : decode b_Survey_init 37 = .ok (.sipush 256, 3) := by decide +kernel
theorem d_Survey_init_40 : decode b_Survey_init 40 = .ok (.invokespecial 11, 3) := by decide +kernel
theorem d_Survey_init_43 : decode b_Survey_init 43 = .ok (.putfield 23, 3) := by decide +kernel
theorem d_Survey_init_46 : decode b_Survey_init 46 = .ok (.return_, 1) := by decide +kernel
theorem d_Survey_lookOver_0 : decode b_Survey_lookOver 0 = .ok (.aload_n 1, 1) := by decide +kernel
theorem d_Survey_lookOver_1 : decode b_Survey_lookOver 1 = .ok (.getfield 26, 3) := by decide +kernel
theorem d_Survey_lookOver_4 : decode b_Survey_lookOver 4 = .ok (.iconst 4, 1) := by decide +kernel
theorem d_Survey_lookOver_5 : decode b_Survey_lookOver 5 = .ok (.if_icmp .lt 13, 3) := by decide +kernel
theorem d_Survey_lookOver_8 : decode b_Survey_lookOver 8 = .ok (.aload_n 1, 1) := by decide +kernel
theorem d_Survey_lookOver_9 : decode b_Survey_lookOver 9 = .ok (.getfield 26, 3) := by decide +kernel
theorem d_Survey_lookOver_12 : decode b_Survey_lookOver 12 = .ok (.sipush 256, 3) := by decide +kernel
theorem d_Survey_lookOver_15 : decode b_Survey_lookOver 15 = .ok (.if_icmp .le 12, 3) := by decide +kernel
theorem d_Survey_lookOver_18 : decode b_Survey_lookOver 18 = .ok (.iconst 1, 1) := by decide +kernel
theorem d_Survey_lookOver_19 : decode b_Survey_lookOver 19 = .ok (.aload_n 1, 1) := by decide +kernel
theorem d_Survey_lookOver_20 : decode b_Survey_lookOver 20 = .ok (.getfield 26, 3) := by decide +kernel
theorem d_Survey_lookOver_23 : decode b_Survey_lookOver 23 = .ok (.invokestatic 30, 3) := by decide +kernel
theorem d_Survey_lookOver_26 : decode b_Survey_lookOver 26 = .ok (.ireturn, 1) := by decide +kernel
theorem d_Survey_lookOver_27 : decode b_Survey_lookOver 27 = .ok (.aload_n 0, 1) := by decide +kernel
theorem d_Survey_lookOver_28 : decode b_Survey_lookOver 28 = .ok (.aload_n 1, 1) := by decide +kernel
theorem d_Survey_lookOver_29 : decode b_Survey_lookOver 29 = .ok (.getfield 26, 3) := by decide +kernel
theorem d_Survey_lookOver_32 : decode b_Survey_lookOver 32 = .ok (.invokevirtual 34, 3) := by decide +kernel
theorem d_Survey_lookOver_35 : decode b_Survey_lookOver 35 = .ok (.aload_n 0, 1) := by decide +kernel
theorem d_Survey_lookOver_36 : decode b_Survey_lookOver 36 = .ok (.aload_n 1, 1) := by decide +kernel
theorem d_Survey_lookOver_37 : decode b_Survey_lookOver 37 = .ok (.invokevirtual 37, 3) := by decide +kernel
theorem d_Survey_lookOver_40 : decode b_Survey_lookOver 40 = .ok (.istore_n 2, 1) := by decide +kernel
theorem d_Survey_lookOver_41 : decode b_Survey_lookOver 41 = .ok (.iload_n 2, 1) := by decide +kernel
theorem d_Survey_lookOver_42 : decode b_Survey_lookOver 42 = .ok (.ifCond .ne 9, 3) := by decide +kernel
theorem d_Survey_lookOver_45 : decode b_Survey_lookOver 45 = .ok (.aload_n 0, 1) := by decide +kernel
theorem d_Survey_lookOver_46 : decode b_Survey_lookOver 46 = .ok (.aload_n 1, 1) := by decide +kernel
theorem d_Survey_lookOver_47 : decode b_Survey_lookOver 47 = .ok (.invokevirtual 41, 3) := by decide +kernel
theorem d_Survey_lookOver_50 : decode b_Survey_lookOver 50 = .ok (.istore_n 2, 1) := by decide +kernel
theorem d_Survey_lookOver_51 : decode b_Survey_lookOver 51 = .ok (.iload_n 2, 1) := by decide +kernel
theorem d_Survey_lookOver_52 : decode b_Survey_lookOver 52 = .ok (.ifCond .ne 9, 3) := by decide +kernel
theorem d_Survey_lookOver_55 : decode b_Survey_lookOver 55 = .ok (.aload_n 0, 1) := by decide +kernel
theorem d_Survey_lookOver_56 : decode b_Survey_lookOver 56 = .ok (.aload_n 1, 1) := by decide +kernel
theorem d_Survey_lookOver_57 : decode b_Survey_lookOver 57 = .ok (.invokevirtual 44, 3) := by decide +kernel
theorem d_Survey_lookOver_60 : decode b_Survey_lookOver 60 = .ok (.istore_n 2, 1) := by decide +kernel
theorem d_Survey_lookOver_61 : decode b_Survey_lookOver 61 = .ok (.iload_n 2, 1) := by decide +kernel
theorem d_Survey_lookOver_62 : decode b_Survey_lookOver 62 = .ok (.ireturn, 1) := by decide +kernel
theorem d_Survey_fault_0 : decode b_Survey_fault 0 = .ok (.sipush (-1000), 3) := by decide +kernel
theorem d_Survey_fault_3 : decode b_Survey_fault 3 = .ok (.iload_n 0, 1) := by decide +kernel
theorem d_Survey_fault_4 : decode b_Survey_fault 4 = .ok (.imul, 1) := by decide +kernel
theorem d_Survey_fault_5 : decode b_Survey_fault 5 = .ok (.iload_n 1, 1) := by decide +kernel
theorem d_Survey_fault_6 : decode b_Survey_fault 6 = .ok (.isub, 1) := by decide +kernel
theorem d_Survey_fault_7 : decode b_Survey_fault 7 = .ok (.ireturn, 1) := by decide +kernel
theorem d_Survey_clear_0 : decode b_Survey_clear 0 = .ok (.aload_n 0, 1) := by decide +kernel
theorem d_Survey_clear_1 : decode b_Survey_clear 1 = .ok (.getfield 14, 3) := by decide +kernel
theorem d_Survey_clear_4 : decode b_Survey_clear 4 = .ok (.iload_n 1, 1) := by decide +kernel
theorem d_Survey_clear_5 : decode b_Survey_clear 5 = .ok (.iconst 0, 1) := by decide +kernel
theorem d_Survey_clear_6 : decode b_Survey_clear 6 = .ok (.invokevirtual 47, 3) := by decide +kernel
theorem d_Survey_clear_9 : decode b_Survey_clear 9 = .ok (.aload_n 0, 1) := by decide +kernel
theorem d_Survey_clear_10 : decode b_Survey_clear 10 = .ok (.getfield 20, 3) := by decide +kernel
theorem d_Survey_clear_13 : decode b_Survey_clear 13 = .ok (.iload_n 1, 1) := by decide +kernel
theorem d_Survey_clear_14 : decode b_Survey_clear 14 = .ok (.iconst (-1), 1) := by decide +kernel
theorem d_Survey_clear_15 : decode b_Survey_clear 15 = .ok (.invokevirtual 47, 3) := by decide +kernel
theorem d_Survey_clear_18 : decode b_Survey_clear 18 = .ok (.aload_n 0, 1) := by decide +kernel
theorem d_Survey_clear_19 : decode b_Survey_clear 19 = .ok (.getfield 23, 3) := by decide +kernel
theorem d_Survey_clear_22 : decode b_Survey_clear 22 = .ok (.iload_n 1, 1) := by decide +kernel
theorem d_Survey_clear_23 : decode b_Survey_clear 23 = .ok (.iconst 0, 1) := by decide +kernel
theorem d_Survey_clear_24 : decode b_Survey_clear 24 = .ok (.invokevirtual 47, 3) := by decide +kernel
theorem d_Survey_clear_27 : decode b_Survey_clear 27 = .ok (.aload_n 0, 1) := by decide +kernel
theorem d_Survey_clear_28 : decode b_Survey_clear 28 = .ok (.iconst 0, 1) := by decide +kernel
theorem d_Survey_clear_29 : decode b_Survey_clear 29 = .ok (.putfield 51, 3) := by decide +kernel
theorem d_Survey_clear_32 : decode b_Survey_clear 32 = .ok (.aload_n 0, 1) := by decide +kernel
theorem d_Survey_clear_33 : decode b_Survey_clear 33 = .ok (.iconst 3, 1) := by decide +kernel
theorem d_Survey_clear_34 : decode b_Survey_clear 34 = .ok (.putfield 54, 3) := by decide +kernel
theorem d_Survey_clear_37 : decode b_Survey_clear 37 = .ok (.aload_n 0, 1) := by decide +kernel
theorem d_Survey_clear_38 : decode b_Survey_clear 38 = .ok (.iload_n 1, 1) := by decide +kernel
theorem d_Survey_clear_39 : decode b_Survey_clear 39 = .ok (.putfield 57, 3) := by decide +kernel
theorem d_Survey_clear_42 : decode b_Survey_clear 42 = .ok (.return_, 1) := by decide +kernel
theorem d_Survey_readInstructions_0 : decode b_Survey_readInstructions 0 = .ok (.iconst 3, 1) := by decide +kernel
theorem d_Survey_readInstructions_1 : decode b_Survey_readInstructions 1 = .ok (.istore_n 2, 1) := by decide +kernel
theorem d_Survey_readInstructions_2 : decode b_Survey_readInstructions 2 = .ok (.iload_n 2, 1) := by decide +kernel
theorem d_Survey_readInstructions_3 : decode b_Survey_readInstructions 3 = .ok (.aload_n 1, 1) := by decide +kernel
theorem d_Survey_readInstructions_4 : decode b_Survey_readInstructions 4 = .ok (.getfield 26, 3) := by decide +kernel
theorem d_Survey_readInstructions_7 : decode b_Survey_readInstructions 7 = .ok (.if_icmp .ge 60, 3) := by decide +kernel
theorem d_Survey_readInstructions_10 : decode b_Survey_readInstructions 10 = .ok (.aload_n 1, 1) := by decide +kernel
theorem d_Survey_readInstructions_11 : decode b_Survey_readInstructions 11 = .ok (.iload_n 2, 1) := by decide +kernel
theorem d_Survey_readInstructions_12 : decode b_Survey_readInstructions 12 = .ok (.invokestatic 60, 3) := by decide +kernel
theorem d_Survey_readInstructions_15 : decode b_Survey_readInstructions 15 = .ok (.istore_n 3, 1) := by decide +kernel
theorem d_Survey_readInstructions_16 : decode b_Survey_readInstructions 16 = .ok (.iload_n 3, 1) := by decide +kernel
theorem d_Survey_readInstructions_17 : decode b_Survey_readInstructions 17 = .ok (.ifCond .eq 5, 3) := by decide +kernel
theorem d_Survey_readInstructions_20 : decode b_Survey_readInstructions 20 = .ok (.iload_n 3, 1) := by decide +kernel
theorem d_Survey_readInstructions_21 : decode b_Survey_readInstructions 21 = .ok (.ireturn, 1) := by decide +kernel
theorem d_Survey_readInstructions_22 : decode b_Survey_readInstructions 22 = .ok (.aload_n 0, 1) := by decide +kernel
theorem d_Survey_readInstructions_23 : decode b_Survey_readInstructions 23 = .ok (.getfield 14, 3) := by decide +kernel
theorem d_Survey_readInstructions_26 : decode b_Survey_readInstructions 26 = .ok (.iload_n 2, 1) := by decide +kernel
theorem d_Survey_readInstructions_27 : decode b_Survey_readInstructions 27 = .ok (.iconst 1, 1) := by decide +kernel
theorem d_Survey_readInstructions_28 : decode b_Survey_readInstructions 28 = .ok (.invokevirtual 64, 3) := by decide +kernel
theorem d_Survey_readInstructions_31 : decode b_Survey_readInstructions 31 = .ok (.aload_n 0, 1) := by decide +kernel
theorem d_Survey_readInstructions_32 : decode b_Survey_readInstructions 32 = .ok (.dup, 1) := by decide +kernel
theorem d_Survey_readInstructions_33 : decode b_Survey_readInstructions 33 = .ok (.getfield 51, 3) := by decide +kernel
theorem d_Survey_readInstructions_36 : decode b_Survey_readInstructions 36 = .ok (.iconst 1, 1) := by decide +kernel
theorem d_Survey_readInstructions_37 : decode b_Survey_readInstructions 37 = .ok (.iadd, 1) := by decide +kernel
theorem d_Survey_readInstructions_38 : decode b_Survey_readInstructions 38 = .ok (.putfield 51, 3) := by decide +kernel
theorem d_Survey_readInstructions_41 : decode b_Survey_readInstructions 41 = .ok (.aload_n 0, 1) := by decide +kernel
theorem d_Survey_readInstructions_42 : decode b_Survey_readInstructions 42 = .ok (.iload_n 2, 1) := by decide +kernel
theorem d_Survey_readInstructions_43 : decode b_Survey_readInstructions 43 = .ok (.putfield 54, 3) := by decide +kernel
theorem d_Survey_readInstructions_46 : decode b_Survey_readInstructions 46 = .ok (.aload_n 1, 1) := by decide +kernel
theorem d_Survey_readInstructions_47 : decode b_Survey_readInstructions 47 = .ok (.iload_n 2, 1) := by decide +kernel
theorem d_Survey_readInstructions_48 : decode b_Survey_readInstructions 48 = .ok (.iconst (-1), 1) := by decide +kernel
theorem d_Survey_readInstructions_49 : decode b_Survey_readInstructions 49 = .ok (.invokevirtual 67, 3) := by decide +kernel
theorem d_Survey_readInstructions_52 : decode b_Survey_readInstructions 52 = .ok (.invokestatic 70, 3) := by decide +kernel
theorem d_Survey_readInstructions_55 : decode b_Survey_readInstructions 55 = .ok (.ifCond .eq 6, 3) := by decide +kernel
theorem d_Survey_readInstructions_58 : decode b_Survey_readInstructions 58 = .ok (.iinc 2 1, 3) := by decide +kernel
theorem d_Survey_readInstructions_61 : decode b_Survey_readInstructions 61 = .ok (.iinc 2 1, 3) := by decide +kernel
theorem d_Survey_readInstructions_64 : decode b_Survey_readInstructions 64 = .ok (.goto (-62), 3) := by decide +kernel
theorem d_Survey_readInstructions_67 : decode b_Survey_readInstructions 67 = .ok (.aload_n 1, 1) := by decide +kernel
theorem d_Survey_readInstructions_68 : decode b_Survey_readInstructions 68 = .ok (.aload_n 0, 1) := by decide +kernel
theorem d_Survey_readInstructions_69 : decode b_Survey_readInstructions 69 = .ok (.getfield 54, 3) := by decide +kernel
theorem d_Survey_readInstructions_72 : decode b_Survey_readInstructions 72 = .ok (.iconst 0, 1) := by decide +kernel
theorem d_Survey_readInstructions_73 : decode b_Survey_readInstructions 73 = .ok (.invokevirtual 67, 3) := by decide +kernel
theorem d_Survey_readInstructions_76 : decode b_Survey_readInstructions 76 = .ok (.istore_n 2, 1) := by decide +kernel
theorem d_Survey_readInstructions_77 : decode b_Survey_readInstructions 77 = .ok (.iload_n 2, 1) := by decide +kernel
theorem d_Survey_readInstructions_78 : decode b_Survey_readInstructions 78 = .ok (.bipush 16, 2) := by decide +kernel
theorem d_Survey_readInstructions_80 : decode b_Survey_readInstructions 80 = .ok (.if_icmp .eq 10, 3) := by decide +kernel
theorem d_Survey_readInstructions_83 : decode b_Survey_readInstructions 83 = .ok (.iload_n 2, 1) := by decide +kernel
theorem d_Survey_readInstructions_84 : decode b_Survey_readInstructions 84 = .ok (.invokestatic 74, 3) := by decide +kernel
theorem d_Survey_readInstructions_87 : decode b_Survey_readInstructions 87 = .ok (.ifCond .eq 7, 3) := by decide +kernel
theorem d_Survey_readInstructions_90 : decode b_Survey_readInstructions 90 = .ok (.iconst 0, 1) := by decide +kernel
theorem d_Survey_readInstructions_91 : decode b_Survey_readInstructions 91 = .ok (.goto 11, 3) := by decide +kernel
theorem d_Survey_readInstructions_94 : decode b_Survey_readInstructions 94 = .ok (.iconst 5, 1) := by decide +kernel
theorem d_Survey_readInstructions_95 : decode b_Survey_readInstructions 95 = .ok (.aload_n 0, 1) := by decide +kernel
theorem d_Survey_readInstructions_96 : decode b_Survey_readInstructions 96 = .ok (.getfield 54, 3) := by decide +kernel
theorem d_Survey_readInstructions_99 : decode b_Survey_readInstructions 99 = .ok (.invokestatic 30, 3) := by decide +kernel
theorem d_Survey_readInstructions_102 : decode b_Survey_readInstructions 102 = .ok (.ireturn, 1) := by decide +kernel
theorem d_Survey_readingFault_0 : decode b_Survey_readingFault 0 = .ok (.aload_n 0, 1) := by decide +kernel
theorem d_Survey_readingFault_1 : decode b_Survey_readingFault 1 = .ok (.iload_n 1, 1) := by decide +kernel
theorem d_Survey_readingFault_2 : decode b_Survey_readingFault 2 = .ok (.iconst (-1), 1) := by decide +kernel
theorem d_Survey_readingFault_3 : decode b_Survey_readingFault 3 = .ok (.invokevirtual 67, 3) := by decide +kernel
theorem d_Survey_readingFault_6 : decode b_Survey_readingFault 6 = .ok (.istore_n 2, 1) := by decide +kernel
theorem d_Survey_readingFault_7 : decode b_Survey_readingFault 7 = .ok (.iload_n 2, 1) := by decide +kernel
theorem d_Survey_readingFault_8 : decode b_Survey_readingFault 8 = .ok (.invokestatic 77, 3) := by decide +kernel
theorem d_Survey_readingFault_11 : decode b_Survey_readingFault 11 = .ok (.ifCond .ne 9, 3) := by decide +kernel
theorem d_Survey_readingFault_14 : decode b_Survey_readingFault 14 = .ok (.iconst 2, 1) := by decide +kernel
theorem d_Survey_readingFault_15 : decode b_Survey_readingFault 15 = .ok (.iload_n 1, 1) := by decide +kernel
theorem d_Survey_readingFault_16 : decode b_Survey_readingFault 16 = .ok (.invokestatic 30, 3) := by decide +kernel
theorem d_Survey_readingFault_19 : decode b_Survey_readingFault 19 = .ok (.ireturn, 1) := by decide +kernel
theorem d_Survey_readingFault_20 : decode b_Survey_readingFault 20 = .ok (.iload_n 2, 1) := by decide +kernel
theorem d_Survey_readingFault_21 : decode b_Survey_readingFault 21 = .ok (.invokestatic 70, 3) := by decide +kernel
theorem d_Survey_readingFault_24 : decode b_Survey_readingFault 24 = .ok (.ifCond .ne 5, 3) := by decide +kernel
theorem d_Survey_readingFault_27 : decode b_Survey_readingFault 27 = .ok (.iconst 0, 1) := by decide +kernel
theorem d_Survey_readingFault_28 : decode b_Survey_readingFault 28 = .ok (.ireturn, 1) := by decide +kernel
theorem d_Survey_readingFault_29 : decode b_Survey_readingFault 29 = .ok (.aload_n 0, 1) := by decide +kernel
theorem d_Survey_readingFault_30 : decode b_Survey_readingFault 30 = .ok (.iload_n 1, 1) := by decide +kernel
theorem d_Survey_readingFault_31 : decode b_Survey_readingFault 31 = .ok (.iconst 1, 1) := by decide +kernel
theorem d_Survey_readingFault_32 : decode b_Survey_readingFault 32 = .ok (.iadd, 1) := by decide +kernel
theorem d_Survey_readingFault_33 : decode b_Survey_readingFault 33 = .ok (.invokevirtual 80, 3) := by decide +kernel
theorem d_Survey_readingFault_36 : decode b_Survey_readingFault 36 = .ok (.ifCond .ne 9, 3) := by decide +kernel
theorem d_Survey_readingFault_39 : decode b_Survey_readingFault 39 = .ok (.iconst 3, 1) := by decide +kernel
theorem d_Survey_readingFault_40 : decode b_Survey_readingFault 40 = .ok (.iload_n 1, 1) := by decide +kernel
theorem d_Survey_readingFault_41 : decode b_Survey_readingFault 41 = .ok (.invokestatic 30, 3) := by decide +kernel
theorem d_Survey_readingFault_44 : decode b_Survey_readingFault 44 = .ok (.ireturn, 1) := by decide +kernel
theorem d_Survey_readingFault_45 : decode b_Survey_readingFault 45 = .ok (.aload_n 0, 1) := by decide +kernel
theorem d_Survey_readingFault_46 : decode b_Survey_readingFault 46 = .ok (.iload_n 1, 1) := by decide +kernel
theorem d_Survey_readingFault_47 : decode b_Survey_readingFault 47 = .ok (.iconst 1, 1) := by decide +kernel
theorem d_Survey_readingFault_48 : decode b_Survey_readingFault 48 = .ok (.iadd, 1) := by decide +kernel
theorem d_Survey_readingFault_49 : decode b_Survey_readingFault 49 = .ok (.iconst 0, 1) := by decide +kernel
theorem d_Survey_readingFault_50 : decode b_Survey_readingFault 50 = .ok (.invokevirtual 67, 3) := by decide +kernel
theorem d_Survey_readingFault_53 : decode b_Survey_readingFault 53 = .ok (.iload_n 2, 1) := by decide +kernel
theorem d_Survey_readingFault_54 : decode b_Survey_readingFault 54 = .ok (.invokestatic 83, 3) := by decide +kernel
theorem d_Survey_readingFault_57 : decode b_Survey_readingFault 57 = .ok (.if_icmp .le 11, 3) := by decide +kernel
theorem d_Survey_readingFault_60 : decode b_Survey_readingFault 60 = .ok (.iconst 4, 1) := by decide +kernel
theorem d_Survey_readingFault_61 : decode b_Survey_readingFault 61 = .ok (.iload_n 1, 1) := by decide +kernel
theorem d_Survey_readingFault_62 : decode b_Survey_readingFault 62 = .ok (.invokestatic 30, 3) := by decide +kernel
theorem d_Survey_readingFault_65 : decode b_Survey_readingFault 65 = .ok (.goto 4, 3) := by decide +kernel
theorem d_Survey_readingFault_68 : decode b_Survey_readingFault 68 = .ok (.iconst 0, 1) := by decide +kernel
theorem d_Survey_readingFault_69 : decode b_Survey_readingFault 69 = .ok (.ireturn, 1) := by decide +kernel
theorem d_Survey_lookAtPlaces_0 : decode b_Survey_lookAtPlaces 0 = .ok (.iconst 0, 1) := by decide +kernel
theorem d_Survey_lookAtPlaces_1 : decode b_Survey_lookAtPlaces 1 = .ok (.istore_n 2, 1) := by decide +kernel
theorem d_Survey_lookAtPlaces_2 : decode b_Survey_lookAtPlaces 2 = .ok (.iload_n 2, 1) := by decide +kernel
theorem d_Survey_lookAtPlaces_3 : decode b_Survey_lookAtPlaces 3 = .ok (.aload_n 1, 1) := by decide +kernel
theorem d_Survey_lookAtPlaces_4 : decode b_Survey_lookAtPlaces 4 = .ok (.getfield 26, 3) := by decide +kernel
theorem d_Survey_lookAtPlaces_7 : decode b_Survey_lookAtPlaces 7 = .ok (.if_icmp .ge 42, 3) := by decide +kernel
theorem d_Survey_lookAtPlaces_10 : decode b_Survey_lookAtPlaces 10 = .ok (.aload_n 0, 1) := by decide +kernel
theorem d_Survey_lookAtPlaces_11 : decode b_Survey_lookAtPlaces 11 = .ok (.aload_n 1, 1) := by decide +kernel
theorem d_Survey_lookAtPlaces_12 : decode b_Survey_lookAtPlaces 12 = .ok (.iload_n 2, 1) := by decide +kernel
theorem d_Survey_lookAtPlaces_13 : decode b_Survey_lookAtPlaces 13 = .ok (.invokevirtual 87, 3) := by decide +kernel
theorem d_Survey_lookAtPlaces_16 : decode b_Survey_lookAtPlaces 16 = .ok (.ifCond .eq 27, 3) := by decide +kernel
theorem d_Survey_lookAtPlaces_19 : decode b_Survey_lookAtPlaces 19 = .ok (.aload_n 0, 1) := by decide +kernel
theorem d_Survey_lookAtPlaces_20 : decode b_Survey_lookAtPlaces 20 = .ok (.getfield 14, 3) := by decide +kernel
theorem d_Survey_lookAtPlaces_23 : decode b_Survey_lookAtPlaces 23 = .ok (.aload_n 1, 1) := by decide +kernel
theorem d_Survey_lookAtPlaces_24 : decode b_Survey_lookAtPlaces 24 = .ok (.iload_n 2, 1) := by decide +kernel
theorem d_Survey_lookAtPlaces_25 : decode b_Survey_lookAtPlaces 25 = .ok (.iconst (-1), 1) := by decide +kernel
theorem d_Survey_lookAtPlaces_26 : decode b_Survey_lookAtPlaces 26 = .ok (.invokevirtual 67, 3) := by decide +kernel
theorem d_Survey_lookAtPlaces_29 : decode b_Survey_lookAtPlaces 29 = .ok (.iconst 0, 1) := by decide +kernel
theorem d_Survey_lookAtPlaces_30 : decode b_Survey_lookAtPlaces 30 = .ok (.invokevirtual 67, 3) := by decide +kernel
theorem d_Survey_lookAtPlaces_33 : decode b_Survey_lookAtPlaces 33 = .ok (.ifCond .ne 10, 3) := by decide +kernel
theorem d_Survey_lookAtPlaces_36 : decode b_Survey_lookAtPlaces 36 = .ok (.bipush 6, 2) := by decide +kernel
theorem d_Survey_lookAtPlaces_38 : decode b_Survey_lookAtPlaces 38 = .ok (.iload_n 2, 1) := by decide +kernel
theorem d_Survey_lookAtPlaces_39 : decode b_Survey_lookAtPlaces 39 = .ok (.invokestatic 30, 3) := by decide +kernel
theorem d_Survey_lookAtPlaces_42 : decode b_Survey_lookAtPlaces 42 = .ok (.ireturn, 1) := by decide +kernel
theorem d_Survey_lookAtPlaces_43 : decode b_Survey_lookAtPlaces 43 = .ok (.iinc 2 1, 3) := by decide +kernel
theorem d_Survey_lookAtPlaces_46 : decode b_Survey_lookAtPlaces 46 = .ok (.goto (-44), 3) := by decide +kernel
theorem d_Survey_lookAtPlaces_49 : decode b_Survey_lookAtPlaces 49 = .ok (.iconst 0, 1) := by decide +kernel
theorem d_Survey_lookAtPlaces_50 : decode b_Survey_lookAtPlaces 50 = .ok (.ireturn, 1) := by decide +kernel
theorem d_Survey_tellsPlace_0 : decode b_Survey_tellsPlace 0 = .ok (.iload_n 2, 1) := by decide +kernel
theorem d_Survey_tellsPlace_1 : decode b_Survey_tellsPlace 1 = .ok (.iconst 3, 1) := by decide +kernel
theorem d_Survey_tellsPlace_2 : decode b_Survey_tellsPlace 2 = .ok (.if_icmp .lt 32, 3) := by decide +kernel
theorem d_Survey_tellsPlace_5 : decode b_Survey_tellsPlace 5 = .ok (.aload_n 0, 1) := by decide +kernel
theorem d_Survey_tellsPlace_6 : decode b_Survey_tellsPlace 6 = .ok (.getfield 14, 3) := by decide +kernel
theorem d_Survey_tellsPlace_9 : decode b_Survey_tellsPlace 9 = .ok (.iload_n 2, 1) := by decide +kernel
theorem d_Survey_tellsPlace_10 : decode b_Survey_tellsPlace 10 = .ok (.iconst 1, 1) := by decide +kernel
theorem d_Survey_tellsPlace_11 : decode b_Survey_tellsPlace 11 = .ok (.isub, 1) := by decide +kernel
theorem d_Survey_tellsPlace_12 : decode b_Survey_tellsPlace 12 = .ok (.iconst 0, 1) := by decide +kernel
theorem d_Survey_tellsPlace_13 : decode b_Survey_tellsPlace 13 = .ok (.invokevirtual 67, 3) := by decide +kernel
theorem d_Survey_tellsPlace_16 : decode b_Survey_tellsPlace 16 = .ok (.iconst 1, 1) := by decide +kernel
theorem d_Survey_tellsPlace_17 : decode b_Survey_tellsPlace 17 = .ok (.if_icmp .ne 21, 3) := by decide +kernel
theorem d_Survey_tellsPlace_20 : decode b_Survey_tellsPlace 20 = .ok (.aload_n 1, 1) := by decide +kernel
theorem d_Survey_tellsPlace_21 : decode b_Survey_tellsPlace 21 = .ok (.iload_n 2, 1) := by decide +kernel
theorem d_Survey_tellsPlace_22 : decode b_Survey_tellsPlace 22 = .ok (.iconst 1, 1) := by decide +kernel
theorem d_Survey_tellsPlace_23 : decode b_Survey_tellsPlace 23 = .ok (.isub, 1) := by decide +kernel
theorem d_Survey_tellsPlace_24 : decode b_Survey_tellsPlace 24 = .ok (.iconst (-1), 1) := by decide +kernel
theorem d_Survey_tellsPlace_25 : decode b_Survey_tellsPlace 25 = .ok (.invokevirtual 67, 3) := by decide +kernel
theorem d_Survey_tellsPlace_28 : decode b_Survey_tellsPlace 28 = .ok (.invokestatic 91, 3) := by decide +kernel
theorem d_Survey_tellsPlace_31 : decode b_Survey_tellsPlace 31 = .ok (.ifCond .eq 7, 3) := by decide +kernel
theorem d_Survey_tellsPlace_34 : decode b_Survey_tellsPlace 34 = .ok (.iconst 1, 1) := by decide +kernel
theorem d_Survey_tellsPlace_35 : decode b_Survey_tellsPlace 35 = .ok (.goto 4, 3) := by decide +kernel
theorem d_Survey_tellsPlace_38 : decode b_Survey_tellsPlace 38 = .ok (.iconst 0, 1) := by decide +kernel
theorem d_Survey_tellsPlace_39 : decode b_Survey_tellsPlace 39 = .ok (.ireturn, 1) := by decide +kernel
theorem d_Survey_goThroughAll_0 : decode b_Survey_goThroughAll 0 = .ok (.iconst 0, 1) := by decide +kernel
theorem d_Survey_goThroughAll_1 : decode b_Survey_goThroughAll 1 = .ok (.istore_n 2, 1) := by decide +kernel
theorem d_Survey_goThroughAll_2 : decode b_Survey_goThroughAll 2 = .ok (.iload_n 2, 1) := by decide +kernel
theorem d_Survey_goThroughAll_3 : decode b_Survey_goThroughAll 3 = .ok (.iconst 3, 1) := by decide +kernel
theorem d_Survey_goThroughAll_4 : decode b_Survey_goThroughAll 4 = .ok (.if_icmp .ge 21, 3) := by decide +kernel
theorem d_Survey_goThroughAll_7 : decode b_Survey_goThroughAll 7 = .ok (.aload_n 0, 1) := by decide +kernel
theorem d_Survey_goThroughAll_8 : decode b_Survey_goThroughAll 8 = .ok (.aload_n 1, 1) := by decide +kernel
theorem d_Survey_goThroughAll_9 : decode b_Survey_goThroughAll 9 = .ok (.iload_n 2, 1) := by decide +kernel
theorem d_Survey_goThroughAll_10 : decode b_Survey_goThroughAll 10 = .ok (.iconst (-1), 1) := by decide +kernel
theorem d_Survey_goThroughAll_11 : decode b_Survey_goThroughAll 11 = .ok (.invokevirtual 67, 3) := by decide +kernel
theorem d_Survey_goThroughAll_14 : decode b_Survey_goThroughAll 14 = .ok (.iconst 0, 1) := by decide +kernel
theorem d_Survey_goThroughAll_15 : decode b_Survey_goThroughAll 15 = .ok (.invokevirtual 94, 3) := by decide +kernel
theorem d_Survey_goThroughAll_18 : decode b_Survey_goThroughAll 18 = .ok (.pop, 1) := by decide +kernel
theorem d_Survey_goThroughAll_19 : decode b_Survey_goThroughAll 19 = .ok (.iinc 2 1, 3) := by decide +kernel
theorem d_Survey_goThroughAll_22 : decode b_Survey_goThroughAll 22 = .ok (.goto (-20), 3) := by decide +kernel
theorem d_Survey_goThroughAll_25 : decode b_Survey_goThroughAll 25 = .ok (.iconst 0, 1) := by decide +kernel
theorem d_Survey_goThroughAll_26 : decode b_Survey_goThroughAll 26 = .ok (.istore_n 2, 1) := by decide +kernel
theorem d_Survey_goThroughAll_27 : decode b_Survey_goThroughAll 27 = .ok (.iload_n 2, 1) := by decide +kernel
theorem d_Survey_goThroughAll_28 : decode b_Survey_goThroughAll 28 = .ok (.sipush 256, 3) := by decide +kernel
theorem d_Survey_goThroughAll_31 : decode b_Survey_goThroughAll 31 = .ok (.if_icmp .ge 37, 3) := by decide +kernel
theorem d_Survey_goThroughAll_34 : decode b_Survey_goThroughAll 34 = .ok (.aload_n 0, 1) := by decide +kernel
theorem d_Survey_goThroughAll_35 : decode b_Survey_goThroughAll 35 = .ok (.invokevirtual 97, 3) := by decide +kernel
theorem d_Survey_goThroughAll_38 : decode b_Survey_goThroughAll 38 = .ok (.istore_n 3, 1) := by decide +kernel
theorem d_Survey_goThroughAll_39 : decode b_Survey_goThroughAll 39 = .ok (.iload_n 3, 1) := by decide +kernel
theorem d_Survey_goThroughAll_40 : decode b_Survey_goThroughAll 40 = .ok (.iconst (-1), 1) := by decide +kernel
theorem d_Survey_goThroughAll_41 : decode b_Survey_goThroughAll 41 = .ok (.if_icmp .ne 5, 3) := by decide +kernel
theorem d_Survey_goThroughAll_44 : decode b_Survey_goThroughAll 44 = .ok (.iconst 0, 1) := by decide +kernel
theorem d_Survey_goThroughAll_45 : decode b_Survey_goThroughAll 45 = .ok (.ireturn, 1) := by decide +kernel
theorem d_Survey_goThroughAll_46 : decode b_Survey_goThroughAll 46 = .ok (.aload_n 0, 1) := by decide +kernel
theorem d_Survey_goThroughAll_47 : decode b_Survey_goThroughAll 47 = .ok (.aload_n 1, 1) := by decide +kernel
theorem d_Survey_goThroughAll_48 : decode b_Survey_goThroughAll 48 = .ok (.iload_n 3, 1) := by decide +kernel
theorem d_Survey_goThroughAll_49 : decode b_Survey_goThroughAll 49 = .ok (.invokevirtual 101, 3) := by decide +kernel
theorem d_Survey_goThroughAll_52 : decode b_Survey_goThroughAll 52 = .ok (.istore 4, 2) := by decide +kernel
theorem d_Survey_goThroughAll_54 : decode b_Survey_goThroughAll 54 = .ok (.iload 4, 2) := by decide +kernel
theorem d_Survey_goThroughAll_56 : decode b_Survey_goThroughAll 56 = .ok (.ifCond .eq 6, 3) := by decide +kernel
theorem d_Survey_goThroughAll_59 : decode b_Survey_goThroughAll 59 = .ok (.iload 4, 2) := by decide +kernel
theorem d_Survey_goThroughAll_61 : decode b_Survey_goThroughAll 61 = .ok (.ireturn, 1) := by decide +kernel
theorem d_Survey_goThroughAll_62 : decode b_Survey_goThroughAll 62 = .ok (.iinc 2 1, 3) := by decide +kernel
theorem d_Survey_goThroughAll_65 : decode b_Survey_goThroughAll 65 = .ok (.goto (-38), 3) := by decide +kernel
theorem d_Survey_goThroughAll_68 : decode b_Survey_goThroughAll 68 = .ok (.iconst 0, 1) := by decide +kernel
theorem d_Survey_goThroughAll_69 : decode b_Survey_goThroughAll 69 = .ok (.ireturn, 1) := by decide +kernel
theorem d_Survey_leastWaiting_0 : decode b_Survey_leastWaiting 0 = .ok (.aload_n 0, 1) := by decide +kernel
theorem d_Survey_leastWaiting_1 : decode b_Survey_leastWaiting 1 = .ok (.getfield 57, 3) := by decide +kernel
theorem d_Survey_leastWaiting_4 : decode b_Survey_leastWaiting 4 = .ok (.istore_n 1, 1) := by decide +kernel
theorem d_Survey_leastWaiting_5 : decode b_Survey_leastWaiting 5 = .ok (.iload_n 1, 1) := by decide +kernel
theorem d_Survey_leastWaiting_6 : decode b_Survey_leastWaiting 6 = .ok (.aload_n 0, 1) := by decide +kernel
theorem d_Survey_leastWaiting_7 : decode b_Survey_leastWaiting 7 = .ok (.getfield 23, 3) := by decide +kernel
theorem d_Survey_leastWaiting_10 : decode b_Survey_leastWaiting 10 = .ok (.getfield 26, 3) := by decide +kernel
theorem d_Survey_leastWaiting_13 : decode b_Survey_leastWaiting 13 = .ok (.if_icmp .ge 29, 3) := by decide +kernel
theorem d_Survey_leastWaiting_16 : decode b_Survey_leastWaiting 16 = .ok (.aload_n 0, 1) := by decide +kernel
theorem d_Survey_leastWaiting_17 : decode b_Survey_leastWaiting 17 = .ok (.getfield 23, 3) := by decide +kernel
theorem d_Survey_leastWaiting_20 : decode b_Survey_leastWaiting 20 = .ok (.iload_n 1, 1) := by decide +kernel
theorem d_Survey_leastWaiting_21 : decode b_Survey_leastWaiting 21 = .ok (.iconst 0, 1) := by decide +kernel
theorem d_Survey_leastWaiting_22 : decode b_Survey_leastWaiting 22 = .ok (.invokevirtual 67, 3) := by decide +kernel
theorem d_Survey_leastWaiting_25 : decode b_Survey_leastWaiting 25 = .ok (.iconst 1, 1) := by decide +kernel
theorem d_Survey_leastWaiting_26 : decode b_Survey_leastWaiting 26 = .ok (.if_icmp .ne 10, 3) := by decide +kernel
theorem d_Survey_leastWaiting_29 : decode b_Survey_leastWaiting 29 = .ok (.aload_n 0, 1) := by decide +kernel
theorem d_Survey_leastWaiting_30 : decode b_Survey_leastWaiting 30 = .ok (.iload_n 1, 1) := by decide +kernel
theorem d_Survey_leastWaiting_31 : decode b_Survey_leastWaiting 31 = .ok (.putfield 57, 3) := by decide +kernel
theorem d_Survey_leastWaiting_34 : decode b_Survey_leastWaiting 34 = .ok (.iload_n 1, 1) := by decide +kernel
theorem d_Survey_leastWaiting_35 : decode b_Survey_leastWaiting 35 = .ok (.ireturn, 1) := by decide +kernel
theorem d_Survey_leastWaiting_36 : decode b_Survey_leastWaiting 36 = .ok (.iinc 1 1, 3) := by decide +kernel
theorem d_Survey_leastWaiting_39 : decode b_Survey_leastWaiting 39 = .ok (.goto (-34), 3) := by decide +kernel
theorem d_Survey_leastWaiting_42 : decode b_Survey_leastWaiting 42 = .ok (.iconst (-1), 1) := by decide +kernel
theorem d_Survey_leastWaiting_43 : decode b_Survey_leastWaiting 43 = .ok (.ireturn, 1) := by decide +kernel
theorem d_Survey_goThrough_0 : decode b_Survey_goThrough 0 = .ok (.aload_n 0, 1) := by decide +kernel
theorem d_Survey_goThrough_1 : decode b_Survey_goThrough 1 = .ok (.getfield 23, 3) := by decide +kernel
theorem d_Survey_goThrough_4 : decode b_Survey_goThrough 4 = .ok (.iload_n 2, 1) := by decide +kernel
theorem d_Survey_goThrough_5 : decode b_Survey_goThrough 5 = .ok (.iconst 0, 1) := by decide +kernel
theorem d_Survey_goThrough_6 : decode b_Survey_goThrough 6 = .ok (.invokevirtual 64, 3) := by decide +kernel
theorem d_Survey_goThrough_9 : decode b_Survey_goThrough 9 = .ok (.aload_n 1, 1) := by decide +kernel
theorem d_Survey_goThrough_10 : decode b_Survey_goThrough 10 = .ok (.iload_n 2, 1) := by decide +kernel
theorem d_Survey_goThrough_11 : decode b_Survey_goThrough 11 = .ok (.iconst (-1), 1) := by decide +kernel
theorem d_Survey_goThrough_12 : decode b_Survey_goThrough 12 = .ok (.invokevirtual 67, 3) := by decide +kernel
theorem d_Survey_goThrough_15 : decode b_Survey_goThrough 15 = .ok (.istore_n 3, 1) := by decide +kernel
theorem d_Survey_goThrough_16 : decode b_Survey_goThrough 16 = .ok (.aload_n 0, 1) := by decide +kernel
theorem d_Survey_goThrough_17 : decode b_Survey_goThrough 17 = .ok (.getfield 20, 3) := by decide +kernel
theorem d_Survey_goThrough_20 : decode b_Survey_goThrough 20 = .ok (.iload_n 2, 1) := by decide +kernel
theorem d_Survey_goThrough_21 : decode b_Survey_goThrough 21 = .ok (.iconst 0, 1) := by decide +kernel
theorem d_Survey_goThrough_22 : decode b_Survey_goThrough 22 = .ok (.invokevirtual 67, 3) := by decide +kernel
theorem d_Survey_goThrough_25 : decode b_Survey_goThrough 25 = .ok (.iload_n 3, 1) := by decide +kernel
theorem d_Survey_goThrough_26 : decode b_Survey_goThrough 26 = .ok (.invokestatic 104, 3) := by decide +kernel
theorem d_Survey_goThrough_29 : decode b_Survey_goThrough 29 = .ok (.isub, 1) := by decide +kernel
theorem d_Survey_goThrough_30 : decode b_Survey_goThrough 30 = .ok (.istore 4, 2) := by decide +kernel
theorem d_Survey_goThrough_32 : decode b_Survey_goThrough 32 = .ok (.iload 4, 2) := by decide +kernel
theorem d_Survey_goThrough_34 : decode b_Survey_goThrough 34 = .ok (.iload_n 3, 1) := by decide +kernel
theorem d_Survey_goThrough_35 : decode b_Survey_goThrough 35 = .ok (.invokestatic 107, 3) := by decide +kernel
theorem d_Survey_goThrough_38 : decode b_Survey_goThrough 38 = .ok (.iadd, 1) := by decide +kernel
theorem d_Survey_goThrough_39 : decode b_Survey_goThrough 39 = .ok (.istore 5, 2) := by decide +kernel
theorem d_Survey_goThrough_41 : decode b_Survey_goThrough 41 = .ok (.iload 4, 2) := by decide +kernel
theorem d_Survey_goThrough_43 : decode b_Survey_goThrough 43 = .ok (.ifCond .lt 10, 3) := by decide +kernel
theorem d_Survey_goThrough_46 : decode b_Survey_goThrough 46 = .ok (.iload 5, 2) := by decide +kernel
theorem d_Survey_goThrough_48 : decode b_Survey_goThrough 48 = .ok (.bipush 8, 2) := by decide +kernel
theorem d_Survey_goThrough_50 : decode b_Survey_goThrough 50 = .ok (.if_icmp .le 10, 3) := by decide +kernel
theorem d_Survey_goThrough_53 : decode b_Survey_goThrough 53 = .ok (.bipush 7, 2) := by decide +kernel
theorem d_Survey_goThrough_55 : decode b_Survey_goThrough 55 = .ok (.iload_n 2, 1) := by decide +kernel
theorem d_Survey_goThrough_56 : decode b_Survey_goThrough 56 = .ok (.invokestatic 30, 3) := by decide +kernel
theorem d_Survey_goThrough_59 : decode b_Survey_goThrough 59 = .ok (.ireturn, 1) := by decide +kernel
theorem d_Survey_goThrough_60 : decode b_Survey_goThrough 60 = .ok (.iload_n 3, 1) := by decide +kernel
theorem d_Survey_goThrough_61 : decode b_Survey_goThrough 61 = .ok (.invokestatic 74, 3) := by decide +kernel
theorem d_Survey_goThrough_64 : decode b_Survey_goThrough 64 = .ok (.ifCond .eq 5, 3) := by decide +kernel
theorem d_Survey_goThrough_67 : decode b_Survey_goThrough 67 = .ok (.iconst 0, 1) := by decide +kernel
theorem d_Survey_goThrough_68 : decode b_Survey_goThrough 68 = .ok (.ireturn, 1) := by decide +kernel
theorem d_Survey_goThrough_69 : decode b_Survey_goThrough 69 = .ok (.iload_n 2, 1) := by decide +kernel
theorem d_Survey_goThrough_70 : decode b_Survey_goThrough 70 = .ok (.iload_n 3, 1) := by decide +kernel
theorem d_Survey_goThrough_71 : decode b_Survey_goThrough 71 = .ok (.invokestatic 70, 3) := by decide +kernel
theorem d_Survey_goThrough_74 : decode b_Survey_goThrough 74 = .ok (.ifCond .eq 7, 3) := by decide +kernel
theorem d_Survey_goThrough_77 : decode b_Survey_goThrough 77 = .ok (.iconst 2, 1) := by decide +kernel
theorem d_Survey_goThrough_78 : decode b_Survey_goThrough 78 = .ok (.goto 4, 3) := by decide +kernel
theorem d_Survey_goThrough_81 : decode b_Survey_goThrough 81 = .ok (.iconst 1, 1) := by decide +kernel
theorem d_Survey_goThrough_82 : decode b_Survey_goThrough 82 = .ok (.iadd, 1) := by decide +kernel
theorem d_Survey_goThrough_83 : decode b_Survey_goThrough 83 = .ok (.istore 6, 2) := by decide +kernel
theorem d_Survey_goThrough_85 : decode b_Survey_goThrough 85 = .ok (.iload_n 3, 1) := by decide +kernel
theorem d_Survey_goThrough_86 : decode b_Survey_goThrough 86 = .ok (.invokestatic 91, 3) := by decide +kernel
theorem d_Survey_goThrough_89 : decode b_Survey_goThrough 89 = .ok (.ifCond .ne 12, 3) := by decide +kernel
theorem d_Survey_goThrough_92 : decode b_Survey_goThrough 92 = .ok (.aload_n 0, 1) := by decide +kernel
theorem d_Survey_goThrough_93 : decode b_Survey_goThrough 93 = .ok (.iload 6, 2) := by decide +kernel
theorem d_Survey_goThrough_95 : decode b_Survey_goThrough 95 = .ok (.iload 5, 2) := by decide +kernel
theorem d_Survey_goThrough_97 : decode b_Survey_goThrough 97 = .ok (.invokevirtual 94, 3) := by decide +kernel
theorem d_Survey_goThrough_100 : decode b_Survey_goThrough 100 = .ok (.ireturn, 1) := by decide +kernel
theorem d_Survey_goThrough_101 : decode b_Survey_goThrough 101 = .ok (.aload_n 1, 1) := by decide +kernel
theorem d_Survey_goThrough_102 : decode b_Survey_goThrough 102 = .ok (.iload_n 2, 1) := by decide +kernel
theorem d_Survey_goThrough_103 : decode b_Survey_goThrough 103 = .ok (.iconst 1, 1) := by decide +kernel
theorem d_Survey_goThrough_104 : decode b_Survey_goThrough 104 = .ok (.iadd, 1) := by decide +kernel
theorem d_Survey_goThrough_105 : decode b_Survey_goThrough 105 = .ok (.iconst (-1), 1) := by decide +kernel
theorem d_Survey_goThrough_106 : decode b_Survey_goThrough 106 = .ok (.invokevirtual 67, 3) := by decide +kernel
theorem d_Survey_goThrough_109 : decode b_Survey_goThrough 109 = .ok (.istore 7, 2) := by decide +kernel
theorem d_Survey_goThrough_111 : decode b_Survey_goThrough 111 = .ok (.iload_n 3, 1) := by decide +kernel
theorem d_Survey_goThrough_112 : decode b_Survey_goThrough 112 = .ok (.bipush 16, 2) := by decide +kernel
theorem d_Survey_goThrough_114 : decode b_Survey_goThrough 114 = .ok (.if_icmp .ne 12, 3) := by decide +kernel
theorem d_Survey_goThrough_117 : decode b_Survey_goThrough 117 = .ok (.aload_n 0, 1) := by decide +kernel
theorem d_Survey_goThrough_118 : decode b_Survey_goThrough 118 = .ok (.iload 7, 2) := by decide +kernel
theorem d_Survey_goThrough_120 : decode b_Survey_goThrough 120 = .ok (.iload 5, 2) := by decide +kernel
theorem d_Survey_goThrough_122 : decode b_Survey_goThrough 122 = .ok (.invokevirtual 94, 3) := by decide +kernel
theorem d_Survey_goThrough_125 : decode b_Survey_goThrough 125 = .ok (.ireturn, 1) := by decide +kernel
theorem d_Survey_goThrough_126 : decode b_Survey_goThrough 126 = .ok (.aload_n 0, 1) := by decide +kernel
theorem d_Survey_goThrough_127 : decode b_Survey_goThrough 127 = .ok (.iload 6, 2) := by decide +kernel
theorem d_Survey_goThrough_129 : decode b_Survey_goThrough 129 = .ok (.iload 7, 2) := by decide +kernel
theorem d_Survey_goThrough_131 : decode b_Survey_goThrough 131 = .ok (.invokestatic 110, 3) := by decide +kernel
theorem d_Survey_goThrough_134 : decode b_Survey_goThrough 134 = .ok (.iload 5, 2) := by decide +kernel
theorem d_Survey_goThrough_136 : decode b_Survey_goThrough 136 = .ok (.invokevirtual 94, 3) := by decide +kernel
theorem d_Survey_goThrough_139 : decode b_Survey_goThrough 139 = .ok (.istore 8, 2) := by decide +kernel
theorem d_Survey_goThrough_141 : decode b_Survey_goThrough 141 = .ok (.iload 8, 2) := by decide +kernel
theorem d_Survey_goThrough_143 : decode b_Survey_goThrough 143 = .ok (.ifCond .eq 8, 3) := by decide +kernel
theorem d_Survey_goThrough_146 : decode b_Survey_goThrough 146 = .ok (.iload 8, 2) := by decide +kernel
theorem d_Survey_goThrough_148 : decode b_Survey_goThrough 148 = .ok (.goto 16, 3) := by decide +kernel
theorem d_Survey_goThrough_151 : decode b_Survey_goThrough 151 = .ok (.aload_n 0, 1) := by decide +kernel
theorem d_Survey_goThrough_152 : decode b_Survey_goThrough 152 = .ok (.iload 6, 2) := by decide +kernel
theorem d_Survey_goThrough_154 : decode b_Survey_goThrough 154 = .ok (.iload 7, 2) := by decide +kernel
theorem d_Survey_goThrough_156 : decode b_Survey_goThrough 156 = .ok (.invokestatic 115, 3) := by decide +kernel
theorem d_Survey_goThrough_159 : decode b_Survey_goThrough 159 = .ok (.iload 5, 2) := by decide +kernel
theorem d_Survey_goThrough_161 : decode b_Survey_goThrough 161 = .ok (.invokevirtual 94, 3) := by decide +kernel
theorem d_Survey_goThrough_164 : decode b_Survey_goThrough 164 = .ok (.ireturn, 1) := by decide +kernel
theorem d_Survey_comeTo_0 : decode b_Survey_comeTo 0 = .ok (.aload_n 0, 1) := by decide +kernel
theorem d_Survey_comeTo_1 : decode b_Survey_comeTo 1 = .ok (.getfield 20, 3) := by decide +kernel
theorem d_Survey_comeTo_4 : decode b_Survey_comeTo 4 = .ok (.iload_n 1, 1) := by decide +kernel
theorem d_Survey_comeTo_5 : decode b_Survey_comeTo 5 = .ok (.iconst (-1), 1) := by decide +kernel
theorem d_Survey_comeTo_6 : decode b_Survey_comeTo 6 = .ok (.invokevirtual 67, 3) := by decide +kernel
theorem d_Survey_comeTo_9 : decode b_Survey_comeTo 9 = .ok (.istore_n 3, 1) := by decide +kernel
theorem d_Survey_comeTo_10 : decode b_Survey_comeTo 10 = .ok (.iload_n 3, 1) := by decide +kernel
theorem d_Survey_comeTo_11 : decode b_Survey_comeTo 11 = .ok (.iconst (-1), 1) := by decide +kernel
theorem d_Survey_comeTo_12 : decode b_Survey_comeTo 12 = .ok (.if_icmp .ne 35, 3) := by decide +kernel
theorem d_Survey_comeTo_15 : decode b_Survey_comeTo 15 = .ok (.aload_n 0, 1) := by decide +kernel
theorem d_Survey_comeTo_16 : decode b_Survey_comeTo 16 = .ok (.getfield 20, 3) := by decide +kernel
theorem d_Survey_comeTo_19 : decode b_Survey_comeTo 19 = .ok (.iload_n 1, 1) := by decide +kernel
theorem d_Survey_comeTo_20 : decode b_Survey_comeTo 20 = .ok (.iload_n 2, 1) := by decide +kernel
theorem d_Survey_comeTo_21 : decode b_Survey_comeTo 21 = .ok (.invokevirtual 64, 3) := by decide +kernel
theorem d_Survey_comeTo_24 : decode b_Survey_comeTo 24 = .ok (.aload_n 0, 1) := by decide +kernel
theorem d_Survey_comeTo_25 : decode b_Survey_comeTo 25 = .ok (.getfield 23, 3) := by decide +kernel
theorem d_Survey_comeTo_28 : decode b_Survey_comeTo 28 = .ok (.iload_n 1, 1) := by decide +kernel
theorem d_Survey_comeTo_29 : decode b_Survey_comeTo 29 = .ok (.iconst 1, 1) := by decide +kernel
theorem d_Survey_comeTo_30 : decode b_Survey_comeTo 30 = .ok (.invokevirtual 64, 3) := by decide +kernel
theorem d_Survey_comeTo_33 : decode b_Survey_comeTo 33 = .ok (.aload_n 0, 1) := by decide +kernel
theorem d_Survey_comeTo_34 : decode b_Survey_comeTo 34 = .ok (.aload_n 0, 1) := by decide +kernel
theorem d_Survey_comeTo_35 : decode b_Survey_comeTo 35 = .ok (.getfield 57, 3) := by decide +kernel
theorem d_Survey_comeTo_38 : decode b_Survey_comeTo 38 = .ok (.iload_n 1, 1) := by decide +kernel
theorem d_Survey_comeTo_39 : decode b_Survey_comeTo 39 = .ok (.invokestatic 110, 3) := by decide +kernel
theorem d_Survey_comeTo_42 : decode b_Survey_comeTo 42 = .ok (.putfield 57, 3) := by decide +kernel
theorem d_Survey_comeTo_45 : decode b_Survey_comeTo 45 = .ok (.iconst 0, 1) := by decide +kernel
theorem d_Survey_comeTo_46 : decode b_Survey_comeTo 46 = .ok (.ireturn, 1) := by decide +kernel
theorem d_Survey_comeTo_47 : decode b_Survey_comeTo 47 = .ok (.iload_n 3, 1) := by decide +kernel
theorem d_Survey_comeTo_48 : decode b_Survey_comeTo 48 = .ok (.iload_n 2, 1) := by decide +kernel
theorem d_Survey_comeTo_49 : decode b_Survey_comeTo 49 = .ok (.if_icmp .ne 7, 3) := by decide +kernel
theorem d_Survey_comeTo_52 : decode b_Survey_comeTo 52 = .ok (.iconst 0, 1) := by decide +kernel
theorem d_Survey_comeTo_53 : decode b_Survey_comeTo 53 = .ok (.goto 9, 3) := by decide +kernel
theorem d_Survey_comeTo_56 : decode b_Survey_comeTo 56 = .ok (.bipush 8, 2) := by decide +kernel
theorem d_Survey_comeTo_58 : decode b_Survey_comeTo 58 = .ok (.iload_n 1, 1) := by decide +kernel
theorem d_Survey_comeTo_59 : decode b_Survey_comeTo 59 = .ok (.invokestatic 30, 3) := by decide +kernel
theorem d_Survey_comeTo_62 : decode b_Survey_comeTo 62 = .ok (.ireturn, 1) := by decide +kernel
end
section
theorem d_Model_init_0 : decode b_Model_init 0 = .ok (.aload_n 0, 1) := by decide +kernel
theorem d_Model_init_1 : decode b_Model_init 1 = .ok (.invokespecial 1, 3) := by decide +kernel
theorem d_Model_init_4 : decode b_Model_init 4 = .ok (.aload_n 0, 1) := by decide +kernel
theorem d_Model_init_5 : decode b_Model_init 5 = .ok (.sipush 300, 3) := by decide +kernel
theorem d_Model_init_8 : decode b_Model_init 8 = .ok (.newarray .byte, 2) := by decide +kernel
theorem d_Model_init_10 : decode b_Model_init 10 = .ok (.putfield 7, 3) := by decide +kernel
theorem d_Model_init_13 : decode b_Model_init 13 = .ok (.aload_n 0, 1) := by decide +kernel
theorem d_Model_init_14 : decode b_Model_init 14 = .ok (.sipush 2048, 3) := by decide +kernel
theorem d_Model_init_17 : decode b_Model_init 17 = .ok (.newarray .byte, 2) := by decide +kernel
theorem d_Model_init_19 : decode b_Model_init 19 = .ok (.putfield 13, 3) := by decide +kernel
theorem d_Model_init_22 : decode b_Model_init 22 = .ok (.aload_n 0, 1) := by decide +kernel
theorem d_Model_init_23 : decode b_Model_init 23 = .ok (.bipush 8, 2) := by decide +kernel
theorem d_Model_init_25 : decode b_Model_init 25 = .ok (.newarray .int, 2) := by decide +kernel
theorem d_Model_init_27 : decode b_Model_init 27 = .ok (.putfield 16, 3) := by decide +kernel
theorem d_Model_init_30 : decode b_Model_init 30 = .ok (.aload_n 0, 1) := by decide +kernel
theorem d_Model_init_31 : decode b_Model_init 31 = .ok (.sipush 2048, 3) := by decide +kernel
theorem d_Model_init_34 : decode b_Model_init 34 = .ok (.newarray .int, 2) := by decide +kernel
theorem d_Model_init_36 : decode b_Model_init 36 = .ok (.putfield 20, 3) := by decide +kernel
theorem d_Model_init_39 : decode b_Model_init 39 = .ok (.aload_n 0, 1) := by decide +kernel
theorem d_Model_init_40 : decode b_Model_init 40 = .ok (.sipush 128, 3) := by decide +kernel
theorem d_Model_init_43 : decode b_Model_init 43 = .ok (.newarray .int, 2) := by decide +kernel
theorem d_Model_init_45 : decode b_Model_init 45 = .ok (.putfield 23, 3) := by decide +kernel
theorem d_Model_init_48 : decode b_Model_init 48 = .ok (.aload_n 0, 1) := by decide +kernel
theorem d_Model_init_49 : decode b_Model_init 49 = .ok (.sipush 128, 3) := by decide +kernel
theorem d_Model_init_52 : decode b_Model_init 52 = .ok (.newarray .int, 2) := by decide +kernel
theorem d_Model_init_54 : decode b_Model_init 54 = .ok (.putfield 26, 3) := by decide +kernel
theorem d_Model_init_57 : decode b_Model_init 57 = .ok (.aload_n 0, 1) := by decide +kernel
theorem d_Model_init_58 : decode b_Model_init 58 = .ok (.sipush 301, 3) := by decide +kernel
theorem d_Model_init_61 : decode b_Model_init 61 = .ok (.newarray .boolean, 2) := by decide +kernel
theorem d_Model_init_63 : decode b_Model_init 63 = .ok (.putfield 29, 3) := by decide +kernel
theorem d_Model_init_66 : decode b_Model_init 66 = .ok (.aload_n 0, 1) := by decide +kernel
theorem d_Model_init_67 : decode b_Model_init 67 = .ok (.sipush 301, 3) := by decide +kernel
theorem d_Model_init_70 : decode b_Model_init 70 = .ok (.newarray .int, 2) := by decide +kernel
theorem d_Model_init_72 : decode b_Model_init 72 = .ok (.putfield 33, 3) := by decide +kernel
theorem d_Model_init_75 : decode b_Model_init 75 = .ok (.aload_n 0, 1) := by decide +kernel
theorem d_Model_init_76 : decode b_Model_init 76 = .ok (.sipush 301, 3) := by decide +kernel
theorem d_Model_init_79 : decode b_Model_init 79 = .ok (.newarray .boolean, 2) := by decide +kernel
theorem d_Model_init_81 : decode b_Model_init 81 = .ok (.putfield 36, 3) := by decide +kernel
theorem d_Model_init_84 : decode b_Model_init 84 = .ok (.aload_n 0, 1) := by decide +kernel
theorem d_Model_init_85 : decode b_Model_init 85 = .ok (.bipush 8, 2) := by decide +kernel
theorem d_Model_init_87 : decode b_Model_init 87 = .ok (.newarray .int, 2) := by decide +kernel
theorem d_Model_init_89 : decode b_Model_init 89 = .ok (.putfield 39, 3) := by decide +kernel
theorem d_Model_init_92 : decode b_Model_init 92 = .ok (.aload_n 0, 1) := by decide +kernel
theorem d_Model_init_93 : decode b_Model_init 93 = .ok (.bipush 8, 2) := by decide +kernel
theorem d_Model_init_95 : decode b_Model_init 95 = .ok (.newarray .int, 2) := by decide +kernel
theorem d_Model_init_97 : decode b_Model_init 97 = .ok (.putfield 42, 3) := by decide +kernel
theorem d_Model_init_100 : decode b_Model_init 100 = .ok (.aload_n 0, 1) := by decide +kernel
theorem d_Model_init_101 : decode b_Model_init 101 = .ok (.bipush 8, 2) := by decide +kernel
theorem d_Model_init_103 : decode b_Model_init 103 = .ok (.newarray .int, 2) := by decide +kernel
theorem d_Model_init_105 : decode b_Model_init 105 = .ok (.putfield 45, 3) := by decide +kernel
theorem d_Model_init_108 : decode b_Model_init 108 = .ok (.aload_n 0, 1) := by decide +kernel
theorem d_Model_init_109 : decode b_Model_init 109 = .ok (.bipush 64, 2) := by decide +kernel
theorem d_Model_init_111 : decode b_Model_init 111 = .ok (.newarray .int, 2) := by decide +kernel
theorem d_Model_init_113 : decode b_Model_init 113 = .ok (.putfield 48, 3) := by decide +kernel
theorem d_Model_init_116 : decode b_Model_init 116 = .ok (.aload_n 0, 1) := by decide +kernel
theorem d_Model_init_117 : decode b_Model_init 117 = .ok (.bipush 64, 2) := by decide +kernel
theorem d_Model_init_119 : decode b_Model_init 119 = .ok (.newarray .int, 2) := by decide +kernel
theorem d_Model_init_121 : decode b_Model_init 121 = .ok (.putfield 51, 3) := by decide +kernel
theorem d_Model_init_124 : decode b_Model_init 124 = .ok (.aload_n 0, 1) := by decide +kernel
theorem d_Model_init_125 : decode b_Model_init 125 = .ok (.sipush 300, 3) := by decide +kernel
theorem d_Model_init_128 : decode b_Model_init 128 = .ok (.newarray .byte, 2) := by decide +kernel
theorem d_Model_init_130 : decode b_Model_init 130 = .ok (.putfield 54, 3) := by decide +kernel
theorem d_Model_init_133 : decode b_Model_init 133 = .ok (.aload_n 0, 1) := by decide +kernel
theorem d_Model_init_134 : decode b_Model_init 134 = .ok (.bipush 64, 2) := by decide +kernel
theorem d_Model_init_136 : decode b_Model_init 136 = .ok (.newarray .byte, 2) := by decide +kernel
theorem d_Model_init_138 : decode b_Model_init 138 = .ok (.putfield 57, 3) := by decide +kernel
theorem d_Model_init_141 : decode b_Model_init 141 = .ok (.return_, 1) := by decide +kernel
theorem d_Model_putFour_0 : decode b_Model_putFour 0 = .ok (.bipush 24, 2) := by decide +kernel
theorem d_Model_putFour_2 : decode b_Model_putFour 2 = .ok (.istore_n 2, 1) := by decide +kernel
theorem d_Model_putFour_3 : decode b_Model_putFour 3 = .ok (.iload_n 2, 1) := by decide +kernel
theorem d_Model_putFour_4 : decode b_Model_putFour 4 = .ok (.ifCond .lt 32, 3) := by decide +kernel
theorem d_Model_putFour_7 : decode b_Model_putFour 7 = .ok (.aload_n 0, 1) := by decide +kernel
theorem d_Model_putFour_8 : decode b_Model_putFour 8 = .ok (.getfield 7, 3) := by decide +kernel
theorem d_Model_putFour_11 : decode b_Model_putFour 11 = .ok (.aload_n 0, 1) := by decide +kernel
theorem d_Model_putFour_12 : decode b_Model_putFour 12 = .ok (.getfield 60, 3) := by decide +kernel
theorem d_Model_putFour_15 : decode b_Model_putFour 15 = .ok (.iload_n 1, 1) := by decide +kernel
theorem d_Model_putFour_16 : decode b_Model_putFour 16 = .ok (.iload_n 2, 1) := by decide +kernel
theorem d_Model_putFour_17 : decode b_Model_putFour 17 = .ok (.ishr, 1) := by decide +kernel
theorem d_Model_putFour_18 : decode b_Model_putFour 18 = .ok (.i2b, 1) := by decide +kernel
theorem d_Model_putFour_19 : decode b_Model_putFour 19 = .ok (.bastore, 1) := by decide +kernel
theorem d_Model_putFour_20 : decode b_Model_putFour 20 = .ok (.aload_n 0, 1) := by decide +kernel
theorem d_Model_putFour_21 : decode b_Model_putFour 21 = .ok (.dup, 1) := by decide +kernel
theorem d_Model_putFour_22 : decode b_Model_putFour 22 = .ok (.getfield 60, 3) := by decide +kernel
theorem d_Model_putFour_25 : decode b_Model_putFour 25 = .ok (.iconst 1, 1) := by decide +kernel
theorem d_Model_putFour_26 : decode b_Model_putFour 26 = .ok (.iadd, 1) := by decide +kernel
theorem d_Model_putFour_27 : decode b_Model_putFour 27 = .ok (.putfield 60, 3) := by decide +kernel
theorem d_Model_putFour_30 : decode b_Model_putFour 30 = .ok (.iinc 2 (-8), 3) := by decide +kernel
theorem d_Model_putFour_33 : decode b_Model_putFour 33 = .ok (.goto (-30), 3) := by decide +kernel
theorem d_Model_putFour_36 : decode b_Model_putFour 36 = .ok (.return_, 1) := by decide +kernel
theorem d_Model_feed_0 : decode b_Model_feed 0 = .ok (.aload_n 0, 1) := by decide +kernel
theorem d_Model_feed_1 : decode b_Model_feed 1 = .ok (.getfield 60, 3) := by decide +kernel
theorem d_Model_feed_4 : decode b_Model_feed 4 = .ok (.bipush 20, 2) := by decide +kernel
theorem d_Model_feed_6 : decode b_Model_feed 6 = .ok (.iadd, 1) := by decide +kernel
theorem d_Model_feed_7 : decode b_Model_feed 7 = .ok (.sipush 300, 3) := by decide +kernel
theorem d_Model_feed_10 : decode b_Model_feed 10 = .ok (.if_icmp .le 5, 3) := by decide +kernel
theorem d_Model_feed_13 : decode b_Model_feed 13 = .ok (.iconst (-1), 1) := by decide +kernel
theorem d_Model_feed_14 : decode b_Model_feed 14 = .ok (.ireturn, 1) := by decide +kernel
theorem d_Model_feed_15 : decode b_Model_feed 15 = .ok (.aload_n 0, 1) := by decide +kernel
theorem d_Model_feed_16 : decode b_Model_feed 16 = .ok (.iload_n 1, 1) := by decide +kernel
theorem d_Model_feed_17 : decode b_Model_feed 17 = .ok (.invokevirtual 64, 3) := by decide +kernel
theorem d_Model_feed_20 : decode b_Model_feed 20 = .ok (.aload_n 0, 1) := by decide +kernel
theorem d_Model_feed_21 : decode b_Model_feed 21 = .ok (.iload_n 2, 1) := by decide +kernel
theorem d_Model_feed_22 : decode b_Model_feed 22 = .ok (.invokevirtual 64, 3) := by decide +kernel
theorem d_Model_feed_25 : decode b_Model_feed 25 = .ok (.aload_n 0, 1) := by decide +kernel
theorem d_Model_feed_26 : decode b_Model_feed 26 = .ok (.iload_n 3, 1) := by decide +kernel
theorem d_Model_feed_27 : decode b_Model_feed 27 = .ok (.invokevirtual 64, 3) := by decide +kernel
theorem d_Model_feed_30 : decode b_Model_feed 30 = .ok (.aload_n 0, 1) := by decide +kernel
theorem d_Model_feed_31 : decode b_Model_feed 31 = .ok (.iload 4, 2) := by decide +kernel
theorem d_Model_feed_33 : decode b_Model_feed 33 = .ok (.invokevirtual 64, 3) := by decide +kernel
theorem d_Model_feed_36 : decode b_Model_feed 36 = .ok (.aload_n 0, 1) := by decide +kernel
theorem d_Model_feed_37 : decode b_Model_feed 37 = .ok (.iload 5, 2) := by decide +kernel
theorem d_Model_feed_39 : decode b_Model_feed 39 = .ok (.invokevirtual 64, 3) := by decide +kernel
theorem d_Model_feed_42 : decode b_Model_feed 42 = .ok (.aload_n 0, 1) := by decide +kernel
theorem d_Model_feed_43 : decode b_Model_feed 43 = .ok (.getfield 60, 3) := by decide +kernel
theorem d_Model_feed_46 : decode b_Model_feed 46 = .ok (.ireturn, 1) := by decide +kernel
theorem d_Model_end_0 : decode b_Model_end 0 = .ok (.iload_n 1, 1) := by decide +kernel
theorem d_Model_end_1 : decode b_Model_end 1 = .ok (.ifCond .lt 11, 3) := by decide +kernel
theorem d_Model_end_4 : decode b_Model_end 4 = .ok (.iload_n 1, 1) := by decide +kernel
theorem d_Model_end_5 : decode b_Model_end 5 = .ok (.aload_n 0, 1) := by decide +kernel
theorem d_Model_end_6 : decode b_Model_end 6 = .ok (.getfield 60, 3) := by decide +kernel
theorem d_Model_end_9 : decode b_Model_end 9 = .ok (.if_icmp .le 5, 3) := by decide +kernel
theorem d_Model_end_12 : decode b_Model_end 12 = .ok (.iconst (-1), 1) := by decide +kernel
theorem d_Model_end_13 : decode b_Model_end 13 = .ok (.ireturn, 1) := by decide +kernel
theorem d_Model_end_14 : decode b_Model_end 14 = .ok (.aload_n 0, 1) := by decide +kernel
theorem d_Model_end_15 : decode b_Model_end 15 = .ok (.iload_n 1, 1) := by decide +kernel
theorem d_Model_end_16 : decode b_Model_end 16 = .ok (.putfield 60, 3) := by decide +kernel
theorem d_Model_end_19 : decode b_Model_end 19 = .ok (.iload_n 1, 1) := by decide +kernel
theorem d_Model_end_20 : decode b_Model_end 20 = .ok (.ireturn, 1) := by decide +kernel
theorem d_Model_poke_0 : decode b_Model_poke 0 = .ok (.iload_n 1, 1) := by decide +kernel
theorem d_Model_poke_1 : decode b_Model_poke 1 = .ok (.ifCond .lt 11, 3) := by decide +kernel
theorem d_Model_poke_4 : decode b_Model_poke 4 = .ok (.iload_n 1, 1) := by decide +kernel
theorem d_Model_poke_5 : decode b_Model_poke 5 = .ok (.aload_n 0, 1) := by decide +kernel
theorem d_Model_poke_6 : decode b_Model_poke 6 = .ok (.getfield 60, 3) := by decide +kernel
theorem d_Model_poke_9 : decode b_Model_poke 9 = .ok (.if_icmp .lt 5, 3) := by decide +kernel
theorem d_Model_poke_12 : decode b_Model_poke 12 = .ok (.iconst (-1), 1) := by decide +kernel
theorem d_Model_poke_13 : decode b_Model_poke 13 = .ok (.ireturn, 1) := by decide +kernel
theorem d_Model_poke_14 : decode b_Model_poke 14 = .ok (.aload_n 0, 1) := by decide +kernel
theorem d_Model_poke_15 : decode b_Model_poke 15 = .ok (.getfield 7, 3) := by decide +kernel
theorem d_Model_poke_18 : decode b_Model_poke 18 = .ok (.iload_n 1, 1) := by decide +kernel
theorem d_Model_poke_19 : decode b_Model_poke 19 = .ok (.baload, 1) := by decide +kernel
theorem d_Model_poke_20 : decode b_Model_poke 20 = .ok (.sipush 255, 3) := by decide +kernel
theorem d_Model_poke_23 : decode b_Model_poke 23 = .ok (.iand, 1) := by decide +kernel
theorem d_Model_poke_24 : decode b_Model_poke 24 = .ok (.istore_n 3, 1) := by decide +kernel
theorem d_Model_poke_25 : decode b_Model_poke 25 = .ok (.aload_n 0, 1) := by decide +kernel
theorem d_Model_poke_26 : decode b_Model_poke 26 = .ok (.getfield 7, 3) := by decide +kernel
theorem d_Model_poke_29 : decode b_Model_poke 29 = .ok (.iload_n 1, 1) := by decide +kernel
theorem d_Model_poke_30 : decode b_Model_poke 30 = .ok (.iload_n 2, 1) := by decide +kernel
theorem d_Model_poke_31 : decode b_Model_poke 31 = .ok (.i2b, 1) := by decide +kernel
theorem d_Model_poke_32 : decode b_Model_poke 32 = .ok (.bastore, 1) := by decide +kernel
theorem d_Model_poke_33 : decode b_Model_poke 33 = .ok (.iload_n 3, 1) := by decide +kernel
theorem d_Model_poke_34 : decode b_Model_poke 34 = .ok (.ireturn, 1) := by decide +kernel
theorem d_Model_at_0 : decode b_Model_at 0 = .ok (.aload_n 0, 1) := by decide +kernel
theorem d_Model_at_1 : decode b_Model_at 1 = .ok (.getfield 7, 3) := by decide +kernel
theorem d_Model_at_4 : decode b_Model_at 4 = .ok (.iload_n 1, 1) := by decide +kernel
theorem d_Model_at_5 : decode b_Model_at 5 = .ok (.baload, 1) := by decide +kernel
theorem d_Model_at_6 : decode b_Model_at 6 = .ok (.sipush 255, 3) := by decide +kernel
theorem d_Model_at_9 : decode b_Model_at 9 = .ok (.iand, 1) := by decide +kernel
theorem d_Model_at_10 : decode b_Model_at 10 = .ok (.ireturn, 1) := by decide +kernel
theorem d_Model_bad_0 : decode b_Model_bad 0 = .ok (.aload_n 0, 1) := by decide +kernel
theorem d_Model_bad_1 : decode b_Model_bad 1 = .ok (.getfield 68, 3) := by decide +kernel
theorem d_Model_bad_4 : decode b_Model_bad 4 = .ok (.ifCond .le 4, 3) := by decide +kernel
theorem d_Model_bad_7 : decode b_Model_bad 7 = .ok (.return_, 1) := by decide +kernel
theorem d_Model_bad_8 : decode b_Model_bad 8 = .ok (.aload_n 0, 1) := by decide +kernel
theorem d_Model_bad_9 : decode b_Model_bad 9 = .ok (.iload_n 1, 1) := by decide +kernel
theorem d_Model_bad_10 : decode b_Model_bad 10 = .ok (.putfield 68, 3) := by decide +kernel
theorem d_Model_bad_13 : decode b_Model_bad 13 = .ok (.aload_n 0, 1) := by decide +kernel
theorem d_Model_bad_14 : decode b_Model_bad 14 = .ok (.iload_n 2, 1) := by decide +kernel
theorem d_Model_bad_15 : decode b_Model_bad 15 = .ok (.putfield 71, 3) := by decide +kernel
theorem d_Model_bad_18 : decode b_Model_bad 18 = .ok (.return_, 1) := by decide +kernel
theorem d_Model_hasOperand_0 : decode b_Model_hasOperand 0 = .ok (.iload_n 0, 1) := by decide +kernel
theorem d_Model_hasOperand_1 : decode b_Model_hasOperand 1 = .ok (.iconst 4, 1) := by decide +kernel
theorem d_Model_hasOperand_2 : decode b_Model_hasOperand 2 = .ok (.if_icmp .le 21, 3) := by decide +kernel
theorem d_Model_hasOperand_5 : decode b_Model_hasOperand 5 = .ok (.iload_n 0, 1) := by decide +kernel
theorem d_Model_hasOperand_6 : decode b_Model_hasOperand 6 = .ok (.bipush 16, 2) := by decide +kernel
theorem d_Model_hasOperand_8 : decode b_Model_hasOperand 8 = .ok (.if_icmp .lt 9, 3) := by decide +kernel
theorem d_Model_hasOperand_11 : decode b_Model_hasOperand 11 = .ok (.iload_n 0, 1) := by decide +kernel
theorem d_Model_hasOperand_12 : decode b_Model_hasOperand 12 = .ok (.bipush 18, 2) := by decide +kernel
theorem d_Model_hasOperand_14 : decode b_Model_hasOperand 14 = .ok (.if_icmp .le 9, 3) := by decide +kernel
theorem d_Model_hasOperand_17 : decode b_Model_hasOperand 17 = .ok (.iload_n 0, 1) := by decide +kernel
theorem d_Model_hasOperand_18 : decode b_Model_hasOperand 18 = .ok (.bipush 27, 2) := by decide +kernel
theorem d_Model_hasOperand_20 : decode b_Model_hasOperand 20 = .ok (.if_icmp .ne 7, 3) := by decide +kernel
theorem d_Model_hasOperand_23 : decode b_Model_hasOperand 23 = .ok (.iconst 1, 1) := by decide +kernel
theorem d_Model_hasOperand_24 : decode b_Model_hasOperand 24 = .ok (.goto 4, 3) := by decide +kernel
theorem d_Model_hasOperand_27 : decode b_Model_hasOperand 27 = .ok (.iconst 0, 1) := by decide +kernel
theorem d_Model_hasOperand_28 : decode b_Model_hasOperand 28 = .ok (.ireturn, 1) := by decide +kernel
theorem d_Model_takes_0 : decode b_Model_takes 0 = .ok (.iload_n 0, 1) := by decide +kernel
theorem d_Model_takes_1 : decode b_Model_takes 1 = .ok (.tableswitch 131 0 27 #[127, 127, 129, 127, 129, 131, 131, 131, 131, 131, 131, 131, 131, 129, 129, 131, 127, 129, 131, 129, 127, 129, 129, 127, 127, 131, 131, 127], 127) := by decide +kernel
theorem d_Model_takes_128 : decode b_Model_takes 128 = .ok (.iconst 0, 1) := by decide +kernel
theorem d_Model_takes_129 : decode b_Model_takes 129 = .ok (.ireturn, 1) := by decide +kernel
theorem d_Model_takes_130 : decode b_Model_takes 130 = .ok (.iconst 1, 1) := by decide +kernel
theorem d_Model_takes_131 : decode b_Model_takes 131 = .ok (.ireturn, 1) := by decide +kernel
theorem d_Model_takes_132 : decode b_Model_takes 132 = .ok (.iconst 2, 1) := by decide +kernel
theorem d_Model_takes_133 : decode b_Model_takes 133 = .ok (.ireturn, 1) := by decide +kernel
theorem d_Model_gives_0 : decode b_Model_gives 0 = .ok (.iload_n 0, 1) := by decide +kernel
theorem d_Model_gives_1 : decode b_Model_gives 1 = .ok (.tableswitch 111 2 24 #[107, 111, 107, 111, 111, 111, 111, 111, 111, 111, 111, 109, 107, 109, 107, 107, 107, 111, 111, 107, 107, 107, 107], 107) := by decide +kernel
theorem d_Model_gives_108 : decode b_Model_gives 108 = .ok (.iconst 0, 1) := by decide +kernel
theorem d_Model_gives_109 : decode b_Model_gives 109 = .ok (.ireturn, 1) := by decide +kernel
theorem d_Model_gives_110 : decode b_Model_gives 110 = .ok (.iconst 2, 1) := by decide +kernel
theorem d_Model_gives_111 : decode b_Model_gives 111 = .ok (.ireturn, 1) := by decide +kernel
theorem d_Model_gives_112 : decode b_Model_gives 112 = .ok (.iconst 1, 1) := by decide +kernel
theorem d_Model_gives_113 : decode b_Model_gives 113 = .ok (.ireturn, 1) := by decide +kernel
theorem d_Model_isOperand_0 : decode b_Model_isOperand 0 = .ok (.iload_n 0, 1) := by decide +kernel
theorem d_Model_isOperand_1 : decode b_Model_isOperand 1 = .ok (.iconst 1, 1) := by decide +kernel
theorem d_Model_isOperand_2 : decode b_Model_isOperand 2 = .ok (.if_icmp .eq 8, 3) := by decide +kernel
theorem d_Model_isOperand_5 : decode b_Model_isOperand 5 = .ok (.iload_n 0, 1) := by decide +kernel
theorem d_Model_isOperand_6 : decode b_Model_isOperand 6 = .ok (.iconst 2, 1) := by decide +kernel
theorem d_Model_isOperand_7 : decode b_Model_isOperand 7 = .ok (.if_icmp .ne 15, 3) := by decide +kernel
theorem d_Model_isOperand_10 : decode b_Model_isOperand 10 = .ok (.iload_n 1, 1) := by decide +kernel
theorem d_Model_isOperand_11 : decode b_Model_isOperand 11 = .ok (.bipush 16, 2) := by decide +kernel
theorem d_Model_isOperand_13 : decode b_Model_isOperand 13 = .ok (.if_icmp .ge 7, 3) := by decide +kernel
theorem d_Model_isOperand_16 : decode b_Model_isOperand 16 = .ok (.iconst 1, 1) := by decide +kernel
theorem d_Model_isOperand_17 : decode b_Model_isOperand 17 = .ok (.goto 4, 3) := by decide +kernel
theorem d_Model_isOperand_20 : decode b_Model_isOperand 20 = .ok (.iconst 0, 1) := by decide +kernel
theorem d_Model_isOperand_21 : decode b_Model_isOperand 21 = .ok (.ireturn, 1) := by decide +kernel
theorem d_Model_isOperand_22 : decode b_Model_isOperand 22 = .ok (.iload_n 0, 1) := by decide +kernel
theorem d_Model_isOperand_23 : decode b_Model_isOperand 23 = .ok (.iconst 3, 1) := by decide +kernel
theorem d_Model_isOperand_24 : decode b_Model_isOperand 24 = .ok (.if_icmp .eq 8, 3) := by decide +kernel
theorem d_Model_isOperand_27 : decode b_Model_isOperand 27 = .ok (.iload_n 0, 1) := by decide +kernel
theorem d_Model_isOperand_28 : decode b_Model_isOperand 28 = .ok (.iconst 4, 1) := by decide +kernel
theorem d_Model_isOperand_29 : decode b_Model_isOperand 29 = .ok (.if_icmp .ne 15, 3) := by decide +kernel
theorem d_Model_isOperand_32 : decode b_Model_isOperand 32 = .ok (.iload_n 1, 1) := by decide +kernel
theorem d_Model_isOperand_33 : decode b_Model_isOperand 33 = .ok (.bipush 8, 2) := by decide +kernel
theorem d_Model_isOperand_35 : decode b_Model_isOperand 35 = .ok (.if_icmp .ge 7, 3) := by decide +kernel
theorem d_Model_isOperand_38 : decode b_Model_isOperand 38 = .ok (.iconst 1, 1) := by decide +kernel
theorem d_Model_isOperand_39 : decode b_Model_isOperand 39 = .ok (.goto 4, 3) := by decide +kernel
theorem d_Model_isOperand_42 : decode b_Model_isOperand 42 = .ok (.iconst 0, 1) := by decide +kernel
theorem d_Model_isOperand_43 : decode b_Model_isOperand 43 = .ok (.ireturn, 1) := by decide +kernel
theorem d_Model_isOperand_44 : decode b_Model_isOperand 44 = .ok (.iload_n 0, 1) := by decide +kernel
theorem d_Model_isOperand_45 : decode b_Model_isOperand 45 = .ok (.bipush 27, 2) := by decide +kernel
theorem d_Model_isOperand_47 : decode b_Model_isOperand 47 = .ok (.if_icmp .ne 9, 3) := by decide +kernel
theorem d_Model_isOperand_50 : decode b_Model_isOperand 50 = .ok (.iload_n 1, 1) := by decide +kernel
theorem d_Model_isOperand_51 : decode b_Model_isOperand 51 = .ok (.bipush 24, 2) := by decide +kernel
theorem d_Model_isOperand_53 : decode b_Model_isOperand 53 = .ok (.if_icmp .ge 7, 3) := by decide +kernel
theorem d_Model_isOperand_56 : decode b_Model_isOperand 56 = .ok (.iconst 1, 1) := by decide +kernel
theorem d_Model_isOperand_57 : decode b_Model_isOperand 57 = .ok (.goto 4, 3) := by decide +kernel
theorem d_Model_isOperand_60 : decode b_Model_isOperand 60 = .ok (.iconst 0, 1) := by decide +kernel
theorem d_Model_isOperand_61 : decode b_Model_isOperand 61 = .ok (.ireturn, 1) := by decide +kernel
theorem d_Model_look_0 : decode b_Model_look 0 = .ok (.aload_n 0, 1) := by decide +kernel
theorem d_Model_look_1 : decode b_Model_look 1 = .ok (.iconst 0, 1) := by decide +kernel
theorem d_Model_look_2 : decode b_Model_look 2 = .ok (.putfield 68, 3) := by decide +kernel
theorem d_Model_look_5 : decode b_Model_look 5 = .ok (.aload_n 0, 1) := by decide +kernel
theorem d_Model_look_6 : decode b_Model_look 6 = .ok (.aload_n 0, 1) := by decide +kernel
theorem d_Model_look_7 : decode b_Model_look 7 = .ok (.getfield 60, 3) := by decide +kernel
theorem d_Model_look_10 : decode b_Model_look 10 = .ok (.putfield 74, 3) := by decide +kernel
theorem d_Model_look_13 : decode b_Model_look 13 = .ok (.aload_n 0, 1) := by decide +kernel
theorem d_Model_look_14 : decode b_Model_look 14 = .ok (.getfield 74, 3) := by decide +kernel
theorem d_Model_look_17 : decode b_Model_look 17 = .ok (.iconst 4, 1) := by decide +kernel
theorem d_Model_look_18 : decode b_Model_look 18 = .ok (.if_icmp .lt 13, 3) := by decide +kernel
theorem d_Model_look_21 : decode b_Model_look 21 = .ok (.aload_n 0, 1) := by decide +kernel
theorem d_Model_look_22 : decode b_Model_look 22 = .ok (.getfield 74, 3) := by decide +kernel
theorem d_Model_look_25 : decode b_Model_look 25 = .ok (.sipush 256, 3) := by decide +kernel
theorem d_Model_look_28 : decode b_Model_look 28 = .ok (.if_icmp .le 14, 3) := by decide +kernel
theorem d_Model_look_31 : decode b_Model_look 31 = .ok (.aload_n 0, 1) := by decide +kernel
theorem d_Model_look_32 : decode b_Model_look 32 = .ok (.iconst 1, 1) := by decide +kernel
theorem d_Model_look_33 : decode b_Model_look 33 = .ok (.aload_n 0, 1) := by decide +kernel
theorem d_Model_look_34 : decode b_Model_look 34 = .ok (.getfield 74, 3) := by decide +kernel
theorem d_Model_look_37 : decode b_Model_look 37 = .ok (.invokevirtual 77, 3) := by decide +kernel
theorem d_Model_look_40 : decode b_Model_look 40 = .ok (.iconst 0, 1) := by decide +kernel
theorem d_Model_look_41 : decode b_Model_look 41 = .ok (.ireturn, 1) := by decide +kernel
theorem d_Model_look_42 : decode b_Model_look 42 = .ok (.iconst 0, 1) := by decide +kernel
theorem d_Model_look_43 : decode b_Model_look 43 = .ok (.istore_n 1, 1) := by decide +kernel
theorem d_Model_look_44 : decode b_Model_look 44 = .ok (.iload_n 1, 1) := by decide +kernel
theorem d_Model_look_45 : decode b_Model_look 45 = .ok (.aload_n 0, 1) := by decide +kernel
theorem d_Model_look_46 : decode b_Model_look 46 = .ok (.getfield 74, 3) := by decide +kernel
theorem d_Model_look_49 : decode b_Model_look 49 = .ok (.if_icmp .gt 30, 3) := by decide +kernel
theorem d_Model_look_52 : decode b_Model_look 52 = .ok (.aload_n 0, 1) := by decide +kernel
theorem d_Model_look_53 : decode b_Model_look 53 = .ok (.getfield 29, 3) := by decide +kernel
theorem d_Model_look_56 : decode b_Model_look 56 = .ok (.iload_n 1, 1) := by decide +kernel
theorem d_Model_look_57 : decode b_Model_look 57 = .ok (.iconst 0, 1) := by decide +kernel
theorem d_Model_look_58 : decode b_Model_look 58 = .ok (.bastore, 1) := by decide +kernel
theorem d_Model_look_59 : decode b_Model_look 59 = .ok (.aload_n 0, 1) := by decide +kernel
theorem d_Model_look_60 : decode b_Model_look 60 = .ok (.getfield 33, 3) := by decide +kernel
theorem d_Model_look_63 : decode b_Model_look 63 = .ok (.iload_n 1, 1) := by decide +kernel
theorem d_Model_look_64 : decode b_Model_look 64 = .ok (.iconst (-1), 1) := by decide +kernel
theorem d_Model_look_65 : decode b_Model_look 65 = .ok (.iastore, 1) := by decide +kernel
theorem d_Model_look_66 : decode b_Model_look 66 = .ok (.aload_n 0, 1) := by decide +kernel
theorem d_Model_look_67 : decode b_Model_look 67 = .ok (.getfield 36, 3) := by decide +kernel
theorem d_Model_look_70 : decode b_Model_look 70 = .ok (.iload_n 1, 1) := by decide +kernel
theorem d_Model_look_71 : decode b_Model_look 71 = .ok (.iconst 0, 1) := by decide +kernel
theorem d_Model_look_72 : decode b_Model_look 72 = .ok (.bastore, 1) := by decide +kernel
theorem d_Model_look_73 : decode b_Model_look 73 = .ok (.iinc 1 1, 3) := by decide +kernel
theorem d_Model_look_76 : decode b_Model_look 76 = .ok (.goto (-32), 3) := by decide +kernel
theorem d_Model_look_79 : decode b_Model_look 79 = .ok (.iconst 0, 1) := by decide +kernel
theorem d_Model_look_80 : decode b_Model_look 80 = .ok (.istore_n 1, 1) := by decide +kernel
theorem d_Model_look_81 : decode b_Model_look 81 = .ok (.iconst 3, 1) := by decide +kernel
theorem d_Model_look_82 : decode b_Model_look 82 = .ok (.istore_n 2, 1) := by decide +kernel
theorem d_Model_look_83 : decode b_Model_look 83 = .ok (.iconst 3, 1) := by decide +kernel
theorem d_Model_look_84 : decode b_Model_look 84 = .ok (.istore_n 3, 1) := by decide +kernel
theorem d_Model_look_85 : decode b_Model_look 85 = .ok (.iload_n 3, 1) := by decide +kernel
theorem d_Model_look_86 : decode b_Model_look 86 = .ok (.aload_n 0, 1) := by decide +kernel
theorem d_Model_look_87 : decode b_Model_look 87 = .ok (.getfield 74, 3) := by decide +kernel
theorem d_Model_look_90 : decode b_Model_look 90 = .ok (.if_icmp .ge 118, 3) := by decide +kernel
theorem d_Model_look_93 : decode b_Model_look 93 = .ok (.aload_n 0, 1) := by decide +kernel
theorem d_Model_look_94 : decode b_Model_look 94 = .ok (.getfield 68, 3) := by decide +kernel
theorem d_Model_look_97 : decode b_Model_look 97 = .ok (.ifCond .ne 111, 3) := by decide +kernel
theorem d_Model_look_100 : decode b_Model_look 100 = .ok (.aload_n 0, 1) := by decide +kernel
theorem d_Model_look_101 : decode b_Model_look 101 = .ok (.iload_n 3, 1) := by decide +kernel
theorem d_Model_look_102 : decode b_Model_look 102 = .ok (.invokevirtual 81, 3) := by decide +kernel
theorem d_Model_look_105 : decode b_Model_look 105 = .ok (.istore 4, 2) := by decide +kernel
theorem d_Model_look_107 : decode b_Model_look 107 = .ok (.iload 4, 2) := by decide +kernel
theorem d_Model_look_109 : decode b_Model_look 109 = .ok (.invokestatic 85, 3) := by decide +kernel
theorem d_Model_look_112 : decode b_Model_look 112 = .ok (.istore 5, 2) := by decide +kernel
theorem d_Model_look_114 : decode b_Model_look 114 = .ok (.iload 4, 2) := by decide +kernel
theorem d_Model_look_116 : decode b_Model_look 116 = .ok (.bipush 27, 2) := by decide +kernel
theorem d_Model_look_118 : decode b_Model_look 118 = .ok (.if_icmp .le 12, 3) := by decide +kernel
theorem d_Model_look_121 : decode b_Model_look 121 = .ok (.aload_n 0, 1) := by decide +kernel
theorem d_Model_look_122 : decode b_Model_look 122 = .ok (.iconst 2, 1) := by decide +kernel
theorem d_Model_look_123 : decode b_Model_look 123 = .ok (.iload_n 3, 1) := by decide +kernel
theorem d_Model_look_124 : decode b_Model_look 124 = .ok (.invokevirtual 77, 3) := by decide +kernel
theorem d_Model_look_127 : decode b_Model_look 127 = .ok (.goto 53, 3) := by decide +kernel
theorem d_Model_look_130 : decode b_Model_look 130 = .ok (.iload 5, 2) := by decide +kernel
theorem d_Model_look_132 : decode b_Model_look 132 = .ok (.ifCond .eq 22, 3) := by decide +kernel
theorem d_Model_look_135 : decode b_Model_look 135 = .ok (.iload_n 3, 1) := by decide +kernel
theorem d_Model_look_136 : decode b_Model_look 136 = .ok (.iconst 1, 1) := by decide +kernel
theorem d_Model_look_137 : decode b_Model_look 137 = .ok (.iadd, 1) := by decide +kernel
theorem d_Model_look_138 : decode b_Model_look 138 = .ok (.aload_n 0, 1) := by decide +kernel
theorem d_Model_look_139 : decode b_Model_look 139 = .ok (.getfield 74, 3) := by decide +kernel
theorem d_Model_look_142 : decode b_Model_look 142 = .ok (.if_icmp .lt 12, 3) := by decide +kernel
theorem d_Model_look_145 : decode b_Model_look 145 = .ok (.aload_n 0, 1) := by decide +kernel
theorem d_Model_look_146 : decode b_Model_look 146 = .ok (.iconst 3, 1) := by decide +kernel
theorem d_Model_look_147 : decode b_Model_look 147 = .ok (.iload_n 3, 1) := by decide +kernel
theorem d_Model_look_148 : decode b_Model_look 148 = .ok (.invokevirtual 77, 3) := by decide +kernel
theorem d_Model_look_151 : decode b_Model_look 151 = .ok (.goto 29, 3) := by decide +kernel
theorem d_Model_look_154 : decode b_Model_look 154 = .ok (.iload 5, 2) := by decide +kernel
theorem d_Model_look_156 : decode b_Model_look 156 = .ok (.ifCond .eq 24, 3) := by decide +kernel
theorem d_Model_look_159 : decode b_Model_look 159 = .ok (.iload 4, 2) := by decide +kernel
theorem d_Model_look_161 : decode b_Model_look 161 = .ok (.aload_n 0, 1) := by decide +kernel
theorem d_Model_look_162 : decode b_Model_look 162 = .ok (.iload_n 3, 1) := by decide +kernel
theorem d_Model_look_163 : decode b_Model_look 163 = .ok (.iconst 1, 1) := by decide +kernel
theorem d_Model_look_164 : decode b_Model_look 164 = .ok (.iadd, 1) := by decide +kernel
theorem d_Model_look_165 : decode b_Model_look 165 = .ok (.invokevirtual 81, 3) := by decide +kernel
theorem d_Model_look_168 : decode b_Model_look 168 = .ok (.invokestatic 89, 3) := by decide +kernel
theorem d_Model_look_171 : decode b_Model_look 171 = .ok (.ifCond .ne 9, 3) := by decide +kernel
theorem d_Model_look_174 : decode b_Model_look 174 = .ok (.aload_n 0, 1) := by decide +kernel
theorem d_Model_look_175 : decode b_Model_look 175 = .ok (.iconst 4, 1) := by decide +kernel
theorem d_Model_look_176 : decode b_Model_look 176 = .ok (.iload_n 3, 1) := by decide +kernel
theorem d_Model_look_177 : decode b_Model_look 177 = .ok (.invokevirtual 77, 3) := by decide +kernel
theorem d_Model_look_180 : decode b_Model_look 180 = .ok (.aload_n 0, 1) := by decide +kernel
theorem d_Model_look_181 : decode b_Model_look 181 = .ok (.getfield 29, 3) := by decide +kernel
theorem d_Model_look_184 : decode b_Model_look 184 = .ok (.iload_n 3, 1) := by decide +kernel
theorem d_Model_look_185 : decode b_Model_look 185 = .ok (.iconst 1, 1) := by decide +kernel
theorem d_Model_look_186 : decode b_Model_look 186 = .ok (.bastore, 1) := by decide +kernel
theorem d_Model_look_187 : decode b_Model_look 187 = .ok (.iload_n 3, 1) := by decide +kernel
theorem d_Model_look_188 : decode b_Model_look 188 = .ok (.istore_n 2, 1) := by decide +kernel
theorem d_Model_look_189 : decode b_Model_look 189 = .ok (.iload_n 3, 1) := by decide +kernel
theorem d_Model_look_190 : decode b_Model_look 190 = .ok (.iload 5, 2) := by decide +kernel
theorem d_Model_look_192 : decode b_Model_look 192 = .ok (.ifCond .eq 7, 3) := by decide +kernel
theorem d_Model_look_195 : decode b_Model_look 195 = .ok (.iconst 2, 1) := by decide +kernel
theorem d_Model_look_196 : decode b_Model_look 196 = .ok (.goto 4, 3) := by decide +kernel
theorem d_Model_look_199 : decode b_Model_look 199 = .ok (.iconst 1, 1) := by decide +kernel
theorem d_Model_look_200 : decode b_Model_look 200 = .ok (.iadd, 1) := by decide +kernel
theorem d_Model_look_201 : decode b_Model_look 201 = .ok (.istore_n 3, 1) := by decide +kernel
theorem d_Model_look_202 : decode b_Model_look 202 = .ok (.iinc 1 1, 3) := by decide +kernel
theorem d_Model_look_205 : decode b_Model_look 205 = .ok (.goto (-120), 3) := by decide +kernel
theorem d_Model_look_208 : decode b_Model_look 208 = .ok (.aload_n 0, 1) := by decide +kernel
theorem d_Model_look_209 : decode b_Model_look 209 = .ok (.getfield 68, 3) := by decide +kernel
theorem d_Model_look_212 : decode b_Model_look 212 = .ok (.ifCond .le 5, 3) := by decide +kernel
theorem d_Model_look_215 : decode b_Model_look 215 = .ok (.iconst 0, 1) := by decide +kernel
theorem d_Model_look_216 : decode b_Model_look 216 = .ok (.ireturn, 1) := by decide +kernel
theorem d_Model_look_217 : decode b_Model_look 217 = .ok (.aload_n 0, 1) := by decide +kernel
theorem d_Model_look_218 : decode b_Model_look 218 = .ok (.iload_n 2, 1) := by decide +kernel
theorem d_Model_look_219 : decode b_Model_look 219 = .ok (.invokevirtual 81, 3) := by decide +kernel
theorem d_Model_look_222 : decode b_Model_look 222 = .ok (.istore_n 3, 1) := by decide +kernel
theorem d_Model_look_223 : decode b_Model_look 223 = .ok (.iload_n 3, 1) := by decide +kernel
theorem d_Model_look_224 : decode b_Model_look 224 = .ok (.bipush 16, 2) := by decide +kernel
theorem d_Model_look_226 : decode b_Model_look 226 = .ok (.if_icmp .eq 27, 3) := by decide +kernel
theorem d_Model_look_229 : decode b_Model_look 229 = .ok (.iload_n 3, 1) := by decide +kernel
theorem d_Model_look_230 : decode b_Model_look 230 = .ok (.bipush 22, 2) := by decide +kernel
theorem d_Model_look_232 : decode b_Model_look 232 = .ok (.if_icmp .eq 21, 3) := by decide +kernel
theorem d_Model_look_235 : decode b_Model_look 235 = .ok (.iload_n 3, 1) := by decide +kernel
theorem d_Model_look_236 : decode b_Model_look 236 = .ok (.bipush 23, 2) := by decide +kernel
theorem d_Model_look_238 : decode b_Model_look 238 = .ok (.if_icmp .eq 15, 3) := by decide +kernel
theorem d_Model_look_241 : decode b_Model_look 241 = .ok (.iload_n 3, 1) := by decide +kernel
theorem d_Model_look_242 : decode b_Model_look 242 = .ok (.bipush 24, 2) := by decide +kernel
theorem d_Model_look_244 : decode b_Model_look 244 = .ok (.if_icmp .eq 9, 3) := by decide +kernel
theorem d_Model_look_247 : decode b_Model_look 247 = .ok (.aload_n 0, 1) := by decide +kernel
theorem d_Model_look_248 : decode b_Model_look 248 = .ok (.iconst 5, 1) := by decide +kernel
theorem d_Model_look_249 : decode b_Model_look 249 = .ok (.iload_n 2, 1) := by decide +kernel
theorem d_Model_look_250 : decode b_Model_look 250 = .ok (.invokevirtual 77, 3) := by decide +kernel
theorem d_Model_look_253 : decode b_Model_look 253 = .ok (.iconst 0, 1) := by decide +kernel
theorem d_Model_look_254 : decode b_Model_look 254 = .ok (.istore 4, 2) := by decide +kernel
theorem d_Model_look_256 : decode b_Model_look 256 = .ok (.iload 4, 2) := by decide +kernel
theorem d_Model_look_258 : decode b_Model_look 258 = .ok (.iconst 3, 1) := by decide +kernel
theorem d_Model_look_259 : decode b_Model_look 259 = .ok (.if_icmp .ge 44, 3) := by decide +kernel
theorem d_Model_look_262 : decode b_Model_look 262 = .ok (.aload_n 0, 1) := by decide +kernel
theorem d_Model_look_263 : decode b_Model_look 263 = .ok (.iload 4, 2) := by decide +kernel
theorem d_Model_look_265 : decode b_Model_look 265 = .ok (.invokevirtual 81, 3) := by decide +kernel
theorem d_Model_look_268 : decode b_Model_look 268 = .ok (.aload_n 0, 1) := by decide +kernel
theorem d_Model_look_269 : decode b_Model_look 269 = .ok (.getfield 74, 3) := by decide +kernel
theorem d_Model_look_272 : decode b_Model_look 272 = .ok (.if_icmp .ge 17, 3) := by decide +kernel
theorem d_Model_look_275 : decode b_Model_look 275 = .ok (.aload_n 0, 1) := by decide +kernel
theorem d_Model_look_276 : decode b_Model_look 276 = .ok (.getfield 29, 3) := by decide +kernel
theorem d_Model_look_279 : decode b_Model_look 279 = .ok (.aload_n 0, 1) := by decide +kernel
theorem d_Model_look_280 : decode b_Model_look 280 = .ok (.iload 4, 2) := by decide +kernel
theorem d_Model_look_282 : decode b_Model_look 282 = .ok (.invokevirtual 81, 3) := by decide +kernel
theorem d_Model_look_285 : decode b_Model_look 285 = .ok (.baload, 1) := by decide +kernel
theorem d_Model_look_286 : decode b_Model_look 286 = .ok (.ifCond .ne 11, 3) := by decide +kernel
theorem d_Model_look_289 : decode b_Model_look 289 = .ok (.aload_n 0, 1) := by decide +kernel
theorem d_Model_look_290 : decode b_Model_look 290 = .ok (.bipush 6, 2) := by decide +kernel
theorem d_Model_look_292 : decode b_Model_look 292 = .ok (.iload 4, 2) := by decide +kernel
theorem d_Model_look_294 : decode b_Model_look 294 = .ok (.invokevirtual 77, 3) := by decide +kernel
theorem d_Model_look_297 : decode b_Model_look 297 = .ok (.iinc 4 1, 3) := by decide +kernel
theorem d_Model_look_300 : decode b_Model_look 300 = .ok (.goto (-44), 3) := by decide +kernel
theorem d_Model_look_303 : decode b_Model_look 303 = .ok (.iconst 3, 1) := by decide +kernel
theorem d_Model_look_304 : decode b_Model_look 304 = .ok (.istore 4, 2) := by decide +kernel
theorem d_Model_look_306 : decode b_Model_look 306 = .ok (.iload 4, 2) := by decide +kernel
theorem d_Model_look_308 : decode b_Model_look 308 = .ok (.aload_n 0, 1) := by decide +kernel
theorem d_Model_look_309 : decode b_Model_look 309 = .ok (.getfield 74, 3) := by decide +kernel
theorem d_Model_look_312 : decode b_Model_look 312 = .ok (.if_icmp .ge 85, 3) := by decide +kernel
theorem d_Model_look_315 : decode b_Model_look 315 = .ok (.aload_n 0, 1) := by decide +kernel
theorem d_Model_look_316 : decode b_Model_look 316 = .ok (.getfield 29, 3) := by decide +kernel
theorem d_Model_look_319 : decode b_Model_look 319 = .ok (.iload 4, 2) := by decide +kernel
theorem d_Model_look_321 : decode b_Model_look 321 = .ok (.baload, 1) := by decide +kernel
theorem d_Model_look_322 : decode b_Model_look 322 = .ok (.ifCond .eq 69, 3) := by decide +kernel
theorem d_Model_look_325 : decode b_Model_look 325 = .ok (.aload_n 0, 1) := by decide +kernel
theorem d_Model_look_326 : decode b_Model_look 326 = .ok (.iload 4, 2) := by decide +kernel
theorem d_Model_look_328 : decode b_Model_look 328 = .ok (.invokevirtual 81, 3) := by decide +kernel
theorem d_Model_look_331 : decode b_Model_look 331 = .ok (.bipush 16, 2) := by decide +kernel
theorem d_Model_look_333 : decode b_Model_look 333 = .ok (.if_icmp .lt 58, 3) := by decide +kernel
theorem d_Model_look_336 : decode b_Model_look 336 = .ok (.aload_n 0, 1) := by decide +kernel
theorem d_Model_look_337 : decode b_Model_look 337 = .ok (.iload 4, 2) := by decide +kernel
theorem d_Model_look_339 : decode b_Model_look 339 = .ok (.invokevirtual 81, 3) := by decide +kernel
theorem d_Model_look_342 : decode b_Model_look 342 = .ok (.bipush 18, 2) := by decide +kernel
theorem d_Model_look_344 : decode b_Model_look 344 = .ok (.if_icmp .le 6, 3) := by decide +kernel
theorem d_Model_look_347 : decode b_Model_look 347 = .ok (.goto 44, 3) := by decide +kernel
theorem d_Model_look_350 : decode b_Model_look 350 = .ok (.aload_n 0, 1) := by decide +kernel
theorem d_Model_look_351 : decode b_Model_look 351 = .ok (.iload 4, 2) := by decide +kernel
theorem d_Model_look_353 : decode b_Model_look 353 = .ok (.iconst 1, 1) := by decide +kernel
theorem d_Model_look_354 : decode b_Model_look 354 = .ok (.iadd, 1) := by decide +kernel
theorem d_Model_look_355 : decode b_Model_look 355 = .ok (.invokevirtual 81, 3) := by decide +kernel
theorem d_Model_look_358 : decode b_Model_look 358 = .ok (.aload_n 0, 1) := by decide +kernel
theorem d_Model_look_359 : decode b_Model_look 359 = .ok (.getfield 74, 3) := by decide +kernel
theorem d_Model_look_362 : decode b_Model_look 362 = .ok (.if_icmp .ge 19, 3) := by decide +kernel
theorem d_Model_look_365 : decode b_Model_look 365 = .ok (.aload_n 0, 1) := by decide +kernel
theorem d_Model_look_366 : decode b_Model_look 366 = .ok (.getfield 29, 3) := by decide +kernel
theorem d_Model_look_369 : decode b_Model_look 369 = .ok (.aload_n 0, 1) := by decide +kernel
theorem d_Model_look_370 : decode b_Model_look 370 = .ok (.iload 4, 2) := by decide +kernel
theorem d_Model_look_372 : decode b_Model_look 372 = .ok (.iconst 1, 1) := by decide +kernel
theorem d_Model_look_373 : decode b_Model_look 373 = .ok (.iadd, 1) := by decide +kernel
theorem d_Model_look_374 : decode b_Model_look 374 = .ok (.invokevirtual 81, 3) := by decide +kernel
theorem d_Model_look_377 : decode b_Model_look 377 = .ok (.baload, 1) := by decide +kernel
theorem d_Model_look_378 : decode b_Model_look 378 = .ok (.ifCond .ne 13, 3) := by decide +kernel
theorem d_Model_look_381 : decode b_Model_look 381 = .ok (.aload_n 0, 1) := by decide +kernel
theorem d_Model_look_382 : decode b_Model_look 382 = .ok (.bipush 6, 2) := by decide +kernel
theorem d_Model_look_384 : decode b_Model_look 384 = .ok (.iload 4, 2) := by decide +kernel
theorem d_Model_look_386 : decode b_Model_look 386 = .ok (.iconst 1, 1) := by decide +kernel
theorem d_Model_look_387 : decode b_Model_look 387 = .ok (.iadd, 1) := by decide +kernel
theorem d_Model_look_388 : decode b_Model_look 388 = .ok (.invokevirtual 77, 3) := by decide +kernel
theorem d_Model_look_391 : decode b_Model_look 391 = .ok (.iinc 4 1, 3) := by decide +kernel
theorem d_Model_look_394 : decode b_Model_look 394 = .ok (.goto (-88), 3) := by decide +kernel
theorem d_Model_look_397 : decode b_Model_look 397 = .ok (.aload_n 0, 1) := by decide +kernel
theorem d_Model_look_398 : decode b_Model_look 398 = .ok (.getfield 68, 3) := by decide +kernel
theorem d_Model_look_401 : decode b_Model_look 401 = .ok (.ifCond .ne 7, 3) := by decide +kernel
theorem d_Model_look_404 : decode b_Model_look 404 = .ok (.aload_n 0, 1) := by decide +kernel
theorem d_Model_look_405 : decode b_Model_look 405 = .ok (.invokevirtual 93, 3) := by decide +kernel
theorem d_Model_look_408 : decode b_Model_look 408 = .ok (.iload_n 1, 1) := by decide +kernel
theorem d_Model_look_409 : decode b_Model_look 409 = .ok (.ireturn, 1) := by decide +kernel
theorem d_Model_come_0 : decode b_Model_come 0 = .ok (.aload_n 0, 1) := by decide +kernel
theorem d_Model_come_1 : decode b_Model_come 1 = .ok (.getfield 33, 3) := by decide +kernel
theorem d_Model_come_4 : decode b_Model_come 4 = .ok (.iload_n 1, 1) := by decide +kernel
theorem d_Model_come_5 : decode b_Model_come 5 = .ok (.iaload, 1) := by decide +kernel
theorem d_Model_come_6 : decode b_Model_come 6 = .ok (.iconst (-1), 1) := by decide +kernel
theorem d_Model_come_7 : decode b_Model_come 7 = .ok (.if_icmp .ne 13, 3) := by decide +kernel
theorem d_Model_come_10 : decode b_Model_come 10 = .ok (.aload_n 0, 1) := by decide +kernel
theorem d_Model_come_11 : decode b_Model_come 11 = .ok (.getfield 33, 3) := by decide +kernel
theorem d_Model_come_14 : decode b_Model_come 14 = .ok (.iload_n 1, 1) := by decide +kernel
theorem d_Model_come_15 : decode b_Model_come 15 = .ok (.iload_n 2, 1) := by decide +kernel
theorem d_Model_come_16 : decode b_Model_come 16 = .ok (.iastore, 1) := by decide +kernel
theorem d_Model_come_17 : decode b_Model_come 17 = .ok (.goto 20, 3) := by decide +kernel
theorem d_Model_come_20 : decode b_Model_come 20 = .ok (.aload_n 0, 1) := by decide +kernel
theorem d_Model_come_21 : decode b_Model_come 21 = .ok (.getfield 33, 3) := by decide +kernel
theorem d_Model_come_24 : decode b_Model_come 24 = .ok (.iload_n 1, 1) := by decide +kernel
theorem d_Model_come_25 : decode b_Model_come 25 = .ok (.iaload, 1) := by decide +kernel
theorem d_Model_come_26 : decode b_Model_come 26 = .ok (.iload_n 2, 1) := by decide +kernel
theorem d_Model_come_27 : decode b_Model_come 27 = .ok (.if_icmp .eq 10, 3) := by decide +kernel
theorem d_Model_come_30 : decode b_Model_come 30 = .ok (.aload_n 0, 1) := by decide +kernel
theorem d_Model_come_31 : decode b_Model_come 31 = .ok (.bipush 8, 2) := by decide +kernel
theorem d_Model_come_33 : decode b_Model_come 33 = .ok (.iload_n 1, 1) := by decide +kernel
theorem d_Model_come_34 : decode b_Model_come 34 = .ok (.invokevirtual 77, 3) := by decide +kernel
theorem d_Model_come_37 : decode b_Model_come 37 = .ok (.return_, 1) := by decide +kernel
theorem d_Model_walk_0 : decode b_Model_walk 0 = .ok (.iconst 0, 1) := by decide +kernel
theorem d_Model_walk_1 : decode b_Model_walk 1 = .ok (.istore_n 1, 1) := by decide +kernel
theorem d_Model_walk_2 : decode b_Model_walk 2 = .ok (.iload_n 1, 1) := by decide +kernel
theorem d_Model_walk_3 : decode b_Model_walk 3 = .ok (.iconst 3, 1) := by decide +kernel
theorem d_Model_walk_4 : decode b_Model_walk 4 = .ok (.if_icmp .ge 19, 3) := by decide +kernel
theorem d_Model_walk_7 : decode b_Model_walk 7 = .ok (.aload_n 0, 1) := by decide +kernel
theorem d_Model_walk_8 : decode b_Model_walk 8 = .ok (.aload_n 0, 1) := by decide +kernel
theorem d_Model_walk_9 : decode b_Model_walk 9 = .ok (.iload_n 1, 1) := by decide +kernel
theorem d_Model_walk_10 : decode b_Model_walk 10 = .ok (.invokevirtual 81, 3) := by decide +kernel
theorem d_Model_walk_13 : decode b_Model_walk 13 = .ok (.iconst 0, 1) := by decide +kernel
theorem d_Model_walk_14 : decode b_Model_walk 14 = .ok (.invokevirtual 96, 3) := by decide +kernel
theorem d_Model_walk_17 : decode b_Model_walk 17 = .ok (.iinc 1 1, 3) := by decide +kernel
theorem d_Model_walk_20 : decode b_Model_walk 20 = .ok (.goto (-18), 3) := by decide +kernel
theorem d_Model_walk_23 : decode b_Model_walk 23 = .ok (.iconst 1, 1) := by decide +kernel
theorem d_Model_walk_24 : decode b_Model_walk 24 = .ok (.istore_n 1, 1) := by decide +kernel
theorem d_Model_walk_25 : decode b_Model_walk 25 = .ok (.iload_n 1, 1) := by decide +kernel
theorem d_Model_walk_26 : decode b_Model_walk 26 = .ok (.ifCond .eq 71, 3) := by decide +kernel
theorem d_Model_walk_29 : decode b_Model_walk 29 = .ok (.aload_n 0, 1) := by decide +kernel
theorem d_Model_walk_30 : decode b_Model_walk 30 = .ok (.getfield 68, 3) := by decide +kernel
theorem d_Model_walk_33 : decode b_Model_walk 33 = .ok (.ifCond .ne 64, 3) := by decide +kernel
theorem d_Model_walk_36 : decode b_Model_walk 36 = .ok (.iconst 3, 1) := by decide +kernel
theorem d_Model_walk_37 : decode b_Model_walk 37 = .ok (.istore_n 2, 1) := by decide +kernel
theorem d_Model_walk_38 : decode b_Model_walk 38 = .ok (.iload_n 2, 1) := by decide +kernel
theorem d_Model_walk_39 : decode b_Model_walk 39 = .ok (.aload_n 0, 1) := by decide +kernel
theorem d_Model_walk_40 : decode b_Model_walk 40 = .ok (.getfield 74, 3) := by decide +kernel
theorem d_Model_walk_43 : decode b_Model_walk 43 = .ok (.if_icmp .ge 28, 3) := by decide +kernel
theorem d_Model_walk_46 : decode b_Model_walk 46 = .ok (.aload_n 0, 1) := by decide +kernel
theorem d_Model_walk_47 : decode b_Model_walk 47 = .ok (.getfield 33, 3) := by decide +kernel
theorem d_Model_walk_50 : decode b_Model_walk 50 = .ok (.iload_n 2, 1) := by decide +kernel
theorem d_Model_walk_51 : decode b_Model_walk 51 = .ok (.iaload, 1) := by decide +kernel
theorem d_Model_walk_52 : decode b_Model_walk 52 = .ok (.iconst (-1), 1) := by decide +kernel
theorem d_Model_walk_53 : decode b_Model_walk 53 = .ok (.if_icmp .eq 12, 3) := by decide +kernel
theorem d_Model_walk_56 : decode b_Model_walk 56 = .ok (.aload_n 0, 1) := by decide +kernel
theorem d_Model_walk_57 : decode b_Model_walk 57 = .ok (.getfield 36, 3) := by decide +kernel
theorem d_Model_walk_60 : decode b_Model_walk 60 = .ok (.iload_n 2, 1) := by decide +kernel
theorem d_Model_walk_61 : decode b_Model_walk 61 = .ok (.baload, 1) := by decide +kernel
theorem d_Model_walk_62 : decode b_Model_walk 62 = .ok (.ifCond .eq 9, 3) := by decide +kernel
theorem d_Model_walk_65 : decode b_Model_walk 65 = .ok (.iinc 2 1, 3) := by decide +kernel
theorem d_Model_walk_68 : decode b_Model_walk 68 = .ok (.goto (-30), 3) := by decide +kernel
theorem d_Model_walk_71 : decode b_Model_walk 71 = .ok (.iload_n 2, 1) := by decide +kernel
theorem d_Model_walk_72 : decode b_Model_walk 72 = .ok (.aload_n 0, 1) := by decide +kernel
theorem d_Model_walk_73 : decode b_Model_walk 73 = .ok (.getfield 74, 3) := by decide +kernel
theorem d_Model_walk_76 : decode b_Model_walk 76 = .ok (.if_icmp .ge 7, 3) := by decide +kernel
theorem d_Model_walk_79 : decode b_Model_walk 79 = .ok (.iconst 1, 1) := by decide +kernel
theorem d_Model_walk_80 : decode b_Model_walk 80 = .ok (.goto 4, 3) := by decide +kernel
theorem d_Model_walk_83 : decode b_Model_walk 83 = .ok (.iconst 0, 1) := by decide +kernel
theorem d_Model_walk_84 : decode b_Model_walk 84 = .ok (.istore_n 1, 1) := by decide +kernel
theorem d_Model_walk_85 : decode b_Model_walk 85 = .ok (.iload_n 1, 1) := by decide +kernel
theorem d_Model_walk_86 : decode b_Model_walk 86 = .ok (.ifCond .eq 8, 3) := by decide +kernel
theorem d_Model_walk_89 : decode b_Model_walk 89 = .ok (.aload_n 0, 1) := by decide +kernel
theorem d_Model_walk_90 : decode b_Model_walk 90 = .ok (.iload_n 2, 1) := by decide +kernel
theorem d_Model_walk_91 : decode b_Model_walk 91 = .ok (.invokevirtual 99, 3) := by decide +kernel
theorem d_Model_walk_94 : decode b_Model_walk 94 = .ok (.goto (-69), 3) := by decide +kernel
theorem d_Model_walk_97 : decode b_Model_walk 97 = .ok (.return_, 1) := by decide +kernel
theorem d_Model_goThrough_0 : decode b_Model_goThrough 0 = .ok (.aload_n 0, 1) := by decide +kernel
theorem d_Model_goThrough_1 : decode b_Model_goThrough 1 = .ok (.getfield 36, 3) := by decide +kernel
theorem d_Model_goThrough_4 : decode b_Model_goThrough 4 = .ok (.iload_n 1, 1) := by decide +kernel
theorem d_Model_goThrough_5 : decode b_Model_goThrough 5 = .ok (.baload, 1) := by decide +kernel
theorem d_Model_goThrough_6 : decode b_Model_goThrough 6 = .ok (.ifCond .ne 10, 3) := by decide +kernel
theorem d_Model_goThrough_9 : decode b_Model_goThrough 9 = .ok (.aload_n 0, 1) := by decide +kernel
theorem d_Model_goThrough_10 : decode b_Model_goThrough 10 = .ok (.getfield 68, 3) := by decide +kernel
theorem d_Model_goThrough_13 : decode b_Model_goThrough 13 = .ok (.ifCond .le 4, 3) := by decide +kernel
theorem d_Model_goThrough_16 : decode b_Model_goThrough 16 = .ok (.return_, 1) := by decide +kernel
theorem d_Model_goThrough_17 : decode b_Model_goThrough 17 = .ok (.aload_n 0, 1) := by decide +kernel
theorem d_Model_goThrough_18 : decode b_Model_goThrough 18 = .ok (.getfield 36, 3) := by decide +kernel
theorem d_Model_goThrough_21 : decode b_Model_goThrough 21 = .ok (.iload_n 1, 1) := by decide +kernel
theorem d_Model_goThrough_22 : decode b_Model_goThrough 22 = .ok (.iconst 1, 1) := by decide +kernel
theorem d_Model_goThrough_23 : decode b_Model_goThrough 23 = .ok (.bastore, 1) := by decide +kernel
theorem d_Model_goThrough_24 : decode b_Model_goThrough 24 = .ok (.aload_n 0, 1) := by decide +kernel
theorem d_Model_goThrough_25 : decode b_Model_goThrough 25 = .ok (.iload_n 1, 1) := by decide +kernel
theorem d_Model_goThrough_26 : decode b_Model_goThrough 26 = .ok (.invokevirtual 81, 3) := by decide +kernel
theorem d_Model_goThrough_29 : decode b_Model_goThrough 29 = .ok (.istore_n 2, 1) := by decide +kernel
theorem d_Model_goThrough_30 : decode b_Model_goThrough 30 = .ok (.aload_n 0, 1) := by decide +kernel
theorem d_Model_goThrough_31 : decode b_Model_goThrough 31 = .ok (.getfield 33, 3) := by decide +kernel
theorem d_Model_goThrough_34 : decode b_Model_goThrough 34 = .ok (.iload_n 1, 1) := by decide +kernel
theorem d_Model_goThrough_35 : decode b_Model_goThrough 35 = .ok (.iaload, 1) := by decide +kernel
theorem d_Model_goThrough_36 : decode b_Model_goThrough 36 = .ok (.iload_n 2, 1) := by decide +kernel
theorem d_Model_goThrough_37 : decode b_Model_goThrough 37 = .ok (.invokestatic 102, 3) := by decide +kernel
theorem d_Model_goThrough_40 : decode b_Model_goThrough 40 = .ok (.isub, 1) := by decide +kernel
theorem d_Model_goThrough_41 : decode b_Model_goThrough 41 = .ok (.istore_n 3, 1) := by decide +kernel
theorem d_Model_goThrough_42 : decode b_Model_goThrough 42 = .ok (.iload_n 3, 1) := by decide +kernel
theorem d_Model_goThrough_43 : decode b_Model_goThrough 43 = .ok (.ifCond .lt 14, 3) := by decide +kernel
theorem d_Model_goThrough_46 : decode b_Model_goThrough 46 = .ok (.iload_n 3, 1) := by decide +kernel
theorem d_Model_goThrough_47 : decode b_Model_goThrough 47 = .ok (.iload_n 2, 1) := by decide +kernel
theorem d_Model_goThrough_48 : decode b_Model_goThrough 48 = .ok (.invokestatic 105, 3) := by decide +kernel
theorem d_Model_goThrough_51 : decode b_Model_goThrough 51 = .ok (.iadd, 1) := by decide +kernel
theorem d_Model_goThrough_52 : decode b_Model_goThrough 52 = .ok (.bipush 8, 2) := by decide +kernel
theorem d_Model_goThrough_54 : decode b_Model_goThrough 54 = .ok (.if_icmp .le 11, 3) := by decide +kernel
theorem d_Model_goThrough_57 : decode b_Model_goThrough 57 = .ok (.aload_n 0, 1) := by decide +kernel
theorem d_Model_goThrough_58 : decode b_Model_goThrough 58 = .ok (.bipush 7, 2) := by decide +kernel
theorem d_Model_goThrough_60 : decode b_Model_goThrough 60 = .ok (.iload_n 1, 1) := by decide +kernel
theorem d_Model_goThrough_61 : decode b_Model_goThrough 61 = .ok (.invokevirtual 77, 3) := by decide +kernel
theorem d_Model_goThrough_64 : decode b_Model_goThrough 64 = .ok (.return_, 1) := by decide +kernel
theorem d_Model_goThrough_65 : decode b_Model_goThrough 65 = .ok (.iload_n 3, 1) := by decide +kernel
theorem d_Model_goThrough_66 : decode b_Model_goThrough 66 = .ok (.iload_n 2, 1) := by decide +kernel
theorem d_Model_goThrough_67 : decode b_Model_goThrough 67 = .ok (.invokestatic 105, 3) := by decide +kernel
theorem d_Model_goThrough_70 : decode b_Model_goThrough 70 = .ok (.iadd, 1) := by decide +kernel
theorem d_Model_goThrough_71 : decode b_Model_goThrough 71 = .ok (.istore_n 3, 1) := by decide +kernel
theorem d_Model_goThrough_72 : decode b_Model_goThrough 72 = .ok (.iload_n 1, 1) := by decide +kernel
theorem d_Model_goThrough_73 : decode b_Model_goThrough 73 = .ok (.iload_n 2, 1) := by decide +kernel
theorem d_Model_goThrough_74 : decode b_Model_goThrough 74 = .ok (.invokestatic 85, 3) := by decide +kernel
theorem d_Model_goThrough_77 : decode b_Model_goThrough 77 = .ok (.ifCond .eq 7, 3) := by decide +kernel
theorem d_Model_goThrough_80 : decode b_Model_goThrough 80 = .ok (.iconst 2, 1) := by decide +kernel
theorem d_Model_goThrough_81 : decode b_Model_goThrough 81 = .ok (.goto 4, 3) := by decide +kernel
theorem d_Model_goThrough_84 : decode b_Model_goThrough 84 = .ok (.iconst 1, 1) := by decide +kernel
theorem d_Model_goThrough_85 : decode b_Model_goThrough 85 = .ok (.iadd, 1) := by decide +kernel
theorem d_Model_goThrough_86 : decode b_Model_goThrough 86 = .ok (.istore 4, 2) := by decide +kernel
theorem d_Model_goThrough_88 : decode b_Model_goThrough 88 = .ok (.iload_n 2, 1) := by decide +kernel
theorem d_Model_goThrough_89 : decode b_Model_goThrough 89 = .ok (.bipush 22, 2) := by decide +kernel
theorem d_Model_goThrough_91 : decode b_Model_goThrough 91 = .ok (.if_icmp .lt 10, 3) := by decide +kernel
theorem d_Model_goThrough_94 : decode b_Model_goThrough 94 = .ok (.iload_n 2, 1) := by decide +kernel
theorem d_Model_goThrough_95 : decode b_Model_goThrough 95 = .ok (.bipush 24, 2) := by decide +kernel
theorem d_Model_goThrough_97 : decode b_Model_goThrough 97 = .ok (.if_icmp .gt 4, 3) := by decide +kernel
theorem d_Model_goThrough_100 : decode b_Model_goThrough 100 = .ok (.return_, 1) := by decide +kernel
theorem d_Model_goThrough_101 : decode b_Model_goThrough 101 = .ok (.iload_n 2, 1) := by decide +kernel
theorem d_Model_goThrough_102 : decode b_Model_goThrough 102 = .ok (.bipush 16, 2) := by decide +kernel
theorem d_Model_goThrough_104 : decode b_Model_goThrough 104 = .ok (.if_icmp .lt 9, 3) := by decide +kernel
theorem d_Model_goThrough_107 : decode b_Model_goThrough 107 = .ok (.iload_n 2, 1) := by decide +kernel
theorem d_Model_goThrough_108 : decode b_Model_goThrough 108 = .ok (.bipush 18, 2) := by decide +kernel
theorem d_Model_goThrough_110 : decode b_Model_goThrough 110 = .ok (.if_icmp .le 11, 3) := by decide +kernel
theorem d_Model_goThrough_113 : decode b_Model_goThrough 113 = .ok (.aload_n 0, 1) := by decide +kernel
theorem d_Model_goThrough_114 : decode b_Model_goThrough 114 = .ok (.iload 4, 2) := by decide +kernel
theorem d_Model_goThrough_116 : decode b_Model_goThrough 116 = .ok (.iload_n 3, 1) := by decide +kernel
theorem d_Model_goThrough_117 : decode b_Model_goThrough 117 = .ok (.invokevirtual 96, 3) := by decide +kernel
theorem d_Model_goThrough_120 : decode b_Model_goThrough 120 = .ok (.return_, 1) := by decide +kernel
theorem d_Model_goThrough_121 : decode b_Model_goThrough 121 = .ok (.aload_n 0, 1) := by decide +kernel
theorem d_Model_goThrough_122 : decode b_Model_goThrough 122 = .ok (.iload_n 1, 1) := by decide +kernel
theorem d_Model_goThrough_123 : decode b_Model_goThrough 123 = .ok (.iconst 1, 1) := by decide +kernel
theorem d_Model_goThrough_124 : decode b_Model_goThrough 124 = .ok (.iadd, 1) := by decide +kernel
theorem d_Model_goThrough_125 : decode b_Model_goThrough 125 = .ok (.invokevirtual 81, 3) := by decide +kernel
theorem d_Model_goThrough_128 : decode b_Model_goThrough 128 = .ok (.istore 5, 2) := by decide +kernel
theorem d_Model_goThrough_130 : decode b_Model_goThrough 130 = .ok (.iload_n 2, 1) := by decide +kernel
theorem d_Model_goThrough_131 : decode b_Model_goThrough 131 = .ok (.bipush 16, 2) := by decide +kernel
theorem d_Model_goThrough_133 : decode b_Model_goThrough 133 = .ok (.if_icmp .ne 11, 3) := by decide +kernel
theorem d_Model_goThrough_136 : decode b_Model_goThrough 136 = .ok (.aload_n 0, 1) := by decide +kernel
theorem d_Model_goThrough_137 : decode b_Model_goThrough 137 = .ok (.iload 5, 2) := by decide +kernel
theorem d_Model_goThrough_139 : decode b_Model_goThrough 139 = .ok (.iload_n 3, 1) := by decide +kernel
theorem d_Model_goThrough_140 : decode b_Model_goThrough 140 = .ok (.invokevirtual 96, 3) := by decide +kernel
theorem d_Model_goThrough_143 : decode b_Model_goThrough 143 = .ok (.return_, 1) := by decide +kernel
theorem d_Model_goThrough_144 : decode b_Model_goThrough 144 = .ok (.aload_n 0, 1) := by decide +kernel
theorem d_Model_goThrough_145 : decode b_Model_goThrough 145 = .ok (.iload 5, 2) := by decide +kernel
theorem d_Model_goThrough_147 : decode b_Model_goThrough 147 = .ok (.iload 4, 2) := by decide +kernel
theorem d_Model_goThrough_149 : decode b_Model_goThrough 149 = .ok (.if_icmp .ge 8, 3) := by decide +kernel
theorem d_Model_goThrough_152 : decode b_Model_goThrough 152 = .ok (.iload 5, 2) := by decide +kernel
theorem d_Model_goThrough_154 : decode b_Model_goThrough 154 = .ok (.goto 5, 3) := by decide +kernel
theorem d_Model_goThrough_157 : decode b_Model_goThrough 157 = .ok (.iload 4, 2) := by decide +kernel
theorem d_Model_goThrough_159 : decode b_Model_goThrough 159 = .ok (.iload_n 3, 1) := by decide +kernel
theorem d_Model_goThrough_160 : decode b_Model_goThrough 160 = .ok (.invokevirtual 96, 3) := by decide +kernel
theorem d_Model_goThrough_163 : decode b_Model_goThrough 163 = .ok (.aload_n 0, 1) := by decide +kernel
theorem d_Model_goThrough_164 : decode b_Model_goThrough 164 = .ok (.iload 5, 2) := by decide +kernel
theorem d_Model_goThrough_166 : decode b_Model_goThrough 166 = .ok (.iload 4, 2) := by decide +kernel
theorem d_Model_goThrough_168 : decode b_Model_goThrough 168 = .ok (.if_icmp .ge 8, 3) := by decide +kernel
theorem d_Model_goThrough_171 : decode b_Model_goThrough 171 = .ok (.iload 4, 2) := by decide +kernel
theorem d_Model_goThrough_173 : decode b_Model_goThrough 173 = .ok (.goto 5, 3) := by decide +kernel
theorem d_Model_goThrough_176 : decode b_Model_goThrough 176 = .ok (.iload 5, 2) := by decide +kernel
theorem d_Model_goThrough_178 : decode b_Model_goThrough 178 = .ok (.iload_n 3, 1) := by decide +kernel
theorem d_Model_goThrough_179 : decode b_Model_goThrough 179 = .ok (.invokevirtual 96, 3) := by decide +kernel
theorem d_Model_goThrough_182 : decode b_Model_goThrough 182 = .ok (.return_, 1) := by decide +kernel
theorem d_Model_load_0 : decode b_Model_load 0 = .ok (.iload_n 1, 1) := by decide +kernel
theorem d_Model_load_1 : decode b_Model_load 1 = .ok (.ifCond .lt 16, 3) := by decide +kernel
theorem d_Model_load_4 : decode b_Model_load 4 = .ok (.iload_n 1, 1) := by decide +kernel
theorem d_Model_load_5 : decode b_Model_load 5 = .ok (.bipush 8, 2) := by decide +kernel
theorem d_Model_load_7 : decode b_Model_load 7 = .ok (.if_icmp .ge 10, 3) := by decide +kernel
theorem d_Model_load_10 : decode b_Model_load 10 = .ok (.aload_n 0, 1) := by decide +kernel
theorem d_Model_load_11 : decode b_Model_load 11 = .ok (.getfield 108, 3) := by decide +kernel
theorem d_Model_load_14 : decode b_Model_load 14 = .ok (.ifCond .eq 5, 3) := by decide +kernel
theorem d_Model_load_17 : decode b_Model_load 17 = .ok (.iconst (-1), 1) := by decide +kernel
theorem d_Model_load_18 : decode b_Model_load 18 = .ok (.ireturn, 1) := by decide +kernel
theorem d_Model_load_19 : decode b_Model_load 19 = .ok (.aload_n 0, 1) := by decide +kernel
theorem d_Model_load_20 : decode b_Model_load 20 = .ok (.invokevirtual 112, 3) := by decide +kernel
theorem d_Model_load_23 : decode b_Model_load 23 = .ok (.istore_n 2, 1) := by decide +kernel
theorem d_Model_load_24 : decode b_Model_load 24 = .ok (.aload_n 0, 1) := by decide +kernel
theorem d_Model_load_25 : decode b_Model_load 25 = .ok (.iconst 0, 1) := by decide +kernel
theorem d_Model_load_26 : decode b_Model_load 26 = .ok (.putfield 60, 3) := by decide +kernel
theorem d_Model_load_29 : decode b_Model_load 29 = .ok (.aload_n 0, 1) := by decide +kernel
theorem d_Model_load_30 : decode b_Model_load 30 = .ok (.getfield 68, 3) := by decide +kernel
theorem d_Model_load_33 : decode b_Model_load 33 = .ok (.ifCond .le 17, 3) := by decide +kernel
theorem d_Model_load_36 : decode b_Model_load 36 = .ok (.sipush (-1000), 3) := by decide +kernel
theorem d_Model_load_39 : decode b_Model_load 39 = .ok (.aload_n 0, 1) := by decide +kernel
theorem d_Model_load_40 : decode b_Model_load 40 = .ok (.getfield 68, 3) := by decide +kernel
theorem d_Model_load_43 : decode b_Model_load 43 = .ok (.imul, 1) := by decide +kernel
theorem d_Model_load_44 : decode b_Model_load 44 = .ok (.aload_n 0, 1) := by decide +kernel
theorem d_Model_load_45 : decode b_Model_load 45 = .ok (.getfield 71, 3) := by decide +kernel
theorem d_Model_load_48 : decode b_Model_load 48 = .ok (.isub, 1) := by decide +kernel
theorem d_Model_load_49 : decode b_Model_load 49 = .ok (.ireturn, 1) := by decide +kernel
theorem d_Model_load_50 : decode b_Model_load 50 = .ok (.aload_n 0, 1) := by decide +kernel
theorem d_Model_load_51 : decode b_Model_load 51 = .ok (.getfield 16, 3) := by decide +kernel
theorem d_Model_load_54 : decode b_Model_load 54 = .ok (.iload_n 1, 1) := by decide +kernel
theorem d_Model_load_55 : decode b_Model_load 55 = .ok (.aload_n 0, 1) := by decide +kernel
theorem d_Model_load_56 : decode b_Model_load 56 = .ok (.getfield 74, 3) := by decide +kernel
theorem d_Model_load_59 : decode b_Model_load 59 = .ok (.iastore, 1) := by decide +kernel
theorem d_Model_load_60 : decode b_Model_load 60 = .ok (.iconst 0, 1) := by decide +kernel
theorem d_Model_load_61 : decode b_Model_load 61 = .ok (.istore_n 3, 1) := by decide +kernel
theorem d_Model_load_62 : decode b_Model_load 62 = .ok (.iload_n 3, 1) := by decide +kernel
theorem d_Model_load_63 : decode b_Model_load 63 = .ok (.aload_n 0, 1) := by decide +kernel
theorem d_Model_load_64 : decode b_Model_load 64 = .ok (.getfield 74, 3) := by decide +kernel
theorem d_Model_load_67 : decode b_Model_load 67 = .ok (.if_icmp .ge 45, 3) := by decide +kernel
theorem d_Model_load_70 : decode b_Model_load 70 = .ok (.aload_n 0, 1) := by decide +kernel
theorem d_Model_load_71 : decode b_Model_load 71 = .ok (.getfield 13, 3) := by decide +kernel
theorem d_Model_load_74 : decode b_Model_load 74 = .ok (.iload_n 1, 1) := by decide +kernel
theorem d_Model_load_75 : decode b_Model_load 75 = .ok (.sipush 256, 3) := by decide +kernel
theorem d_Model_load_78 : decode b_Model_load 78 = .ok (.imul, 1) := by decide +kernel
theorem d_Model_load_79 : decode b_Model_load 79 = .ok (.iload_n 3, 1) := by decide +kernel
theorem d_Model_load_80 : decode b_Model_load 80 = .ok (.iadd, 1) := by decide +kernel
theorem d_Model_load_81 : decode b_Model_load 81 = .ok (.aload_n 0, 1) := by decide +kernel
theorem d_Model_load_82 : decode b_Model_load 82 = .ok (.getfield 7, 3) := by decide +kernel
theorem d_Model_load_85 : decode b_Model_load 85 = .ok (.iload_n 3, 1) := by decide +kernel
theorem d_Model_load_86 : decode b_Model_load 86 = .ok (.baload, 1) := by decide +kernel
theorem d_Model_load_87 : decode b_Model_load 87 = .ok (.bastore, 1) := by decide +kernel
theorem d_Model_load_88 : decode b_Model_load 88 = .ok (.aload_n 0, 1) := by decide +kernel
theorem d_Model_load_89 : decode b_Model_load 89 = .ok (.getfield 20, 3) := by decide +kernel
theorem d_Model_load_92 : decode b_Model_load 92 = .ok (.iload_n 1, 1) := by decide +kernel
theorem d_Model_load_93 : decode b_Model_load 93 = .ok (.sipush 256, 3) := by decide +kernel
theorem d_Model_load_96 : decode b_Model_load 96 = .ok (.imul, 1) := by decide +kernel
theorem d_Model_load_97 : decode b_Model_load 97 = .ok (.iload_n 3, 1) := by decide +kernel
theorem d_Model_load_98 : decode b_Model_load 98 = .ok (.iadd, 1) := by decide +kernel
theorem d_Model_load_99 : decode b_Model_load 99 = .ok (.aload_n 0, 1) := by decide +kernel
theorem d_Model_load_100 : decode b_Model_load 100 = .ok (.getfield 33, 3) := by decide +kernel
theorem d_Model_load_103 : decode b_Model_load 103 = .ok (.iload_n 3, 1) := by decide +kernel
theorem d_Model_load_104 : decode b_Model_load 104 = .ok (.iaload, 1) := by decide +kernel
theorem d_Model_load_105 : decode b_Model_load 105 = .ok (.iastore, 1) := by decide +kernel
theorem d_Model_load_106 : decode b_Model_load 106 = .ok (.iinc 3 1, 3) := by decide +kernel
theorem d_Model_load_109 : decode b_Model_load 109 = .ok (.goto (-47), 3) := by decide +kernel
theorem d_Model_load_112 : decode b_Model_load 112 = .ok (.iconst 0, 1) := by decide +kernel
theorem d_Model_load_113 : decode b_Model_load 113 = .ok (.istore_n 3, 1) := by decide +kernel
theorem d_Model_load_114 : decode b_Model_load 114 = .ok (.iload_n 3, 1) := by decide +kernel
theorem d_Model_load_115 : decode b_Model_load 115 = .ok (.bipush 16, 2) := by decide +kernel
theorem d_Model_load_117 : decode b_Model_load 117 = .ok (.if_icmp .ge 21, 3) := by decide +kernel
theorem d_Model_load_120 : decode b_Model_load 120 = .ok (.aload_n 0, 1) := by decide +kernel
theorem d_Model_load_121 : decode b_Model_load 121 = .ok (.getfield 23, 3) := by decide +kernel
theorem d_Model_load_124 : decode b_Model_load 124 = .ok (.iload_n 1, 1) := by decide +kernel
theorem d_Model_load_125 : decode b_Model_load 125 = .ok (.bipush 16, 2) := by decide +kernel
theorem d_Model_load_127 : decode b_Model_load 127 = .ok (.imul, 1) := by decide +kernel
theorem d_Model_load_128 : decode b_Model_load 128 = .ok (.iload_n 3, 1) := by decide +kernel
theorem d_Model_load_129 : decode b_Model_load 129 = .ok (.iadd, 1) := by decide +kernel
theorem d_Model_load_130 : decode b_Model_load 130 = .ok (.iconst 0, 1) := by decide +kernel
theorem d_Model_load_131 : decode b_Model_load 131 = .ok (.iastore, 1) := by decide +kernel
theorem d_Model_load_132 : decode b_Model_load 132 = .ok (.iinc 3 1, 3) := by decide +kernel
theorem d_Model_load_135 : decode b_Model_load 135 = .ok (.goto (-21), 3) := by decide +kernel
theorem d_Model_load_138 : decode b_Model_load 138 = .ok (.iload_n 2, 1) := by decide +kernel
theorem d_Model_load_139 : decode b_Model_load 139 = .ok (.ireturn, 1) := by decide +kernel
theorem d_Model_begin_0 : decode b_Model_begin 0 = .ok (.iload_n 1, 1) := by decide +kernel
theorem d_Model_begin_1 : decode b_Model_begin 1 = .ok (.ifCond .lt 27, 3) := by decide +kernel
theorem d_Model_begin_4 : decode b_Model_begin 4 = .ok (.iload_n 1, 1) := by decide +kernel
theorem d_Model_begin_5 : decode b_Model_begin 5 = .ok (.bipush 8, 2) := by decide +kernel
theorem d_Model_begin_7 : decode b_Model_begin 7 = .ok (.if_icmp .ge 21, 3) := by decide +kernel
theorem d_Model_begin_10 : decode b_Model_begin 10 = .ok (.aload_n 0, 1) := by decide +kernel
theorem d_Model_begin_11 : decode b_Model_begin 11 = .ok (.getfield 16, 3) := by decide +kernel
theorem d_Model_begin_14 : decode b_Model_begin 14 = .ok (.iload_n 1, 1) := by decide +kernel
theorem d_Model_begin_15 : decode b_Model_begin 15 = .ok (.iaload, 1) := by decide +kernel
theorem d_Model_begin_16 : decode b_Model_begin 16 = .ok (.ifCond .eq 12, 3) := by decide +kernel
theorem d_Model_begin_19 : decode b_Model_begin 19 = .ok (.iload_n 2, 1) := by decide +kernel
theorem d_Model_begin_20 : decode b_Model_begin 20 = .ok (.ifCond .lt 8, 3) := by decide +kernel
theorem d_Model_begin_23 : decode b_Model_begin 23 = .ok (.iload_n 2, 1) := by decide +kernel
theorem d_Model_begin_24 : decode b_Model_begin 24 = .ok (.iconst 2, 1) := by decide +kernel
theorem d_Model_begin_25 : decode b_Model_begin 25 = .ok (.if_icmp .le 5, 3) := by decide +kernel
theorem d_Model_begin_28 : decode b_Model_begin 28 = .ok (.iconst (-1), 1) := by decide +kernel
theorem d_Model_begin_29 : decode b_Model_begin 29 = .ok (.ireturn, 1) := by decide +kernel
theorem d_Model_begin_30 : decode b_Model_begin 30 = .ok (.aload_n 0, 1) := by decide +kernel
theorem d_Model_begin_31 : decode b_Model_begin 31 = .ok (.getfield 108, 3) := by decide +kernel
theorem d_Model_begin_34 : decode b_Model_begin 34 = .ok (.ifCond .eq 7, 3) := by decide +kernel
theorem d_Model_begin_37 : decode b_Model_begin 37 = .ok (.aload_n 0, 1) := by decide +kernel
theorem d_Model_begin_38 : decode b_Model_begin 38 = .ok (.invokevirtual 116, 3) := by decide +kernel
theorem d_Model_begin_41 : decode b_Model_begin 41 = .ok (.iconst 0, 1) := by decide +kernel
theorem d_Model_begin_42 : decode b_Model_begin 42 = .ok (.istore_n 3, 1) := by decide +kernel
theorem d_Model_begin_43 : decode b_Model_begin 43 = .ok (.iload_n 3, 1) := by decide +kernel
theorem d_Model_begin_44 : decode b_Model_begin 44 = .ok (.sipush 128, 3) := by decide +kernel
theorem d_Model_begin_47 : decode b_Model_begin 47 = .ok (.if_icmp .ge 21, 3) := by decide +kernel
theorem d_Model_begin_50 : decode b_Model_begin 50 = .ok (.aload_n 0, 1) := by decide +kernel
theorem d_Model_begin_51 : decode b_Model_begin 51 = .ok (.getfield 26, 3) := by decide +kernel
theorem d_Model_begin_54 : decode b_Model_begin 54 = .ok (.iload_n 3, 1) := by decide +kernel
theorem d_Model_begin_55 : decode b_Model_begin 55 = .ok (.aload_n 0, 1) := by decide +kernel
theorem d_Model_begin_56 : decode b_Model_begin 56 = .ok (.getfield 23, 3) := by decide +kernel
theorem d_Model_begin_59 : decode b_Model_begin 59 = .ok (.iload_n 3, 1) := by decide +kernel
theorem d_Model_begin_60 : decode b_Model_begin 60 = .ok (.iaload, 1) := by decide +kernel
theorem d_Model_begin_61 : decode b_Model_begin 61 = .ok (.iastore, 1) := by decide +kernel
theorem d_Model_begin_62 : decode b_Model_begin 62 = .ok (.iinc 3 1, 3) := by decide +kernel
theorem d_Model_begin_65 : decode b_Model_begin 65 = .ok (.goto (-22), 3) := by decide +kernel
theorem d_Model_begin_68 : decode b_Model_begin 68 = .ok (.aload_n 0, 1) := by decide +kernel
theorem d_Model_begin_69 : decode b_Model_begin 69 = .ok (.aload_n 0, 1) := by decide +kernel
theorem d_Model_begin_70 : decode b_Model_begin 70 = .ok (.getfield 60, 3) := by decide +kernel
theorem d_Model_begin_73 : decode b_Model_begin 73 = .ok (.putfield 119, 3) := by decide +kernel
theorem d_Model_begin_76 : decode b_Model_begin 76 = .ok (.iconst 0, 1) := by decide +kernel
theorem d_Model_begin_77 : decode b_Model_begin 77 = .ok (.istore_n 3, 1) := by decide +kernel
theorem d_Model_begin_78 : decode b_Model_begin 78 = .ok (.iload_n 3, 1) := by decide +kernel
theorem d_Model_begin_79 : decode b_Model_begin 79 = .ok (.aload_n 0, 1) := by decide +kernel
theorem d_Model_begin_80 : decode b_Model_begin 80 = .ok (.getfield 60, 3) := by decide +kernel
theorem d_Model_begin_83 : decode b_Model_begin 83 = .ok (.if_icmp .ge 21, 3) := by decide +kernel
theorem d_Model_begin_86 : decode b_Model_begin 86 = .ok (.aload_n 0, 1) := by decide +kernel
theorem d_Model_begin_87 : decode b_Model_begin 87 = .ok (.getfield 54, 3) := by decide +kernel
theorem d_Model_begin_90 : decode b_Model_begin 90 = .ok (.iload_n 3, 1) := by decide +kernel
theorem d_Model_begin_91 : decode b_Model_begin 91 = .ok (.aload_n 0, 1) := by decide +kernel
theorem d_Model_begin_92 : decode b_Model_begin 92 = .ok (.getfield 7, 3) := by decide +kernel
theorem d_Model_begin_95 : decode b_Model_begin 95 = .ok (.iload_n 3, 1) := by decide +kernel
theorem d_Model_begin_96 : decode b_Model_begin 96 = .ok (.baload, 1) := by decide +kernel
theorem d_Model_begin_97 : decode b_Model_begin 97 = .ok (.bastore, 1) := by decide +kernel
theorem d_Model_begin_98 : decode b_Model_begin 98 = .ok (.iinc 3 1, 3) := by decide +kernel
theorem d_Model_begin_101 : decode b_Model_begin 101 = .ok (.goto (-23), 3) := by decide +kernel
theorem d_Model_begin_104 : decode b_Model_begin 104 = .ok (.aload_n 0, 1) := by decide +kernel
theorem d_Model_begin_105 : decode b_Model_begin 105 = .ok (.iconst 0, 1) := by decide +kernel
theorem d_Model_begin_106 : decode b_Model_begin 106 = .ok (.putfield 60, 3) := by decide +kernel
theorem d_Model_begin_109 : decode b_Model_begin 109 = .ok (.aload_n 0, 1) := by decide +kernel
theorem d_Model_begin_110 : decode b_Model_begin 110 = .ok (.iconst 0, 1) := by decide +kernel
theorem d_Model_begin_111 : decode b_Model_begin 111 = .ok (.putfield 122, 3) := by decide +kernel
theorem d_Model_begin_114 : decode b_Model_begin 114 = .ok (.aload_n 0, 1) := by decide +kernel
theorem d_Model_begin_115 : decode b_Model_begin 115 = .ok (.iconst 1, 1) := by decide +kernel
theorem d_Model_begin_116 : decode b_Model_begin 116 = .ok (.putfield 125, 3) := by decide +kernel
theorem d_Model_begin_119 : decode b_Model_begin 119 = .ok (.aload_n 0, 1) := by decide +kernel
theorem d_Model_begin_120 : decode b_Model_begin 120 = .ok (.iconst 1, 1) := by decide +kernel
theorem d_Model_begin_121 : decode b_Model_begin 121 = .ok (.putfield 108, 3) := by decide +kernel
theorem d_Model_begin_124 : decode b_Model_begin 124 = .ok (.aload_n 0, 1) := by decide +kernel
theorem d_Model_begin_125 : decode b_Model_begin 125 = .ok (.iconst 0, 1) := by decide +kernel
theorem d_Model_begin_126 : decode b_Model_begin 126 = .ok (.putfield 128, 3) := by decide +kernel
theorem d_Model_begin_129 : decode b_Model_begin 129 = .ok (.aload_n 0, 1) := by decide +kernel
theorem d_Model_begin_130 : decode b_Model_begin 130 = .ok (.iconst 0, 1) := by decide +kernel
theorem d_Model_begin_131 : decode b_Model_begin 131 = .ok (.putfield 131, 3) := by decide +kernel
theorem d_Model_begin_134 : decode b_Model_begin 134 = .ok (.aload_n 0, 1) := by decide +kernel
theorem d_Model_begin_135 : decode b_Model_begin 135 = .ok (.iconst 0, 1) := by decide +kernel
theorem d_Model_begin_136 : decode b_Model_begin 136 = .ok (.putfield 134, 3) := by decide +kernel
theorem d_Model_begin_139 : decode b_Model_begin 139 = .ok (.aload_n 0, 1) := by decide +kernel
theorem d_Model_begin_140 : decode b_Model_begin 140 = .ok (.iconst 0, 1) := by decide +kernel
theorem d_Model_begin_141 : decode b_Model_begin 141 = .ok (.putfield 137, 3) := by decide +kernel
theorem d_Model_begin_144 : decode b_Model_begin 144 = .ok (.aload_n 0, 1) := by decide +kernel
theorem d_Model_begin_145 : decode b_Model_begin 145 = .ok (.iconst 0, 1) := by decide +kernel
theorem d_Model_begin_146 : decode b_Model_begin 146 = .ok (.putfield 140, 3) := by decide +kernel
theorem d_Model_begin_149 : decode b_Model_begin 149 = .ok (.aload_n 0, 1) := by decide +kernel
theorem d_Model_begin_150 : decode b_Model_begin 150 = .ok (.iload_n 1, 1) := by decide +kernel
theorem d_Model_begin_151 : decode b_Model_begin 151 = .ok (.iload_n 2, 1) := by decide +kernel
theorem d_Model_begin_152 : decode b_Model_begin 152 = .ok (.invokevirtual 143, 3) := by decide +kernel
theorem d_Model_begin_155 : decode b_Model_begin 155 = .ok (.iconst 1, 1) := by decide +kernel
theorem d_Model_begin_156 : decode b_Model_begin 156 = .ok (.ireturn, 1) := by decide +kernel
theorem d_Model_enter_0 : decode b_Model_enter 0 = .ok (.aload_n 0, 1) := by decide +kernel
theorem d_Model_enter_1 : decode b_Model_enter 1 = .ok (.getfield 39, 3) := by decide +kernel
theorem d_Model_enter_4 : decode b_Model_enter 4 = .ok (.aload_n 0, 1) := by decide +kernel
theorem d_Model_enter_5 : decode b_Model_enter 5 = .ok (.getfield 140, 3) := by decide +kernel
theorem d_Model_enter_8 : decode b_Model_enter 8 = .ok (.iload_n 1, 1) := by decide +kernel
theorem d_Model_enter_9 : decode b_Model_enter 9 = .ok (.iastore, 1) := by decide +kernel
theorem d_Model_enter_10 : decode b_Model_enter 10 = .ok (.aload_n 0, 1) := by decide +kernel
theorem d_Model_enter_11 : decode b_Model_enter 11 = .ok (.getfield 42, 3) := by decide +kernel
theorem d_Model_enter_14 : decode b_Model_enter 14 = .ok (.aload_n 0, 1) := by decide +kernel
theorem d_Model_enter_15 : decode b_Model_enter 15 = .ok (.getfield 140, 3) := by decide +kernel
theorem d_Model_enter_18 : decode b_Model_enter 18 = .ok (.aload_n 0, 1) := by decide +kernel
theorem d_Model_enter_19 : decode b_Model_enter 19 = .ok (.getfield 13, 3) := by decide +kernel
theorem d_Model_enter_22 : decode b_Model_enter 22 = .ok (.iload_n 1, 1) := by decide +kernel
theorem d_Model_enter_23 : decode b_Model_enter 23 = .ok (.sipush 256, 3) := by decide +kernel
theorem d_Model_enter_26 : decode b_Model_enter 26 = .ok (.imul, 1) := by decide +kernel
theorem d_Model_enter_27 : decode b_Model_enter 27 = .ok (.iload_n 2, 1) := by decide +kernel
theorem d_Model_enter_28 : decode b_Model_enter 28 = .ok (.iadd, 1) := by decide +kernel
theorem d_Model_enter_29 : decode b_Model_enter 29 = .ok (.baload, 1) := by decide +kernel
theorem d_Model_enter_30 : decode b_Model_enter 30 = .ok (.sipush 255, 3) := by decide +kernel
theorem d_Model_enter_33 : decode b_Model_enter 33 = .ok (.iand, 1) := by decide +kernel
theorem d_Model_enter_34 : decode b_Model_enter 34 = .ok (.iastore, 1) := by decide +kernel
theorem d_Model_enter_35 : decode b_Model_enter 35 = .ok (.aload_n 0, 1) := by decide +kernel
theorem d_Model_enter_36 : decode b_Model_enter 36 = .ok (.getfield 45, 3) := by decide +kernel
theorem d_Model_enter_39 : decode b_Model_enter 39 = .ok (.aload_n 0, 1) := by decide +kernel
theorem d_Model_enter_40 : decode b_Model_enter 40 = .ok (.getfield 140, 3) := by decide +kernel
theorem d_Model_enter_43 : decode b_Model_enter 43 = .ok (.iconst 0, 1) := by decide +kernel
theorem d_Model_enter_44 : decode b_Model_enter 44 = .ok (.iastore, 1) := by decide +kernel
theorem d_Model_enter_45 : decode b_Model_enter 45 = .ok (.iconst 0, 1) := by decide +kernel
theorem d_Model_enter_46 : decode b_Model_enter 46 = .ok (.istore_n 3, 1) := by decide +kernel
theorem d_Model_enter_47 : decode b_Model_enter 47 = .ok (.iload_n 3, 1) := by decide +kernel
theorem d_Model_enter_48 : decode b_Model_enter 48 = .ok (.bipush 8, 2) := by decide +kernel
theorem d_Model_enter_50 : decode b_Model_enter 50 = .ok (.if_icmp .ge 39, 3) := by decide +kernel
theorem d_Model_enter_53 : decode b_Model_enter 53 = .ok (.aload_n 0, 1) := by decide +kernel
theorem d_Model_enter_54 : decode b_Model_enter 54 = .ok (.getfield 48, 3) := by decide +kernel
theorem d_Model_enter_57 : decode b_Model_enter 57 = .ok (.bipush 8, 2) := by decide +kernel
theorem d_Model_enter_59 : decode b_Model_enter 59 = .ok (.aload_n 0, 1) := by decide +kernel
theorem d_Model_enter_60 : decode b_Model_enter 60 = .ok (.getfield 140, 3) := by decide +kernel
theorem d_Model_enter_63 : decode b_Model_enter 63 = .ok (.imul, 1) := by decide +kernel
theorem d_Model_enter_64 : decode b_Model_enter 64 = .ok (.iload_n 3, 1) := by decide +kernel
theorem d_Model_enter_65 : decode b_Model_enter 65 = .ok (.iadd, 1) := by decide +kernel
theorem d_Model_enter_66 : decode b_Model_enter 66 = .ok (.iconst 0, 1) := by decide +kernel
theorem d_Model_enter_67 : decode b_Model_enter 67 = .ok (.iastore, 1) := by decide +kernel
theorem d_Model_enter_68 : decode b_Model_enter 68 = .ok (.aload_n 0, 1) := by decide +kernel
theorem d_Model_enter_69 : decode b_Model_enter 69 = .ok (.getfield 51, 3) := by decide +kernel
theorem d_Model_enter_72 : decode b_Model_enter 72 = .ok (.bipush 8, 2) := by decide +kernel
theorem d_Model_enter_74 : decode b_Model_enter 74 = .ok (.aload_n 0, 1) := by decide +kernel
theorem d_Model_enter_75 : decode b_Model_enter 75 = .ok (.getfield 140, 3) := by decide +kernel
theorem d_Model_enter_78 : decode b_Model_enter 78 = .ok (.imul, 1) := by decide +kernel
theorem d_Model_enter_79 : decode b_Model_enter 79 = .ok (.iload_n 3, 1) := by decide +kernel
theorem d_Model_enter_80 : decode b_Model_enter 80 = .ok (.iadd, 1) := by decide +kernel
theorem d_Model_enter_81 : decode b_Model_enter 81 = .ok (.iconst 0, 1) := by decide +kernel
theorem d_Model_enter_82 : decode b_Model_enter 82 = .ok (.iastore, 1) := by decide +kernel
theorem d_Model_enter_83 : decode b_Model_enter 83 = .ok (.iinc 3 1, 3) := by decide +kernel
theorem d_Model_enter_86 : decode b_Model_enter 86 = .ok (.goto (-39), 3) := by decide +kernel
theorem d_Model_enter_89 : decode b_Model_enter 89 = .ok (.aload_n 0, 1) := by decide +kernel
theorem d_Model_enter_90 : decode b_Model_enter 90 = .ok (.dup, 1) := by decide +kernel
theorem d_Model_enter_91 : decode b_Model_enter 91 = .ok (.getfield 140, 3) := by decide +kernel
theorem d_Model_enter_94 : decode b_Model_enter 94 = .ok (.iconst 1, 1) := by decide +kernel
theorem d_Model_enter_95 : decode b_Model_enter 95 = .ok (.iadd, 1) := by decide +kernel
theorem d_Model_enter_96 : decode b_Model_enter 96 = .ok (.putfield 140, 3) := by decide +kernel
theorem d_Model_enter_99 : decode b_Model_enter 99 = .ok (.return_, 1) := by decide +kernel
theorem d_Model_undo_0 : decode b_Model_undo 0 = .ok (.iconst 0, 1) := by decide +kernel
theorem d_Model_undo_1 : decode b_Model_undo 1 = .ok (.istore_n 1, 1) := by decide +kernel
theorem d_Model_undo_2 : decode b_Model_undo 2 = .ok (.iload_n 1, 1) := by decide +kernel
theorem d_Model_undo_3 : decode b_Model_undo 3 = .ok (.sipush 128, 3) := by decide +kernel
theorem d_Model_undo_6 : decode b_Model_undo 6 = .ok (.if_icmp .ge 21, 3) := by decide +kernel
theorem d_Model_undo_9 : decode b_Model_undo 9 = .ok (.aload_n 0, 1) := by decide +kernel
theorem d_Model_undo_10 : decode b_Model_undo 10 = .ok (.getfield 23, 3) := by decide +kernel
theorem d_Model_undo_13 : decode b_Model_undo 13 = .ok (.iload_n 1, 1) := by decide +kernel
theorem d_Model_undo_14 : decode b_Model_undo 14 = .ok (.aload_n 0, 1) := by decide +kernel
theorem d_Model_undo_15 : decode b_Model_undo 15 = .ok (.getfield 26, 3) := by decide +kernel
theorem d_Model_undo_18 : decode b_Model_undo 18 = .ok (.iload_n 1, 1) := by decide +kernel
theorem d_Model_undo_19 : decode b_Model_undo 19 = .ok (.iaload, 1) := by decide +kernel
theorem d_Model_undo_20 : decode b_Model_undo 20 = .ok (.iastore, 1) := by decide +kernel
theorem d_Model_undo_21 : decode b_Model_undo 21 = .ok (.iinc 1 1, 3) := by decide +kernel
theorem d_Model_undo_24 : decode b_Model_undo 24 = .ok (.goto (-22), 3) := by decide +kernel
theorem d_Model_undo_27 : decode b_Model_undo 27 = .ok (.return_, 1) := by decide +kernel
theorem d_Model_throwFor_0 : decode b_Model_throwFor 0 = .ok (.aload_n 0, 1) := by decide +kernel
theorem d_Model_throwFor_1 : decode b_Model_throwFor 1 = .ok (.invokevirtual 116, 3) := by decide +kernel
theorem d_Model_throwFor_4 : decode b_Model_throwFor 4 = .ok (.aload_n 0, 1) := by decide +kernel
theorem d_Model_throwFor_5 : decode b_Model_throwFor 5 = .ok (.iconst 0, 1) := by decide +kernel
theorem d_Model_throwFor_6 : decode b_Model_throwFor 6 = .ok (.putfield 108, 3) := by decide +kernel
theorem d_Model_throwFor_9 : decode b_Model_throwFor 9 = .ok (.aload_n 0, 1) := by decide +kernel
theorem d_Model_throwFor_10 : decode b_Model_throwFor 10 = .ok (.iconst 1, 1) := by decide +kernel
theorem d_Model_throwFor_11 : decode b_Model_throwFor 11 = .ok (.putfield 128, 3) := by decide +kernel
theorem d_Model_throwFor_14 : decode b_Model_throwFor 14 = .ok (.aload_n 0, 1) := by decide +kernel
theorem d_Model_throwFor_15 : decode b_Model_throwFor 15 = .ok (.iload_n 1, 1) := by decide +kernel
theorem d_Model_throwFor_16 : decode b_Model_throwFor 16 = .ok (.putfield 134, 3) := by decide +kernel
theorem d_Model_throwFor_19 : decode b_Model_throwFor 19 = .ok (.return_, 1) := by decide +kernel
theorem d_Model_push_0 : decode b_Model_push 0 = .ok (.aload_n 0, 1) := by decide +kernel
theorem d_Model_push_1 : decode b_Model_push 1 = .ok (.getfield 140, 3) := by decide +kernel
theorem d_Model_push_4 : decode b_Model_push 4 = .ok (.iconst 1, 1) := by decide +kernel
theorem d_Model_push_5 : decode b_Model_push 5 = .ok (.isub, 1) := by decide +kernel
theorem d_Model_push_6 : decode b_Model_push 6 = .ok (.istore_n 2, 1) := by decide +kernel
theorem d_Model_push_7 : decode b_Model_push 7 = .ok (.aload_n 0, 1) := by decide +kernel
theorem d_Model_push_8 : decode b_Model_push 8 = .ok (.getfield 48, 3) := by decide +kernel
theorem d_Model_push_11 : decode b_Model_push 11 = .ok (.bipush 8, 2) := by decide +kernel
theorem d_Model_push_13 : decode b_Model_push 13 = .ok (.iload_n 2, 1) := by decide +kernel
theorem d_Model_push_14 : decode b_Model_push 14 = .ok (.imul, 1) := by decide +kernel
theorem d_Model_push_15 : decode b_Model_push 15 = .ok (.aload_n 0, 1) := by decide +kernel
theorem d_Model_push_16 : decode b_Model_push 16 = .ok (.getfield 45, 3) := by decide +kernel
theorem d_Model_push_19 : decode b_Model_push 19 = .ok (.iload_n 2, 1) := by decide +kernel
theorem d_Model_push_20 : decode b_Model_push 20 = .ok (.iaload, 1) := by decide +kernel
theorem d_Model_push_21 : decode b_Model_push 21 = .ok (.iadd, 1) := by decide +kernel
theorem d_Model_push_22 : decode b_Model_push 22 = .ok (.iload_n 1, 1) := by decide +kernel
theorem d_Model_push_23 : decode b_Model_push 23 = .ok (.iastore, 1) := by decide +kernel
theorem d_Model_push_24 : decode b_Model_push 24 = .ok (.aload_n 0, 1) := by decide +kernel
theorem d_Model_push_25 : decode b_Model_push 25 = .ok (.getfield 45, 3) := by decide +kernel
theorem d_Model_push_28 : decode b_Model_push 28 = .ok (.iload_n 2, 1) := by decide +kernel
theorem d_Model_push_29 : decode b_Model_push 29 = .ok (.dup2, 1) := by decide +kernel
theorem d_Model_push_30 : decode b_Model_push 30 = .ok (.iaload, 1) := by decide +kernel
theorem d_Model_push_31 : decode b_Model_push 31 = .ok (.iconst 1, 1) := by decide +kernel
theorem d_Model_push_32 : decode b_Model_push 32 = .ok (.iadd, 1) := by decide +kernel
theorem d_Model_push_33 : decode b_Model_push 33 = .ok (.iastore, 1) := by decide +kernel
theorem d_Model_push_34 : decode b_Model_push 34 = .ok (.return_, 1) := by decide +kernel
theorem d_Model_pop_0 : decode b_Model_pop 0 = .ok (.aload_n 0, 1) := by decide +kernel
theorem d_Model_pop_1 : decode b_Model_pop 1 = .ok (.getfield 140, 3) := by decide +kernel
theorem d_Model_pop_4 : decode b_Model_pop 4 = .ok (.iconst 1, 1) := by decide +kernel
theorem d_Model_pop_5 : decode b_Model_pop 5 = .ok (.isub, 1) := by decide +kernel
theorem d_Model_pop_6 : decode b_Model_pop 6 = .ok (.istore_n 1, 1) := by decide +kernel
theorem d_Model_pop_7 : decode b_Model_pop 7 = .ok (.aload_n 0, 1) := by decide +kernel
theorem d_Model_pop_8 : decode b_Model_pop 8 = .ok (.getfield 45, 3) := by decide +kernel
theorem d_Model_pop_11 : decode b_Model_pop 11 = .ok (.iload_n 1, 1) := by decide +kernel
theorem d_Model_pop_12 : decode b_Model_pop 12 = .ok (.dup2, 1) := by decide +kernel
theorem d_Model_pop_13 : decode b_Model_pop 13 = .ok (.iaload, 1) := by decide +kernel
theorem d_Model_pop_14 : decode b_Model_pop 14 = .ok (.iconst 1, 1) := by decide +kernel
theorem d_Model_pop_15 : decode b_Model_pop 15 = .ok (.isub, 1) := by decide +kernel
theorem d_Model_pop_16 : decode b_Model_pop 16 = .ok (.iastore, 1) := by decide +kernel
theorem d_Model_pop_17 : decode b_Model_pop 17 = .ok (.aload_n 0, 1) := by decide +kernel
theorem d_Model_pop_18 : decode b_Model_pop 18 = .ok (.getfield 48, 3) := by decide +kernel
theorem d_Model_pop_21 : decode b_Model_pop 21 = .ok (.bipush 8, 2) := by decide +kernel
theorem d_Model_pop_23 : decode b_Model_pop 23 = .ok (.iload_n 1, 1) := by decide +kernel
theorem d_Model_pop_24 : decode b_Model_pop 24 = .ok (.imul, 1) := by decide +kernel
theorem d_Model_pop_25 : decode b_Model_pop 25 = .ok (.aload_n 0, 1) := by decide +kernel
theorem d_Model_pop_26 : decode b_Model_pop 26 = .ok (.getfield 45, 3) := by decide +kernel
theorem d_Model_pop_29 : decode b_Model_pop 29 = .ok (.iload_n 1, 1) := by decide +kernel
theorem d_Model_pop_30 : decode b_Model_pop 30 = .ok (.iaload, 1) := by decide +kernel
theorem d_Model_pop_31 : decode b_Model_pop 31 = .ok (.iadd, 1) := by decide +kernel
theorem d_Model_pop_32 : decode b_Model_pop 32 = .ok (.iaload, 1) := by decide +kernel
theorem d_Model_pop_33 : decode b_Model_pop 33 = .ok (.istore_n 2, 1) := by decide +kernel
theorem d_Model_pop_34 : decode b_Model_pop 34 = .ok (.aload_n 0, 1) := by decide +kernel
theorem d_Model_pop_35 : decode b_Model_pop 35 = .ok (.getfield 48, 3) := by decide +kernel
theorem d_Model_pop_38 : decode b_Model_pop 38 = .ok (.bipush 8, 2) := by decide +kernel
theorem d_Model_pop_40 : decode b_Model_pop 40 = .ok (.iload_n 1, 1) := by decide +kernel
theorem d_Model_pop_41 : decode b_Model_pop 41 = .ok (.imul, 1) := by decide +kernel
theorem d_Model_pop_42 : decode b_Model_pop 42 = .ok (.aload_n 0, 1) := by decide +kernel
theorem d_Model_pop_43 : decode b_Model_pop 43 = .ok (.getfield 45, 3) := by decide +kernel
theorem d_Model_pop_46 : decode b_Model_pop 46 = .ok (.iload_n 1, 1) := by decide +kernel
theorem d_Model_pop_47 : decode b_Model_pop 47 = .ok (.iaload, 1) := by decide +kernel
theorem d_Model_pop_48 : decode b_Model_pop 48 = .ok (.iadd, 1) := by decide +kernel
theorem d_Model_pop_49 : decode b_Model_pop 49 = .ok (.iconst 0, 1) := by decide +kernel
theorem d_Model_pop_50 : decode b_Model_pop 50 = .ok (.iastore, 1) := by decide +kernel
theorem d_Model_pop_51 : decode b_Model_pop 51 = .ok (.iload_n 2, 1) := by decide +kernel
theorem d_Model_pop_52 : decode b_Model_pop 52 = .ok (.ireturn, 1) := by decide +kernel
theorem d_Model_ends_0 : decode b_Model_ends 0 = .ok (.aload_n 0, 1) := by decide +kernel
theorem d_Model_ends_1 : decode b_Model_ends 1 = .ok (.dup, 1) := by decide +kernel
theorem d_Model_ends_2 : decode b_Model_ends 2 = .ok (.getfield 140, 3) := by decide +kernel
theorem d_Model_ends_5 : decode b_Model_ends 5 = .ok (.iconst 1, 1) := by decide +kernel
theorem d_Model_ends_6 : decode b_Model_ends 6 = .ok (.isub, 1) := by decide +kernel
theorem d_Model_ends_7 : decode b_Model_ends 7 = .ok (.putfield 140, 3) := by decide +kernel
theorem d_Model_ends_10 : decode b_Model_ends 10 = .ok (.aload_n 0, 1) := by decide +kernel
theorem d_Model_ends_11 : decode b_Model_ends 11 = .ok (.getfield 140, 3) := by decide +kernel
theorem d_Model_ends_14 : decode b_Model_ends 14 = .ok (.ifCond .le 9, 3) := by decide +kernel
theorem d_Model_ends_17 : decode b_Model_ends 17 = .ok (.aload_n 0, 1) := by decide +kernel
theorem d_Model_ends_18 : decode b_Model_ends 18 = .ok (.iload_n 1, 1) := by decide +kernel
theorem d_Model_ends_19 : decode b_Model_ends 19 = .ok (.invokevirtual 146, 3) := by decide +kernel
theorem d_Model_ends_22 : decode b_Model_ends 22 = .ok (.return_, 1) := by decide +kernel
theorem d_Model_ends_23 : decode b_Model_ends 23 = .ok (.aload_n 0, 1) := by decide +kernel
theorem d_Model_ends_24 : decode b_Model_ends 24 = .ok (.iconst 0, 1) := by decide +kernel
theorem d_Model_ends_25 : decode b_Model_ends 25 = .ok (.putfield 108, 3) := by decide +kernel
theorem d_Model_ends_28 : decode b_Model_ends 28 = .ok (.aload_n 0, 1) := by decide +kernel
theorem d_Model_ends_29 : decode b_Model_ends 29 = .ok (.iload_n 1, 1) := by decide +kernel
theorem d_Model_ends_30 : decode b_Model_ends 30 = .ok (.putfield 131, 3) := by decide +kernel
theorem d_Model_ends_33 : decode b_Model_ends 33 = .ok (.return_, 1) := by decide +kernel
theorem d_Model_go_0 : decode b_Model_go 0 = .ok (.iload_n 1, 1) := by decide +kernel
theorem d_Model_go_1 : decode b_Model_go 1 = .ok (.ifCond .lt 17, 3) := by decide +kernel
theorem d_Model_go_4 : decode b_Model_go 4 = .ok (.iload_n 1, 1) := by decide +kernel
theorem d_Model_go_5 : decode b_Model_go 5 = .ok (.sipush 2001, 3) := by decide +kernel
theorem d_Model_go_8 : decode b_Model_go 8 = .ok (.if_icmp .gt 10, 3) := by decide +kernel
theorem d_Model_go_11 : decode b_Model_go 11 = .ok (.aload_n 0, 1) := by decide +kernel
theorem d_Model_go_12 : decode b_Model_go 12 = .ok (.getfield 108, 3) := by decide +kernel
theorem d_Model_go_15 : decode b_Model_go 15 = .ok (.ifCond .ne 5, 3) := by decide +kernel
theorem d_Model_go_18 : decode b_Model_go 18 = .ok (.iconst (-1), 1) := by decide +kernel
theorem d_Model_go_19 : decode b_Model_go 19 = .ok (.ireturn, 1) := by decide +kernel
theorem d_Model_go_20 : decode b_Model_go 20 = .ok (.iconst 0, 1) := by decide +kernel
theorem d_Model_go_21 : decode b_Model_go 21 = .ok (.istore_n 2, 1) := by decide +kernel
theorem d_Model_go_22 : decode b_Model_go 22 = .ok (.iload_n 2, 1) := by decide +kernel
theorem d_Model_go_23 : decode b_Model_go 23 = .ok (.iload_n 1, 1) := by decide +kernel
theorem d_Model_go_24 : decode b_Model_go 24 = .ok (.if_icmp .ge 39, 3) := by decide +kernel
theorem d_Model_go_27 : decode b_Model_go 27 = .ok (.aload_n 0, 1) := by decide +kernel
theorem d_Model_go_28 : decode b_Model_go 28 = .ok (.getfield 108, 3) := by decide +kernel
theorem d_Model_go_31 : decode b_Model_go 31 = .ok (.ifCond .eq 32, 3) := by decide +kernel
theorem d_Model_go_34 : decode b_Model_go 34 = .ok (.aload_n 0, 1) := by decide +kernel
theorem d_Model_go_35 : decode b_Model_go 35 = .ok (.getfield 137, 3) := by decide +kernel
theorem d_Model_go_38 : decode b_Model_go 38 = .ok (.sipush 2000, 3) := by decide +kernel
theorem d_Model_go_41 : decode b_Model_go 41 = .ok (.if_icmp .ne 12, 3) := by decide +kernel
theorem d_Model_go_44 : decode b_Model_go 44 = .ok (.aload_n 0, 1) := by decide +kernel
theorem d_Model_go_45 : decode b_Model_go 45 = .ok (.bipush 6, 2) := by decide +kernel
theorem d_Model_go_47 : decode b_Model_go 47 = .ok (.invokevirtual 149, 3) := by decide +kernel
theorem d_Model_go_50 : decode b_Model_go 50 = .ok (.goto 7, 3) := by decide +kernel
theorem d_Model_go_53 : decode b_Model_go 53 = .ok (.aload_n 0, 1) := by decide +kernel
theorem d_Model_go_54 : decode b_Model_go 54 = .ok (.invokevirtual 152, 3) := by decide +kernel
theorem d_Model_go_57 : decode b_Model_go 57 = .ok (.iinc 2 1, 3) := by decide +kernel
theorem d_Model_go_60 : decode b_Model_go 60 = .ok (.goto (-38), 3) := by decide +kernel
theorem d_Model_go_63 : decode b_Model_go 63 = .ok (.aload_n 0, 1) := by decide +kernel
theorem d_Model_go_64 : decode b_Model_go 64 = .ok (.getfield 108, 3) := by decide +kernel
theorem d_Model_go_67 : decode b_Model_go 67 = .ok (.ifCond .eq 7, 3) := by decide +kernel
theorem d_Model_go_70 : decode b_Model_go 70 = .ok (.iconst 1, 1) := by decide +kernel
theorem d_Model_go_71 : decode b_Model_go 71 = .ok (.goto 15, 3) := by decide +kernel
theorem d_Model_go_74 : decode b_Model_go 74 = .ok (.aload_n 0, 1) := by decide +kernel
theorem d_Model_go_75 : decode b_Model_go 75 = .ok (.getfield 128, 3) := by decide +kernel
theorem d_Model_go_78 : decode b_Model_go 78 = .ok (.ifCond .eq 7, 3) := by decide +kernel
theorem d_Model_go_81 : decode b_Model_go 81 = .ok (.iconst 2, 1) := by decide +kernel
theorem d_Model_go_82 : decode b_Model_go 82 = .ok (.goto 4, 3) := by decide +kernel
theorem d_Model_go_85 : decode b_Model_go 85 = .ok (.iconst 0, 1) := by decide +kernel
theorem d_Model_go_86 : decode b_Model_go 86 = .ok (.ireturn, 1) := by decide +kernel
theorem d_Model_oneStep_0 : decode b_Model_oneStep 0 = .ok (.aload_n 0, 1) := by decide +kernel
theorem d_Model_oneStep_1 : decode b_Model_oneStep 1 = .ok (.getfield 140, 3) := by decide +kernel
theorem d_Model_oneStep_4 : decode b_Model_oneStep 4 = .ok (.iconst 1, 1) := by decide +kernel
theorem d_Model_oneStep_5 : decode b_Model_oneStep 5 = .ok (.isub, 1) := by decide +kernel
theorem d_Model_oneStep_6 : decode b_Model_oneStep 6 = .ok (.istore_n 1, 1) := by decide +kernel
theorem d_Model_oneStep_7 : decode b_Model_oneStep 7 = .ok (.aload_n 0, 1) := by decide +kernel
theorem d_Model_oneStep_8 : decode b_Model_oneStep 8 = .ok (.getfield 39, 3) := by decide +kernel
theorem d_Model_oneStep_11 : decode b_Model_oneStep 11 = .ok (.iload_n 1, 1) := by decide +kernel
theorem d_Model_oneStep_12 : decode b_Model_oneStep 12 = .ok (.iaload, 1) := by decide +kernel
theorem d_Model_oneStep_13 : decode b_Model_oneStep 13 = .ok (.istore_n 2, 1) := by decide +kernel
theorem d_Model_oneStep_14 : decode b_Model_oneStep 14 = .ok (.aload_n 0, 1) := by decide +kernel
theorem d_Model_oneStep_15 : decode b_Model_oneStep 15 = .ok (.getfield 42, 3) := by decide +kernel
theorem d_Model_oneStep_18 : decode b_Model_oneStep 18 = .ok (.iload_n 1, 1) := by decide +kernel
theorem d_Model_oneStep_19 : decode b_Model_oneStep 19 = .ok (.iaload, 1) := by decide +kernel
theorem d_Model_oneStep_20 : decode b_Model_oneStep 20 = .ok (.istore_n 3, 1) := by decide +kernel
theorem d_Model_oneStep_21 : decode b_Model_oneStep 21 = .ok (.aload_n 0, 1) := by decide +kernel
theorem d_Model_oneStep_22 : decode b_Model_oneStep 22 = .ok (.getfield 13, 3) := by decide +kernel
theorem d_Model_oneStep_25 : decode b_Model_oneStep 25 = .ok (.iload_n 2, 1) := by decide +kernel
theorem d_Model_oneStep_26 : decode b_Model_oneStep 26 = .ok (.sipush 256, 3) := by decide +kernel
theorem d_Model_oneStep_29 : decode b_Model_oneStep 29 = .ok (.imul, 1) := by decide +kernel
theorem d_Model_oneStep_30 : decode b_Model_oneStep 30 = .ok (.iload_n 3, 1) := by decide +kernel
theorem d_Model_oneStep_31 : decode b_Model_oneStep 31 = .ok (.iadd, 1) := by decide +kernel
theorem d_Model_oneStep_32 : decode b_Model_oneStep 32 = .ok (.baload, 1) := by decide +kernel
theorem d_Model_oneStep_33 : decode b_Model_oneStep 33 = .ok (.sipush 255, 3) := by decide +kernel
theorem d_Model_oneStep_36 : decode b_Model_oneStep 36 = .ok (.iand, 1) := by decide +kernel
theorem d_Model_oneStep_37 : decode b_Model_oneStep 37 = .ok (.istore 4, 2) := by decide +kernel
theorem d_Model_oneStep_39 : decode b_Model_oneStep 39 = .ok (.iload_n 3, 1) := by decide +kernel
theorem d_Model_oneStep_40 : decode b_Model_oneStep 40 = .ok (.iconst 1, 1) := by decide +kernel
theorem d_Model_oneStep_41 : decode b_Model_oneStep 41 = .ok (.iadd, 1) := by decide +kernel
theorem d_Model_oneStep_42 : decode b_Model_oneStep 42 = .ok (.sipush 256, 3) := by decide +kernel
theorem d_Model_oneStep_45 : decode b_Model_oneStep 45 = .ok (.if_icmp .ge 20, 3) := by decide +kernel
theorem d_Model_oneStep_48 : decode b_Model_oneStep 48 = .ok (.aload_n 0, 1) := by decide +kernel
theorem d_Model_oneStep_49 : decode b_Model_oneStep 49 = .ok (.getfield 13, 3) := by decide +kernel
theorem d_Model_oneStep_52 : decode b_Model_oneStep 52 = .ok (.iload_n 2, 1) := by decide +kernel
theorem d_Model_oneStep_53 : decode b_Model_oneStep 53 = .ok (.sipush 256, 3) := by decide +kernel
theorem d_Model_oneStep_56 : decode b_Model_oneStep 56 = .ok (.imul, 1) := by decide +kernel
theorem d_Model_oneStep_57 : decode b_Model_oneStep 57 = .ok (.iload_n 3, 1) := by decide +kernel
theorem d_Model_oneStep_58 : decode b_Model_oneStep 58 = .ok (.iadd, 1) := by decide +kernel
theorem d_Model_oneStep_59 : decode b_Model_oneStep 59 = .ok (.iconst 1, 1) := by decide +kernel
theorem d_Model_oneStep_60 : decode b_Model_oneStep 60 = .ok (.iadd, 1) := by decide +kernel
theorem d_Model_oneStep_61 : decode b_Model_oneStep 61 = .ok (.baload, 1) := by decide +kernel
theorem d_Model_oneStep_62 : decode b_Model_oneStep 62 = .ok (.goto 4, 3) := by decide +kernel
theorem d_Model_oneStep_65 : decode b_Model_oneStep 65 = .ok (.iconst 0, 1) := by decide +kernel
theorem d_Model_oneStep_66 : decode b_Model_oneStep 66 = .ok (.istore 5, 2) := by decide +kernel
theorem d_Model_oneStep_68 : decode b_Model_oneStep 68 = .ok (.aload_n 0, 1) := by decide +kernel
theorem d_Model_oneStep_69 : decode b_Model_oneStep 69 = .ok (.dup, 1) := by decide +kernel
theorem d_Model_oneStep_70 : decode b_Model_oneStep 70 = .ok (.getfield 137, 3) := by decide +kernel
theorem d_Model_oneStep_73 : decode b_Model_oneStep 73 = .ok (.iconst 1, 1) := by decide +kernel
theorem d_Model_oneStep_74 : decode b_Model_oneStep 74 = .ok (.iadd, 1) := by decide +kernel
theorem d_Model_oneStep_75 : decode b_Model_oneStep 75 = .ok (.putfield 137, 3) := by decide +kernel
theorem d_Model_oneStep_78 : decode b_Model_oneStep 78 = .ok (.aload_n 0, 1) := by decide +kernel
theorem d_Model_oneStep_79 : decode b_Model_oneStep 79 = .ok (.getfield 42, 3) := by decide +kernel
theorem d_Model_oneStep_82 : decode b_Model_oneStep 82 = .ok (.iload_n 1, 1) := by decide +kernel
theorem d_Model_oneStep_83 : decode b_Model_oneStep 83 = .ok (.iload_n 3, 1) := by decide +kernel
theorem d_Model_oneStep_84 : decode b_Model_oneStep 84 = .ok (.iload 4, 2) := by decide +kernel
theorem d_Model_oneStep_86 : decode b_Model_oneStep 86 = .ok (.invokestatic 85, 3) := by decide +kernel
theorem d_Model_oneStep_89 : decode b_Model_oneStep 89 = .ok (.ifCond .eq 7, 3) := by decide +kernel
theorem d_Model_oneStep_92 : decode b_Model_oneStep 92 = .ok (.iconst 2, 1) := by decide +kernel
theorem d_Model_oneStep_93 : decode b_Model_oneStep 93 = .ok (.goto 4, 3) := by decide +kernel
theorem d_Model_oneStep_96 : decode b_Model_oneStep 96 = .ok (.iconst 1, 1) := by decide +kernel
theorem d_Model_oneStep_97 : decode b_Model_oneStep 97 = .ok (.iadd, 1) := by decide +kernel
theorem d_Model_oneStep_98 : decode b_Model_oneStep 98 = .ok (.iastore, 1) := by decide +kernel
theorem d_Model_oneStep_99 : decode b_Model_oneStep 99 = .ok (.iload 4, 2) := by decide +kernel
theorem d_Model_oneStep_101 : decode b_Model_oneStep 101 = .ok (.iconst 5, 1) := by decide +kernel
theorem d_Model_oneStep_102 : decode b_Model_oneStep 102 = .ok (.if_icmp .ge 16, 3) := by decide +kernel
theorem d_Model_oneStep_105 : decode b_Model_oneStep 105 = .ok (.aload_n 0, 1) := by decide +kernel
theorem d_Model_oneStep_106 : decode b_Model_oneStep 106 = .ok (.iload 4, 2) := by decide +kernel
theorem d_Model_oneStep_108 : decode b_Model_oneStep 108 = .ok (.iload 5, 2) := by decide +kernel
theorem d_Model_oneStep_110 : decode b_Model_oneStep 110 = .ok (.iload_n 1, 1) := by decide +kernel
theorem d_Model_oneStep_111 : decode b_Model_oneStep 111 = .ok (.iload_n 2, 1) := by decide +kernel
theorem d_Model_oneStep_112 : decode b_Model_oneStep 112 = .ok (.invokevirtual 155, 3) := by decide +kernel
theorem d_Model_oneStep_115 : decode b_Model_oneStep 115 = .ok (.goto 100, 3) := by decide +kernel
theorem d_Model_oneStep_118 : decode b_Model_oneStep 118 = .ok (.iload 4, 2) := by decide +kernel
theorem d_Model_oneStep_120 : decode b_Model_oneStep 120 = .ok (.bipush 16, 2) := by decide +kernel
theorem d_Model_oneStep_122 : decode b_Model_oneStep 122 = .ok (.if_icmp .ge 12, 3) := by decide +kernel
theorem d_Model_oneStep_125 : decode b_Model_oneStep 125 = .ok (.aload_n 0, 1) := by decide +kernel
theorem d_Model_oneStep_126 : decode b_Model_oneStep 126 = .ok (.iload 4, 2) := by decide +kernel
theorem d_Model_oneStep_128 : decode b_Model_oneStep 128 = .ok (.invokevirtual 159, 3) := by decide +kernel
theorem d_Model_oneStep_131 : decode b_Model_oneStep 131 = .ok (.goto 84, 3) := by decide +kernel
theorem d_Model_oneStep_134 : decode b_Model_oneStep 134 = .ok (.iload 4, 2) := by decide +kernel
theorem d_Model_oneStep_136 : decode b_Model_oneStep 136 = .ok (.bipush 19, 2) := by decide +kernel
theorem d_Model_oneStep_138 : decode b_Model_oneStep 138 = .ok (.if_icmp .ge 19, 3) := by decide +kernel
theorem d_Model_oneStep_141 : decode b_Model_oneStep 141 = .ok (.aload_n 0, 1) := by decide +kernel
theorem d_Model_oneStep_142 : decode b_Model_oneStep 142 = .ok (.iload 4, 2) := by decide +kernel
theorem d_Model_oneStep_144 : decode b_Model_oneStep 144 = .ok (.iload 5, 2) := by decide +kernel
theorem d_Model_oneStep_146 : decode b_Model_oneStep 146 = .ok (.sipush 255, 3) := by decide +kernel
theorem d_Model_oneStep_149 : decode b_Model_oneStep 149 = .ok (.iand, 1) := by decide +kernel
theorem d_Model_oneStep_150 : decode b_Model_oneStep 150 = .ok (.iload_n 1, 1) := by decide +kernel
theorem d_Model_oneStep_151 : decode b_Model_oneStep 151 = .ok (.invokevirtual 162, 3) := by decide +kernel
theorem d_Model_oneStep_154 : decode b_Model_oneStep 154 = .ok (.goto 61, 3) := by decide +kernel
theorem d_Model_oneStep_157 : decode b_Model_oneStep 157 = .ok (.iload 4, 2) := by decide +kernel
theorem d_Model_oneStep_159 : decode b_Model_oneStep 159 = .ok (.bipush 22, 2) := by decide +kernel
theorem d_Model_oneStep_161 : decode b_Model_oneStep 161 = .ok (.if_icmp .ge 12, 3) := by decide +kernel
theorem d_Model_oneStep_164 : decode b_Model_oneStep 164 = .ok (.aload_n 0, 1) := by decide +kernel
theorem d_Model_oneStep_165 : decode b_Model_oneStep 165 = .ok (.iload 4, 2) := by decide +kernel
theorem d_Model_oneStep_167 : decode b_Model_oneStep 167 = .ok (.invokevirtual 166, 3) := by decide +kernel
theorem d_Model_oneStep_170 : decode b_Model_oneStep 170 = .ok (.goto 45, 3) := by decide +kernel
theorem d_Model_oneStep_173 : decode b_Model_oneStep 173 = .ok (.iload 4, 2) := by decide +kernel
theorem d_Model_oneStep_175 : decode b_Model_oneStep 175 = .ok (.bipush 25, 2) := by decide +kernel
theorem d_Model_oneStep_177 : decode b_Model_oneStep 177 = .ok (.if_icmp .ge 12, 3) := by decide +kernel
theorem d_Model_oneStep_180 : decode b_Model_oneStep 180 = .ok (.aload_n 0, 1) := by decide +kernel
theorem d_Model_oneStep_181 : decode b_Model_oneStep 181 = .ok (.iload 4, 2) := by decide +kernel
theorem d_Model_oneStep_183 : decode b_Model_oneStep 183 = .ok (.invokevirtual 169, 3) := by decide +kernel
theorem d_Model_oneStep_186 : decode b_Model_oneStep 186 = .ok (.goto 29, 3) := by decide +kernel
theorem d_Model_oneStep_189 : decode b_Model_oneStep 189 = .ok (.iload 4, 2) := by decide +kernel
theorem d_Model_oneStep_191 : decode b_Model_oneStep 191 = .ok (.bipush 27, 2) := by decide +kernel
theorem d_Model_oneStep_193 : decode b_Model_oneStep 193 = .ok (.if_icmp .ge 12, 3) := by decide +kernel
theorem d_Model_oneStep_196 : decode b_Model_oneStep 196 = .ok (.aload_n 0, 1) := by decide +kernel
theorem d_Model_oneStep_197 : decode b_Model_oneStep 197 = .ok (.iload 4, 2) := by decide +kernel
theorem d_Model_oneStep_199 : decode b_Model_oneStep 199 = .ok (.invokevirtual 172, 3) := by decide +kernel
theorem d_Model_oneStep_202 : decode b_Model_oneStep 202 = .ok (.goto 13, 3) := by decide +kernel
theorem d_Model_oneStep_205 : decode b_Model_oneStep 205 = .ok (.aload_n 0, 1) := by decide +kernel
theorem d_Model_oneStep_206 : decode b_Model_oneStep 206 = .ok (.iload 5, 2) := by decide +kernel
theorem d_Model_oneStep_208 : decode b_Model_oneStep 208 = .ok (.sipush 255, 3) := by decide +kernel
theorem d_Model_oneStep_211 : decode b_Model_oneStep 211 = .ok (.iand, 1) := by decide +kernel
theorem d_Model_oneStep_212 : decode b_Model_oneStep 212 = .ok (.invokevirtual 175, 3) := by decide +kernel
theorem d_Model_oneStep_215 : decode b_Model_oneStep 215 = .ok (.return_, 1) := by decide +kernel
theorem d_Model_simple_0 : decode b_Model_simple 0 = .ok (.iload_n 1, 1) := by decide +kernel
theorem d_Model_simple_1 : decode b_Model_simple 1 = .ok (.tableswitch 95 0 3 #[31, 39, 58, 77], 31) := by decide +kernel
theorem d_Model_simple_32 : decode b_Model_simple 32 = .ok (.aload_n 0, 1) := by decide +kernel
theorem d_Model_simple_33 : decode b_Model_simple 33 = .ok (.iload_n 2, 1) := by decide +kernel
theorem d_Model_simple_34 : decode b_Model_simple 34 = .ok (.invokevirtual 146, 3) := by decide +kernel
theorem d_Model_simple_37 : decode b_Model_simple 37 = .ok (.goto 74, 3) := by decide +kernel
theorem d_Model_simple_40 : decode b_Model_simple 40 = .ok (.aload_n 0, 1) := by decide +kernel
theorem d_Model_simple_41 : decode b_Model_simple 41 = .ok (.aload_n 0, 1) := by decide +kernel
theorem d_Model_simple_42 : decode b_Model_simple 42 = .ok (.getfield 23, 3) := by decide +kernel
theorem d_Model_simple_45 : decode b_Model_simple 45 = .ok (.iload 4, 2) := by decide +kernel
theorem d_Model_simple_47 : decode b_Model_simple 47 = .ok (.bipush 16, 2) := by decide +kernel
theorem d_Model_simple_49 : decode b_Model_simple 49 = .ok (.imul, 1) := by decide +kernel
theorem d_Model_simple_50 : decode b_Model_simple 50 = .ok (.iload_n 2, 1) := by decide +kernel
theorem d_Model_simple_51 : decode b_Model_simple 51 = .ok (.iadd, 1) := by decide +kernel
theorem d_Model_simple_52 : decode b_Model_simple 52 = .ok (.iaload, 1) := by decide +kernel
theorem d_Model_simple_53 : decode b_Model_simple 53 = .ok (.invokevirtual 146, 3) := by decide +kernel
theorem d_Model_simple_56 : decode b_Model_simple 56 = .ok (.goto 55, 3) := by decide +kernel
theorem d_Model_simple_59 : decode b_Model_simple 59 = .ok (.aload_n 0, 1) := by decide +kernel
theorem d_Model_simple_60 : decode b_Model_simple 60 = .ok (.getfield 23, 3) := by decide +kernel
theorem d_Model_simple_63 : decode b_Model_simple 63 = .ok (.iload 4, 2) := by decide +kernel
theorem d_Model_simple_65 : decode b_Model_simple 65 = .ok (.bipush 16, 2) := by decide +kernel
theorem d_Model_simple_67 : decode b_Model_simple 67 = .ok (.imul, 1) := by decide +kernel
theorem d_Model_simple_68 : decode b_Model_simple 68 = .ok (.iload_n 2, 1) := by decide +kernel
theorem d_Model_simple_69 : decode b_Model_simple 69 = .ok (.iadd, 1) := by decide +kernel
theorem d_Model_simple_70 : decode b_Model_simple 70 = .ok (.aload_n 0, 1) := by decide +kernel
theorem d_Model_simple_71 : decode b_Model_simple 71 = .ok (.invokevirtual 178, 3) := by decide +kernel
theorem d_Model_simple_74 : decode b_Model_simple 74 = .ok (.iastore, 1) := by decide +kernel
theorem d_Model_simple_75 : decode b_Model_simple 75 = .ok (.goto 36, 3) := by decide +kernel
theorem d_Model_simple_78 : decode b_Model_simple 78 = .ok (.aload_n 0, 1) := by decide +kernel
theorem d_Model_simple_79 : decode b_Model_simple 79 = .ok (.aload_n 0, 1) := by decide +kernel
theorem d_Model_simple_80 : decode b_Model_simple 80 = .ok (.getfield 51, 3) := by decide +kernel
theorem d_Model_simple_83 : decode b_Model_simple 83 = .ok (.bipush 8, 2) := by decide +kernel
theorem d_Model_simple_85 : decode b_Model_simple 85 = .ok (.iload_n 3, 1) := by decide +kernel
theorem d_Model_simple_86 : decode b_Model_simple 86 = .ok (.imul, 1) := by decide +kernel
theorem d_Model_simple_87 : decode b_Model_simple 87 = .ok (.iload_n 2, 1) := by decide +kernel
theorem d_Model_simple_88 : decode b_Model_simple 88 = .ok (.iadd, 1) := by decide +kernel
theorem d_Model_simple_89 : decode b_Model_simple 89 = .ok (.iaload, 1) := by decide +kernel
theorem d_Model_simple_90 : decode b_Model_simple 90 = .ok (.invokevirtual 146, 3) := by decide +kernel
theorem d_Model_simple_93 : decode b_Model_simple 93 = .ok (.goto 18, 3) := by decide +kernel
theorem d_Model_simple_96 : decode b_Model_simple 96 = .ok (.aload_n 0, 1) := by decide +kernel
theorem d_Model_simple_97 : decode b_Model_simple 97 = .ok (.getfield 51, 3) := by decide +kernel
theorem d_Model_simple_100 : decode b_Model_simple 100 = .ok (.bipush 8, 2) := by decide +kernel
theorem d_Model_simple_102 : decode b_Model_simple 102 = .ok (.iload_n 3, 1) := by decide +kernel
theorem d_Model_simple_103 : decode b_Model_simple 103 = .ok (.imul, 1) := by decide +kernel
theorem d_Model_simple_104 : decode b_Model_simple 104 = .ok (.iload_n 2, 1) := by decide +kernel
theorem d_Model_simple_105 : decode b_Model_simple 105 = .ok (.iadd, 1) := by decide +kernel
theorem d_Model_simple_106 : decode b_Model_simple 106 = .ok (.aload_n 0, 1) := by decide +kernel
theorem d_Model_simple_107 : decode b_Model_simple 107 = .ok (.invokevirtual 178, 3) := by decide +kernel
theorem d_Model_simple_110 : decode b_Model_simple 110 = .ok (.iastore, 1) := by decide +kernel
theorem d_Model_simple_111 : decode b_Model_simple 111 = .ok (.return_, 1) := by decide +kernel
theorem d_Model_works_0 : decode b_Model_works 0 = .ok (.aload_n 0, 1) := by decide +kernel
theorem d_Model_works_1 : decode b_Model_works 1 = .ok (.invokevirtual 178, 3) := by decide +kernel
theorem d_Model_works_4 : decode b_Model_works 4 = .ok (.istore_n 2, 1) := by decide +kernel
theorem d_Model_works_5 : decode b_Model_works 5 = .ok (.iload_n 1, 1) := by decide +kernel
theorem d_Model_works_6 : decode b_Model_works 6 = .ok (.bipush 13, 2) := by decide +kernel
theorem d_Model_works_8 : decode b_Model_works 8 = .ok (.if_icmp .ne 14, 3) := by decide +kernel
theorem d_Model_works_11 : decode b_Model_works 11 = .ok (.aload_n 0, 1) := by decide +kernel
theorem d_Model_works_12 : decode b_Model_works 12 = .ok (.iload_n 2, 1) := by decide +kernel
theorem d_Model_works_13 : decode b_Model_works 13 = .ok (.invokevirtual 146, 3) := by decide +kernel
theorem d_Model_works_16 : decode b_Model_works 16 = .ok (.aload_n 0, 1) := by decide +kernel
theorem d_Model_works_17 : decode b_Model_works 17 = .ok (.iload_n 2, 1) := by decide +kernel
theorem d_Model_works_18 : decode b_Model_works 18 = .ok (.invokevirtual 146, 3) := by decide +kernel
theorem d_Model_works_21 : decode b_Model_works 21 = .ok (.return_, 1) := by decide +kernel
theorem d_Model_works_22 : decode b_Model_works 22 = .ok (.iload_n 1, 1) := by decide +kernel
theorem d_Model_works_23 : decode b_Model_works 23 = .ok (.bipush 14, 2) := by decide +kernel
theorem d_Model_works_25 : decode b_Model_works 25 = .ok (.if_icmp .ne 4, 3) := by decide +kernel
theorem d_Model_works_28 : decode b_Model_works 28 = .ok (.return_, 1) := by decide +kernel
theorem d_Model_works_29 : decode b_Model_works 29 = .ok (.aload_n 0, 1) := by decide +kernel
theorem d_Model_works_30 : decode b_Model_works 30 = .ok (.invokevirtual 178, 3) := by decide +kernel
theorem d_Model_works_33 : decode b_Model_works 33 = .ok (.istore_n 3, 1) := by decide +kernel
theorem d_Model_works_34 : decode b_Model_works 34 = .ok (.iload_n 1, 1) := by decide +kernel
theorem d_Model_works_35 : decode b_Model_works 35 = .ok (.tableswitch 131 5 12 #[45, 55, 65, 75, 85, 95, 105, 118], 45) := by decide +kernel
theorem d_Model_works_80 : decode b_Model_works 80 = .ok (.aload_n 0, 1) := by decide +kernel
theorem d_Model_works_81 : decode b_Model_works 81 = .ok (.iload_n 3, 1) := by decide +kernel
theorem d_Model_works_82 : decode b_Model_works 82 = .ok (.iload_n 2, 1) := by decide +kernel
theorem d_Model_works_83 : decode b_Model_works 83 = .ok (.iadd, 1) := by decide +kernel
theorem d_Model_works_84 : decode b_Model_works 84 = .ok (.invokevirtual 146, 3) := by decide +kernel
theorem d_Model_works_87 : decode b_Model_works 87 = .ok (.goto 89, 3) := by decide +kernel
theorem d_Model_works_90 : decode b_Model_works 90 = .ok (.aload_n 0, 1) := by decide +kernel
theorem d_Model_works_91 : decode b_Model_works 91 = .ok (.iload_n 3, 1) := by decide +kernel
theorem d_Model_works_92 : decode b_Model_works 92 = .ok (.iload_n 2, 1) := by decide +kernel
theorem d_Model_works_93 : decode b_Model_works 93 = .ok (.isub, 1) := by decide +kernel
theorem d_Model_works_94 : decode b_Model_works 94 = .ok (.invokevirtual 146, 3) := by decide +kernel
theorem d_Model_works_97 : decode b_Model_works 97 = .ok (.goto 79, 3) := by decide +kernel
theorem d_Model_works_100 : decode b_Model_works 100 = .ok (.aload_n 0, 1) := by decide +kernel
theorem d_Model_works_101 : decode b_Model_works 101 = .ok (.iload_n 3, 1) := by decide +kernel
theorem d_Model_works_102 : decode b_Model_works 102 = .ok (.iload_n 2, 1) := by decide +kernel
theorem d_Model_works_103 : decode b_Model_works 103 = .ok (.imul, 1) := by decide +kernel
theorem d_Model_works_104 : decode b_Model_works 104 = .ok (.invokevirtual 146, 3) := by decide +kernel
theorem d_Model_works_107 : decode b_Model_works 107 = .ok (.goto 69, 3) := by decide +kernel
theorem d_Model_works_110 : decode b_Model_works 110 = .ok (.aload_n 0, 1) := by decide +kernel
theorem d_Model_works_111 : decode b_Model_works 111 = .ok (.iload_n 3, 1) := by decide +kernel
theorem d_Model_works_112 : decode b_Model_works 112 = .ok (.iload_n 2, 1) := by decide +kernel
theorem d_Model_works_113 : decode b_Model_works 113 = .ok (.iand, 1) := by decide +kernel
theorem d_Model_works_114 : decode b_Model_works 114 = .ok (.invokevirtual 146, 3) := by decide +kernel
theorem d_Model_works_117 : decode b_Model_works 117 = .ok (.goto 59, 3) := by decide +kernel
theorem d_Model_works_120 : decode b_Model_works 120 = .ok (.aload_n 0, 1) := by decide +kernel
theorem d_Model_works_121 : decode b_Model_works 121 = .ok (.iload_n 3, 1) := by decide +kernel
theorem d_Model_works_122 : decode b_Model_works 122 = .ok (.iload_n 2, 1) := by decide +kernel
theorem d_Model_works_123 : decode b_Model_works 123 = .ok (.ior, 1) := by decide +kernel
theorem d_Model_works_124 : decode b_Model_works 124 = .ok (.invokevirtual 146, 3) := by decide +kernel
theorem d_Model_works_127 : decode b_Model_works 127 = .ok (.goto 49, 3) := by decide +kernel
theorem d_Model_works_130 : decode b_Model_works 130 = .ok (.aload_n 0, 1) := by decide +kernel
theorem d_Model_works_131 : decode b_Model_works 131 = .ok (.iload_n 3, 1) := by decide +kernel
theorem d_Model_works_132 : decode b_Model_works 132 = .ok (.iload_n 2, 1) := by decide +kernel
theorem d_Model_works_133 : decode b_Model_works 133 = .ok (.ixor, 1) := by decide +kernel
theorem d_Model_works_134 : decode b_Model_works 134 = .ok (.invokevirtual 146, 3) := by decide +kernel
theorem d_Model_works_137 : decode b_Model_works 137 = .ok (.goto 39, 3) := by decide +kernel
theorem d_Model_works_140 : decode b_Model_works 140 = .ok (.aload_n 0, 1) := by decide +kernel
theorem d_Model_works_141 : decode b_Model_works 141 = .ok (.iload_n 3, 1) := by decide +kernel
theorem d_Model_works_142 : decode b_Model_works 142 = .ok (.iload_n 2, 1) := by decide +kernel
theorem d_Model_works_143 : decode b_Model_works 143 = .ok (.bipush 31, 2) := by decide +kernel
theorem d_Model_works_145 : decode b_Model_works 145 = .ok (.iand, 1) := by decide +kernel
theorem d_Model_works_146 : decode b_Model_works 146 = .ok (.ishl, 1) := by decide +kernel
theorem d_Model_works_147 : decode b_Model_works 147 = .ok (.invokevirtual 146, 3) := by decide +kernel
theorem d_Model_works_150 : decode b_Model_works 150 = .ok (.goto 26, 3) := by decide +kernel
theorem d_Model_works_153 : decode b_Model_works 153 = .ok (.aload_n 0, 1) := by decide +kernel
theorem d_Model_works_154 : decode b_Model_works 154 = .ok (.iload_n 3, 1) := by decide +kernel
theorem d_Model_works_155 : decode b_Model_works 155 = .ok (.iload_n 2, 1) := by decide +kernel
theorem d_Model_works_156 : decode b_Model_works 156 = .ok (.bipush 31, 2) := by decide +kernel
theorem d_Model_works_158 : decode b_Model_works 158 = .ok (.iand, 1) := by decide +kernel
theorem d_Model_works_159 : decode b_Model_works 159 = .ok (.ishr, 1) := by decide +kernel
theorem d_Model_works_160 : decode b_Model_works 160 = .ok (.invokevirtual 146, 3) := by decide +kernel
theorem d_Model_works_163 : decode b_Model_works 163 = .ok (.goto 13, 3) := by decide +kernel
theorem d_Model_works_166 : decode b_Model_works 166 = .ok (.aload_n 0, 1) := by decide +kernel
theorem d_Model_works_167 : decode b_Model_works 167 = .ok (.iload_n 2, 1) := by decide +kernel
theorem d_Model_works_168 : decode b_Model_works 168 = .ok (.invokevirtual 146, 3) := by decide +kernel
theorem d_Model_works_171 : decode b_Model_works 171 = .ok (.aload_n 0, 1) := by decide +kernel
theorem d_Model_works_172 : decode b_Model_works 172 = .ok (.iload_n 3, 1) := by decide +kernel
theorem d_Model_works_173 : decode b_Model_works 173 = .ok (.invokevirtual 146, 3) := by decide +kernel
theorem d_Model_works_176 : decode b_Model_works 176 = .ok (.return_, 1) := by decide +kernel
theorem d_Model_jumps_0 : decode b_Model_jumps 0 = .ok (.iconst 1, 1) := by decide +kernel
theorem d_Model_jumps_1 : decode b_Model_jumps 1 = .ok (.istore 4, 2) := by decide +kernel
theorem d_Model_jumps_3 : decode b_Model_jumps 3 = .ok (.iload_n 1, 1) := by decide +kernel
theorem d_Model_jumps_4 : decode b_Model_jumps 4 = .ok (.bipush 17, 2) := by decide +kernel
theorem d_Model_jumps_6 : decode b_Model_jumps 6 = .ok (.if_icmp .ne 20, 3) := by decide +kernel
theorem d_Model_jumps_9 : decode b_Model_jumps 9 = .ok (.aload_n 0, 1) := by decide +kernel
theorem d_Model_jumps_10 : decode b_Model_jumps 10 = .ok (.invokevirtual 178, 3) := by decide +kernel
theorem d_Model_jumps_13 : decode b_Model_jumps 13 = .ok (.ifCond .ne 7, 3) := by decide +kernel
theorem d_Model_jumps_16 : decode b_Model_jumps 16 = .ok (.iconst 1, 1) := by decide +kernel
theorem d_Model_jumps_17 : decode b_Model_jumps 17 = .ok (.goto 4, 3) := by decide +kernel
theorem d_Model_jumps_20 : decode b_Model_jumps 20 = .ok (.iconst 0, 1) := by decide +kernel
theorem d_Model_jumps_21 : decode b_Model_jumps 21 = .ok (.istore 4, 2) := by decide +kernel
theorem d_Model_jumps_23 : decode b_Model_jumps 23 = .ok (.goto 31, 3) := by decide +kernel
theorem d_Model_jumps_26 : decode b_Model_jumps 26 = .ok (.iload_n 1, 1) := by decide +kernel
theorem d_Model_jumps_27 : decode b_Model_jumps 27 = .ok (.bipush 18, 2) := by decide +kernel
theorem d_Model_jumps_29 : decode b_Model_jumps 29 = .ok (.if_icmp .ne 25, 3) := by decide +kernel
theorem d_Model_jumps_32 : decode b_Model_jumps 32 = .ok (.aload_n 0, 1) := by decide +kernel
theorem d_Model_jumps_33 : decode b_Model_jumps 33 = .ok (.invokevirtual 178, 3) := by decide +kernel
theorem d_Model_jumps_36 : decode b_Model_jumps 36 = .ok (.istore 5, 2) := by decide +kernel
theorem d_Model_jumps_38 : decode b_Model_jumps 38 = .ok (.aload_n 0, 1) := by decide +kernel
theorem d_Model_jumps_39 : decode b_Model_jumps 39 = .ok (.invokevirtual 178, 3) := by decide +kernel
theorem d_Model_jumps_42 : decode b_Model_jumps 42 = .ok (.iload 5, 2) := by decide +kernel
theorem d_Model_jumps_44 : decode b_Model_jumps 44 = .ok (.if_icmp .ge 7, 3) := by decide +kernel
theorem d_Model_jumps_47 : decode b_Model_jumps 47 = .ok (.iconst 1, 1) := by decide +kernel
theorem d_Model_jumps_48 : decode b_Model_jumps 48 = .ok (.goto 4, 3) := by decide +kernel
theorem d_Model_jumps_51 : decode b_Model_jumps 51 = .ok (.iconst 0, 1) := by decide +kernel
theorem d_Model_jumps_52 : decode b_Model_jumps 52 = .ok (.istore 4, 2) := by decide +kernel
theorem d_Model_jumps_54 : decode b_Model_jumps 54 = .ok (.aload_n 0, 1) := by decide +kernel
theorem d_Model_jumps_55 : decode b_Model_jumps 55 = .ok (.getfield 42, 3) := by decide +kernel
theorem d_Model_jumps_58 : decode b_Model_jumps 58 = .ok (.iload_n 3, 1) := by decide +kernel
theorem d_Model_jumps_59 : decode b_Model_jumps 59 = .ok (.iload 4, 2) := by decide +kernel
theorem d_Model_jumps_61 : decode b_Model_jumps 61 = .ok (.ifCond .eq 7, 3) := by decide +kernel
theorem d_Model_jumps_64 : decode b_Model_jumps 64 = .ok (.iload_n 2, 1) := by decide +kernel
theorem d_Model_jumps_65 : decode b_Model_jumps 65 = .ok (.goto 9, 3) := by decide +kernel
theorem d_Model_jumps_68 : decode b_Model_jumps 68 = .ok (.aload_n 0, 1) := by decide +kernel
theorem d_Model_jumps_69 : decode b_Model_jumps 69 = .ok (.getfield 42, 3) := by decide +kernel
theorem d_Model_jumps_72 : decode b_Model_jumps 72 = .ok (.iload_n 3, 1) := by decide +kernel
theorem d_Model_jumps_73 : decode b_Model_jumps 73 = .ok (.iaload, 1) := by decide +kernel
theorem d_Model_jumps_74 : decode b_Model_jumps 74 = .ok (.iastore, 1) := by decide +kernel
theorem d_Model_jumps_75 : decode b_Model_jumps 75 = .ok (.return_, 1) := by decide +kernel
theorem d_Model_bytes_0 : decode b_Model_bytes 0 = .ok (.iload_n 1, 1) := by decide +kernel
theorem d_Model_bytes_1 : decode b_Model_bytes 1 = .ok (.bipush 20, 2) := by decide +kernel
theorem d_Model_bytes_3 : decode b_Model_bytes 3 = .ok (.if_icmp .ne 12, 3) := by decide +kernel
theorem d_Model_bytes_6 : decode b_Model_bytes 6 = .ok (.aload_n 0, 1) := by decide +kernel
theorem d_Model_bytes_7 : decode b_Model_bytes 7 = .ok (.aload_n 0, 1) := by decide +kernel
theorem d_Model_bytes_8 : decode b_Model_bytes 8 = .ok (.getfield 119, 3) := by decide +kernel
theorem d_Model_bytes_11 : decode b_Model_bytes 11 = .ok (.invokevirtual 146, 3) := by decide +kernel
theorem d_Model_bytes_14 : decode b_Model_bytes 14 = .ok (.return_, 1) := by decide +kernel
theorem d_Model_bytes_15 : decode b_Model_bytes 15 = .ok (.aload_n 0, 1) := by decide +kernel
theorem d_Model_bytes_16 : decode b_Model_bytes 16 = .ok (.invokevirtual 178, 3) := by decide +kernel
theorem d_Model_bytes_19 : decode b_Model_bytes 19 = .ok (.istore_n 2, 1) := by decide +kernel
theorem d_Model_bytes_20 : decode b_Model_bytes 20 = .ok (.iload_n 1, 1) := by decide +kernel
theorem d_Model_bytes_21 : decode b_Model_bytes 21 = .ok (.bipush 19, 2) := by decide +kernel
theorem d_Model_bytes_23 : decode b_Model_bytes 23 = .ok (.if_icmp .ne 38, 3) := by decide +kernel
theorem d_Model_bytes_26 : decode b_Model_bytes 26 = .ok (.iload_n 2, 1) := by decide +kernel
theorem d_Model_bytes_27 : decode b_Model_bytes 27 = .ok (.ifCond .lt 11, 3) := by decide +kernel
theorem d_Model_bytes_30 : decode b_Model_bytes 30 = .ok (.iload_n 2, 1) := by decide +kernel
theorem d_Model_bytes_31 : decode b_Model_bytes 31 = .ok (.aload_n 0, 1) := by decide +kernel
theorem d_Model_bytes_32 : decode b_Model_bytes 32 = .ok (.getfield 119, 3) := by decide +kernel
theorem d_Model_bytes_35 : decode b_Model_bytes 35 = .ok (.if_icmp .lt 11, 3) := by decide +kernel
theorem d_Model_bytes_38 : decode b_Model_bytes 38 = .ok (.aload_n 0, 1) := by decide +kernel
theorem d_Model_bytes_39 : decode b_Model_bytes 39 = .ok (.iconst 2, 1) := by decide +kernel
theorem d_Model_bytes_40 : decode b_Model_bytes 40 = .ok (.invokevirtual 149, 3) := by decide +kernel
theorem d_Model_bytes_43 : decode b_Model_bytes 43 = .ok (.goto 17, 3) := by decide +kernel
theorem d_Model_bytes_46 : decode b_Model_bytes 46 = .ok (.aload_n 0, 1) := by decide +kernel
theorem d_Model_bytes_47 : decode b_Model_bytes 47 = .ok (.aload_n 0, 1) := by decide +kernel
theorem d_Model_bytes_48 : decode b_Model_bytes 48 = .ok (.getfield 54, 3) := by decide +kernel
theorem d_Model_bytes_51 : decode b_Model_bytes 51 = .ok (.iload_n 2, 1) := by decide +kernel
theorem d_Model_bytes_52 : decode b_Model_bytes 52 = .ok (.baload, 1) := by decide +kernel
theorem d_Model_bytes_53 : decode b_Model_bytes 53 = .ok (.sipush 255, 3) := by decide +kernel
theorem d_Model_bytes_56 : decode b_Model_bytes 56 = .ok (.iand, 1) := by decide +kernel
theorem d_Model_bytes_57 : decode b_Model_bytes 57 = .ok (.invokevirtual 146, 3) := by decide +kernel
theorem d_Model_bytes_60 : decode b_Model_bytes 60 = .ok (.return_, 1) := by decide +kernel
theorem d_Model_bytes_61 : decode b_Model_bytes 61 = .ok (.aload_n 0, 1) := by decide +kernel
theorem d_Model_bytes_62 : decode b_Model_bytes 62 = .ok (.getfield 122, 3) := by decide +kernel
theorem d_Model_bytes_65 : decode b_Model_bytes 65 = .ok (.bipush 64, 2) := by decide +kernel
theorem d_Model_bytes_67 : decode b_Model_bytes 67 = .ok (.if_icmp .ne 9, 3) := by decide +kernel
theorem d_Model_bytes_70 : decode b_Model_bytes 70 = .ok (.aload_n 0, 1) := by decide +kernel
theorem d_Model_bytes_71 : decode b_Model_bytes 71 = .ok (.iconst 3, 1) := by decide +kernel
theorem d_Model_bytes_72 : decode b_Model_bytes 72 = .ok (.invokevirtual 149, 3) := by decide +kernel
theorem d_Model_bytes_75 : decode b_Model_bytes 75 = .ok (.return_, 1) := by decide +kernel
theorem d_Model_bytes_76 : decode b_Model_bytes 76 = .ok (.aload_n 0, 1) := by decide +kernel
theorem d_Model_bytes_77 : decode b_Model_bytes 77 = .ok (.getfield 57, 3) := by decide +kernel
theorem d_Model_bytes_80 : decode b_Model_bytes 80 = .ok (.aload_n 0, 1) := by decide +kernel
theorem d_Model_bytes_81 : decode b_Model_bytes 81 = .ok (.getfield 122, 3) := by decide +kernel
theorem d_Model_bytes_84 : decode b_Model_bytes 84 = .ok (.iload_n 2, 1) := by decide +kernel
theorem d_Model_bytes_85 : decode b_Model_bytes 85 = .ok (.i2b, 1) := by decide +kernel
theorem d_Model_bytes_86 : decode b_Model_bytes 86 = .ok (.bastore, 1) := by decide +kernel
theorem d_Model_bytes_87 : decode b_Model_bytes 87 = .ok (.aload_n 0, 1) := by decide +kernel
theorem d_Model_bytes_88 : decode b_Model_bytes 88 = .ok (.dup, 1) := by decide +kernel
theorem d_Model_bytes_89 : decode b_Model_bytes 89 = .ok (.getfield 122, 3) := by decide +kernel
theorem d_Model_bytes_92 : decode b_Model_bytes 92 = .ok (.iconst 1, 1) := by decide +kernel
theorem d_Model_bytes_93 : decode b_Model_bytes 93 = .ok (.iadd, 1) := by decide +kernel
theorem d_Model_bytes_94 : decode b_Model_bytes 94 = .ok (.putfield 122, 3) := by decide +kernel
theorem d_Model_bytes_97 : decode b_Model_bytes 97 = .ok (.return_, 1) := by decide +kernel
theorem d_Model_finish_0 : decode b_Model_finish 0 = .ok (.iload_n 1, 1) := by decide +kernel
theorem d_Model_finish_1 : decode b_Model_finish 1 = .ok (.bipush 24, 2) := by decide +kernel
theorem d_Model_finish_3 : decode b_Model_finish 3 = .ok (.if_icmp .ne 11, 3) := by decide +kernel
theorem d_Model_finish_6 : decode b_Model_finish 6 = .ok (.aload_n 0, 1) := by decide +kernel
theorem d_Model_finish_7 : decode b_Model_finish 7 = .ok (.iconst 1, 1) := by decide +kernel
theorem d_Model_finish_8 : decode b_Model_finish 8 = .ok (.invokevirtual 149, 3) := by decide +kernel
theorem d_Model_finish_11 : decode b_Model_finish 11 = .ok (.goto 21, 3) := by decide +kernel
theorem d_Model_finish_14 : decode b_Model_finish 14 = .ok (.aload_n 0, 1) := by decide +kernel
theorem d_Model_finish_15 : decode b_Model_finish 15 = .ok (.iload_n 1, 1) := by decide +kernel
theorem d_Model_finish_16 : decode b_Model_finish 16 = .ok (.bipush 22, 2) := by decide +kernel
theorem d_Model_finish_18 : decode b_Model_finish 18 = .ok (.if_icmp .ne 10, 3) := by decide +kernel
theorem d_Model_finish_21 : decode b_Model_finish 21 = .ok (.aload_n 0, 1) := by decide +kernel
theorem d_Model_finish_22 : decode b_Model_finish 22 = .ok (.invokevirtual 178, 3) := by decide +kernel
theorem d_Model_finish_25 : decode b_Model_finish 25 = .ok (.goto 4, 3) := by decide +kernel
theorem d_Model_finish_28 : decode b_Model_finish 28 = .ok (.iconst 0, 1) := by decide +kernel
theorem d_Model_finish_29 : decode b_Model_finish 29 = .ok (.invokevirtual 181, 3) := by decide +kernel
theorem d_Model_finish_32 : decode b_Model_finish 32 = .ok (.return_, 1) := by decide +kernel
theorem d_Model_divide_0 : decode b_Model_divide 0 = .ok (.aload_n 0, 1) := by decide +kernel
theorem d_Model_divide_1 : decode b_Model_divide 1 = .ok (.invokevirtual 178, 3) := by decide +kernel
theorem d_Model_divide_4 : decode b_Model_divide 4 = .ok (.istore_n 2, 1) := by decide +kernel
theorem d_Model_divide_5 : decode b_Model_divide 5 = .ok (.aload_n 0, 1) := by decide +kernel
theorem d_Model_divide_6 : decode b_Model_divide 6 = .ok (.invokevirtual 178, 3) := by decide +kernel
theorem d_Model_divide_9 : decode b_Model_divide 9 = .ok (.istore_n 3, 1) := by decide +kernel
theorem d_Model_divide_10 : decode b_Model_divide 10 = .ok (.iload_n 2, 1) := by decide +kernel
theorem d_Model_divide_11 : decode b_Model_divide 11 = .ok (.ifCond .ne 9, 3) := by decide +kernel
theorem d_Model_divide_14 : decode b_Model_divide 14 = .ok (.aload_n 0, 1) := by decide +kernel
theorem d_Model_divide_15 : decode b_Model_divide 15 = .ok (.iconst 1, 1) := by decide +kernel
theorem d_Model_divide_16 : decode b_Model_divide 16 = .ok (.invokevirtual 149, 3) := by decide +kernel
theorem d_Model_divide_19 : decode b_Model_divide 19 = .ok (.return_, 1) := by decide +kernel
theorem d_Model_divide_20 : decode b_Model_divide 20 = .ok (.iload_n 2, 1) := by decide +kernel
theorem d_Model_divide_21 : decode b_Model_divide 21 = .ok (.iconst (-1), 1) := by decide +kernel
theorem d_Model_divide_22 : decode b_Model_divide 22 = .ok (.if_icmp .ne 22, 3) := by decide +kernel
theorem d_Model_divide_25 : decode b_Model_divide 25 = .ok (.aload_n 0, 1) := by decide +kernel
theorem d_Model_divide_26 : decode b_Model_divide 26 = .ok (.iload_n 1, 1) := by decide +kernel
theorem d_Model_divide_27 : decode b_Model_divide 27 = .ok (.bipush 25, 2) := by decide +kernel
theorem d_Model_divide_29 : decode b_Model_divide 29 = .ok (.if_icmp .ne 8, 3) := by decide +kernel
theorem d_Model_divide_32 : decode b_Model_divide 32 = .ok (.iload_n 3, 1) := by decide +kernel
theorem d_Model_divide_33 : decode b_Model_divide 33 = .ok (.ineg, 1) := by decide +kernel
theorem d_Model_divide_34 : decode b_Model_divide 34 = .ok (.goto 4, 3) := by decide +kernel
theorem d_Model_divide_37 : decode b_Model_divide 37 = .ok (.iconst 0, 1) := by decide +kernel
theorem d_Model_divide_38 : decode b_Model_divide 38 = .ok (.invokevirtual 146, 3) := by decide +kernel
theorem d_Model_divide_41 : decode b_Model_divide 41 = .ok (.goto 22, 3) := by decide +kernel
theorem d_Model_divide_44 : decode b_Model_divide 44 = .ok (.aload_n 0, 1) := by decide +kernel
theorem d_Model_divide_45 : decode b_Model_divide 45 = .ok (.iload_n 1, 1) := by decide +kernel
theorem d_Model_divide_46 : decode b_Model_divide 46 = .ok (.bipush 25, 2) := by decide +kernel
theorem d_Model_divide_48 : decode b_Model_divide 48 = .ok (.if_icmp .ne 9, 3) := by decide +kernel
theorem d_Model_divide_51 : decode b_Model_divide 51 = .ok (.iload_n 3, 1) := by decide +kernel
theorem d_Model_divide_52 : decode b_Model_divide 52 = .ok (.iload_n 2, 1) := by decide +kernel
theorem d_Model_divide_53 : decode b_Model_divide 53 = .ok (.idiv, 1) := by decide +kernel
theorem d_Model_divide_54 : decode b_Model_divide 54 = .ok (.goto 6, 3) := by decide +kernel
theorem d_Model_divide_57 : decode b_Model_divide 57 = .ok (.iload_n 3, 1) := by decide +kernel
theorem d_Model_divide_58 : decode b_Model_divide 58 = .ok (.iload_n 2, 1) := by decide +kernel
theorem d_Model_divide_59 : decode b_Model_divide 59 = .ok (.irem, 1) := by decide +kernel
theorem d_Model_divide_60 : decode b_Model_divide 60 = .ok (.invokevirtual 146, 3) := by decide +kernel
theorem d_Model_divide_63 : decode b_Model_divide 63 = .ok (.return_, 1) := by decide +kernel
theorem d_Model_call_0 : decode b_Model_call 0 = .ok (.aload_n 0, 1) := by decide +kernel
theorem d_Model_call_1 : decode b_Model_call 1 = .ok (.getfield 16, 3) := by decide +kernel
theorem d_Model_call_4 : decode b_Model_call 4 = .ok (.iload_n 1, 1) := by decide +kernel
theorem d_Model_call_5 : decode b_Model_call 5 = .ok (.bipush 8, 2) := by decide +kernel
theorem d_Model_call_7 : decode b_Model_call 7 = .ok (.irem, 1) := by decide +kernel
theorem d_Model_call_8 : decode b_Model_call 8 = .ok (.iaload, 1) := by decide +kernel
theorem d_Model_call_9 : decode b_Model_call 9 = .ok (.ifCond .ne 11, 3) := by decide +kernel
theorem d_Model_call_12 : decode b_Model_call 12 = .ok (.aload_n 0, 1) := by decide +kernel
theorem d_Model_call_13 : decode b_Model_call 13 = .ok (.iconst 4, 1) := by decide +kernel
theorem d_Model_call_14 : decode b_Model_call 14 = .ok (.invokevirtual 149, 3) := by decide +kernel
theorem d_Model_call_17 : decode b_Model_call 17 = .ok (.goto 32, 3) := by decide +kernel
theorem d_Model_call_20 : decode b_Model_call 20 = .ok (.aload_n 0, 1) := by decide +kernel
theorem d_Model_call_21 : decode b_Model_call 21 = .ok (.getfield 140, 3) := by decide +kernel
theorem d_Model_call_24 : decode b_Model_call 24 = .ok (.bipush 8, 2) := by decide +kernel
theorem d_Model_call_26 : decode b_Model_call 26 = .ok (.if_icmp .ne 11, 3) := by decide +kernel
theorem d_Model_call_29 : decode b_Model_call 29 = .ok (.aload_n 0, 1) := by decide +kernel
theorem d_Model_call_30 : decode b_Model_call 30 = .ok (.iconst 5, 1) := by decide +kernel
theorem d_Model_call_31 : decode b_Model_call 31 = .ok (.invokevirtual 149, 3) := by decide +kernel
theorem d_Model_call_34 : decode b_Model_call 34 = .ok (.goto 15, 3) := by decide +kernel
theorem d_Model_call_37 : decode b_Model_call 37 = .ok (.aload_n 0, 1) := by decide +kernel
theorem d_Model_call_38 : decode b_Model_call 38 = .ok (.iload_n 1, 1) := by decide +kernel
theorem d_Model_call_39 : decode b_Model_call 39 = .ok (.bipush 8, 2) := by decide +kernel
theorem d_Model_call_41 : decode b_Model_call 41 = .ok (.irem, 1) := by decide +kernel
theorem d_Model_call_42 : decode b_Model_call 42 = .ok (.iload_n 1, 1) := by decide +kernel
theorem d_Model_call_43 : decode b_Model_call 43 = .ok (.bipush 8, 2) := by decide +kernel
theorem d_Model_call_45 : decode b_Model_call 45 = .ok (.idiv, 1) := by decide +kernel
theorem d_Model_call_46 : decode b_Model_call 46 = .ok (.invokevirtual 143, 3) := by decide +kernel
theorem d_Model_call_49 : decode b_Model_call 49 = .ok (.return_, 1) := by decide +kernel
theorem d_Model_state_0 : decode b_Model_state 0 = .ok (.aload_n 0, 1) := by decide +kernel
theorem d_Model_state_1 : decode b_Model_state 1 = .ok (.getfield 125, 3) := by decide +kernel
theorem d_Model_state_4 : decode b_Model_state 4 = .ok (.ifCond .ne 5, 3) := by decide +kernel
theorem d_Model_state_7 : decode b_Model_state 7 = .ok (.iconst (-1), 1) := by decide +kernel
theorem d_Model_state_8 : decode b_Model_state 8 = .ok (.ireturn, 1) := by decide +kernel
theorem d_Model_state_9 : decode b_Model_state 9 = .ok (.iload_n 1, 1) := by decide +kernel
theorem d_Model_state_10 : decode b_Model_state 10 = .ok (.tableswitch 152 0 7 #[46, 70, 75, 80, 85, 101, 124, 147], 46) := by decide +kernel
theorem d_Model_state_56 : decode b_Model_state 56 = .ok (.aload_n 0, 1) := by decide +kernel
theorem d_Model_state_57 : decode b_Model_state 57 = .ok (.getfield 108, 3) := by decide +kernel
theorem d_Model_state_60 : decode b_Model_state 60 = .ok (.ifCond .eq 7, 3) := by decide +kernel
theorem d_Model_state_63 : decode b_Model_state 63 = .ok (.iconst 1, 1) := by decide +kernel
theorem d_Model_state_64 : decode b_Model_state 64 = .ok (.goto 15, 3) := by decide +kernel
theorem d_Model_state_67 : decode b_Model_state 67 = .ok (.aload_n 0, 1) := by decide +kernel
theorem d_Model_state_68 : decode b_Model_state 68 = .ok (.getfield 128, 3) := by decide +kernel
theorem d_Model_state_71 : decode b_Model_state 71 = .ok (.ifCond .eq 7, 3) := by decide +kernel
theorem d_Model_state_74 : decode b_Model_state 74 = .ok (.iconst 2, 1) := by decide +kernel
theorem d_Model_state_75 : decode b_Model_state 75 = .ok (.goto 4, 3) := by decide +kernel
theorem d_Model_state_78 : decode b_Model_state 78 = .ok (.iconst 0, 1) := by decide +kernel
theorem d_Model_state_79 : decode b_Model_state 79 = .ok (.ireturn, 1) := by decide +kernel
theorem d_Model_state_80 : decode b_Model_state 80 = .ok (.aload_n 0, 1) := by decide +kernel
theorem d_Model_state_81 : decode b_Model_state 81 = .ok (.getfield 131, 3) := by decide +kernel
theorem d_Model_state_84 : decode b_Model_state 84 = .ok (.ireturn, 1) := by decide +kernel
theorem d_Model_state_85 : decode b_Model_state 85 = .ok (.aload_n 0, 1) := by decide +kernel
theorem d_Model_state_86 : decode b_Model_state 86 = .ok (.getfield 134, 3) := by decide +kernel
theorem d_Model_state_89 : decode b_Model_state 89 = .ok (.ireturn, 1) := by decide +kernel
theorem d_Model_state_90 : decode b_Model_state 90 = .ok (.aload_n 0, 1) := by decide +kernel
theorem d_Model_state_91 : decode b_Model_state 91 = .ok (.getfield 137, 3) := by decide +kernel
theorem d_Model_state_94 : decode b_Model_state 94 = .ok (.ireturn, 1) := by decide +kernel
theorem d_Model_state_95 : decode b_Model_state 95 = .ok (.aload_n 0, 1) := by decide +kernel
theorem d_Model_state_96 : decode b_Model_state 96 = .ok (.getfield 108, 3) := by decide +kernel
theorem d_Model_state_99 : decode b_Model_state 99 = .ok (.ifCond .eq 10, 3) := by decide +kernel
theorem d_Model_state_102 : decode b_Model_state 102 = .ok (.aload_n 0, 1) := by decide +kernel
theorem d_Model_state_103 : decode b_Model_state 103 = .ok (.getfield 140, 3) := by decide +kernel
theorem d_Model_state_106 : decode b_Model_state 106 = .ok (.goto 4, 3) := by decide +kernel
theorem d_Model_state_109 : decode b_Model_state 109 = .ok (.iconst 0, 1) := by decide +kernel
theorem d_Model_state_110 : decode b_Model_state 110 = .ok (.ireturn, 1) := by decide +kernel
theorem d_Model_state_111 : decode b_Model_state 111 = .ok (.aload_n 0, 1) := by decide +kernel
theorem d_Model_state_112 : decode b_Model_state 112 = .ok (.getfield 108, 3) := by decide +kernel
theorem d_Model_state_115 : decode b_Model_state 115 = .ok (.ifCond .eq 17, 3) := by decide +kernel
theorem d_Model_state_118 : decode b_Model_state 118 = .ok (.aload_n 0, 1) := by decide +kernel
theorem d_Model_state_119 : decode b_Model_state 119 = .ok (.getfield 39, 3) := by decide +kernel
theorem d_Model_state_122 : decode b_Model_state 122 = .ok (.aload_n 0, 1) := by decide +kernel
theorem d_Model_state_123 : decode b_Model_state 123 = .ok (.getfield 140, 3) := by decide +kernel
theorem d_Model_state_126 : decode b_Model_state 126 = .ok (.iconst 1, 1) := by decide +kernel
theorem d_Model_state_127 : decode b_Model_state 127 = .ok (.isub, 1) := by decide +kernel
theorem d_Model_state_128 : decode b_Model_state 128 = .ok (.iaload, 1) := by decide +kernel
theorem d_Model_state_129 : decode b_Model_state 129 = .ok (.goto 4, 3) := by decide +kernel
theorem d_Model_state_132 : decode b_Model_state 132 = .ok (.iconst (-1), 1) := by decide +kernel
theorem d_Model_state_133 : decode b_Model_state 133 = .ok (.ireturn, 1) := by decide +kernel
theorem d_Model_state_134 : decode b_Model_state 134 = .ok (.aload_n 0, 1) := by decide +kernel
theorem d_Model_state_135 : decode b_Model_state 135 = .ok (.getfield 108, 3) := by decide +kernel
theorem d_Model_state_138 : decode b_Model_state 138 = .ok (.ifCond .eq 17, 3) := by decide +kernel
theorem d_Model_state_141 : decode b_Model_state 141 = .ok (.aload_n 0, 1) := by decide +kernel
theorem d_Model_state_142 : decode b_Model_state 142 = .ok (.getfield 42, 3) := by decide +kernel
theorem d_Model_state_145 : decode b_Model_state 145 = .ok (.aload_n 0, 1) := by decide +kernel
theorem d_Model_state_146 : decode b_Model_state 146 = .ok (.getfield 140, 3) := by decide +kernel
theorem d_Model_state_149 : decode b_Model_state 149 = .ok (.iconst 1, 1) := by decide +kernel
theorem d_Model_state_150 : decode b_Model_state 150 = .ok (.isub, 1) := by decide +kernel
theorem d_Model_state_151 : decode b_Model_state 151 = .ok (.iaload, 1) := by decide +kernel
theorem d_Model_state_152 : decode b_Model_state 152 = .ok (.goto 4, 3) := by decide +kernel
theorem d_Model_state_155 : decode b_Model_state 155 = .ok (.iconst (-1), 1) := by decide +kernel
theorem d_Model_state_156 : decode b_Model_state 156 = .ok (.ireturn, 1) := by decide +kernel
theorem d_Model_state_157 : decode b_Model_state 157 = .ok (.aload_n 0, 1) := by decide +kernel
theorem d_Model_state_158 : decode b_Model_state 158 = .ok (.getfield 122, 3) := by decide +kernel
theorem d_Model_state_161 : decode b_Model_state 161 = .ok (.ireturn, 1) := by decide +kernel
theorem d_Model_state_162 : decode b_Model_state 162 = .ok (.iconst (-1), 1) := by decide +kernel
theorem d_Model_state_163 : decode b_Model_state 163 = .ok (.ireturn, 1) := by decide +kernel
theorem d_Model_stack_0 : decode b_Model_stack 0 = .ok (.aload_n 0, 1) := by decide +kernel
theorem d_Model_stack_1 : decode b_Model_stack 1 = .ok (.getfield 108, 3) := by decide +kernel
theorem d_Model_stack_4 : decode b_Model_stack 4 = .ok (.ifCond .eq 22, 3) := by decide +kernel
theorem d_Model_stack_7 : decode b_Model_stack 7 = .ok (.iload_n 1, 1) := by decide +kernel
theorem d_Model_stack_8 : decode b_Model_stack 8 = .ok (.ifCond .lt 18, 3) := by decide +kernel
theorem d_Model_stack_11 : decode b_Model_stack 11 = .ok (.iload_n 1, 1) := by decide +kernel
theorem d_Model_stack_12 : decode b_Model_stack 12 = .ok (.aload_n 0, 1) := by decide +kernel
theorem d_Model_stack_13 : decode b_Model_stack 13 = .ok (.getfield 45, 3) := by decide +kernel
theorem d_Model_stack_16 : decode b_Model_stack 16 = .ok (.aload_n 0, 1) := by decide +kernel
theorem d_Model_stack_17 : decode b_Model_stack 17 = .ok (.getfield 140, 3) := by decide +kernel
theorem d_Model_stack_20 : decode b_Model_stack 20 = .ok (.iconst 1, 1) := by decide +kernel
theorem d_Model_stack_21 : decode b_Model_stack 21 = .ok (.isub, 1) := by decide +kernel
theorem d_Model_stack_22 : decode b_Model_stack 22 = .ok (.iaload, 1) := by decide +kernel
theorem d_Model_stack_23 : decode b_Model_stack 23 = .ok (.if_icmp .lt 7, 3) := by decide +kernel
theorem d_Model_stack_26 : decode b_Model_stack 26 = .ok (.iconst 0, 1) := by decide +kernel
theorem d_Model_stack_27 : decode b_Model_stack 27 = .ok (.goto 19, 3) := by decide +kernel
theorem d_Model_stack_30 : decode b_Model_stack 30 = .ok (.aload_n 0, 1) := by decide +kernel
theorem d_Model_stack_31 : decode b_Model_stack 31 = .ok (.getfield 48, 3) := by decide +kernel
theorem d_Model_stack_34 : decode b_Model_stack 34 = .ok (.bipush 8, 2) := by decide +kernel
theorem d_Model_stack_36 : decode b_Model_stack 36 = .ok (.aload_n 0, 1) := by decide +kernel
theorem d_Model_stack_37 : decode b_Model_stack 37 = .ok (.getfield 140, 3) := by decide +kernel
theorem d_Model_stack_40 : decode b_Model_stack 40 = .ok (.iconst 1, 1) := by decide +kernel
theorem d_Model_stack_41 : decode b_Model_stack 41 = .ok (.isub, 1) := by decide +kernel
theorem d_Model_stack_42 : decode b_Model_stack 42 = .ok (.imul, 1) := by decide +kernel
theorem d_Model_stack_43 : decode b_Model_stack 43 = .ok (.iload_n 1, 1) := by decide +kernel
theorem d_Model_stack_44 : decode b_Model_stack 44 = .ok (.iadd, 1) := by decide +kernel
theorem d_Model_stack_45 : decode b_Model_stack 45 = .ok (.iaload, 1) := by decide +kernel
theorem d_Model_stack_46 : decode b_Model_stack 46 = .ok (.ireturn, 1) := by decide +kernel
theorem d_Model_local_0 : decode b_Model_local 0 = .ok (.aload_n 0, 1) := by decide +kernel
theorem d_Model_local_1 : decode b_Model_local 1 = .ok (.getfield 108, 3) := by decide +kernel
theorem d_Model_local_4 : decode b_Model_local 4 = .ok (.ifCond .eq 13, 3) := by decide +kernel
theorem d_Model_local_7 : decode b_Model_local 7 = .ok (.iload_n 1, 1) := by decide +kernel
theorem d_Model_local_8 : decode b_Model_local 8 = .ok (.ifCond .lt 9, 3) := by decide +kernel
theorem d_Model_local_11 : decode b_Model_local 11 = .ok (.iload_n 1, 1) := by decide +kernel
theorem d_Model_local_12 : decode b_Model_local 12 = .ok (.bipush 7, 2) := by decide +kernel
theorem d_Model_local_14 : decode b_Model_local 14 = .ok (.if_icmp .le 7, 3) := by decide +kernel
theorem d_Model_local_17 : decode b_Model_local 17 = .ok (.iconst 0, 1) := by decide +kernel
theorem d_Model_local_18 : decode b_Model_local 18 = .ok (.goto 19, 3) := by decide +kernel
theorem d_Model_local_21 : decode b_Model_local 21 = .ok (.aload_n 0, 1) := by decide +kernel
theorem d_Model_local_22 : decode b_Model_local 22 = .ok (.getfield 51, 3) := by decide +kernel
theorem d_Model_local_25 : decode b_Model_local 25 = .ok (.bipush 8, 2) := by decide +kernel
theorem d_Model_local_27 : decode b_Model_local 27 = .ok (.aload_n 0, 1) := by decide +kernel
theorem d_Model_local_28 : decode b_Model_local 28 = .ok (.getfield 140, 3) := by decide +kernel
theorem d_Model_local_31 : decode b_Model_local 31 = .ok (.iconst 1, 1) := by decide +kernel
theorem d_Model_local_32 : decode b_Model_local 32 = .ok (.isub, 1) := by decide +kernel
theorem d_Model_local_33 : decode b_Model_local 33 = .ok (.imul, 1) := by decide +kernel
theorem d_Model_local_34 : decode b_Model_local 34 = .ok (.iload_n 1, 1) := by decide +kernel
theorem d_Model_local_35 : decode b_Model_local 35 = .ok (.iadd, 1) := by decide +kernel
theorem d_Model_local_36 : decode b_Model_local 36 = .ok (.iaload, 1) := by decide +kernel
theorem d_Model_local_37 : decode b_Model_local 37 = .ok (.ireturn, 1) := by decide +kernel
theorem d_Model_cell_0 : decode b_Model_cell 0 = .ok (.iload_n 1, 1) := by decide +kernel
theorem d_Model_cell_1 : decode b_Model_cell 1 = .ok (.ifCond .lt 28, 3) := by decide +kernel
theorem d_Model_cell_4 : decode b_Model_cell 4 = .ok (.iload_n 1, 1) := by decide +kernel
theorem d_Model_cell_5 : decode b_Model_cell 5 = .ok (.bipush 8, 2) := by decide +kernel
theorem d_Model_cell_7 : decode b_Model_cell 7 = .ok (.if_icmp .ge 22, 3) := by decide +kernel
theorem d_Model_cell_10 : decode b_Model_cell 10 = .ok (.aload_n 0, 1) := by decide +kernel
theorem d_Model_cell_11 : decode b_Model_cell 11 = .ok (.getfield 16, 3) := by decide +kernel
theorem d_Model_cell_14 : decode b_Model_cell 14 = .ok (.iload_n 1, 1) := by decide +kernel
theorem d_Model_cell_15 : decode b_Model_cell 15 = .ok (.iaload, 1) := by decide +kernel
theorem d_Model_cell_16 : decode b_Model_cell 16 = .ok (.ifCond .eq 13, 3) := by decide +kernel
theorem d_Model_cell_19 : decode b_Model_cell 19 = .ok (.iload_n 2, 1) := by decide +kernel
theorem d_Model_cell_20 : decode b_Model_cell 20 = .ok (.ifCond .lt 9, 3) := by decide +kernel
theorem d_Model_cell_23 : decode b_Model_cell 23 = .ok (.iload_n 2, 1) := by decide +kernel
theorem d_Model_cell_24 : decode b_Model_cell 24 = .ok (.bipush 16, 2) := by decide +kernel
theorem d_Model_cell_26 : decode b_Model_cell 26 = .ok (.if_icmp .lt 7, 3) := by decide +kernel
theorem d_Model_cell_29 : decode b_Model_cell 29 = .ok (.iconst 0, 1) := by decide +kernel
theorem d_Model_cell_30 : decode b_Model_cell 30 = .ok (.goto 14, 3) := by decide +kernel
theorem d_Model_cell_33 : decode b_Model_cell 33 = .ok (.aload_n 0, 1) := by decide +kernel
theorem d_Model_cell_34 : decode b_Model_cell 34 = .ok (.getfield 23, 3) := by decide +kernel
theorem d_Model_cell_37 : decode b_Model_cell 37 = .ok (.iload_n 1, 1) := by decide +kernel
theorem d_Model_cell_38 : decode b_Model_cell 38 = .ok (.bipush 16, 2) := by decide +kernel
theorem d_Model_cell_40 : decode b_Model_cell 40 = .ok (.imul, 1) := by decide +kernel
theorem d_Model_cell_41 : decode b_Model_cell 41 = .ok (.iload_n 2, 1) := by decide +kernel
theorem d_Model_cell_42 : decode b_Model_cell 42 = .ok (.iadd, 1) := by decide +kernel
theorem d_Model_cell_43 : decode b_Model_cell 43 = .ok (.iaload, 1) := by decide +kernel
theorem d_Model_cell_44 : decode b_Model_cell 44 = .ok (.ireturn, 1) := by decide +kernel
theorem d_Model_out_0 : decode b_Model_out 0 = .ok (.iload_n 1, 1) := by decide +kernel
theorem d_Model_out_1 : decode b_Model_out 1 = .ok (.ifCond .lt 11, 3) := by decide +kernel
theorem d_Model_out_4 : decode b_Model_out 4 = .ok (.iload_n 1, 1) := by decide +kernel
theorem d_Model_out_5 : decode b_Model_out 5 = .ok (.aload_n 0, 1) := by decide +kernel
theorem d_Model_out_6 : decode b_Model_out 6 = .ok (.getfield 122, 3) := by decide +kernel
theorem d_Model_out_9 : decode b_Model_out 9 = .ok (.if_icmp .lt 7, 3) := by decide +kernel
theorem d_Model_out_12 : decode b_Model_out 12 = .ok (.iconst (-1), 1) := by decide +kernel
theorem d_Model_out_13 : decode b_Model_out 13 = .ok (.goto 13, 3) := by decide +kernel
theorem d_Model_out_16 : decode b_Model_out 16 = .ok (.aload_n 0, 1) := by decide +kernel
theorem d_Model_out_17 : decode b_Model_out 17 = .ok (.getfield 57, 3) := by decide +kernel
theorem d_Model_out_20 : decode b_Model_out 20 = .ok (.iload_n 1, 1) := by decide +kernel
theorem d_Model_out_21 : decode b_Model_out 21 = .ok (.baload, 1) := by decide +kernel
theorem d_Model_out_22 : decode b_Model_out 22 = .ok (.sipush 255, 3) := by decide +kernel
theorem d_Model_out_25 : decode b_Model_out 25 = .ok (.iand, 1) := by decide +kernel
theorem d_Model_out_26 : decode b_Model_out 26 = .ok (.ireturn, 1) := by decide +kernel
theorem d_Model_height_0 : decode b_Model_height 0 = .ok (.iload_n 1, 1) := by decide +kernel
theorem d_Model_height_1 : decode b_Model_height 1 = .ok (.ifCond .lt 32, 3) := by decide +kernel
theorem d_Model_height_4 : decode b_Model_height 4 = .ok (.iload_n 1, 1) := by decide +kernel
theorem d_Model_height_5 : decode b_Model_height 5 = .ok (.bipush 8, 2) := by decide +kernel
theorem d_Model_height_7 : decode b_Model_height 7 = .ok (.if_icmp .ge 26, 3) := by decide +kernel
theorem d_Model_height_10 : decode b_Model_height 10 = .ok (.aload_n 0, 1) := by decide +kernel
theorem d_Model_height_11 : decode b_Model_height 11 = .ok (.getfield 16, 3) := by decide +kernel
theorem d_Model_height_14 : decode b_Model_height 14 = .ok (.iload_n 1, 1) := by decide +kernel
theorem d_Model_height_15 : decode b_Model_height 15 = .ok (.iaload, 1) := by decide +kernel
theorem d_Model_height_16 : decode b_Model_height 16 = .ok (.ifCond .eq 17, 3) := by decide +kernel
theorem d_Model_height_19 : decode b_Model_height 19 = .ok (.iload_n 2, 1) := by decide +kernel
theorem d_Model_height_20 : decode b_Model_height 20 = .ok (.ifCond .lt 13, 3) := by decide +kernel
theorem d_Model_height_23 : decode b_Model_height 23 = .ok (.iload_n 2, 1) := by decide +kernel
theorem d_Model_height_24 : decode b_Model_height 24 = .ok (.aload_n 0, 1) := by decide +kernel
theorem d_Model_height_25 : decode b_Model_height 25 = .ok (.getfield 16, 3) := by decide +kernel
theorem d_Model_height_28 : decode b_Model_height 28 = .ok (.iload_n 1, 1) := by decide +kernel
theorem d_Model_height_29 : decode b_Model_height 29 = .ok (.iaload, 1) := by decide +kernel
theorem d_Model_height_30 : decode b_Model_height 30 = .ok (.if_icmp .lt 7, 3) := by decide +kernel
theorem d_Model_height_33 : decode b_Model_height 33 = .ok (.iconst (-1), 1) := by decide +kernel
theorem d_Model_height_34 : decode b_Model_height 34 = .ok (.goto 15, 3) := by decide +kernel
theorem d_Model_height_37 : decode b_Model_height 37 = .ok (.aload_n 0, 1) := by decide +kernel
theorem d_Model_height_38 : decode b_Model_height 38 = .ok (.getfield 20, 3) := by decide +kernel
theorem d_Model_height_41 : decode b_Model_height 41 = .ok (.iload_n 1, 1) := by decide +kernel
theorem d_Model_height_42 : decode b_Model_height 42 = .ok (.sipush 256, 3) := by decide +kernel
theorem d_Model_height_45 : decode b_Model_height 45 = .ok (.imul, 1) := by decide +kernel
theorem d_Model_height_46 : decode b_Model_height 46 = .ok (.iload_n 2, 1) := by decide +kernel
theorem d_Model_height_47 : decode b_Model_height 47 = .ok (.iadd, 1) := by decide +kernel
theorem d_Model_height_48 : decode b_Model_height 48 = .ok (.iaload, 1) := by decide +kernel
theorem d_Model_height_49 : decode b_Model_height 49 = .ok (.ireturn, 1) := by decide +kernel
theorem d_Model_size_0 : decode b_Model_size 0 = .ok (.iload_n 1, 1) := by decide +kernel
theorem d_Model_size_1 : decode b_Model_size 1 = .ok (.ifCond .lt 18, 3) := by decide +kernel
theorem d_Model_size_4 : decode b_Model_size 4 = .ok (.iload_n 1, 1) := by decide +kernel
theorem d_Model_size_5 : decode b_Model_size 5 = .ok (.bipush 8, 2) := by decide +kernel
theorem d_Model_size_7 : decode b_Model_size 7 = .ok (.if_icmp .ge 12, 3) := by decide +kernel
theorem d_Model_size_10 : decode b_Model_size 10 = .ok (.aload_n 0, 1) := by decide +kernel
theorem d_Model_size_11 : decode b_Model_size 11 = .ok (.getfield 16, 3) := by decide +kernel
theorem d_Model_size_14 : decode b_Model_size 14 = .ok (.iload_n 1, 1) := by decide +kernel
theorem d_Model_size_15 : decode b_Model_size 15 = .ok (.iaload, 1) := by decide +kernel
theorem d_Model_size_16 : decode b_Model_size 16 = .ok (.ifCond .ne 7, 3) := by decide +kernel
theorem d_Model_size_19 : decode b_Model_size 19 = .ok (.iconst (-1), 1) := by decide +kernel
theorem d_Model_size_20 : decode b_Model_size 20 = .ok (.goto 9, 3) := by decide +kernel
theorem d_Model_size_23 : decode b_Model_size 23 = .ok (.aload_n 0, 1) := by decide +kernel
theorem d_Model_size_24 : decode b_Model_size 24 = .ok (.getfield 16, 3) := by decide +kernel
theorem d_Model_size_27 : decode b_Model_size 27 = .ok (.iload_n 1, 1) := by decide +kernel
theorem d_Model_size_28 : decode b_Model_size 28 = .ok (.iaload, 1) := by decide +kernel
theorem d_Model_size_29 : decode b_Model_size 29 = .ok (.ireturn, 1) := by decide +kernel
end
section
theorem d_Law_law_0 : decode code 0 = .ok (.new 7, 3) := by decide +kernel
theorem d_Law_law_3 : decode code 3 = .ok (.dup, 1) := by decide +kernel
theorem d_Law_law_4 : decode code 4 = .ok (.invokespecial 9, 3) := by decide +kernel
theorem d_Law_law_7 : decode code 7 = .ok (.astore_n 1, 1) := by decide +kernel
theorem d_Law_law_8 : decode code 8 = .ok (.new 10, 3) := by decide +kernel
theorem d_Law_law_11 : decode code 11 = .ok (.dup, 1) := by decide +kernel
theorem d_Law_law_12 : decode code 12 = .ok (.invokespecial 12, 3) := by decide +kernel
theorem d_Law_law_15 : decode code 15 = .ok (.astore_n 2, 1) := by decide +kernel
theorem d_Law_law_16 : decode code 16 = .ok (.iconst 0, 1) := by decide +kernel
theorem d_Law_law_17 : decode code 17 = .ok (.istore_n 3, 1) := by decide +kernel
theorem d_Law_law_18 : decode code 18 = .ok (.iload_n 3, 1) := by decide +kernel
theorem d_Law_law_19 : decode code 19 = .ok (.aload_n 0, 1) := by decide +kernel
theorem d_Law_law_20 : decode code 20 = .ok (.arraylength, 1) := by decide +kernel
theorem d_Law_law_21 : decode code 21 = .ok (.bipush 6, 2) := by decide +kernel
theorem d_Law_law_23 : decode code 23 = .ok (.isub, 1) := by decide +kernel
theorem d_Law_law_24 : decode code 24 = .ok (.if_icmp .gt 461, 3) := by decide +kernel
theorem d_Law_law_27 : decode code 27 = .ok (.aload_n 0, 1) := by decide +kernel
theorem d_Law_law_28 : decode code 28 = .ok (.iload_n 3, 1) := by decide +kernel
theorem d_Law_law_29 : decode code 29 = .ok (.iaload, 1) := by decide +kernel
theorem d_Law_law_30 : decode code 30 = .ok (.bipush 15, 2) := by decide +kernel
theorem d_Law_law_32 : decode code 32 = .ok (.iand, 1) := by decide +kernel
theorem d_Law_law_33 : decode code 33 = .ok (.tableswitch 446 0 12 #[67, 130, 153, 186, 209, 242, 265, 288, 311, 334, 367, 390, 423], 67) := by decide +kernel
theorem d_Law_law_100 : decode code 100 = .ok (.aload_n 1, 1) := by decide +kernel
theorem d_Law_law_101 : decode code 101 = .ok (.aload_n 0, 1) := by decide +kernel
theorem d_Law_law_102 : decode code 102 = .ok (.iload_n 3, 1) := by decide +kernel
theorem d_Law_law_103 : decode code 103 = .ok (.iconst 1, 1) := by decide +kernel
theorem d_Law_law_104 : decode code 104 = .ok (.iadd, 1) := by decide +kernel
theorem d_Law_law_105 : decode code 105 = .ok (.iaload, 1) := by decide +kernel
theorem d_Law_law_106 : decode code 106 = .ok (.aload_n 0, 1) := by decide +kernel
theorem d_Law_law_107 : decode code 107 = .ok (.iload_n 3, 1) := by decide +kernel
theorem d_Law_law_108 : decode code 108 = .ok (.iconst 2, 1) := by decide +kernel
theorem d_Law_law_109 : decode code 109 = .ok (.iadd, 1) := by decide +kernel
theorem d_Law_law_110 : decode code 110 = .ok (.iaload, 1) := by decide +kernel
theorem d_Law_law_111 : decode code 111 = .ok (.aload_n 0, 1) := by decide +kernel
theorem d_Law_law_112 : decode code 112 = .ok (.iload_n 3, 1) := by decide +kernel
theorem d_Law_law_113 : decode code 113 = .ok (.iconst 3, 1) := by decide +kernel
theorem d_Law_law_114 : decode code 114 = .ok (.iadd, 1) := by decide +kernel
theorem d_Law_law_115 : decode code 115 = .ok (.iaload, 1) := by decide +kernel
theorem d_Law_law_116 : decode code 116 = .ok (.aload_n 0, 1) := by decide +kernel
theorem d_Law_law_117 : decode code 117 = .ok (.iload_n 3, 1) := by decide +kernel
theorem d_Law_law_118 : decode code 118 = .ok (.iconst 4, 1) := by decide +kernel
theorem d_Law_law_119 : decode code 119 = .ok (.iadd, 1) := by decide +kernel
theorem d_Law_law_120 : decode code 120 = .ok (.iaload, 1) := by decide +kernel
theorem d_Law_law_121 : decode code 121 = .ok (.aload_n 0, 1) := by decide +kernel
theorem d_Law_law_122 : decode code 122 = .ok (.iload_n 3, 1) := by decide +kernel
theorem d_Law_law_123 : decode code 123 = .ok (.iconst 5, 1) := by decide +kernel
theorem d_Law_law_124 : decode code 124 = .ok (.iadd, 1) := by decide +kernel
theorem d_Law_law_125 : decode code 125 = .ok (.iaload, 1) := by decide +kernel
theorem d_Law_law_126 : decode code 126 = .ok (.invokevirtual 13, 3) := by decide +kernel
theorem d_Law_law_129 : decode code 129 = .ok (.aload_n 2, 1) := by decide +kernel
theorem d_Law_law_130 : decode code 130 = .ok (.aload_n 0, 1) := by decide +kernel
theorem d_Law_law_131 : decode code 131 = .ok (.iload_n 3, 1) := by decide +kernel
theorem d_Law_law_132 : decode code 132 = .ok (.iconst 1, 1) := by decide +kernel
theorem d_Law_law_133 : decode code 133 = .ok (.iadd, 1) := by decide +kernel
theorem d_Law_law_134 : decode code 134 = .ok (.iaload, 1) := by decide +kernel
theorem d_Law_law_135 : decode code 135 = .ok (.aload_n 0, 1) := by decide +kernel
theorem d_Law_law_136 : decode code 136 = .ok (.iload_n 3, 1) := by decide +kernel
theorem d_Law_law_137 : decode code 137 = .ok (.iconst 2, 1) := by decide +kernel
theorem d_Law_law_138 : decode code 138 = .ok (.iadd, 1) := by decide +kernel
theorem d_Law_law_139 : decode code 139 = .ok (.iaload, 1) := by decide +kernel
theorem d_Law_law_140 : decode code 140 = .ok (.aload_n 0, 1) := by decide +kernel
theorem d_Law_law_141 : decode code 141 = .ok (.iload_n 3, 1) := by decide +kernel
theorem d_Law_law_142 : decode code 142 = .ok (.iconst 3, 1) := by decide +kernel
theorem d_Law_law_143 : decode code 143 = .ok (.iadd, 1) := by decide +kernel
theorem d_Law_law_144 : decode code 144 = .ok (.iaload, 1) := by decide +kernel
theorem d_Law_law_145 : decode code 145 = .ok (.aload_n 0, 1) := by decide +kernel
theorem d_Law_law_146 : decode code 146 = .ok (.iload_n 3, 1) := by decide +kernel
theorem d_Law_law_147 : decode code 147 = .ok (.iconst 4, 1) := by decide +kernel
theorem d_Law_law_148 : decode code 148 = .ok (.iadd, 1) := by decide +kernel
theorem d_Law_law_149 : decode code 149 = .ok (.iaload, 1) := by decide +kernel
theorem d_Law_law_150 : decode code 150 = .ok (.aload_n 0, 1) := by decide +kernel
theorem d_Law_law_151 : decode code 151 = .ok (.iload_n 3, 1) := by decide +kernel
theorem d_Law_law_152 : decode code 152 = .ok (.iconst 5, 1) := by decide +kernel
theorem d_Law_law_153 : decode code 153 = .ok (.iadd, 1) := by decide +kernel
theorem d_Law_law_154 : decode code 154 = .ok (.iaload, 1) := by decide +kernel
theorem d_Law_law_155 : decode code 155 = .ok (.invokevirtual 17, 3) := by decide +kernel
theorem d_Law_law_158 : decode code 158 = .ok (.if_icmp .eq 321, 3) := by decide +kernel
theorem d_Law_law_161 : decode code 161 = .ok (.iconst 0, 1) := by decide +kernel
theorem d_Law_law_162 : decode code 162 = .ok (.ireturn, 1) := by decide +kernel
theorem d_Law_law_163 : decode code 163 = .ok (.aload_n 1, 1) := by decide +kernel
theorem d_Law_law_164 : decode code 164 = .ok (.aload_n 0, 1) := by decide +kernel
theorem d_Law_law_165 : decode code 165 = .ok (.iload_n 3, 1) := by decide +kernel
theorem d_Law_law_166 : decode code 166 = .ok (.iconst 1, 1) := by decide +kernel
theorem d_Law_law_167 : decode code 167 = .ok (.iadd, 1) := by decide +kernel
theorem d_Law_law_168 : decode code 168 = .ok (.iaload, 1) := by decide +kernel
theorem d_Law_law_169 : decode code 169 = .ok (.invokevirtual 18, 3) := by decide +kernel
theorem d_Law_law_172 : decode code 172 = .ok (.aload_n 2, 1) := by decide +kernel
theorem d_Law_law_173 : decode code 173 = .ok (.aload_n 0, 1) := by decide +kernel
theorem d_Law_law_174 : decode code 174 = .ok (.iload_n 3, 1) := by decide +kernel
theorem d_Law_law_175 : decode code 175 = .ok (.iconst 1, 1) := by decide +kernel
theorem d_Law_law_176 : decode code 176 = .ok (.iadd, 1) := by decide +kernel
theorem d_Law_law_177 : decode code 177 = .ok (.iaload, 1) := by decide +kernel
theorem d_Law_law_178 : decode code 178 = .ok (.invokevirtual 22, 3) := by decide +kernel
theorem d_Law_law_181 : decode code 181 = .ok (.if_icmp .eq 298, 3) := by decide +kernel
theorem d_Law_law_184 : decode code 184 = .ok (.iconst 0, 1) := by decide +kernel
theorem d_Law_law_185 : decode code 185 = .ok (.ireturn, 1) := by decide +kernel
theorem d_Law_law_186 : decode code 186 = .ok (.aload_n 1, 1) := by decide +kernel
theorem d_Law_law_187 : decode code 187 = .ok (.aload_n 0, 1) := by decide +kernel
theorem d_Law_law_188 : decode code 188 = .ok (.iload_n 3, 1) := by decide +kernel
theorem d_Law_law_189 : decode code 189 = .ok (.iconst 1, 1) := by decide +kernel
theorem d_Law_law_190 : decode code 190 = .ok (.iadd, 1) := by decide +kernel
theorem d_Law_law_191 : decode code 191 = .ok (.iaload, 1) := by decide +kernel
theorem d_Law_law_192 : decode code 192 = .ok (.aload_n 0, 1) := by decide +kernel
theorem d_Law_law_193 : decode code 193 = .ok (.iload_n 3, 1) := by decide +kernel
theorem d_Law_law_194 : decode code 194 = .ok (.iconst 2, 1) := by decide +kernel
theorem d_Law_law_195 : decode code 195 = .ok (.iadd, 1) := by decide +kernel
theorem d_Law_law_196 : decode code 196 = .ok (.iaload, 1) := by decide +kernel
theorem d_Law_law_197 : decode code 197 = .ok (.invokevirtual 23, 3) := by decide +kernel
theorem d_Law_law_200 : decode code 200 = .ok (.aload_n 2, 1) := by decide +kernel
theorem d_Law_law_201 : decode code 201 = .ok (.aload_n 0, 1) := by decide +kernel
theorem d_Law_law_202 : decode code 202 = .ok (.iload_n 3, 1) := by decide +kernel
theorem d_Law_law_203 : decode code 203 = .ok (.iconst 1, 1) := by decide +kernel
theorem d_Law_law_204 : decode code 204 = .ok (.iadd, 1) := by decide +kernel
theorem d_Law_law_205 : decode code 205 = .ok (.iaload, 1) := by decide +kernel
theorem d_Law_law_206 : decode code 206 = .ok (.aload_n 0, 1) := by decide +kernel
theorem d_Law_law_207 : decode code 207 = .ok (.iload_n 3, 1) := by decide +kernel
theorem d_Law_law_208 : decode code 208 = .ok (.iconst 2, 1) := by decide +kernel
theorem d_Law_law_209 : decode code 209 = .ok (.iadd, 1) := by decide +kernel
theorem d_Law_law_210 : decode code 210 = .ok (.iaload, 1) := by decide +kernel
theorem d_Law_law_211 : decode code 211 = .ok (.invokevirtual 27, 3) := by decide +kernel
theorem d_Law_law_214 : decode code 214 = .ok (.if_icmp .eq 265, 3) := by decide +kernel
theorem d_Law_law_217 : decode code 217 = .ok (.iconst 0, 1) := by decide +kernel
theorem d_Law_law_218 : decode code 218 = .ok (.ireturn, 1) := by decide +kernel
theorem d_Law_law_219 : decode code 219 = .ok (.aload_n 1, 1) := by decide +kernel
theorem d_Law_law_220 : decode code 220 = .ok (.aload_n 0, 1) := by decide +kernel
theorem d_Law_law_221 : decode code 221 = .ok (.iload_n 3, 1) := by decide +kernel
theorem d_Law_law_222 : decode code 222 = .ok (.iconst 1, 1) := by decide +kernel
theorem d_Law_law_223 : decode code 223 = .ok (.iadd, 1) := by decide +kernel
theorem d_Law_law_224 : decode code 224 = .ok (.iaload, 1) := by decide +kernel
theorem d_Law_law_225 : decode code 225 = .ok (.invokevirtual 28, 3) := by decide +kernel
theorem d_Law_law_228 : decode code 228 = .ok (.aload_n 2, 1) := by decide +kernel
theorem d_Law_law_229 : decode code 229 = .ok (.aload_n 0, 1) := by decide +kernel
theorem d_Law_law_230 : decode code 230 = .ok (.iload_n 3, 1) := by decide +kernel
theorem d_Law_law_231 : decode code 231 = .ok (.iconst 1, 1) := by decide +kernel
theorem d_Law_law_232 : decode code 232 = .ok (.iadd, 1) := by decide +kernel
theorem d_Law_law_233 : decode code 233 = .ok (.iaload, 1) := by decide +kernel
theorem d_Law_law_234 : decode code 234 = .ok (.invokevirtual 31, 3) := by decide +kernel
theorem d_Law_law_237 : decode code 237 = .ok (.if_icmp .eq 242, 3) := by decide +kernel
theorem d_Law_law_240 : decode code 240 = .ok (.iconst 0, 1) := by decide +kernel
theorem d_Law_law_241 : decode code 241 = .ok (.ireturn, 1) := by decide +kernel
theorem d_Law_law_242 : decode code 242 = .ok (.aload_n 1, 1) := by decide +kernel
theorem d_Law_law_243 : decode code 243 = .ok (.aload_n 0, 1) := by decide +kernel
theorem d_Law_law_244 : decode code 244 = .ok (.iload_n 3, 1) := by decide +kernel
theorem d_Law_law_245 : decode code 245 = .ok (.iconst 1, 1) := by decide +kernel
theorem d_Law_law_246 : decode code 246 = .ok (.iadd, 1) := by decide +kernel
theorem d_Law_law_247 : decode code 247 = .ok (.iaload, 1) := by decide +kernel
theorem d_Law_law_248 : decode code 248 = .ok (.aload_n 0, 1) := by decide +kernel
theorem d_Law_law_249 : decode code 249 = .ok (.iload_n 3, 1) := by decide +kernel
theorem d_Law_law_250 : decode code 250 = .ok (.iconst 2, 1) := by decide +kernel
theorem d_Law_law_251 : decode code 251 = .ok (.iadd, 1) := by decide +kernel
theorem d_Law_law_252 : decode code 252 = .ok (.iaload, 1) := by decide +kernel
theorem d_Law_law_253 : decode code 253 = .ok (.invokevirtual 32, 3) := by decide +kernel
theorem d_Law_law_256 : decode code 256 = .ok (.aload_n 2, 1) := by decide +kernel
theorem d_Law_law_257 : decode code 257 = .ok (.aload_n 0, 1) := by decide +kernel
theorem d_Law_law_258 : decode code 258 = .ok (.iload_n 3, 1) := by decide +kernel
theorem d_Law_law_259 : decode code 259 = .ok (.iconst 1, 1) := by decide +kernel
theorem d_Law_law_260 : decode code 260 = .ok (.iadd, 1) := by decide +kernel
theorem d_Law_law_261 : decode code 261 = .ok (.iaload, 1) := by decide +kernel
theorem d_Law_law_262 : decode code 262 = .ok (.aload_n 0, 1) := by decide +kernel
theorem d_Law_law_263 : decode code 263 = .ok (.iload_n 3, 1) := by decide +kernel
theorem d_Law_law_264 : decode code 264 = .ok (.iconst 2, 1) := by decide +kernel
theorem d_Law_law_265 : decode code 265 = .ok (.iadd, 1) := by decide +kernel
theorem d_Law_law_266 : decode code 266 = .ok (.iaload, 1) := by decide +kernel
theorem d_Law_law_267 : decode code 267 = .ok (.invokevirtual 35, 3) := by decide +kernel
theorem d_Law_law_270 : decode code 270 = .ok (.if_icmp .eq 209, 3) := by decide +kernel
theorem d_Law_law_273 : decode code 273 = .ok (.iconst 0, 1) := by decide +kernel
theorem d_Law_law_274 : decode code 274 = .ok (.ireturn, 1) := by decide +kernel
theorem d_Law_law_275 : decode code 275 = .ok (.aload_n 1, 1) := by decide +kernel
theorem d_Law_law_276 : decode code 276 = .ok (.aload_n 0, 1) := by decide +kernel
theorem d_Law_law_277 : decode code 277 = .ok (.iload_n 3, 1) := by decide +kernel
theorem d_Law_law_278 : decode code 278 = .ok (.iconst 1, 1) := by decide +kernel
theorem d_Law_law_279 : decode code 279 = .ok (.iadd, 1) := by decide +kernel
theorem d_Law_law_280 : decode code 280 = .ok (.iaload, 1) := by decide +kernel
theorem d_Law_law_281 : decode code 281 = .ok (.invokevirtual 36, 3) := by decide +kernel
theorem d_Law_law_284 : decode code 284 = .ok (.aload_n 2, 1) := by decide +kernel
theorem d_Law_law_285 : decode code 285 = .ok (.aload_n 0, 1) := by decide +kernel
theorem d_Law_law_286 : decode code 286 = .ok (.iload_n 3, 1) := by decide +kernel
theorem d_Law_law_287 : decode code 287 = .ok (.iconst 1, 1) := by decide +kernel
theorem d_Law_law_288 : decode code 288 = .ok (.iadd, 1) := by decide +kernel
theorem d_Law_law_289 : decode code 289 = .ok (.iaload, 1) := by decide +kernel
theorem d_Law_law_290 : decode code 290 = .ok (.invokevirtual 39, 3) := by decide +kernel
theorem d_Law_law_293 : decode code 293 = .ok (.if_icmp .eq 186, 3) := by decide +kernel
theorem d_Law_law_296 : decode code 296 = .ok (.iconst 0, 1) := by decide +kernel
theorem d_Law_law_297 : decode code 297 = .ok (.ireturn, 1) := by decide +kernel
theorem d_Law_law_298 : decode code 298 = .ok (.aload_n 1, 1) := by decide +kernel
theorem d_Law_law_299 : decode code 299 = .ok (.aload_n 0, 1) := by decide +kernel
theorem d_Law_law_300 : decode code 300 = .ok (.iload_n 3, 1) := by decide +kernel
theorem d_Law_law_301 : decode code 301 = .ok (.iconst 1, 1) := by decide +kernel
theorem d_Law_law_302 : decode code 302 = .ok (.iadd, 1) := by decide +kernel
theorem d_Law_law_303 : decode code 303 = .ok (.iaload, 1) := by decide +kernel
theorem d_Law_law_304 : decode code 304 = .ok (.invokevirtual 40, 3) := by decide +kernel
theorem d_Law_law_307 : decode code 307 = .ok (.aload_n 2, 1) := by decide +kernel
theorem d_Law_law_308 : decode code 308 = .ok (.aload_n 0, 1) := by decide +kernel
theorem d_Law_law_309 : decode code 309 = .ok (.iload_n 3, 1) := by decide +kernel
theorem d_Law_law_310 : decode code 310 = .ok (.iconst 1, 1) := by decide +kernel
theorem d_Law_law_311 : decode code 311 = .ok (.iadd, 1) := by decide +kernel
theorem d_Law_law_312 : decode code 312 = .ok (.iaload, 1) := by decide +kernel
theorem d_Law_law_313 : decode code 313 = .ok (.invokevirtual 43, 3) := by decide +kernel
theorem d_Law_law_316 : decode code 316 = .ok (.if_icmp .eq 163, 3) := by decide +kernel
theorem d_Law_law_319 : decode code 319 = .ok (.iconst 0, 1) := by decide +kernel
theorem d_Law_law_320 : decode code 320 = .ok (.ireturn, 1) := by decide +kernel
theorem d_Law_law_321 : decode code 321 = .ok (.aload_n 1, 1) := by decide +kernel
theorem d_Law_law_322 : decode code 322 = .ok (.aload_n 0, 1) := by decide +kernel
theorem d_Law_law_323 : decode code 323 = .ok (.iload_n 3, 1) := by decide +kernel
theorem d_Law_law_324 : decode code 324 = .ok (.iconst 1, 1) := by decide +kernel
theorem d_Law_law_325 : decode code 325 = .ok (.iadd, 1) := by decide +kernel
theorem d_Law_law_326 : decode code 326 = .ok (.iaload, 1) := by decide +kernel
theorem d_Law_law_327 : decode code 327 = .ok (.invokevirtual 44, 3) := by decide +kernel
theorem d_Law_law_330 : decode code 330 = .ok (.aload_n 2, 1) := by decide +kernel
theorem d_Law_law_331 : decode code 331 = .ok (.aload_n 0, 1) := by decide +kernel
theorem d_Law_law_332 : decode code 332 = .ok (.iload_n 3, 1) := by decide +kernel
theorem d_Law_law_333 : decode code 333 = .ok (.iconst 1, 1) := by decide +kernel
theorem d_Law_law_334 : decode code 334 = .ok (.iadd, 1) := by decide +kernel
theorem d_Law_law_335 : decode code 335 = .ok (.iaload, 1) := by decide +kernel
theorem d_Law_law_336 : decode code 336 = .ok (.invokevirtual 47, 3) := by decide +kernel
theorem d_Law_law_339 : decode code 339 = .ok (.if_icmp .eq 140, 3) := by decide +kernel
theorem d_Law_law_342 : decode code 342 = .ok (.iconst 0, 1) := by decide +kernel
theorem d_Law_law_343 : decode code 343 = .ok (.ireturn, 1) := by decide +kernel
theorem d_Law_law_344 : decode code 344 = .ok (.aload_n 1, 1) := by decide +kernel
theorem d_Law_law_345 : decode code 345 = .ok (.aload_n 0, 1) := by decide +kernel
theorem d_Law_law_346 : decode code 346 = .ok (.iload_n 3, 1) := by decide +kernel
theorem d_Law_law_347 : decode code 347 = .ok (.iconst 1, 1) := by decide +kernel
theorem d_Law_law_348 : decode code 348 = .ok (.iadd, 1) := by decide +kernel
theorem d_Law_law_349 : decode code 349 = .ok (.iaload, 1) := by decide +kernel
theorem d_Law_law_350 : decode code 350 = .ok (.invokevirtual 48, 3) := by decide +kernel
theorem d_Law_law_353 : decode code 353 = .ok (.aload_n 2, 1) := by decide +kernel
theorem d_Law_law_354 : decode code 354 = .ok (.aload_n 0, 1) := by decide +kernel
theorem d_Law_law_355 : decode code 355 = .ok (.iload_n 3, 1) := by decide +kernel
theorem d_Law_law_356 : decode code 356 = .ok (.iconst 1, 1) := by decide +kernel
theorem d_Law_law_357 : decode code 357 = .ok (.iadd, 1) := by decide +kernel
theorem d_Law_law_358 : decode code 358 = .ok (.iaload, 1) := by decide +kernel
theorem d_Law_law_359 : decode code 359 = .ok (.invokevirtual 51, 3) := by decide +kernel
theorem d_Law_law_362 : decode code 362 = .ok (.if_icmp .eq 117, 3) := by decide +kernel
theorem d_Law_law_365 : decode code 365 = .ok (.iconst 0, 1) := by decide +kernel
theorem d_Law_law_366 : decode code 366 = .ok (.ireturn, 1) := by decide +kernel
theorem d_Law_law_367 : decode code 367 = .ok (.aload_n 1, 1) := by decide +kernel
theorem d_Law_law_368 : decode code 368 = .ok (.aload_n 0, 1) := by decide +kernel
theorem d_Law_law_369 : decode code 369 = .ok (.iload_n 3, 1) := by decide +kernel
theorem d_Law_law_370 : decode code 370 = .ok (.iconst 1, 1) := by decide +kernel
theorem d_Law_law_371 : decode code 371 = .ok (.iadd, 1) := by decide +kernel
theorem d_Law_law_372 : decode code 372 = .ok (.iaload, 1) := by decide +kernel
theorem d_Law_law_373 : decode code 373 = .ok (.aload_n 0, 1) := by decide +kernel
theorem d_Law_law_374 : decode code 374 = .ok (.iload_n 3, 1) := by decide +kernel
theorem d_Law_law_375 : decode code 375 = .ok (.iconst 2, 1) := by decide +kernel
theorem d_Law_law_376 : decode code 376 = .ok (.iadd, 1) := by decide +kernel
theorem d_Law_law_377 : decode code 377 = .ok (.iaload, 1) := by decide +kernel
theorem d_Law_law_378 : decode code 378 = .ok (.invokevirtual 52, 3) := by decide +kernel
theorem d_Law_law_381 : decode code 381 = .ok (.aload_n 2, 1) := by decide +kernel
theorem d_Law_law_382 : decode code 382 = .ok (.aload_n 0, 1) := by decide +kernel
theorem d_Law_law_383 : decode code 383 = .ok (.iload_n 3, 1) := by decide +kernel
theorem d_Law_law_384 : decode code 384 = .ok (.iconst 1, 1) := by decide +kernel
theorem d_Law_law_385 : decode code 385 = .ok (.iadd, 1) := by decide +kernel
theorem d_Law_law_386 : decode code 386 = .ok (.iaload, 1) := by decide +kernel
theorem d_Law_law_387 : decode code 387 = .ok (.aload_n 0, 1) := by decide +kernel
theorem d_Law_law_388 : decode code 388 = .ok (.iload_n 3, 1) := by decide +kernel
theorem d_Law_law_389 : decode code 389 = .ok (.iconst 2, 1) := by decide +kernel
theorem d_Law_law_390 : decode code 390 = .ok (.iadd, 1) := by decide +kernel
theorem d_Law_law_391 : decode code 391 = .ok (.iaload, 1) := by decide +kernel
theorem d_Law_law_392 : decode code 392 = .ok (.invokevirtual 55, 3) := by decide +kernel
theorem d_Law_law_395 : decode code 395 = .ok (.if_icmp .eq 84, 3) := by decide +kernel
theorem d_Law_law_398 : decode code 398 = .ok (.iconst 0, 1) := by decide +kernel
theorem d_Law_law_399 : decode code 399 = .ok (.ireturn, 1) := by decide +kernel
theorem d_Law_law_400 : decode code 400 = .ok (.aload_n 1, 1) := by decide +kernel
theorem d_Law_law_401 : decode code 401 = .ok (.aload_n 0, 1) := by decide +kernel
theorem d_Law_law_402 : decode code 402 = .ok (.iload_n 3, 1) := by decide +kernel
theorem d_Law_law_403 : decode code 403 = .ok (.iconst 1, 1) := by decide +kernel
theorem d_Law_law_404 : decode code 404 = .ok (.iadd, 1) := by decide +kernel
theorem d_Law_law_405 : decode code 405 = .ok (.iaload, 1) := by decide +kernel
theorem d_Law_law_406 : decode code 406 = .ok (.invokevirtual 56, 3) := by decide +kernel
theorem d_Law_law_409 : decode code 409 = .ok (.aload_n 2, 1) := by decide +kernel
theorem d_Law_law_410 : decode code 410 = .ok (.aload_n 0, 1) := by decide +kernel
theorem d_Law_law_411 : decode code 411 = .ok (.iload_n 3, 1) := by decide +kernel
theorem d_Law_law_412 : decode code 412 = .ok (.iconst 1, 1) := by decide +kernel
theorem d_Law_law_413 : decode code 413 = .ok (.iadd, 1) := by decide +kernel
theorem d_Law_law_414 : decode code 414 = .ok (.iaload, 1) := by decide +kernel
theorem d_Law_law_415 : decode code 415 = .ok (.invokevirtual 59, 3) := by decide +kernel
theorem d_Law_law_418 : decode code 418 = .ok (.if_icmp .eq 61, 3) := by decide +kernel
theorem d_Law_law_421 : decode code 421 = .ok (.iconst 0, 1) := by decide +kernel
theorem d_Law_law_422 : decode code 422 = .ok (.ireturn, 1) := by decide +kernel
theorem d_Law_law_423 : decode code 423 = .ok (.aload_n 1, 1) := by decide +kernel
theorem d_Law_law_424 : decode code 424 = .ok (.aload_n 0, 1) := by decide +kernel
theorem d_Law_law_425 : decode code 425 = .ok (.iload_n 3, 1) := by decide +kernel
theorem d_Law_law_426 : decode code 426 = .ok (.iconst 1, 1) := by decide +kernel
theorem d_Law_law_427 : decode code 427 = .ok (.iadd, 1) := by decide +kernel
theorem d_Law_law_428 : decode code 428 = .ok (.iaload, 1) := by decide +kernel
theorem d_Law_law_429 : decode code 429 = .ok (.aload_n 0, 1) := by decide +kernel
theorem d_Law_law_430 : decode code 430 = .ok (.iload_n 3, 1) := by decide +kernel
theorem d_Law_law_431 : decode code 431 = .ok (.iconst 2, 1) := by decide +kernel
theorem d_Law_law_432 : decode code 432 = .ok (.iadd, 1) := by decide +kernel
theorem d_Law_law_433 : decode code 433 = .ok (.iaload, 1) := by decide +kernel
theorem d_Law_law_434 : decode code 434 = .ok (.invokevirtual 60, 3) := by decide +kernel
theorem d_Law_law_437 : decode code 437 = .ok (.aload_n 2, 1) := by decide +kernel
theorem d_Law_law_438 : decode code 438 = .ok (.aload_n 0, 1) := by decide +kernel
theorem d_Law_law_439 : decode code 439 = .ok (.iload_n 3, 1) := by decide +kernel
theorem d_Law_law_440 : decode code 440 = .ok (.iconst 1, 1) := by decide +kernel
theorem d_Law_law_441 : decode code 441 = .ok (.iadd, 1) := by decide +kernel
theorem d_Law_law_442 : decode code 442 = .ok (.iaload, 1) := by decide +kernel
theorem d_Law_law_443 : decode code 443 = .ok (.aload_n 0, 1) := by decide +kernel
theorem d_Law_law_444 : decode code 444 = .ok (.iload_n 3, 1) := by decide +kernel
theorem d_Law_law_445 : decode code 445 = .ok (.iconst 2, 1) := by decide +kernel
theorem d_Law_law_446 : decode code 446 = .ok (.iadd, 1) := by decide +kernel
theorem d_Law_law_447 : decode code 447 = .ok (.iaload, 1) := by decide +kernel
theorem d_Law_law_448 : decode code 448 = .ok (.invokevirtual 63, 3) := by decide +kernel
theorem d_Law_law_451 : decode code 451 = .ok (.if_icmp .eq 28, 3) := by decide +kernel
theorem d_Law_law_454 : decode code 454 = .ok (.iconst 0, 1) := by decide +kernel
theorem d_Law_law_455 : decode code 455 = .ok (.ireturn, 1) := by decide +kernel
theorem d_Law_law_456 : decode code 456 = .ok (.aload_n 1, 1) := by decide +kernel
theorem d_Law_law_457 : decode code 457 = .ok (.aload_n 0, 1) := by decide +kernel
theorem d_Law_law_458 : decode code 458 = .ok (.iload_n 3, 1) := by decide +kernel
theorem d_Law_law_459 : decode code 459 = .ok (.iconst 1, 1) := by decide +kernel
theorem d_Law_law_460 : decode code 460 = .ok (.iadd, 1) := by decide +kernel
theorem d_Law_law_461 : decode code 461 = .ok (.iaload, 1) := by decide +kernel
theorem d_Law_law_462 : decode code 462 = .ok (.invokevirtual 64, 3) := by decide +kernel
theorem d_Law_law_465 : decode code 465 = .ok (.aload_n 2, 1) := by decide +kernel
theorem d_Law_law_466 : decode code 466 = .ok (.aload_n 0, 1) := by decide +kernel
theorem d_Law_law_467 : decode code 467 = .ok (.iload_n 3, 1) := by decide +kernel
theorem d_Law_law_468 : decode code 468 = .ok (.iconst 1, 1) := by decide +kernel
theorem d_Law_law_469 : decode code 469 = .ok (.iadd, 1) := by decide +kernel
theorem d_Law_law_470 : decode code 470 = .ok (.iaload, 1) := by decide +kernel
theorem d_Law_law_471 : decode code 471 = .ok (.invokevirtual 67, 3) := by decide +kernel
theorem d_Law_law_474 : decode code 474 = .ok (.if_icmp .eq 5, 3) := by decide +kernel
theorem d_Law_law_477 : decode code 477 = .ok (.iconst 0, 1) := by decide +kernel
theorem d_Law_law_478 : decode code 478 = .ok (.ireturn, 1) := by decide +kernel
theorem d_Law_law_479 : decode code 479 = .ok (.iinc 3 6, 3) := by decide +kernel
theorem d_Law_law_482 : decode code 482 = .ok (.goto (-464), 3) := by decide +kernel
theorem d_Law_law_485 : decode code 485 = .ok (.iconst 1, 1) := by decide +kernel
theorem d_Law_law_486 : decode code 486 = .ok (.ireturn, 1) := by decide +kernel
end
section
/-! THE ABSTRACT HEAP: a partial map from addresses to cells; a method's contract over it; one rule an instruction -/
abbrev cy_Hp : Type := Nat → Option va_E
def cy_set (M : cy_Hp) (a : Nat) (e : va_E) : cy_Hp := fun q => if q = a then some e else M q
theorem cy_set_self (M : cy_Hp) (a : Nat) (e : va_E) : cy_set M a e a = some e := by simp [cy_set]
theorem cy_set_ne (M : cy_Hp) {a q : Nat} (e : va_E) (h : q ≠ a) : cy_set M a e q = M q := by simp [cy_set, h]
theorem cy_set_set (M : cy_Hp) (a : Nat) (e e2 : va_E) : cy_set (cy_set M a e) a e2 = cy_set M a e2 := by
  funext q
  by_cases h : q = a
  · simp [cy_set, h]
  · simp [cy_set, h]
theorem cy_set_comm (M : cy_Hp) {a b : Nat} (e e2 : va_E) (h : a ≠ b) : cy_set (cy_set M a e) b e2 = cy_set (cy_set M b e2) a e := by
  funext q
  by_cases h1 : q = a
  · subst h1; simp [cy_set, h]
  · by_cases h2 : q = b
    · subst h2; simp [cy_set, h1]
    · simp [cy_set, h1, h2]
theorem cy_set_same {M : cy_Hp} {a : Nat} {e : va_E} (h : M a = some e) : cy_set M a e = M := by
  funext q
  by_cases hq : q = a
  · subst hq; rw [cy_set_self, h]
  · rw [cy_set_ne _ _ hq]
/-- launch, classes and slots, array classes, the first address that is ours, the addresses of the static tables -/
abbrev cy_G : Type := Launch × va_G × List (ClassId × FieldType) × Nat × (Nat → Nat)
def cy_A (G : cy_G) : Nat → Prop := fun q => G.2.2.2.1 ≤ q
def cy_goodW (w : Cond) : Bool := (w.onTables && w.keeps) || (match w with | .arrayClass _ => true | _ => false)
def cy_nestW (w : Cond) : Bool := match w with
  | .fieldLinkNest _ _ _ _ _ _ => true
  | .methodLinkNest _ _ _ _ => true
  | _ => false
def cy_TW : List Cond := lw_tbl.filter cy_goodW
def cy_NW : List Cond := lw_tbl.filter cy_nestW
theorem cy_tw {w : Cond} (h : w ∈ lw_tbl) (g : cy_goodW w = true) : w ∈ cy_TW := List.mem_filter.mpr ⟨h, g⟩
theorem cy_nw {w : Cond} (h : w ∈ lw_tbl) (g : cy_nestW w = true) : w ∈ cy_NW := List.mem_filter.mpr ⟨h, g⟩
theorem cy_good {w : Cond} (h : w ∈ cy_TW) : (w.onTables && w.keeps) = true ∨ ∃ ty, w = .arrayClass ty := by
  have h := (List.mem_filter.mp h).2
  unfold cy_goodW at h
  rcases Bool.or_eq_true_iff.mp h with h | h
  · exact Or.inl h
  · split at h
    · exact Or.inr ⟨_, rfl⟩
    · cases h
def cy_SX (G : cy_G) (U : State) : Prop := ∀ (j : Nat) (q : String × String × String × Nat × (Nat → Value)), cy_ST[j]? = some q → va_Z q.1 q.2.1 q.2.2.1 (.ref (G.2.2.2.2 j)) (cy_A G) U U.heap ∧ va_T .int (G.2.2.2.2 j) q.2.2.2.1 q.2.2.2.2 (cy_A G) U U.heap
/-- what every method of ours finds: classes, links between nest mates, static tables -/
def cy_K (G : cy_G) (U : State) : Prop := va_K G.2.1 cy_cl G.2.2.1 U ∧ (∀ w ∈ cy_NW, va_Nw w U) ∧ G.2.2.2.1 ≤ U.heap.size ∧ cy_SX G U ∧ ∀ C ∈ cy_AO, va_AO C U
theorem cy_K_call {G : cy_G} {s U : State} {H : Heap} {locs : List Loc} (h : cy_K G s) (hS : va_S (cy_A G) s.heap H locs) (hU : U.heap = H) (hW : s.WarmedH U.vm) : cy_K G U := by
  obtain ⟨h1, h2, h3, h4, h5⟩ := h
  refine ⟨va_K.moved hW.alike h1, fun w hw => ?_, ?_, fun j q hq => ?_, fun C hC => va_AO.moved hW.alike (h5 C hC)⟩
  · have hn := (List.mem_filter.mp hw).2
    have h2 := h2 w hw
    unfold cy_nestW at hn
    split at hn
    · exact va_Nw.warmF hW h2
    · exact va_Nw.warmM hW h2
    · cases hn
  · rw [hU]; exact Nat.le_trans h3 hS.1
  · obtain ⟨z1, z2⟩ := h4 j q hq
    rw [hU]
    exact ⟨va_Z.moved hW.alike (z1.kept (fun a ha hA => hS.2.1 a ha hA)), va_T.moved hW.alike (z2.kept (fun a ha hA => hS.2.1 a ha hA))⟩
theorem cy_K_calling {G : cy_G} {U : State} {g : JFrame} {mk : MethodId} {a : Array Value} (h : cy_K G U) : cy_K G (U.calling g mk a) := by
  obtain ⟨h1, h2, h3, h4, h5⟩ := h
  refine ⟨va_K.moved (u := U) (U := U.calling g mk a) (Vm.Alike.refl U.vm) h1, fun w hw => ?_, h3, fun j q hq => ?_, fun C hC => va_AO.moved (u := U) (U := U.calling g mk a) (Vm.Alike.refl U.vm) (h5 C hC)⟩
  · have hn := (List.mem_filter.mp hw).2
    have h2 := h2 w hw
    unfold cy_nestW at hn
    split at hn
    · exact va_Nw.same (u := U) (U := U.calling g mk a) rfl rfl h2
    · exact va_Nw.same (u := U) (U := U.calling g mk a) rfl rfl h2
    · cases hn
  · obtain ⟨z1, z2⟩ := h4 j q hq
    exact ⟨va_Z.moved (u := U) (U := U.calling g mk a) (Vm.Alike.refl U.vm) z1, va_T.moved (u := U) (U := U.calling g mk a) (Vm.Alike.refl U.vm) z2⟩
/-- the heap holds M; all its cells are ours -/
def cy_hm (G : cy_G) (M : cy_Hp) (H : Heap) : Prop := (∀ (a : Nat) (e : va_E), M a = some e → cy_A G a ∧ va_at G.2.1 cy_cl (a, e) H) ∧ ∀ a : Nat, cy_A G a → a < H.size → M a ≠ none
/-- the next address that is given out -/
def cy_top (G : cy_G) (M : cy_Hp) (z : Nat) : Prop := cy_A G z ∧ (∀ a : Nat, z ≤ a → M a = none) ∧ ∀ a : Nat, cy_A G a → a < z → M a ≠ none
theorem cy_top_eq {G : cy_G} {M : cy_Hp} {z q : Nat} (h : cy_top G M z) (h2 : cy_top G M q) : q = z := by
  rcases Nat.lt_trichotomy q z with e | e | e
  · exact absurd (h2.2.1 q (Nat.le_refl _)) (h.2.2 q h2.1 e)
  · exact e
  · exact absurd (h.2.1 z (Nat.le_refl _)) (h2.2.2 z h.1 e)
theorem cy_top_lt {G : cy_G} {M : cy_Hp} {z a : Nat} {e : va_E} (h : cy_top G M z) (ha : M a = some e) : a < z := by
  rcases Nat.lt_or_ge a z with q | q
  · exact q
  · rw [h.2.1 a q] at ha; cases ha
theorem cy_top_set {G : cy_G} {M : cy_Hp} {z a : Nat} {e : va_E} (h : cy_top G M z) (ha : a < z) : cy_top G (cy_set M a e) z := by
  refine ⟨h.1, fun x hx => ?_, fun x h1 h2 => ?_⟩
  · rw [cy_set_ne M e (by omega)]; exact h.2.1 x hx
  · by_cases q : x = a
    · rw [q, cy_set_self]; exact fun w => by cases w
    · rw [cy_set_ne M e q]; exact h.2.2 x h1 h2
theorem cy_top_new {G : cy_G} {M : cy_Hp} {z : Nat} {e : va_E} (h : cy_top G M z) : cy_top G (cy_set M z e) (z + 1) := by
  refine ⟨Nat.le_trans h.1 (Nat.le_succ z), fun x hx => ?_, fun x h1 h2 => ?_⟩
  · rw [cy_set_ne M e (by omega)]; exact h.2.1 x (by omega)
  · by_cases q : x = z
    · rw [q, cy_set_self]; exact fun w => by cases w
    · rw [cy_set_ne M e q]; exact h.2.2 x h1 (by omega)
theorem cy_hm_at {G : cy_G} {M : cy_Hp} {H : Heap} {a : Nat} {e : va_E} (h : cy_hm G M H) (ha : M a = some e) : va_P G.2.1 cy_cl [(a, e)] H := by
  intro k q hk
  match k, hk with
  | 0, hk => cases hk; exact (h.1 a e ha).2
  | k + 1, hk => simp at hk
theorem cy_hm_set {G : cy_G} {M : cy_Hp} {H H1 : Heap} {a : Nat} {e : va_E} (h : cy_hm G M H) (ha : cy_A G a) (hz : H1.size = H.size) (he : va_at G.2.1 cy_cl (a, e) H1) (oq : ∀ q : Nat, q ≠ a → H1[q]? = H[q]?) : cy_hm G (cy_set M a e) H1 := by
  refine ⟨fun q x hq => ?_, fun q h1 h2 => ?_⟩
  · by_cases hqa : q = a
    · subst hqa
      rw [cy_set_self] at hq
      cases hq
      exact ⟨ha, he⟩
    · rw [cy_set_ne M e hqa] at hq
      exact ⟨(h.1 q x hq).1, (h.1 q x hq).2.kept (oq q hqa)⟩
  · by_cases hqa : q = a
    · subst hqa; rw [cy_set_self]; exact fun w => by cases w
    · rw [cy_set_ne M e hqa]; exact h.2 q h1 (by rw [← hz]; exact h2)
theorem cy_hm_new {G : cy_G} {M : cy_Hp} {H H1 : Heap} {a : Nat} {e : va_E} (h : cy_hm G M H) (ha : cy_A G a) (hs : a = H.size) (hz : H1.size = H.size + 1) (he : va_at G.2.1 cy_cl (a, e) H1) (oq : ∀ q : Nat, q < a → H1[q]? = H[q]?) : cy_hm G (cy_set M a e) H1 := by
  refine ⟨fun q x hq => ?_, fun q h1 h2 => ?_⟩
  · by_cases hqa : q = a
    · subst hqa
      rw [cy_set_self] at hq
      cases hq
      exact ⟨ha, he⟩
    · rw [cy_set_ne M e hqa] at hq
      have hlt := (h.1 q x hq).2.lt
      exact ⟨(h.1 q x hq).1, (h.1 q x hq).2.kept (oq q (by rw [hs]; exact hlt))⟩
  · by_cases hqa : q = a
    · subst hqa; rw [cy_set_self]; exact fun w => by cases w
    · rw [cy_set_ne M e hqa]; exact h.2 q h1 (by omega)
theorem cy_hm_top {G : cy_G} {M : cy_Hp} {H : Heap} (h : cy_hm G M H) (hA : cy_A G H.size) : cy_top G M H.size := by
  refine ⟨hA, fun a ha => ?_, fun a h1 h2 => h.2 a h1 h2⟩
  cases hM : M a with
  | none => rfl
  | some e => exact absurd ((h.1 _ e hM).2.lt) (Nat.not_lt.mpr ha)
/-- a method of ours: name, bytes, locals, what it returns -/
abbrev cy_I : Type := MethodName × ByteArray × Nat × Option FieldType
def cy_w (i : cy_I) : List Cond := Cond.code i.1 i.2.1 i.2.2.1 i.2.2.2 :: cy_TW
def cy_Q (G : cy_G) (post : Option Value → cy_Hp → Prop) : Array Value → State → Outcome → State → Prop := fun _ st o t => ∃ (r : Option Value) (M : cy_Hp), o = .returned r ∧ post r M ∧ cy_hm G M t.heap ∧ va_F (cy_A G) st t
/-- the contract: from a heap that holds M, with these arguments, the method returns r, and the heap holds M', with post r M' -/
def cy_Ct (G : cy_G) (d : Nat) (i : cy_I) (av : List Value) (M : cy_Hp) (mc ms : Nat) (post : Option Value → cy_Hp → Prop) : Prop :=
  Met G.1 i.1 (cy_w i) ({ frames := d, cells := mc, slots := ms, locals := 40 * d }) (va_Pc av (fun U => cy_K G U ∧ cy_hm G M U.heap)) (cy_Q G post) mc ms (cy_A G)
abbrev cy_F : Type := Program × Launch × Env × Room × State × MethodId × Array Value × List Frame × Method × Code × (State → Prop)
def WM (G : cy_G) (F : cy_F) (nL kc ks pc : Nat) (lv : List (Nat × Value)) (st : List Value) (M : cy_Hp) : Prop := match F with
  | (p, l, e, R, s, m, args, below, meth, c, Q) => ∀ (H : Heap) (ls : Array Slot) (locs : List Loc), lv_has ls nL lv → cy_hm G M H → va_S (cy_A G) s.heap H locs → W p l e R s m args below meth c H locs kc ks Q (F0 m pc ls st)
def cy_C (G : cy_G) (F : cy_F) (own : String) (cc : ByteArray) (nL d rc rs : Nat) : Prop := match F with
  | (p, l, _, R, s, m, args, _, meth, c, _) => l = G.1 ∧ p.tables.exec = Jvm.exec ∧ c.code = cc ∧ c.maxLocals = nL ∧ s.vm.findClass own = some m.cls ∧ (∀ w ∈ cy_TW, w.before args s = true) ∧ cy_K G s ∧ meth.locks = false ∧ d ≤ R.frames ∧ 40 * d ≤ R.locals ∧ rc ≤ R.cells ∧ rs ≤ R.slots
def cy_P (G : cy_G) (F : cy_F) (ret : Option FieldType) (post : Option Value → cy_Hp → Prop) (mc ms : Nat) : Prop := match F with
  | (_, _, _, _, s, _, args, below, meth, _, Q) => meth.sig.returnType = ret ∧ Q = MQ below (cy_Q G post) args s mc ms (cy_A G)
def cy_N (F : cy_F) : Prop := match F with
  | (_, _, _, _, _, _, _, _, meth, _, _) => meth.name = "<init>"
theorem cy_Ct.of {G : cy_G} {d : Nat} {i : cy_I} {av : List Value} {M : cy_Hp} {mc ms : Nat} {post : Option Value → cy_Hp → Prop} (hy : plainName i.1.cls = true) (hn : (lg_sl av).length ≤ i.2.2.1)
    (h : ∀ F : cy_F, cy_C G F i.1.cls i.2.1 i.2.2.1 d mc ms → cy_P G F i.2.2.2 post mc ms → (i.1.name = "<init>" → cy_N F) → WM G F i.2.2.1 0 0 0 (lv_args 0 av) [] M) : cy_Ct G d i av M mc ms post := by
  obtain ⟨y, bs, mL, rt⟩ := i
  refine Met.ofW (cc := bs) (maxL := mL) (ret := rt) hy rfl ?_
  intro p e s m args below meth c s₁ B hml hv
  obtain ⟨rfl, hK, hM⟩ := hv
  have hts := atoms_spec (ws := cy_w (y, bs, mL, rt)) B.pre
  have hown : s.vm.findClass y.cls = some m.cls := findClass_of_methodNamed B.named
  have hk := h (p, G.1, e, { frames := d, cells := mc, slots := ms, locals := 40 * d }, s, m, av.toArray, below, meth, c, MQ below (cy_Q G post) av.toArray s mc ms (cy_A G)) ⟨rfl, B.exec, B.bytes, hml, hown, fun w hw => hts w (List.mem_cons_of_mem _ hw), hK, B.notSynchronized, Nat.le_refl _, Nat.le_refl _, Nat.le_refl _, Nat.le_refl _⟩ ⟨B.returns, rfl⟩ (fun hh => ((name_of_methodNamed B.named B.method).1.trans hh))
  rw [lg_entry_eq]
  exact hk s.heap _ [] (lv_entry av hn) hM va_S.rf
theorem cy_Ct.mono {G : cy_G} {d : Nat} {i : cy_I} {av : List Value} {M : cy_Hp} {mc ms : Nat} {post post2 : Option Value → cy_Hp → Prop} (h : cy_Ct G d i av M mc ms post) (hp : ∀ r M', post r M' → post2 r M') : cy_Ct G d i av M mc ms post2 := by
  intro p e ha hc hk s m args below hf happ hP hK
  obtain ⟨n, o, h1, h2, h3, ⟨r, M', a1, a2, a3⟩, h5⟩ := h p e ha hc hk s m args below hf happ hP hK
  exact ⟨n, o, h1, h2, h3, ⟨r, M', a1, hp r M' a2, a3⟩, h5⟩
/-- a class of ours: its place in the list, name, fields -/
def cy_Co (ci : Nat) (C : String) (T : u_T) (N : Nat) (ty : Nat → FieldType) : Prop := cy_cl[ci]? = some (C, T, N) ∧ (∀ w ∈ u_ws C T N, w ∈ cy_TW) ∧ (∀ k, k < N → parseFieldDescriptor (T k).2.2.1 = some (ty k)) ∧ (∀ a, a < N → ∀ b, b < N → a ≠ b → (T a).2.1 ≠ (T b).2.1)
/-- a method that may be called: its words stand in the tables; n: how many arguments -/
def cy_Mo (i : cy_I) (n : Nat) : Prop := Cond.code i.1 i.2.1 i.2.2.1 i.2.2.2 ∈ cy_TW ∧ Cond.initialized i.1.cls ∈ cy_TW ∧ (i.1.cls ≠ "java/lang/invoke/MethodHandle" ∧ i.1.cls ≠ "java/lang/invoke/VarHandle" ∧ (parseMethodDescriptor i.1.desc).map (fun d => d.parameters.length) = some n) ∧ i.2.2.1 ≤ 21
/-- ... an instance method, ... -/
def cy_MoV (i : cy_I) (n : Nat) : Prop := cy_Mo i n ∧ Cond.instanceMethod i.1 ∈ cy_TW ∧ Cond.selects i.1.cls i.1 i.1 ∈ cy_TW
def cy_MoI (i : cy_I) (n : Nat) : Prop := cy_Mo i n ∧ Cond.instanceMethod i.1 ∈ cy_TW ∧ i.1.name = "<init>"
def cy_MoS (i : cy_I) (n : Nat) : Prop := cy_Mo i n ∧ Cond.static i.1 ∈ cy_TW
theorem cy_goodIn {i : cy_I} (h : Cond.code i.1 i.2.1 i.2.2.1 i.2.2.2 ∈ cy_TW) : GoodIn cy_TW (cy_w i) := by
  intro w hw
  rcases List.mem_cons.mp hw with rfl | hw
  · exact ⟨h, cy_good h⟩
  · exact ⟨hw, cy_good hw⟩
section CYR
variable {G : cy_G} {F : cy_F} {own : String} {cc : ByteArray} {nL d rc rs kc ks pc : Nat} {lv : List (Nat × Value)} {st : List Value} {M : cy_Hp}
theorem wm_sub (lv2 : List (Nat × Value)) (hs : ∀ q ∈ lv2, q ∈ lv) (k : WM G F nL kc ks pc lv2 st M) : WM G F nL kc ks pc lv st M := by
  obtain ⟨p, l, e, R, s, m, args, below, meth, c, Q⟩ := F
  exact fun H ls locs hl hM hS => k H ls locs ⟨hl.1, hl.2.1, fun q hq => hl.2.2 q (hs q hq)⟩ hM hS
theorem wm_get (C : cy_C G F own cc nL d rc rs) {ci : Nat} {Cn : String} {T : u_T} {N : Nat} {ty : Nat → FieldType} (co : cy_Co ci Cn T N ty) {a idx : Nat} {fs : List Value} (ha : M a = some (.inr (ci, fs))) (k : Nat) (hk : k < N) (lk : Cond.fieldLink own idx (T k).1 (T k).2.1 (T k).2.2.1 ∈ cy_TW) {v : Value} (hv : fs[k]? = some v) (hd : decode cc pc = .ok (.getfield idx, 3))
    (kk : WM G F nL kc ks (pc + 3) lv (v :: st) M) : WM G F nL kc ks pc lv (.ref a :: st) M := by
  obtain ⟨p, l, e, R, s, m, args, below, meth, c, Q⟩ := F
  obtain ⟨hl0, hx, hb, hml, hown, hts, hK, -⟩ := C
  exact fun H ls locs hl hM hS => va_get hx hb hts co.2.1 hown hK.1 (cy_hm_at hM ha) 0 rfl co.1 k hk (hts _ lk) (fun _ h9 => h9) hv hd (kk H ls locs hl hM hS)
theorem wm_getN (C : cy_C G F own cc nL d rc rs) {ci : Nat} {Cn host : String} {T : u_T} {N : Nat} {ty : Nat → FieldType} (co : cy_Co ci Cn T N ty) {a idx : Nat} {fs : List Value} (ha : M a = some (.inr (ci, fs))) (k : Nat) (hk : k < N) (lk : Cond.fieldLinkNest own idx (T k).1 (T k).2.1 (T k).2.2.1 host ∈ cy_NW) {v : Value} (hv : fs[k]? = some v) (hd : decode cc pc = .ok (.getfield idx, 3))
    (kk : WM G F nL kc ks (pc + 3) lv (v :: st) M) : WM G F nL kc ks pc lv (.ref a :: st) M := by
  obtain ⟨p, l, e, R, s, m, args, below, meth, c, Q⟩ := F
  obtain ⟨hl0, hx, hb, hml, hown, hts, hK, -⟩ := C
  exact fun H ls locs hl hM hS => va_getN hx hb hts co.2.1 hown hK.1 (cy_hm_at hM ha) 0 rfl co.1 k hk (va_Nw.use rfl (hK.2.1 _ lk)) (fun _ h9 => h9) hv hd (kk H ls locs hl hM hS)
theorem wm_put (C : cy_C G F own cc nL d rc rs) {ci : Nat} {Cn : String} {T : u_T} {N : Nat} {ty : Nat → FieldType} (co : cy_Co ci Cn T N ty) {a idx : Nat} {fs : List Value} (ha : M a = some (.inr (ci, fs))) (k : Nat) (hk : k < N) (lk : Cond.fieldLink own idx (T k).1 (T k).2.1 (T k).2.2.1 ∈ cy_TW) (hfin : (T k).2.2.2 = false) {v : Value} (hn : narrow (ty k) v = v) (hfit : fits (ty k) v = true) (hlen : k < fs.length) (hd : decode cc pc = .ok (.putfield idx, 3))
    (kk : WM G F nL kc ks (pc + 3) lv st (cy_set M a (.inr (ci, fs.set k v)))) : WM G F nL kc ks pc lv (v :: .ref a :: st) M := by
  obtain ⟨p, l, e, R, s, m, args, below, meth, c, Q⟩ := F
  obtain ⟨hl0, hx, hb, hml, hown, hts, hK, -⟩ := C
  intro H ls locs hl hM hS
  have hap := va_apart (own := own) hts co.2.1 ty co.2.2.1 co.2.2.2 hK.1 co.1
  obtain ⟨hAa, r, h1, cell, q1, q2, q3, q4⟩ := hM.1 a _ ha
  have hr : r = (Cn, T, N) := Option.some.inj (h1.symm.trans co.1)
  subst hr
  obtain ⟨hSl, hfc, kC, hkC, hkind⟩ := hK.1.1 ci _ co.1
  obtain ⟨cf, kf, fi, f, hi, hsl⟩ := hSl k hk
  have hlay := hts _ (co.2.1 _ (u_in_lay hk))
  unfold u_lay at hlay
  rw [if_neg (by rw [hfin]; decide)] at hlay
  have hst := (u_facts hfc hkC (u_lays hts co.2.1 hk) hi).1
  have h6 := u_store hfc hkC hkind hlay hi (co.2.2.1 k hk) hn hfit
  refine W.putK hx hb (f := f) ⟨hown, hts _ lk, ⟨_, _, _, hi⟩, hst⟩ (by rw [q2]; exact h6) q1 q3 (by rw [hsl]; exact k2_hasslot (q4 k hk)) rfl rfl hd fun H' e1 e2 e3 => ?_
  rw [hsl] at e1 ⊢
  exact kk H' ls _ hl (cy_hm_set hM hAa e2 ⟨_, co.1, t_OB.to (V := updV (vp_V fs) k v) ⟨_, e1, q2, q3, t_set q4 hap hk v⟩ (fun j _ => vp_updV_set hlen v j)⟩ e3) (hS.put e2 e3 hAa)
theorem wm_putN (C : cy_C G F own cc nL d rc rs) {ci : Nat} {Cn host : String} {T : u_T} {N : Nat} {ty : Nat → FieldType} (co : cy_Co ci Cn T N ty) {a idx : Nat} {fs : List Value} (ha : M a = some (.inr (ci, fs))) (k : Nat) (hk : k < N) (lk : Cond.fieldLinkNest own idx (T k).1 (T k).2.1 (T k).2.2.1 host ∈ cy_NW) (hfin : (T k).2.2.2 = false) {v : Value} (hn : narrow (ty k) v = v) (hfit : fits (ty k) v = true) (hlen : k < fs.length) (hd : decode cc pc = .ok (.putfield idx, 3))
    (kk : WM G F nL kc ks (pc + 3) lv st (cy_set M a (.inr (ci, fs.set k v)))) : WM G F nL kc ks pc lv (v :: .ref a :: st) M := by
  obtain ⟨p, l, e, R, s, m, args, below, meth, c, Q⟩ := F
  obtain ⟨hl0, hx, hb, hml, hown, hts, hK, -⟩ := C
  intro H ls locs hl hM hS
  have hap := va_apart (own := own) hts co.2.1 ty co.2.2.1 co.2.2.2 hK.1 co.1
  obtain ⟨hAa, r, h1, cell, q1, q2, q3, q4⟩ := hM.1 a _ ha
  have hr : r = (Cn, T, N) := Option.some.inj (h1.symm.trans co.1)
  subst hr
  obtain ⟨hSl, hfc, kC, hkC, hkind⟩ := hK.1.1 ci _ co.1
  obtain ⟨cf, kf, fi, f, hi, hsl⟩ := hSl k hk
  have hlay := hts _ (co.2.1 _ (u_in_lay hk))
  unfold u_lay at hlay
  rw [if_neg (by rw [hfin]; decide)] at hlay
  have hst := (u_facts hfc hkC (u_lays hts co.2.1 hk) hi).1
  have h6 := u_store hfc hkC hkind hlay hi (co.2.2.1 k hk) hn hfit
  refine va_WputK hx hb (f := f) hown (va_Nw.use rfl (hK.2.1 _ lk)) hi hst (by rw [q2]; exact h6) q1 q3 (by rw [hsl]; exact k2_hasslot (q4 k hk)) rfl rfl hd fun H' e1 e2 e3 => ?_
  rw [hsl] at e1 ⊢
  exact kk H' ls _ hl (cy_hm_set hM hAa e2 ⟨_, co.1, t_OB.to (V := updV (vp_V fs) k v) ⟨_, e1, q2, q3, t_set q4 hap hk v⟩ (fun j _ => vp_updV_set hlen v j)⟩ e3) (hS.put e2 e3 hAa)
theorem wm_putF (C : cy_C G F own cc nL d rc rs) (hi0 : cy_N F) {ci : Nat} {Cn : String} {T : u_T} {N : Nat} {ty : Nat → FieldType} (co : cy_Co ci Cn T N ty) {a idx : Nat} {fs : List Value} (ha : M a = some (.inr (ci, fs))) (k : Nat) (hk : k < N) (lk : Cond.fieldLink own idx (T k).1 (T k).2.1 (T k).2.2.1 ∈ cy_TW) (hfin : (T k).2.2.2 = true) (hdecl : (T k).1 = own) {v : Value} (hn : narrow (ty k) v = v) (hfit : fits (ty k) v = true) (hlen : k < fs.length) (hd : decode cc pc = .ok (.putfield idx, 3))
    (kk : WM G F nL kc ks (pc + 3) lv st (cy_set M a (.inr (ci, fs.set k v)))) : WM G F nL kc ks pc lv (v :: .ref a :: st) M := by
  obtain ⟨p, l, e, R, s, m, args, below, meth, c, Q⟩ := F
  obtain ⟨hl0, hx, hb, hml, hown, hts, hK, -⟩ := C
  intro H ls locs hl hM hS
  have hap := va_apart (own := own) hts co.2.1 ty co.2.2.1 co.2.2.2 hK.1 co.1
  obtain ⟨hAa, r, h1, cell, q1, q2, q3, q4⟩ := hM.1 a _ ha
  have hr : r = (Cn, T, N) := Option.some.inj (h1.symm.trans co.1)
  subst hr
  obtain ⟨hSl, hfc, kC, hkC, hkind⟩ := hK.1.1 ci _ co.1
  obtain ⟨cf, kf, fi, f, hi, hsl⟩ := hSl k hk
  have hlay := hts _ (co.2.1 _ (u_in_lay hk))
  unfold u_lay at hlay
  rw [if_pos hfin] at hlay
  have hst := (u_facts hfc hkC (u_lays hts co.2.1 hk) hi).1
  have hcf : m.cls = cf := by
    obtain ⟨_, _, c', _, _, _, -, -, hf', -, -, -, hown2, -⟩ := Cond.laysFinal_spec hlay
    have e1 : c' = cf := by have := hi.symm.trans hf'; simp at this; exact this.1.symm
    rw [hdecl] at hown2
    rw [← e1]; exact Option.some.inj (hown.symm.trans hown2)
  have h6 := u_fits hfc hkC hkind (Or.inr hlay) hi (co.2.2.1 k hk) hn hfit
  refine W.putFinK hx hb hown (hts _ lk) hi hst hcf hi0 (by rw [q2]; exact h6) q1 q3 (by rw [hsl]; exact k2_hasslot (q4 k hk)) rfl rfl hd fun H' e1 e2 e3 => ?_
  rw [hsl] at e1 ⊢
  exact kk H' ls _ hl (cy_hm_set hM hAa e2 ⟨_, co.1, t_OB.to (V := updV (vp_V fs) k v) ⟨_, e1, q2, q3, t_set q4 hap hk v⟩ (fun j _ => vp_updV_set hlen v j)⟩ e3) (hS.put e2 e3 hAa)
theorem wm_iald (C : cy_C G F own cc nL d rc rs) {a t0 : Nat} {cA : ClassId} {n : Nat} {f : Nat → Int32} (ha : M a = some (.inl (cA, n, .inl f))) (ht : G.2.2.1[t0]? = some (cA, .int)) {i : Int32} (hin : vp_in i n) (hd : decode cc pc = .ok (.iaload, 1))
    (kk : WM G F nL kc ks (pc + 1) lv (.int (f i.toNatClampNeg) :: st) M) : WM G F nL kc ks pc lv (.int i :: .ref a :: st) M := by
  obtain ⟨p, l, e, R, s, m, args, below, meth, c, Q⟩ := F
  obtain ⟨hl0, hx, hb, hml, hown, hts, hK, -⟩ := C
  exact fun H ls locs hl hM hS => va_iald hx hb hK.1 (cy_hm_at hM ha) 0 t0 rfl ht hin hd (kk H ls locs hl hM hS)
theorem wm_iast (C : cy_C G F own cc nL d rc rs) {a t0 : Nat} {cA : ClassId} {n : Nat} {f : Nat → Int32} (ha : M a = some (.inl (cA, n, .inl f))) (ht : G.2.2.1[t0]? = some (cA, .int)) {i x : Int32} (hin : vp_in i n) (hd : decode cc pc = .ok (.iastore, 1))
    (kk : WM G F nL kc ks (pc + 1) lv st (cy_set M a (.inl (cA, n, .inl (upd f i.toNatClampNeg x))))) : WM G F nL kc ks pc lv (.int x :: .int i :: .ref a :: st) M := by
  obtain ⟨p, l, e, R, s, m, args, below, meth, c, Q⟩ := F
  obtain ⟨hl0, hx, hb, hml, hown, hts, hK, -⟩ := C
  intro H ls locs hl hM hS
  obtain ⟨hAa, hat⟩ := hM.1 a _ ha
  refine W.iast hx hb hat ((hK.1.2 t0 _ ht).1 n (fun j => .int (f j))) (fun q => by cases q) (by show ¬ (i < 0 ∨ (arrV _ _ _).slots.size ≤ _); rw [arrV_size]; exact hin) rfl rfl hd fun H1 e1 z oq => ?_
  refine kk H1 ls _ hl (cy_hm_set hM hAa z ?_ oq) (hS.put z oq hAa)
  show H1[a]? = some (vp_cell _ _)
  rw [e1, vp_cell_i, vp_cell_i, arrV_store]
  congr 2
  funext q
  by_cases hq : q = i.toNatClampNeg
  · subst hq; simp [updV, upd]
  · simp [updV, upd, hq]
theorem wm_alen (C : cy_C G F own cc nL d rc rs) {a t0 : Nat} {cA : ClassId} {x : vp_A} {ty : FieldType} (ha : M a = some (.inl (cA, x))) (ht : G.2.2.1[t0]? = some (cA, ty)) (hd : decode cc pc = .ok (.arraylength, 1))
    (kk : WM G F nL kc ks (pc + 1) lv (.int (nI x.1) :: st) M) : WM G F nL kc ks pc lv (.ref a :: st) M := by
  obtain ⟨p, l, e, R, s, m, args, below, meth, c, Q⟩ := F
  obtain ⟨hl0, hx, hb, hml, hown, hts, hK, -⟩ := C
  exact fun H ls locs hl hM hS => va_alen hx hb hK.1 (cy_hm_at hM ha) 0 t0 rfl ht rfl hd (kk H ls locs hl hM hS)
theorem wm_aald (C : cy_C G F own cc nL d rc rs) {a t0 : Nat} {cA : ClassId} {Cn : String} {n : Nat} {f : Nat → Option Nat} (ha : M a = some (.inl (cA, n, .inr (.inr (.inr (.inr f)))))) (ht : G.2.2.1[t0]? = some (cA, .object Cn)) {i : Int32} (hin : vp_in i n) (hd : decode cc pc = .ok (.aaload, 1))
    (kk : WM G F nL kc ks (pc + 1) lv (va_rf (f i.toNatClampNeg) :: st) M) : WM G F nL kc ks pc lv (.int i :: .ref a :: st) M := by
  obtain ⟨p, l, e, R, s, m, args, below, meth, c, Q⟩ := F
  obtain ⟨hl0, hx, hb, hml, hown, hts, hK, -⟩ := C
  exact fun H ls locs hl hM hS => va_aldq hx hb hK.1 (cy_hm_at hM ha) 0 t0 rfl ht hin hd (kk H ls locs hl hM hS)
theorem wm_aast (C : cy_C G F own cc nL d rc rs) {a t0 ci v : Nat} {cA : ClassId} {r : vw_C} {n : Nat} {vs : List Value} {f : Nat → Option Nat} (ha : M a = some (.inl (cA, n, .inr (.inr (.inr (.inr f)))))) (ht : G.2.2.1[t0]? = some (cA, .object r.1)) (hv : M v = some (.inr (ci, vs))) (hc : cy_cl[ci]? = some r) {i : Int32} (hin : vp_in i n) (hd : decode cc pc = .ok (.aastore, 1))
    (kk : WM G F nL kc ks (pc + 1) lv st (cy_set M a (.inl (cA, n, .inr (.inr (.inr (.inr (va_up f i.toNatClampNeg (some v))))))))) : WM G F nL kc ks pc lv (.ref v :: .int i :: .ref a :: st) M := by
  obtain ⟨p, l, e, R, s, m, args, below, meth, c, Q⟩ := F
  obtain ⟨hl0, hx, hb, hml, hown, hts, hK, -⟩ := C
  intro H ls locs hl hM hS
  have hlt : i.toNatClampNeg < n := Nat.not_le.mp fun q => hin (Or.inr q)
  have h0 : ¬ i < 0 := fun q => hin (Or.inl q)
  obtain ⟨hAa, hat⟩ := hM.1 a _ ha
  obtain ⟨-, r', hr', cellV, g1, g2, g3, -⟩ := hM.1 v _ hv
  have hcls := (hK.1.1 ci r hc).2
  obtain ⟨kA, comp, k1, k2, k3, -⟩ := (hK.1.2 t0 _ ht).2
  have hcomp : comp = G.2.1.1 ci := Option.some.inj (k3.symm.trans hcls.1)
  subst hcomp
  obtain ⟨kC, hkC, -⟩ := hcls.2
  refine W.aast hx hb hat (fun q h => by cases h) (fun h => by cases h) k1 k2 rfl hkC ⟨h0, by show _ < (arrV _ _ _).slots.size; rw [arrV_size]; exact hlt⟩ g1 (fun q h => by rw [g3] at h; cases h) (by rw [g2]; exact hkC) (by rw [g2]; exact va_assign hcls) rfl rfl hd fun H1 e1 z oq => ?_
  refine kk H1 ls _ hl (cy_hm_set hM hAa z ?_ oq) (hS.put z oq hAa)
  show H1[a]? = some (vp_cell _ _)
  rw [e1, vp_cell_q, vp_cell_q, arrV_store]
  congr 2
  funext q
  by_cases hq : q = i.toNatClampNeg
  · subst hq; simp [updV, va_up, va_rf]
  · simp [updV, va_up, hq]
theorem wm_new (C : cy_C G F own cc nL d rc rs) {ci : Nat} {Cn : String} {T : u_T} {N : Nat} {ty : Nat → FieldType} (co : cy_Co ci Cn T N ty) {idx : Nat} (lk : Cond.classLink own idx Cn ∈ cy_TW) (li : Cond.instantiable Cn N ∈ cy_TW) (ln : Cond.initialized Cn ∈ cy_TW) {fs : List Value} (hfs : ∀ j, j < N → defaultValue (ty j) = vp_V fs j) (hkc : kc + 1 ≤ rc) (hks : ks + N ≤ rs) (hd : decode cc pc = .ok (.new idx, 3))
    (kk : ∀ q : Nat, cy_top G M q → WM G F nL (kc + 1) (ks + N) (pc + 3) lv (.ref q :: st) (cy_set M q (.inr (ci, fs)))) : WM G F nL kc ks pc lv st M := by
  obtain ⟨p, l, e, R, s, m, args, below, meth, c, Q⟩ := F
  obtain ⟨hl0, hx, hb, hml, hown, hts, hK, hlk, hfr, hlo, hrc, hrs⟩ := C
  intro H ls locs hl hM hS
  have hKn := hK.1.1 ci _ co.1
  refine W.newcK hx hb hown (hts _ lk) (hts _ li) (hts _ ln) rfl hd (Nat.le_trans hkc hrc) (Nat.le_trans hks hrs) hKn.2.1 rfl fun H1 kC hkC e1 z1 o1 => ?_
  have hA : cy_A G H.size := Nat.le_trans hK.2.2.1 hS.1
  exact kk H.size (cy_hm_top hM hA) H1 ls locs hl (cy_hm_new hM hA rfl z1 ⟨_, co.1, (u_born ty hts co.2.1 hKn hkC e1 co.2.2.1).to hfs⟩ o1) ⟨Nat.le_trans hS.1 (by omega), fun x h1 h2 => (o1 x (Nat.lt_of_lt_of_le h1 hS.1)).trans (hS.2.1 x h1 h2), hS.2.2⟩
theorem wm_newa (C : cy_C G F own cc nL d rc rs) {t0 : Nat} {cA : ClassId} (ht : G.2.2.1[t0]? = some (cA, .int)) (lw : Cond.arrayClass .int ∈ cy_TW) {n : Int32} {N : Nat} (hn : ¬ n < 0) (hN : n.toNatClampNeg = N) (hbig : N * 4 ≤ 536870912) (hkc : kc + 1 ≤ rc) (hks : ks + N ≤ rs) (hd : decode cc pc = .ok (.newarray .int, 2))
    (kk : ∀ q : Nat, cy_top G M q → WM G F nL (kc + 1) (ks + N) (pc + 2) lv (.ref q :: st) (cy_set M q (.inl (cA, N, .inl (fun _ => 0))))) : WM G F nL kc ks pc lv (.int n :: st) M := by
  obtain ⟨p, l, e, R, s, m, args, below, meth, c, Q⟩ := F
  obtain ⟨hl0, hx, hb, hml, hown, hts, hK, hlk, hfr, hlo, hrc, hrs⟩ := C
  intro H ls locs hl hM hS
  refine va_newaK hx hb (atype := .int) (hts _ lw) rfl hd rfl hn hN hbig (Nat.le_trans hkc hrc) (Nat.le_trans hks hrs) rfl fun H1 cB e1 z1 o1 hAr hNm => ?_
  have hA : cy_A G H.size := Nat.le_trans hK.2.2.1 hS.1
  have hcB : cB = cA := Option.some.inj (hNm.symm.trans (hK.1.2 t0 _ ht).2)
  subst hcB
  exact kk H.size (cy_hm_top hM hA) H1 ls locs hl (cy_hm_new hM hA rfl z1 e1 o1) ⟨Nat.le_trans hS.1 (by omega), fun x h1 h2 => (o1 x (Nat.lt_of_lt_of_le h1 hS.1)).trans (hS.2.1 x h1 h2), hS.2.2⟩
theorem wm_newq (C : cy_C G F own cc nL d rc rs) {t0 : Nat} {cA : ClassId} {Cn : String} (ht : G.2.2.1[t0]? = some (cA, .object Cn)) {idx : Nat} (lk : Cond.classLink own idx Cn ∈ cy_TW) (lo : Cn ∈ cy_AO) {n : Int32} {N : Nat} (hn : ¬ n < 0) (hN : n.toNatClampNeg = N) (hbig : N * 4 ≤ 536870912) (hkc : kc + 1 ≤ rc) (hks : ks + N ≤ rs) (hd : decode cc pc = .ok (.anewarray idx, 3))
    (kk : ∀ q : Nat, cy_top G M q → WM G F nL (kc + 1) (ks + N) (pc + 3) lv (.ref q :: st) (cy_set M q (.inl (cA, N, .inr (.inr (.inr (.inr (fun _ => none)))))))) : WM G F nL kc ks pc lv (.int n :: st) M := by
  obtain ⟨p, l, e, R, s, m, args, below, meth, c, Q⟩ := F
  obtain ⟨hl0, hx, hb, hml, hown, hts, hK, hlk, hfr, hlo, hrc, hrs⟩ := C
  intro H ls locs hl hM hS
  subst hN
  refine W.anew hx hb hown (hts _ lk) (va_AO.use (hK.2.2.2.2 _ lo)) rfl hd rfl hn hbig (Nat.le_trans hkc hrc) (Nat.le_trans hks hrs) fun cB kA comp f1 f2 f3 f4 => ?_
  generalize hH1 : H.push ({ cls := cB, slots := Array.replicate n.toNatClampNeg .null, vm := .none } : Cell) = H1
  have z1 : H1.size = H.size + 1 := by rw [← hH1, Array.size_push]
  have e1 : H1[H.size]? = some (arrV cB n.toNatClampNeg (fun _ => .null)) := by rw [← hH1, Array.getElem?_push_size, ← arrV_new]
  have o1 : ∀ q : Nat, q < H.size → H1[q]? = H[q]? := fun q hq => by rw [← hH1, Array.getElem?_push, if_neg (Nat.ne_of_lt hq)]
  have hA : cy_A G H.size := Nat.le_trans hK.2.2.1 hS.1
  have hcB : cB = cA := by
    obtain ⟨kA', comp', g1, g2, g3, g4⟩ := (hK.1.2 t0 _ ht).2
    exact Option.some.inj (f1.symm.trans g4)
  subst hcB
  exact kk H.size (cy_hm_top hM hA) H1 ls locs hl (cy_hm_new hM hA rfl z1 e1 o1) ⟨Nat.le_trans hS.1 (by omega), fun x h1 h2 => (o1 x (Nat.lt_of_lt_of_le h1 hS.1)).trans (hS.2.1 x h1 h2), hS.2.2⟩
theorem wm_gets (C : cy_C G F own cc nL d rc rs) {j idx : Nat} {q : String × String × String × Nat × (Nat → Value)} (hj : cy_ST[j]? = some q) (lk : Cond.fieldLink own idx q.1 q.2.1 q.2.2.1 ∈ cy_TW) (hd : decode cc pc = .ok (.getstatic idx, 3))
    (kk : WM G F nL kc ks (pc + 3) lv (.ref (G.2.2.2.2 j) :: st) M) : WM G F nL kc ks pc lv st M := by
  obtain ⟨p, l, e, R, s, m, args, below, meth, c, Q⟩ := F
  obtain ⟨hl0, hx, hb, hml, hown, hts, hK, -⟩ := C
  exact fun H ls locs hl hM hS => va_gets hx hb (hK.2.2.2.1 j q hj).1 hS hown (hts _ lk) (fun _ h9 => h9) hd (kk H ls locs hl hM hS)
theorem wm_getsN (C : cy_C G F own cc nL d rc rs) {j : Nat} {q : String × String × String × Nat × (Nat → Value)} (hj : cy_ST[j]? = some q) {i : Int32} (hin : vp_in i q.2.2.2.1) {v : Value} (hv : q.2.2.2.2 i.toNatClampNeg = v) (hd : decode cc pc = .ok (.iaload, 1))
    (kk : WM G F nL kc ks (pc + 1) lv (v :: st) M) : WM G F nL kc ks pc lv (.int i :: .ref (G.2.2.2.2 j) :: st) M := by
  obtain ⟨p, l, e, R, s, m, args, below, meth, c, Q⟩ := F
  obtain ⟨hl0, hx, hb, hml, hown, hts, hK, -⟩ := C
  exact fun H ls locs hl hM hS => va_ti hx hb (hK.2.2.2.1 j q hj).2 hS hin hv hd (kk H ls locs hl hM hS)
theorem wm_tlen (C : cy_C G F own cc nL d rc rs) {j : Nat} {q : String × String × String × Nat × (Nat → Value)} (hj : cy_ST[j]? = some q) (hd : decode cc pc = .ok (.arraylength, 1))
    (kk : WM G F nL kc ks (pc + 1) lv (.int (nI q.2.2.2.1) :: st) M) : WM G F nL kc ks pc lv (.ref (G.2.2.2.2 j) :: st) M := by
  obtain ⟨p, l, e, R, s, m, args, below, meth, c, Q⟩ := F
  obtain ⟨hl0, hx, hb, hml, hown, hts, hK, -⟩ := C
  exact fun H ls locs hl hM hS => va_tlen hx hb (hK.2.2.2.1 j q hj).2 hS rfl hd (kk H ls locs hl hM hS)
theorem wm_obj (C : cy_C G F own cc nL d rc rs) {a idx : Nat} (lk : Cond.methodLink own idx Lib.objectInit ∈ cy_TW) (li : Cond.instanceMethod Lib.objectInit ∈ cy_TW) (lc : Cond.code Lib.objectInit ⟨#[0xb1]⟩ 1 none ∈ cy_TW) (hd1 : 1 ≤ d) (hst : (st.map fun v => v.category).sum ≤ 8) (hd : decode cc pc = .ok (.invokespecial idx, 3))
    (kk : WM G F nL kc ks (pc + 3) lv st M) : WM G F nL kc ks pc lv (.ref a :: st) M := by
  obtain ⟨p, l, e, R, s, m, args, below, meth, c, Q⟩ := F
  obtain ⟨hl0, hx, hb, hml, hown, hts, hK, hlk, hfr, hlo, hrc, hrs⟩ := C
  intro H ls locs hl hM hS
  refine W.objInit hx hb hown (hts _ lk) (hts _ li) (hts _ lc) rfl (by rw [hml]; exact hl.1) rfl hd (Nat.le_trans hd1 hfr) ?_ (kk H ls locs hl hM hS)
  show 2 * 0 + (st.map fun v => v.category).sum + 12 ≤ R.locals
  omega
theorem wm_mmax (C : cy_C G F own cc nL d rc rs) {idx : Nat} (lk : Cond.methodLink own idx Lib.Math.max.name ∈ cy_TW) (ls0 : Cond.static Lib.Math.max.name ∈ cy_TW) (li : Cond.initialized "java/lang/Math" ∈ cy_TW) (lc : Cond.code Lib.Math.max.name Lib.Math.max.code 2 (some .int) ∈ cy_TW) (hd1 : 1 ≤ d) (hst : (st.map fun v => v.category).sum ≤ 8) (hkc : kc ≤ rc) (hks : ks ≤ rs) {x y : Int32} (hd : decode cc pc = .ok (.invokestatic idx, 3))
    (kk : WM G F nL kc ks (pc + 3) lv (.int (if x < y then y else x) :: st) M) : WM G F nL kc ks pc lv (.int y :: .int x :: st) M := by
  obtain ⟨p, l, e, R, s, m, args, below, meth, c, Q⟩ := F
  obtain ⟨hl0, hx, hb, hml, hown, hts, hK, hlk, hfr, hlo, hrc, hrs⟩ := C
  exact fun H ls locs hl hM hS => va_mmax hx hb (by rw [hml]; exact hl.1.symm) hown (hts _ lk) (hts _ ls0) (hts _ li) (hts _ lc) (Nat.le_trans hd1 hfr) (by omega) (Nat.le_trans hkc hrc) (Nat.le_trans hks hrs) hd (kk H ls locs hl hM hS)
theorem wm_mmin (C : cy_C G F own cc nL d rc rs) {idx : Nat} (lk : Cond.methodLink own idx Lib.Math.min.name ∈ cy_TW) (ls0 : Cond.static Lib.Math.min.name ∈ cy_TW) (li : Cond.initialized "java/lang/Math" ∈ cy_TW) (lc : Cond.code Lib.Math.min.name Lib.Math.min.code 2 (some .int) ∈ cy_TW) (hd1 : 1 ≤ d) (hst : (st.map fun v => v.category).sum ≤ 8) (hkc : kc ≤ rc) (hks : ks ≤ rs) {x y : Int32} (hd : decode cc pc = .ok (.invokestatic idx, 3))
    (kk : WM G F nL kc ks (pc + 3) lv (.int (if y < x then y else x) :: st) M) : WM G F nL kc ks pc lv (.int y :: .int x :: st) M := by
  obtain ⟨p, l, e, R, s, m, args, below, meth, c, Q⟩ := F
  obtain ⟨hl0, hx, hb, hml, hown, hts, hK, hlk, hfr, hlo, hrc, hrs⟩ := C
  exact fun H ls locs hl hM hS => va_mmin hx hb (by rw [hml]; exact hl.1.symm) hown (hts _ lk) (hts _ ls0) (hts _ li) (hts _ lc) (Nat.le_trans hd1 hfr) (by omega) (Nat.le_trans hkc hrc) (Nat.le_trans hks hrs) hd (kk H ls locs hl hM hS)
/-! ends -/
theorem wm_iret (C : cy_C G F own cc nL d rc rs) {post : Option Value → cy_Hp → Prop} (P : cy_P G F (some .int) post kc ks) {v : Int32} (hd : decode cc pc = .ok (.ireturn, 1)) (h : post (some (.int v)) M) : WM G F nL kc ks pc lv [.int v] M := by
  obtain ⟨p, l, e, R, s, m, args, below, meth, c, Q⟩ := F
  obtain ⟨hl0, hx, hb, hml, hown, hts, hK, hlk, -⟩ := C
  obtain ⟨hr, rfl⟩ := P
  exact fun H ls locs hl hM hS => W.iret (v := v) hx hb hr (fun t ht hW => ⟨some (.int v), M, rfl, h, by rw [ht]; exact hM, hS.F ht⟩) hS.2.2 hd hlk
theorem wm_zret (C : cy_C G F own cc nL d rc rs) {post : Option Value → cy_Hp → Prop} (P : cy_P G F (some .boolean) post kc ks) {v : Int32} (hn : narrow .boolean (.int v) = .int v) (hd : decode cc pc = .ok (.ireturn, 1)) (h : post (some (.int v)) M) : WM G F nL kc ks pc lv [.int v] M := by
  obtain ⟨p, l, e, R, s, m, args, below, meth, c, Q⟩ := F
  obtain ⟨hl0, hx, hb, hml, hown, hts, hK, hlk, -⟩ := C
  obtain ⟨hr, rfl⟩ := P
  exact fun H ls locs hl hM hS => W.zret (v := v) hx hb hr hn (fun t ht hW => ⟨some (.int v), M, rfl, h, by rw [ht]; exact hM, hS.F ht⟩) hS.2.2 hd hlk
theorem wm_vret (C : cy_C G F own cc nL d rc rs) {post : Option Value → cy_Hp → Prop} (P : cy_P G F none post kc ks) (hd : decode cc pc = .ok (.return_, 1)) (h : post none M) : WM G F nL kc ks pc lv [] M := by
  obtain ⟨p, l, e, R, s, m, args, below, meth, c, Q⟩ := F
  obtain ⟨hl0, hx, hb, hml, hown, hts, hK, hlk, -⟩ := C
  obtain ⟨hr, rfl⟩ := P
  exact fun H ls locs hl hM hS => W.vret hx hb hr (fun t ht hW => ⟨none, M, rfl, h, by rw [ht]; exact hM, hS.F ht⟩) hS.2.2 hd hlk
theorem wm_aret (C : cy_C G F own cc nL d rc rs) {post : Option Value → cy_Hp → Prop} {rt : FieldType} (P : cy_P G F (some rt) post kc ks) (hrt : (∃ n, rt = .object n) ∨ ∃ t, rt = .array t) {v : Value} (hv : v = .null ∨ ∃ a, v = .ref a) (hd : decode cc pc = .ok (.areturn, 1)) (h : post (some v) M) : WM G F nL kc ks pc lv [v] M := by
  obtain ⟨p, l, e, R, s, m, args, below, meth, c, Q⟩ := F
  obtain ⟨hl0, hx, hb, hml, hown, hts, hK, hlk, -⟩ := C
  obtain ⟨hr, rfl⟩ := P
  exact fun H ls locs hl hM hS => W.aret (v := v) hx hb hr hrt hv (fun t ht hW => ⟨some v, M, rfl, h, by rw [ht]; exact hM, hS.F ht⟩) hS.2.2 hd hlk
/-- room that isn't used -/
theorem wm_widen {kc2 ks2 : Nat} (h1 : kc ≤ kc2) (h2 : ks ≤ ks2) (k : WM G F nL kc2 ks2 pc lv st M) : WM G F nL kc ks pc lv st M := by
  obtain ⟨p, l, e, R, s, m, args, below, meth, c, Q⟩ := F
  exact fun H ls locs hl hM hS => W.widen h1 h2 (k H ls locs hl hM hS)
end CYR
/-! calls -/
theorem cy_blind {G : cy_G} {av : List Value} {M : cy_Hp} : FrameBlind (va_Pc av (fun U => cy_K G U ∧ cy_hm G M U.heap)) := fun _ _ _ _ q => ⟨q.1, cy_K_calling q.2.1, q.2.2⟩
theorem cy_run {G : cy_G} {p : Program} {l : Launch} {e : Env} {R : Room} {s : State} {m : MethodId} {args : Array Value} {below : List Frame} {meth : Method} {c : Code} {Q : State → Prop} {H : Heap} {locs : List Loc} {nL kc ks mc ms pc : Nat} {lv : List (Nat × Value)} {ls : Array Slot} {st rest : List Value} {a : Array Value}
    (hr : va_Run p l e R s m args below meth c H locs kc ks mc ms (F0 m pc ls st) rest (cy_Q G (fun r M' => WM G (p, l, e, R, s, m, args, below, meth, c, Q) nL (kc + mc) (ks + ms) (pc + 3) lv (r.toList ++ rest) M') a) (cy_A G))
    (hl : lv_has ls nL lv) (hS : va_S (cy_A G) s.heap H locs) : W p l e R s m args below meth c H locs kc ks Q (F0 m pc ls st) := by
  intro T hT X
  obtain ⟨v, st₀, t, T', L, h0, X', hL, e1, e2, ⟨r, M', hv, hp, hm, hz, hk⟩, stp⟩ := hr T hT X
  cases hv
  rw [h0] at hz hk
  obtain ⟨t2, a1, b1⟩ := hp T'.heap ls (locs ++ L) hl (by rw [e1]; exact hm)
    ⟨Nat.le_trans hS.1 (by rw [e1]; exact hz), fun q h1 h2 => by rw [e1, hk q (Nat.lt_of_lt_of_le h1 hS.1) h2]; exact hS.2.1 q h1 h2, fun q hq => by
      rcases List.mem_append.mp hq with h | h
      · exact hS.2.2 q h
      · exact hL q h⟩ T' rfl X'
  exact ⟨t2, stp t2 a1, b1⟩
section CYC
variable {G : cy_G} {F : cy_F} {own : String} {cc : ByteArray} {nL d rc rs kc ks pc : Nat} {lv : List (Nat × Value)} {st : List Value} {M : cy_Hp}
theorem wm_callV (C : cy_C G F own cc nL d rc rs) {i : cy_I} {n d2 mc ms idx ci b : Nat} {fs : List Value} {T : u_T} {N : Nat} {ty : Nat → FieldType} (mo : cy_MoV i n) (co : cy_Co ci i.1.cls T N ty) (lk : Cond.methodLink own idx i.1 ∈ cy_TW) (As rest : List Value) (hst : st = As.reverse ++ .ref b :: rest) (hb0 : M b = some (.inr (ci, fs))) (hn : As.length = n) (hdd : d2 + 1 ≤ d) (hrest : (rest.map fun v => v.category).sum ≤ 8) (hkc : kc + mc ≤ rc) (hks : ks + ms ≤ rs) (hd : decode cc pc = .ok (.invokevirtual idx, 3))
    (kk : cy_Ct G d2 i (.ref b :: As) M mc ms (fun r M' => WM G F nL (kc + mc) (ks + ms) (pc + 3) lv (r.toList ++ rest) M')) : WM G F nL kc ks pc lv st M := by
  obtain ⟨p, l, e, R, s, m, args, below, meth, c, Q⟩ := F
  obtain ⟨hl0, hx, hb, hml, hown, hts, hK, hlk, hfr, hlo, hrc, hrs⟩ := C
  obtain ⟨y, bs, mL, rt⟩ := i
  obtain ⟨⟨mo1, mo2, mo3, mo4⟩, mo5, mo6⟩ := mo
  subst hl0
  intro H ls locs hl hM hS
  have hcb : CallB R s args own idx y bs mL rt (cy_w (y, bs, mL, rt)) ({ frames := d2, cells := mc, slots := ms, locals := 40 * d2 }) mc ms n := callB_of n hts (cy_goodIn mo1) rfl rfl rfl (hts _ mo2) (hts _ lk) mo3 ⟨by show d2 + 1 ≤ R.frames; omega, by have h4 : mL ≤ 21 := mo4; show 8 + (mL + 11) + 40 * d2 ≤ R.locals; omega⟩
  exact cy_run (va_runV (C := y.cls) (As := As) (rest := rest) ⟨hx, hb, hml, hown, hts⟩ kk ⟨hcb, hts _ mo5, hts _ mo6⟩ ⟨cy_blind, va_recv hK.1 (cy_hm_at hM hb0) co.1 (q0 := 0) rfl, fun U hU hW => ⟨rfl, cy_K_call hK hS hU hW, by rw [hU]; exact hM⟩⟩ rfl hn hl.1 hst (lv_room hrest) hd ⟨Nat.le_trans hkc hrc, Nat.le_trans hks hrs⟩) hl hS
theorem wm_callVN (C : cy_C G F own cc nL d rc rs) {i : cy_I} {host : String} {n d2 mc ms idx ci b : Nat} {fs : List Value} {T : u_T} {N : Nat} {ty : Nat → FieldType} (mo : cy_MoV i n) (co : cy_Co ci i.1.cls T N ty) (lk : Cond.methodLinkNest own idx i.1 host ∈ cy_NW) (As rest : List Value) (hst : st = As.reverse ++ .ref b :: rest) (hb0 : M b = some (.inr (ci, fs))) (hn : As.length = n) (hdd : d2 + 1 ≤ d) (hrest : (rest.map fun v => v.category).sum ≤ 8) (hkc : kc + mc ≤ rc) (hks : ks + ms ≤ rs) (hd : decode cc pc = .ok (.invokevirtual idx, 3))
    (kk : cy_Ct G d2 i (.ref b :: As) M mc ms (fun r M' => WM G F nL (kc + mc) (ks + ms) (pc + 3) lv (r.toList ++ rest) M')) : WM G F nL kc ks pc lv st M := by
  obtain ⟨p, l, e, R, s, m, args, below, meth, c, Q⟩ := F
  obtain ⟨hl0, hx, hb, hml, hown, hts, hK, hlk, hfr, hlo, hrc, hrs⟩ := C
  obtain ⟨y, bs, mL, rt⟩ := i
  obtain ⟨⟨mo1, mo2, mo3, mo4⟩, mo5, mo6⟩ := mo
  subst hl0
  intro H ls locs hl hM hS
  have hcb : va_CN R s args own idx y host bs mL rt (cy_w (y, bs, mL, rt)) ({ frames := d2, cells := mc, slots := ms, locals := 40 * d2 }) mc ms n := va_cnB n hts (cy_goodIn mo1) rfl rfl rfl (hK.2.1 _ lk) (hts _ mo2) mo3 ⟨by show d2 + 1 ≤ R.frames; omega, by have h4 : mL ≤ 21 := mo4; show 8 + (mL + 11) + 40 * d2 ≤ R.locals; omega⟩
  exact cy_run (va_runVN (C := y.cls) (As := As) (rest := rest) ⟨hx, hb, hml, hown, hts⟩ kk ⟨hcb, hts _ mo5, hts _ mo6⟩ ⟨cy_blind, va_recv hK.1 (cy_hm_at hM hb0) co.1 (q0 := 0) rfl, fun U hU hW => ⟨rfl, cy_K_call hK hS hU hW, by rw [hU]; exact hM⟩⟩ rfl hn hl.1 hst (lv_room hrest) hd ⟨Nat.le_trans hkc hrc, Nat.le_trans hks hrs⟩) hl hS
theorem wm_callS (C : cy_C G F own cc nL d rc rs) {i : cy_I} {n d2 mc ms idx : Nat} (mo : cy_MoS i n) (lk : Cond.methodLink own idx i.1 ∈ cy_TW) (As rest : List Value) (hst : st = As.reverse ++ rest) (hn : As.length = n) (hdd : d2 + 1 ≤ d) (hrest : (rest.map fun v => v.category).sum ≤ 8) (hkc : kc + mc ≤ rc) (hks : ks + ms ≤ rs) (hd : decode cc pc = .ok (.invokestatic idx, 3))
    (kk : cy_Ct G d2 i As M mc ms (fun r M' => WM G F nL (kc + mc) (ks + ms) (pc + 3) lv (r.toList ++ rest) M')) : WM G F nL kc ks pc lv st M := by
  obtain ⟨p, l, e, R, s, m, args, below, meth, c, Q⟩ := F
  obtain ⟨hl0, hx, hb, hml, hown, hts, hK, hlk, hfr, hlo, hrc, hrs⟩ := C
  obtain ⟨y, bs, mL, rt⟩ := i
  obtain ⟨⟨mo1, mo2, mo3, mo4⟩, mo5⟩ := mo
  subst hl0
  intro H ls locs hl hM hS
  have hcb : CallB R s args own idx y bs mL rt (cy_w (y, bs, mL, rt)) ({ frames := d2, cells := mc, slots := ms, locals := 40 * d2 }) mc ms n := callB_of n hts (cy_goodIn mo1) rfl rfl rfl (hts _ mo2) (hts _ lk) mo3 ⟨by show d2 + 1 ≤ R.frames; omega, by have h4 : mL ≤ 21 := mo4; show 8 + (mL + 11) + 40 * d2 ≤ R.locals; omega⟩
  exact cy_run (va_runS (As := As) (rest := rest) ⟨hx, hb, hml, hown, hts⟩ kk ⟨hcb, hts _ mo5⟩ ⟨cy_blind, fun U hU hW => ⟨rfl, cy_K_call hK hS hU hW, by rw [hU]; exact hM⟩⟩ rfl hn hl.1 hst (lv_room hrest) hd ⟨Nat.le_trans hkc hrc, Nat.le_trans hks hrs⟩) hl hS
theorem wm_callSN (C : cy_C G F own cc nL d rc rs) {i : cy_I} {host : String} {n d2 mc ms idx : Nat} (mo : cy_MoS i n) (lk : Cond.methodLinkNest own idx i.1 host ∈ cy_NW) (As rest : List Value) (hst : st = As.reverse ++ rest) (hn : As.length = n) (hdd : d2 + 1 ≤ d) (hrest : (rest.map fun v => v.category).sum ≤ 8) (hkc : kc + mc ≤ rc) (hks : ks + ms ≤ rs) (hd : decode cc pc = .ok (.invokestatic idx, 3))
    (kk : cy_Ct G d2 i As M mc ms (fun r M' => WM G F nL (kc + mc) (ks + ms) (pc + 3) lv (r.toList ++ rest) M')) : WM G F nL kc ks pc lv st M := by
  obtain ⟨p, l, e, R, s, m, args, below, meth, c, Q⟩ := F
  obtain ⟨hl0, hx, hb, hml, hown, hts, hK, hlk, hfr, hlo, hrc, hrs⟩ := C
  obtain ⟨y, bs, mL, rt⟩ := i
  obtain ⟨⟨mo1, mo2, mo3, mo4⟩, mo5⟩ := mo
  subst hl0
  intro H ls locs hl hM hS
  have hcb : va_CN R s args own idx y host bs mL rt (cy_w (y, bs, mL, rt)) ({ frames := d2, cells := mc, slots := ms, locals := 40 * d2 }) mc ms n := va_cnB n hts (cy_goodIn mo1) rfl rfl rfl (hK.2.1 _ lk) (hts _ mo2) mo3 ⟨by show d2 + 1 ≤ R.frames; omega, by have h4 : mL ≤ 21 := mo4; show 8 + (mL + 11) + 40 * d2 ≤ R.locals; omega⟩
  exact cy_run (va_runSN (As := As) (rest := rest) ⟨hx, hb, hml, hown, hts⟩ kk ⟨hcb, hts _ mo5, trivial⟩ ⟨cy_blind, fun U hU hW => ⟨rfl, cy_K_call hK hS hU hW, by rw [hU]; exact hM⟩⟩ rfl hn hl.1 hst (lv_room hrest) hd ⟨Nat.le_trans hkc hrc, Nat.le_trans hks hrs⟩) hl hS
theorem wm_callI (C : cy_C G F own cc nL d rc rs) {i : cy_I} {n d2 mc ms idx b : Nat} (mo : cy_MoI i n) (hret : i.2.2.2 = none) (lk : Cond.methodLink own idx i.1 ∈ cy_TW) (As rest : List Value) (hst : st = As.reverse ++ .ref b :: rest) (hn : As.length = n) (hdd : d2 + 1 ≤ d) (hrest : (rest.map fun v => v.category).sum ≤ 8) (hkc : kc + mc ≤ rc) (hks : ks + ms ≤ rs) (hd : decode cc pc = .ok (.invokespecial idx, 3))
    (kk : cy_Ct G d2 i (.ref b :: As) M mc ms (fun r M' => WM G F nL (kc + mc) (ks + ms) (pc + 3) lv (r.toList ++ rest) M')) : WM G F nL kc ks pc lv st M := by
  obtain ⟨p, l, e, R, s, m, args, below, meth, c, Q⟩ := F
  obtain ⟨hl0, hx, hb, hml, hown, hts, hK, hlk, hfr, hlo, hrc, hrs⟩ := C
  obtain ⟨y, bs, mL, rt⟩ := i
  obtain ⟨⟨mo1, mo2, mo3, mo4⟩, mo5, mo6⟩ := mo
  subst hl0
  have hret : rt = none := hret
  subst hret
  intro H ls locs hl hM hS
  have hcb : CallB R s args own idx y bs mL none (cy_w (y, bs, mL, none)) ({ frames := d2, cells := mc, slots := ms, locals := 40 * d2 }) mc ms n := callB_of n hts (cy_goodIn mo1) rfl rfl rfl (hts _ mo2) (hts _ lk) mo3 ⟨by show d2 + 1 ≤ R.frames; omega, by have h4 : mL ≤ 21 := mo4; show 8 + (mL + 11) + 40 * d2 ≤ R.locals; omega⟩
  exact cy_run (va_runI (As := As) (rest := rest) ⟨hx, hb, hml, hown, hts⟩ kk ⟨hcb, mo6, hts _ mo5⟩ ⟨cy_blind, fun U hU hW => ⟨rfl, cy_K_call hK hS hU hW, by rw [hU]; exact hM⟩⟩ rfl hn hl.1 hst (lv_room hrest) hd ⟨Nat.le_trans hkc hrc, Nat.le_trans hks hrs⟩) hl hS
theorem wm_callIN (C : cy_C G F own cc nL d rc rs) {i : cy_I} {host : String} {n d2 mc ms idx b : Nat} (mo : cy_MoI i n) (hret : i.2.2.2 = none) (lk : Cond.methodLinkNest own idx i.1 host ∈ cy_NW) (As rest : List Value) (hst : st = As.reverse ++ .ref b :: rest) (hn : As.length = n) (hdd : d2 + 1 ≤ d) (hrest : (rest.map fun v => v.category).sum ≤ 8) (hkc : kc + mc ≤ rc) (hks : ks + ms ≤ rs) (hd : decode cc pc = .ok (.invokespecial idx, 3))
    (kk : cy_Ct G d2 i (.ref b :: As) M mc ms (fun r M' => WM G F nL (kc + mc) (ks + ms) (pc + 3) lv (r.toList ++ rest) M')) : WM G F nL kc ks pc lv st M := by
  obtain ⟨p, l, e, R, s, m, args, below, meth, c, Q⟩ := F
  obtain ⟨hl0, hx, hb, hml, hown, hts, hK, hlk, hfr, hlo, hrc, hrs⟩ := C
  obtain ⟨y, bs, mL, rt⟩ := i
  obtain ⟨⟨mo1, mo2, mo3, mo4⟩, mo5, mo6⟩ := mo
  subst hl0
  have hret : rt = none := hret
  subst hret
  intro H ls locs hl hM hS
  have hcb : va_CN R s args own idx y host bs mL none (cy_w (y, bs, mL, none)) ({ frames := d2, cells := mc, slots := ms, locals := 40 * d2 }) mc ms n := va_cnB n hts (cy_goodIn mo1) rfl rfl rfl (hK.2.1 _ lk) (hts _ mo2) mo3 ⟨by show d2 + 1 ≤ R.frames; omega, by have h4 : mL ≤ 21 := mo4; show 8 + (mL + 11) + 40 * d2 ≤ R.locals; omega⟩
  exact cy_run (va_runIN (As := As) (rest := rest) ⟨hx, hb, hml, hown, hts⟩ kk ⟨hcb, mo6, hts _ mo5⟩ ⟨cy_blind, fun U hU hW => ⟨rfl, cy_K_call hK hS hU hW, by rw [hU]; exact hM⟩⟩ rfl hn hl.1 hst (lv_room hrest) hd ⟨Nat.le_trans hkc hrc, Nat.le_trans hks hrs⟩) hl hS
end CYC
end
section
section CYL
variable {G : cy_G} {F : cy_F} {own : String} {cc : ByteArray} {nL d rc rs kc ks pc : Nat} {lv : List (Nat × Value)} {st : List Value} {M : cy_Hp}
theorem wm_iconst (C : cy_C G F own cc nL d rc rs) {n : Int} {v : Int32} (hdg : decode cc pc = .ok (.iconst n, 1)) (hv : Int32.ofInt n = v) (k : WM G F nL kc ks (pc + 1) lv (.int v :: st) M) : WM G F nL kc ks pc lv (st) M := by
  obtain ⟨p, l, e, R, s, m, args, below, meth, c, Q⟩ := F
  obtain ⟨hl0, hx, hb, -⟩ := C
  exact fun H ls locs hl9 hM hS => lv_iconst hx hb hdg hv (k H ls locs hl9 hM hS)
theorem wm_bipush (C : cy_C G F own cc nL d rc rs) {n : Int} {v : Int32} (hdg : decode cc pc = .ok (.bipush n, 2)) (hv : (Int8.ofInt n).toInt32 = v) (k : WM G F nL kc ks (pc + 2) lv (.int v :: st) M) : WM G F nL kc ks pc lv (st) M := by
  obtain ⟨p, l, e, R, s, m, args, below, meth, c, Q⟩ := F
  obtain ⟨hl0, hx, hb, -⟩ := C
  exact fun H ls locs hl9 hM hS => lv_bipush hx hb hdg hv (k H ls locs hl9 hM hS)
theorem wm_sipush (C : cy_C G F own cc nL d rc rs) {n : Int} {v : Int32} (hdg : decode cc pc = .ok (.sipush n, 3)) (hv : (Int16.ofInt n).toInt32 = v) (k : WM G F nL kc ks (pc + 3) lv (.int v :: st) M) : WM G F nL kc ks pc lv (st) M := by
  obtain ⟨p, l, e, R, s, m, args, below, meth, c, Q⟩ := F
  obtain ⟨hl0, hx, hb, -⟩ := C
  exact fun H ls locs hl9 hM hS => lv_sipush hx hb hdg hv (k H ls locs hl9 hM hS)
theorem wm_iload_n (C : cy_C G F own cc nL d rc rs) {k : Fin 4} {i : Nat} {x : Int32} (hdg : decode cc pc = .ok (.iload_n k, 1)) (hi : (k : Nat) = i) {j : Nat} (hl : lv[j]? = some (i, (.int x))) (k : WM G F nL kc ks (pc + 1) lv (.int x :: st) M) : WM G F nL kc ks pc lv (st) M := by
  obtain ⟨p, l, e, R, s, m, args, below, meth, c, Q⟩ := F
  obtain ⟨hl0, hx, hb, -⟩ := C
  exact fun H ls locs hl9 hM hS => lv_iload_n hx hb hdg hi (lv_at hl9 _ hl) (k H ls locs hl9 hM hS)
theorem wm_iload (C : cy_C G F own cc nL d rc rs) {i : Nat} {x : Int32} (hdg : decode cc pc = .ok (.iload i, 2)) {j : Nat} (hl : lv[j]? = some (i, (.int x))) (k : WM G F nL kc ks (pc + 2) lv (.int x :: st) M) : WM G F nL kc ks pc lv (st) M := by
  obtain ⟨p, l, e, R, s, m, args, below, meth, c, Q⟩ := F
  obtain ⟨hl0, hx, hb, -⟩ := C
  exact fun H ls locs hl9 hM hS => lv_iload hx hb hdg (lv_at hl9 _ hl) (k H ls locs hl9 hM hS)
theorem wm_aload_n (C : cy_C G F own cc nL d rc rs) {k : Fin 4} {i : Nat} {x : Nat} (hdg : decode cc pc = .ok (.aload_n k, 1)) (hi : (k : Nat) = i) {j : Nat} (hl : lv[j]? = some (i, (.ref x))) (k : WM G F nL kc ks (pc + 1) lv (.ref x :: st) M) : WM G F nL kc ks pc lv (st) M := by
  obtain ⟨p, l, e, R, s, m, args, below, meth, c, Q⟩ := F
  obtain ⟨hl0, hx, hb, -⟩ := C
  exact fun H ls locs hl9 hM hS => lv_aload_n hx hb hdg hi (lv_at hl9 _ hl) (k H ls locs hl9 hM hS)
theorem wm_aload (C : cy_C G F own cc nL d rc rs) {i : Nat} {x : Nat} (hdg : decode cc pc = .ok (.aload i, 2)) {j : Nat} (hl : lv[j]? = some (i, (.ref x))) (k : WM G F nL kc ks (pc + 2) lv (.ref x :: st) M) : WM G F nL kc ks pc lv (st) M := by
  obtain ⟨p, l, e, R, s, m, args, below, meth, c, Q⟩ := F
  obtain ⟨hl0, hx, hb, -⟩ := C
  exact fun H ls locs hl9 hM hS => lv_aload hx hb hdg (lv_at hl9 _ hl) (k H ls locs hl9 hM hS)
theorem wm_aload_nN (C : cy_C G F own cc nL d rc rs) {k : Fin 4} {i : Nat} (hdg : decode cc pc = .ok (.aload_n k, 1)) (hi : (k : Nat) = i) {j : Nat} (hl : lv[j]? = some (i, (.null))) (k : WM G F nL kc ks (pc + 1) lv (.null :: st) M) : WM G F nL kc ks pc lv (st) M := by
  obtain ⟨p, l, e, R, s, m, args, below, meth, c, Q⟩ := F
  obtain ⟨hl0, hx, hb, -⟩ := C
  exact fun H ls locs hl9 hM hS => lv_aload_nN hx hb hdg hi (lv_at hl9 _ hl) (k H ls locs hl9 hM hS)
theorem wm_aloadN (C : cy_C G F own cc nL d rc rs) {i : Nat} (hdg : decode cc pc = .ok (.aload i, 2)) {j : Nat} (hl : lv[j]? = some (i, (.null))) (k : WM G F nL kc ks (pc + 2) lv (.null :: st) M) : WM G F nL kc ks pc lv (st) M := by
  obtain ⟨p, l, e, R, s, m, args, below, meth, c, Q⟩ := F
  obtain ⟨hl0, hx, hb, -⟩ := C
  exact fun H ls locs hl9 hM hS => lv_aloadN hx hb hdg (lv_at hl9 _ hl) (k H ls locs hl9 hM hS)
theorem wm_istore_n (C : cy_C G F own cc nL d rc rs) {k : Fin 4} {i : Nat} {x : Int32} {lv' : List (Nat × Value)} (hdg : decode cc pc = .ok (.istore_n k, 1)) (hi : (k : Nat) = i) (hn : i < nL) (hl : (i, Value.int x) :: lv.filter (fun q => !(q.1 == i) && !(q.1 + 1 == i && q.2.category == 2)) = lv') (kk : WM G F nL kc ks (pc + 1) lv' st M) : WM G F nL kc ks pc lv (.int x :: st) M := by
  obtain ⟨p, l, e, R, s, m, args, below, meth, c, Q⟩ := F
  obtain ⟨hl0, hx, hb, -⟩ := C
  exact fun H ls locs hl9 hM hS => lv_istore_n hx hb hdg hi hl9 hn hl (fun ls9 hl9 => kk H ls9 locs hl9 hM hS)
theorem wm_istore (C : cy_C G F own cc nL d rc rs) {i : Nat} {x : Int32} {lv' : List (Nat × Value)} (hdg : decode cc pc = .ok (.istore i, 2)) (hn : i < nL) (hl : (i, Value.int x) :: lv.filter (fun q => !(q.1 == i) && !(q.1 + 1 == i && q.2.category == 2)) = lv') (kk : WM G F nL kc ks (pc + 2) lv' st M) : WM G F nL kc ks pc lv (.int x :: st) M := by
  obtain ⟨p, l, e, R, s, m, args, below, meth, c, Q⟩ := F
  obtain ⟨hl0, hx, hb, -⟩ := C
  exact fun H ls locs hl9 hM hS => lv_istore hx hb hdg hl9 hn hl (fun ls9 hl9 => kk H ls9 locs hl9 hM hS)
theorem wm_astore_n (C : cy_C G F own cc nL d rc rs) {k : Fin 4} {i : Nat} {x : Nat} {lv' : List (Nat × Value)} (hdg : decode cc pc = .ok (.astore_n k, 1)) (hi : (k : Nat) = i) (hn : i < nL) (hl : (i, Value.ref x) :: lv.filter (fun q => !(q.1 == i) && !(q.1 + 1 == i && q.2.category == 2)) = lv') (kk : WM G F nL kc ks (pc + 1) lv' st M) : WM G F nL kc ks pc lv (.ref x :: st) M := by
  obtain ⟨p, l, e, R, s, m, args, below, meth, c, Q⟩ := F
  obtain ⟨hl0, hx, hb, -⟩ := C
  exact fun H ls locs hl9 hM hS => lv_astore_n hx hb hdg hi hl9 hn hl (fun ls9 hl9 => kk H ls9 locs hl9 hM hS)
theorem wm_astore (C : cy_C G F own cc nL d rc rs) {i : Nat} {x : Nat} {lv' : List (Nat × Value)} (hdg : decode cc pc = .ok (.astore i, 2)) (hn : i < nL) (hl : (i, Value.ref x) :: lv.filter (fun q => !(q.1 == i) && !(q.1 + 1 == i && q.2.category == 2)) = lv') (kk : WM G F nL kc ks (pc + 2) lv' st M) : WM G F nL kc ks pc lv (.ref x :: st) M := by
  obtain ⟨p, l, e, R, s, m, args, below, meth, c, Q⟩ := F
  obtain ⟨hl0, hx, hb, -⟩ := C
  exact fun H ls locs hl9 hM hS => lv_astore hx hb hdg hl9 hn hl (fun ls9 hl9 => kk H ls9 locs hl9 hM hS)
theorem wm_astore_nN (C : cy_C G F own cc nL d rc rs) {k : Fin 4} {i : Nat} {lv' : List (Nat × Value)} (hdg : decode cc pc = .ok (.astore_n k, 1)) (hi : (k : Nat) = i) (hn : i < nL) (hl : (i, Value.null) :: lv.filter (fun q => !(q.1 == i) && !(q.1 + 1 == i && q.2.category == 2)) = lv') (kk : WM G F nL kc ks (pc + 1) lv' st M) : WM G F nL kc ks pc lv (.null :: st) M := by
  obtain ⟨p, l, e, R, s, m, args, below, meth, c, Q⟩ := F
  obtain ⟨hl0, hx, hb, -⟩ := C
  exact fun H ls locs hl9 hM hS => lv_astore_nN hx hb hdg hi hl9 hn hl (fun ls9 hl9 => kk H ls9 locs hl9 hM hS)
theorem wm_astoreN (C : cy_C G F own cc nL d rc rs) {i : Nat} {lv' : List (Nat × Value)} (hdg : decode cc pc = .ok (.astore i, 2)) (hn : i < nL) (hl : (i, Value.null) :: lv.filter (fun q => !(q.1 == i) && !(q.1 + 1 == i && q.2.category == 2)) = lv') (kk : WM G F nL kc ks (pc + 2) lv' st M) : WM G F nL kc ks pc lv (.null :: st) M := by
  obtain ⟨p, l, e, R, s, m, args, below, meth, c, Q⟩ := F
  obtain ⟨hl0, hx, hb, -⟩ := C
  exact fun H ls locs hl9 hM hS => lv_astoreN hx hb hdg hl9 hn hl (fun ls9 hl9 => kk H ls9 locs hl9 hM hS)
theorem wm_iinc (C : cy_C G F own cc nL d rc rs) {i k : Nat} {n : Int} {x v : Int32} {lv' : List (Nat × Value)} (hdg : decode cc pc = .ok (.iinc i n, 3)) (hk : lv[k]? = some (i, .int x)) (hv : x + Int32.ofInt n = v) (hn : i < nL) (hl : (i, Value.int v) :: lv.filter (fun q => !(q.1 == i) && !(q.1 + 1 == i && q.2.category == 2)) = lv') (kk : WM G F nL kc ks (pc + 3) lv' st M) : WM G F nL kc ks pc lv st M := by
  obtain ⟨p, l, e, R, s, m, args, below, meth, c, Q⟩ := F
  obtain ⟨hl0, hx, hb, -⟩ := C
  exact fun H ls locs hl9 hM hS => lv_iinc hx hb hdg hl9 hk hv hn hl (fun ls9 hl9 => kk H ls9 locs hl9 hM hS)
theorem wm_iadd (C : cy_C G F own cc nL d rc rs) {x y : Int32} (hdg : decode cc pc = .ok (.iadd, 1)) (k : WM G F nL kc ks (pc + 1) lv (.int (x + y) :: st) M) : WM G F nL kc ks pc lv (.int y :: .int x :: st) M := by
  obtain ⟨p, l, e, R, s, m, args, below, meth, c, Q⟩ := F
  obtain ⟨hl0, hx, hb, -⟩ := C
  exact fun H ls locs hl9 hM hS => lv_iadd hx hb hdg (k H ls locs hl9 hM hS)
theorem wm_isub (C : cy_C G F own cc nL d rc rs) {x y : Int32} (hdg : decode cc pc = .ok (.isub, 1)) (k : WM G F nL kc ks (pc + 1) lv (.int (x - y) :: st) M) : WM G F nL kc ks pc lv (.int y :: .int x :: st) M := by
  obtain ⟨p, l, e, R, s, m, args, below, meth, c, Q⟩ := F
  obtain ⟨hl0, hx, hb, -⟩ := C
  exact fun H ls locs hl9 hM hS => lv_isub hx hb hdg (k H ls locs hl9 hM hS)
theorem wm_imul (C : cy_C G F own cc nL d rc rs) {x y : Int32} (hdg : decode cc pc = .ok (.imul, 1)) (k : WM G F nL kc ks (pc + 1) lv (.int (x * y) :: st) M) : WM G F nL kc ks pc lv (.int y :: .int x :: st) M := by
  obtain ⟨p, l, e, R, s, m, args, below, meth, c, Q⟩ := F
  obtain ⟨hl0, hx, hb, -⟩ := C
  exact fun H ls locs hl9 hM hS => lv_imul hx hb hdg (k H ls locs hl9 hM hS)
theorem wm_iand (C : cy_C G F own cc nL d rc rs) {x y : Int32} (hdg : decode cc pc = .ok (.iand, 1)) (k : WM G F nL kc ks (pc + 1) lv (.int (x &&& y) :: st) M) : WM G F nL kc ks pc lv (.int y :: .int x :: st) M := by
  obtain ⟨p, l, e, R, s, m, args, below, meth, c, Q⟩ := F
  obtain ⟨hl0, hx, hb, -⟩ := C
  exact fun H ls locs hl9 hM hS => lv_iand hx hb hdg (k H ls locs hl9 hM hS)
theorem wm_ior (C : cy_C G F own cc nL d rc rs) {x y : Int32} (hdg : decode cc pc = .ok (.ior, 1)) (k : WM G F nL kc ks (pc + 1) lv (.int (x ||| y) :: st) M) : WM G F nL kc ks pc lv (.int y :: .int x :: st) M := by
  obtain ⟨p, l, e, R, s, m, args, below, meth, c, Q⟩ := F
  obtain ⟨hl0, hx, hb, -⟩ := C
  exact fun H ls locs hl9 hM hS => lv_ior hx hb hdg (k H ls locs hl9 hM hS)
theorem wm_ixor (C : cy_C G F own cc nL d rc rs) {x y : Int32} (hdg : decode cc pc = .ok (.ixor, 1)) (k : WM G F nL kc ks (pc + 1) lv (.int (x ^^^ y) :: st) M) : WM G F nL kc ks pc lv (.int y :: .int x :: st) M := by
  obtain ⟨p, l, e, R, s, m, args, below, meth, c, Q⟩ := F
  obtain ⟨hl0, hx, hb, -⟩ := C
  exact fun H ls locs hl9 hM hS => lv_ixor hx hb hdg (k H ls locs hl9 hM hS)
theorem wm_idiv (C : cy_C G F own cc nL d rc rs) {x y : Int32} (hdg : decode cc pc = .ok (.idiv, 1)) (hne : ¬ y = 0) (k : WM G F nL kc ks (pc + 1) lv (.int (x / y) :: st) M) : WM G F nL kc ks pc lv (.int y :: .int x :: st) M := by
  obtain ⟨p, l, e, R, s, m, args, below, meth, c, Q⟩ := F
  obtain ⟨hl0, hx, hb, -⟩ := C
  exact fun H ls locs hl9 hM hS => lv_idiv hx hb hdg hne (k H ls locs hl9 hM hS)
theorem wm_irem (C : cy_C G F own cc nL d rc rs) {x y : Int32} (hdg : decode cc pc = .ok (.irem, 1)) (hne : ¬ y = 0) (k : WM G F nL kc ks (pc + 1) lv (.int (x - x / y * y) :: st) M) : WM G F nL kc ks pc lv (.int y :: .int x :: st) M := by
  obtain ⟨p, l, e, R, s, m, args, below, meth, c, Q⟩ := F
  obtain ⟨hl0, hx, hb, -⟩ := C
  exact fun H ls locs hl9 hM hS => lv_irem hx hb hdg hne (k H ls locs hl9 hM hS)
theorem wm_ineg (C : cy_C G F own cc nL d rc rs) {x : Int32} (hdg : decode cc pc = .ok (.ineg, 1)) (k : WM G F nL kc ks (pc + 1) lv (.int (-x) :: st) M) : WM G F nL kc ks pc lv (.int x :: st) M := by
  obtain ⟨p, l, e, R, s, m, args, below, meth, c, Q⟩ := F
  obtain ⟨hl0, hx, hb, -⟩ := C
  exact fun H ls locs hl9 hM hS => lv_ineg hx hb hdg (k H ls locs hl9 hM hS)
theorem wm_ishl (C : cy_C G F own cc nL d rc rs) {x y : Int32} (hdg : decode cc pc = .ok (.ishl, 1)) (k : WM G F nL kc ks (pc + 1) lv (.int (x <<< (y &&& 31)) :: st) M) : WM G F nL kc ks pc lv (.int y :: .int x :: st) M := by
  obtain ⟨p, l, e, R, s, m, args, below, meth, c, Q⟩ := F
  obtain ⟨hl0, hx, hb, -⟩ := C
  exact fun H ls locs hl9 hM hS => lv_ishl hx hb hdg (k H ls locs hl9 hM hS)
theorem wm_ishr (C : cy_C G F own cc nL d rc rs) {x y : Int32} (hdg : decode cc pc = .ok (.ishr, 1)) (k : WM G F nL kc ks (pc + 1) lv (.int (x >>> (y &&& 31)) :: st) M) : WM G F nL kc ks pc lv (.int y :: .int x :: st) M := by
  obtain ⟨p, l, e, R, s, m, args, below, meth, c, Q⟩ := F
  obtain ⟨hl0, hx, hb, -⟩ := C
  exact fun H ls locs hl9 hM hS => lv_ishr hx hb hdg (k H ls locs hl9 hM hS)
theorem wm_iushr (C : cy_C G F own cc nL d rc rs) {x y v : Int32} (hdg : decode cc pc = .ok (.iushr, 1)) (hv : (x.toUInt32 >>> (y.toUInt32 &&& Int32.toUInt32 31)).toInt32 = v) (k : WM G F nL kc ks (pc + 1) lv (.int v :: st) M) : WM G F nL kc ks pc lv (.int y :: .int x :: st) M := by
  obtain ⟨p, l, e, R, s, m, args, below, meth, c, Q⟩ := F
  obtain ⟨hl0, hx, hb, -⟩ := C
  exact fun H ls locs hl9 hM hS => lv_iushr hx hb hdg hv (k H ls locs hl9 hM hS)
theorem wm_i2b (C : cy_C G F own cc nL d rc rs) {x : Int32} {v : Int32} (hdg : decode cc pc = .ok (.i2b, 1)) (hv : x.toInt8.toInt32 = v) (k : WM G F nL kc ks (pc + 1) lv (.int v :: st) M) : WM G F nL kc ks pc lv (.int x :: st) M := by
  obtain ⟨p, l, e, R, s, m, args, below, meth, c, Q⟩ := F
  obtain ⟨hl0, hx, hb, -⟩ := C
  exact fun H ls locs hl9 hM hS => lv_i2b hx hb hdg hv (k H ls locs hl9 hM hS)
theorem wm_i2s (C : cy_C G F own cc nL d rc rs) {x : Int32} {v : Int32} (hdg : decode cc pc = .ok (.i2s, 1)) (hv : x.toInt16.toInt32 = v) (k : WM G F nL kc ks (pc + 1) lv (.int v :: st) M) : WM G F nL kc ks pc lv (.int x :: st) M := by
  obtain ⟨p, l, e, R, s, m, args, below, meth, c, Q⟩ := F
  obtain ⟨hl0, hx, hb, -⟩ := C
  exact fun H ls locs hl9 hM hS => lv_i2s hx hb hdg hv (k H ls locs hl9 hM hS)
theorem wm_i2c (C : cy_C G F own cc nL d rc rs) {x : Int32} {v : Int32} (hdg : decode cc pc = .ok (.i2c, 1)) (hv : (x.toUInt32 % 65536).toInt32 = v) (k : WM G F nL kc ks (pc + 1) lv (.int v :: st) M) : WM G F nL kc ks pc lv (.int x :: st) M := by
  obtain ⟨p, l, e, R, s, m, args, below, meth, c, Q⟩ := F
  obtain ⟨hl0, hx, hb, -⟩ := C
  exact fun H ls locs hl9 hM hS => lv_i2c hx hb hdg hv (k H ls locs hl9 hM hS)
theorem wm_dup (C : cy_C G F own cc nL d rc rs) {va : Value} (hdg : decode cc pc = .ok (.dup, 1)) (hva : va.category = 1) (k : WM G F nL kc ks (pc + 1) lv (va :: va :: st) M) : WM G F nL kc ks pc lv (va :: st) M := by
  obtain ⟨p, l, e, R, s, m, args, below, meth, c, Q⟩ := F
  obtain ⟨hl0, hx, hb, -⟩ := C
  exact fun H ls locs hl9 hM hS => lv_dup hx hb hdg hva (k H ls locs hl9 hM hS)
theorem wm_pop (C : cy_C G F own cc nL d rc rs) {va : Value} (hdg : decode cc pc = .ok (.pop, 1)) (hva : va.category = 1) (k : WM G F nL kc ks (pc + 1) lv (st) M) : WM G F nL kc ks pc lv (va :: st) M := by
  obtain ⟨p, l, e, R, s, m, args, below, meth, c, Q⟩ := F
  obtain ⟨hl0, hx, hb, -⟩ := C
  exact fun H ls locs hl9 hM hS => lv_pop hx hb hdg hva (k H ls locs hl9 hM hS)
theorem wm_dup_x1 (C : cy_C G F own cc nL d rc rs) {va vb : Value} (hdg : decode cc pc = .ok (.dup_x1, 1)) (hva : va.category = 1) (hvb : vb.category = 1) (k : WM G F nL kc ks (pc + 1) lv (va :: vb :: va :: st) M) : WM G F nL kc ks pc lv (va :: vb :: st) M := by
  obtain ⟨p, l, e, R, s, m, args, below, meth, c, Q⟩ := F
  obtain ⟨hl0, hx, hb, -⟩ := C
  exact fun H ls locs hl9 hM hS => lv_dup_x1 hx hb hdg hva hvb (k H ls locs hl9 hM hS)
theorem wm_dup_x2 (C : cy_C G F own cc nL d rc rs) {va vb vd : Value} (hdg : decode cc pc = .ok (.dup_x2, 1)) (hva : va.category = 1) (hvb : vb.category = 1) (hvd : vd.category = 1) (k : WM G F nL kc ks (pc + 1) lv (va :: vb :: vd :: va :: st) M) : WM G F nL kc ks pc lv (va :: vb :: vd :: st) M := by
  obtain ⟨p, l, e, R, s, m, args, below, meth, c, Q⟩ := F
  obtain ⟨hl0, hx, hb, -⟩ := C
  exact fun H ls locs hl9 hM hS => lv_dup_x2 hx hb hdg hva hvb hvd (k H ls locs hl9 hM hS)
theorem wm_dup2_11 (C : cy_C G F own cc nL d rc rs) {va vb : Value} (hdg : decode cc pc = .ok (.dup2, 1)) (hva : va.category = 1) (hvb : vb.category = 1) (k : WM G F nL kc ks (pc + 1) lv (va :: vb :: va :: vb :: st) M) : WM G F nL kc ks pc lv (va :: vb :: st) M := by
  obtain ⟨p, l, e, R, s, m, args, below, meth, c, Q⟩ := F
  obtain ⟨hl0, hx, hb, -⟩ := C
  exact fun H ls locs hl9 hM hS => lv_dup2_11 hx hb hdg hva hvb (k H ls locs hl9 hM hS)
theorem wm_if_eq (C : cy_C G F own cc nL d rc rs) {x : Int32} {off : Int} {tgt : Nat} (hdg : decode cc pc = .ok (.ifCond .eq off, 3)) (ht : (pc : Int) + off = (tgt : Int)) (kt : x = 0 → WM G F nL kc ks tgt lv st M) (kf : ¬ x = 0 → WM G F nL kc ks (pc + 3) lv st M) : WM G F nL kc ks pc lv (.int x :: st) M := by
  obtain ⟨p, l, e, R, s, m, args, below, meth, c, Q⟩ := F
  obtain ⟨hl0, hx, hb, -⟩ := C
  exact fun H ls locs hl9 hM hS => lv_if_eq hx hb hdg ht (fun h9 => kt h9 H ls locs hl9 hM hS) (fun h9 => kf h9 H ls locs hl9 hM hS)
theorem wm_icmp_eq (C : cy_C G F own cc nL d rc rs) {x y : Int32} {off : Int} {tgt : Nat} (hdg : decode cc pc = .ok (.if_icmp .eq off, 3)) (ht : (pc : Int) + off = (tgt : Int)) (kt : x = y → WM G F nL kc ks tgt lv st M) (kf : ¬ x = y → WM G F nL kc ks (pc + 3) lv st M) : WM G F nL kc ks pc lv (.int y :: .int x :: st) M := by
  obtain ⟨p, l, e, R, s, m, args, below, meth, c, Q⟩ := F
  obtain ⟨hl0, hx, hb, -⟩ := C
  exact fun H ls locs hl9 hM hS => lv_icmp_eq hx hb hdg ht (fun h9 => kt h9 H ls locs hl9 hM hS) (fun h9 => kf h9 H ls locs hl9 hM hS)
theorem wm_if_ne (C : cy_C G F own cc nL d rc rs) {x : Int32} {off : Int} {tgt : Nat} (hdg : decode cc pc = .ok (.ifCond .ne off, 3)) (ht : (pc : Int) + off = (tgt : Int)) (kt : ¬ x = 0 → WM G F nL kc ks tgt lv st M) (kf : x = 0 → WM G F nL kc ks (pc + 3) lv st M) : WM G F nL kc ks pc lv (.int x :: st) M := by
  obtain ⟨p, l, e, R, s, m, args, below, meth, c, Q⟩ := F
  obtain ⟨hl0, hx, hb, -⟩ := C
  exact fun H ls locs hl9 hM hS => lv_if_ne hx hb hdg ht (fun h9 => kt h9 H ls locs hl9 hM hS) (fun h9 => kf h9 H ls locs hl9 hM hS)
theorem wm_icmp_ne (C : cy_C G F own cc nL d rc rs) {x y : Int32} {off : Int} {tgt : Nat} (hdg : decode cc pc = .ok (.if_icmp .ne off, 3)) (ht : (pc : Int) + off = (tgt : Int)) (kt : ¬ x = y → WM G F nL kc ks tgt lv st M) (kf : x = y → WM G F nL kc ks (pc + 3) lv st M) : WM G F nL kc ks pc lv (.int y :: .int x :: st) M := by
  obtain ⟨p, l, e, R, s, m, args, below, meth, c, Q⟩ := F
  obtain ⟨hl0, hx, hb, -⟩ := C
  exact fun H ls locs hl9 hM hS => lv_icmp_ne hx hb hdg ht (fun h9 => kt h9 H ls locs hl9 hM hS) (fun h9 => kf h9 H ls locs hl9 hM hS)
theorem wm_if_lt (C : cy_C G F own cc nL d rc rs) {x : Int32} {off : Int} {tgt : Nat} (hdg : decode cc pc = .ok (.ifCond .lt off, 3)) (ht : (pc : Int) + off = (tgt : Int)) (kt : x < 0 → WM G F nL kc ks tgt lv st M) (kf : ¬ x < 0 → WM G F nL kc ks (pc + 3) lv st M) : WM G F nL kc ks pc lv (.int x :: st) M := by
  obtain ⟨p, l, e, R, s, m, args, below, meth, c, Q⟩ := F
  obtain ⟨hl0, hx, hb, -⟩ := C
  exact fun H ls locs hl9 hM hS => lv_if_lt hx hb hdg ht (fun h9 => kt h9 H ls locs hl9 hM hS) (fun h9 => kf h9 H ls locs hl9 hM hS)
theorem wm_icmp_lt (C : cy_C G F own cc nL d rc rs) {x y : Int32} {off : Int} {tgt : Nat} (hdg : decode cc pc = .ok (.if_icmp .lt off, 3)) (ht : (pc : Int) + off = (tgt : Int)) (kt : x < y → WM G F nL kc ks tgt lv st M) (kf : ¬ x < y → WM G F nL kc ks (pc + 3) lv st M) : WM G F nL kc ks pc lv (.int y :: .int x :: st) M := by
  obtain ⟨p, l, e, R, s, m, args, below, meth, c, Q⟩ := F
  obtain ⟨hl0, hx, hb, -⟩ := C
  exact fun H ls locs hl9 hM hS => lv_icmp_lt hx hb hdg ht (fun h9 => kt h9 H ls locs hl9 hM hS) (fun h9 => kf h9 H ls locs hl9 hM hS)
theorem wm_if_ge (C : cy_C G F own cc nL d rc rs) {x : Int32} {off : Int} {tgt : Nat} (hdg : decode cc pc = .ok (.ifCond .ge off, 3)) (ht : (pc : Int) + off = (tgt : Int)) (kt : 0 ≤ x → WM G F nL kc ks tgt lv st M) (kf : ¬ 0 ≤ x → WM G F nL kc ks (pc + 3) lv st M) : WM G F nL kc ks pc lv (.int x :: st) M := by
  obtain ⟨p, l, e, R, s, m, args, below, meth, c, Q⟩ := F
  obtain ⟨hl0, hx, hb, -⟩ := C
  exact fun H ls locs hl9 hM hS => lv_if_ge hx hb hdg ht (fun h9 => kt h9 H ls locs hl9 hM hS) (fun h9 => kf h9 H ls locs hl9 hM hS)
theorem wm_icmp_ge (C : cy_C G F own cc nL d rc rs) {x y : Int32} {off : Int} {tgt : Nat} (hdg : decode cc pc = .ok (.if_icmp .ge off, 3)) (ht : (pc : Int) + off = (tgt : Int)) (kt : y ≤ x → WM G F nL kc ks tgt lv st M) (kf : ¬ y ≤ x → WM G F nL kc ks (pc + 3) lv st M) : WM G F nL kc ks pc lv (.int y :: .int x :: st) M := by
  obtain ⟨p, l, e, R, s, m, args, below, meth, c, Q⟩ := F
  obtain ⟨hl0, hx, hb, -⟩ := C
  exact fun H ls locs hl9 hM hS => lv_icmp_ge hx hb hdg ht (fun h9 => kt h9 H ls locs hl9 hM hS) (fun h9 => kf h9 H ls locs hl9 hM hS)
theorem wm_if_gt (C : cy_C G F own cc nL d rc rs) {x : Int32} {off : Int} {tgt : Nat} (hdg : decode cc pc = .ok (.ifCond .gt off, 3)) (ht : (pc : Int) + off = (tgt : Int)) (kt : 0 < x → WM G F nL kc ks tgt lv st M) (kf : ¬ 0 < x → WM G F nL kc ks (pc + 3) lv st M) : WM G F nL kc ks pc lv (.int x :: st) M := by
  obtain ⟨p, l, e, R, s, m, args, below, meth, c, Q⟩ := F
  obtain ⟨hl0, hx, hb, -⟩ := C
  exact fun H ls locs hl9 hM hS => lv_if_gt hx hb hdg ht (fun h9 => kt h9 H ls locs hl9 hM hS) (fun h9 => kf h9 H ls locs hl9 hM hS)
theorem wm_icmp_gt (C : cy_C G F own cc nL d rc rs) {x y : Int32} {off : Int} {tgt : Nat} (hdg : decode cc pc = .ok (.if_icmp .gt off, 3)) (ht : (pc : Int) + off = (tgt : Int)) (kt : y < x → WM G F nL kc ks tgt lv st M) (kf : ¬ y < x → WM G F nL kc ks (pc + 3) lv st M) : WM G F nL kc ks pc lv (.int y :: .int x :: st) M := by
  obtain ⟨p, l, e, R, s, m, args, below, meth, c, Q⟩ := F
  obtain ⟨hl0, hx, hb, -⟩ := C
  exact fun H ls locs hl9 hM hS => lv_icmp_gt hx hb hdg ht (fun h9 => kt h9 H ls locs hl9 hM hS) (fun h9 => kf h9 H ls locs hl9 hM hS)
theorem wm_if_le (C : cy_C G F own cc nL d rc rs) {x : Int32} {off : Int} {tgt : Nat} (hdg : decode cc pc = .ok (.ifCond .le off, 3)) (ht : (pc : Int) + off = (tgt : Int)) (kt : x ≤ 0 → WM G F nL kc ks tgt lv st M) (kf : ¬ x ≤ 0 → WM G F nL kc ks (pc + 3) lv st M) : WM G F nL kc ks pc lv (.int x :: st) M := by
  obtain ⟨p, l, e, R, s, m, args, below, meth, c, Q⟩ := F
  obtain ⟨hl0, hx, hb, -⟩ := C
  exact fun H ls locs hl9 hM hS => lv_if_le hx hb hdg ht (fun h9 => kt h9 H ls locs hl9 hM hS) (fun h9 => kf h9 H ls locs hl9 hM hS)
theorem wm_icmp_le (C : cy_C G F own cc nL d rc rs) {x y : Int32} {off : Int} {tgt : Nat} (hdg : decode cc pc = .ok (.if_icmp .le off, 3)) (ht : (pc : Int) + off = (tgt : Int)) (kt : x ≤ y → WM G F nL kc ks tgt lv st M) (kf : ¬ x ≤ y → WM G F nL kc ks (pc + 3) lv st M) : WM G F nL kc ks pc lv (.int y :: .int x :: st) M := by
  obtain ⟨p, l, e, R, s, m, args, below, meth, c, Q⟩ := F
  obtain ⟨hl0, hx, hb, -⟩ := C
  exact fun H ls locs hl9 hM hS => lv_icmp_le hx hb hdg ht (fun h9 => kt h9 H ls locs hl9 hM hS) (fun h9 => kf h9 H ls locs hl9 hM hS)
theorem wm_goto (C : cy_C G F own cc nL d rc rs) {off : Int} {tgt : Nat} (hdg : decode cc pc = .ok (.goto off, 3)) (ht : (pc : Int) + off = (tgt : Int)) (k : WM G F nL kc ks tgt lv st M) : WM G F nL kc ks pc lv st M := by
  obtain ⟨p, l, e, R, s, m, args, below, meth, c, Q⟩ := F
  obtain ⟨hl0, hx, hb, -⟩ := C
  exact fun H ls locs hl9 hM hS => lv_goto hx hb hdg ht (k H ls locs hl9 hM hS)
theorem wm_ifnonnull (C : cy_C G F own cc nL d rc rs) {x : Nat} {off : Int} {tgt : Nat} (hdg : decode cc pc = .ok (.ifnonnull off, 3)) (ht : (pc : Int) + off = (tgt : Int)) (k : WM G F nL kc ks tgt lv st M) : WM G F nL kc ks pc lv (.ref x :: st) M := by
  obtain ⟨p, l, e, R, s, m, args, below, meth, c, Q⟩ := F
  obtain ⟨hl0, hx, hb, -⟩ := C
  exact fun H ls locs hl9 hM hS => lv_ifnonnull hx hb hdg ht (k H ls locs hl9 hM hS)
theorem wm_ifnull (C : cy_C G F own cc nL d rc rs) {x : Nat} {off : Int} (hdg : decode cc pc = .ok (.ifnull off, 3)) (k : WM G F nL kc ks (pc + 3) lv st M) : WM G F nL kc ks pc lv (.ref x :: st) M := by
  obtain ⟨p, l, e, R, s, m, args, below, meth, c, Q⟩ := F
  obtain ⟨hl0, hx, hb, -⟩ := C
  exact fun H ls locs hl9 hM hS => lv_ifnull hx hb hdg (k H ls locs hl9 hM hS)
theorem wm_null (C : cy_C G F own cc nL d rc rs) (hdg : decode cc pc = .ok (.aconst_null, 1)) (k : WM G F nL kc ks (pc + 1) lv (.null :: st) M) : WM G F nL kc ks pc lv st M := by
  obtain ⟨p, l, e, R, s, m, args, below, meth, c, Q⟩ := F
  obtain ⟨hl0, hx, hb, -⟩ := C
  exact fun H ls locs hl9 hM hS => lv_null hx hb hdg (k H ls locs hl9 hM hS)
theorem wm_ifnullN (C : cy_C G F own cc nL d rc rs) {off : Int} {tgt : Nat} (hdg : decode cc pc = .ok (.ifnull off, 3)) (ht : (pc : Int) + off = (tgt : Int)) (k : WM G F nL kc ks tgt lv st M) : WM G F nL kc ks pc lv (.null :: st) M := by
  obtain ⟨p, l, e, R, s, m, args, below, meth, c, Q⟩ := F
  obtain ⟨hl0, hx, hb, -⟩ := C
  exact fun H ls locs hl9 hM hS => lv_ifnullN hx hb hdg ht (k H ls locs hl9 hM hS)
theorem wm_ifnonnullN (C : cy_C G F own cc nL d rc rs) {off : Int} (hdg : decode cc pc = .ok (.ifnonnull off, 3)) (k : WM G F nL kc ks (pc + 3) lv st M) : WM G F nL kc ks pc lv (.null :: st) M := by
  obtain ⟨p, l, e, R, s, m, args, below, meth, c, Q⟩ := F
  obtain ⟨hl0, hx, hb, -⟩ := C
  exact fun H ls locs hl9 hM hS => lv_ifnonnullN hx hb hdg (k H ls locs hl9 hM hS)
theorem wm_lookup (C : cy_C G F own cc nL d rc rs) {dflt : Int} {ps : Array (Int × Int)} {len : Nat} {x : Int32} {off : Int} {tgt : Nat} (hdg : decode cc pc = .ok (.lookupswitch dflt ps, len)) (hp : (ps.toList.zip (ps.toList.drop 1)).all (fun (a, next) => a.1 < next.1) = true) (ho : Op.lookupswitch.offset ps.toList dflt x.toInt = off) (ht : (pc : Int) + off = (tgt : Int)) (k : WM G F nL kc ks tgt lv st M) : WM G F nL kc ks pc lv (.int x :: st) M := by
  obtain ⟨p, l, e, R, s, m, args, below, meth, c, Q⟩ := F
  obtain ⟨hl0, hx, hb, -⟩ := C
  exact fun H ls locs hl9 hM hS => lv_lookup hx hb hdg hp ho ht (k H ls locs hl9 hM hS)
theorem wm_tableOut (C : cy_C G F own cc nL d rc rs) {dflt lo hi : Int} {offs : Array Int} {len : Nat} {x : Int32} {tgt : Nat} (hdg : decode cc pc = .ok (.tableswitch dflt lo hi offs, len)) (h : x.toInt < lo ∨ hi < x.toInt) (ht : (pc : Int) + dflt = (tgt : Int)) (k : WM G F nL kc ks tgt lv st M) : WM G F nL kc ks pc lv (.int x :: st) M := by
  obtain ⟨p, l, e, R, s, m, args, below, meth, c, Q⟩ := F
  obtain ⟨hl0, hx, hb, -⟩ := C
  exact fun H ls locs hl9 hM hS => lv_tableOut hx hb hdg h ht (k H ls locs hl9 hM hS)
theorem wm_tableIn (C : cy_C G F own cc nL d rc rs) {dflt lo hi : Int} {offs : Array Int} {len : Nat} {x : Int32} {off : Int} {tgt : Nat} (hdg : decode cc pc = .ok (.tableswitch dflt lo hi offs, len)) (h1 : ¬ x.toInt < lo) (h2 : ¬ hi < x.toInt) (ho : offs[(x.toInt - lo).toNat]? = some off) (ht : (pc : Int) + off = (tgt : Int)) (k : WM G F nL kc ks tgt lv st M) : WM G F nL kc ks pc lv (.int x :: st) M := by
  obtain ⟨p, l, e, R, s, m, args, below, meth, c, Q⟩ := F
  obtain ⟨hl0, hx, hb, -⟩ := C
  exact fun H ls locs hl9 hM hS => lv_tableIn hx hb hdg h1 h2 ho ht (k H ls locs hl9 hM hS)
theorem wm_acmp_eq (C : cy_C G F own cc nL d rc rs) {rx ry : Option Nat} {off : Int} {tgt : Nat} (hdg : decode cc pc = .ok (.if_acmp .eq off, 3)) (ht : (pc : Int) + off = (tgt : Int)) (kt : rx = ry → WM G F nL kc ks tgt lv st M) (kf : ¬ rx = ry → WM G F nL kc ks (pc + 3) lv st M) : WM G F nL kc ks pc lv (va_rf ry :: va_rf rx :: st) M := by
  obtain ⟨p, l, e, R, s, m, args, below, meth, c, Q⟩ := F
  obtain ⟨hl0, hx, hb, -⟩ := C
  exact fun H ls locs hl9 hM hS => lv_acmp_eq hx hb hdg ht (fun h9 => kt h9 H ls locs hl9 hM hS) (fun h9 => kf h9 H ls locs hl9 hM hS)
theorem wm_acmp_ne (C : cy_C G F own cc nL d rc rs) {rx ry : Option Nat} {off : Int} {tgt : Nat} (hdg : decode cc pc = .ok (.if_acmp .ne off, 3)) (ht : (pc : Int) + off = (tgt : Int)) (kt : ¬ rx = ry → WM G F nL kc ks tgt lv st M) (kf : rx = ry → WM G F nL kc ks (pc + 3) lv st M) : WM G F nL kc ks pc lv (va_rf ry :: va_rf rx :: st) M := by
  obtain ⟨p, l, e, R, s, m, args, below, meth, c, Q⟩ := F
  obtain ⟨hl0, hx, hb, -⟩ := C
  exact fun H ls locs hl9 hM hS => lv_acmp_ne hx hb hdg ht (fun h9 => kt h9 H ls locs hl9 hM hS) (fun h9 => kf h9 H ls locs hl9 hM hS)
end CYL
end
section
theorem co_Row : cy_Co 0 R_Row F_Row 2 t_Row := ⟨rfl, fun w hw => cy_tw (i_Row w hw) (by revert w; decide +kernel), t_Row_ok, n_Row⟩
theorem co_Code : cy_Co 1 R_Code F_Code 5 t_Code := ⟨rfl, fun w hw => cy_tw (i_Code w hw) (by revert w; decide +kernel), t_Code_ok, n_Code⟩
theorem co_Shelf : cy_Co 2 R_Shelf F_Shelf 1 t_Shelf := ⟨rfl, fun w hw => cy_tw (i_Shelf w hw) (by revert w; decide +kernel), t_Shelf_ok, n_Shelf⟩
theorem co_Survey : cy_Co 3 R_Survey F_Survey 6 t_Survey := ⟨rfl, fun w hw => cy_tw (i_Survey w hw) (by revert w; decide +kernel), t_Survey_ok, n_Survey⟩
theorem co_Frame : cy_Co 4 R_Frame F_Frame 7 t_Frame := ⟨rfl, fun w hw => cy_tw (i_Frame w hw) (by revert w; decide +kernel), t_Frame_ok, n_Frame⟩
theorem co_Run : cy_Co 5 R_Run F_Run 10 t_Run := ⟨rfl, fun w hw => cy_tw (i_Run w hw) (by revert w; decide +kernel), t_Run_ok, n_Run⟩
theorem co_Yard : cy_Co 6 R_Yard F_Yard 4 t_Yard := ⟨rfl, fun w hw => cy_tw (i_Yard w hw) (by revert w; decide +kernel), t_Yard_ok, n_Yard⟩
theorem co_Model : cy_Co 7 R_Model F_Model 29 t_Model := ⟨rfl, fun w hw => cy_tw (i_Model w hw) (by revert w; decide +kernel), t_Model_ok, n_Model⟩
theorem ini_Yard : Cond.initialized R_Yard ∈ cy_TW := cy_tw (List.mem_of_getElem? (i := 64) (by decide +kernel)) rfl
theorem ini_Row : Cond.initialized R_Row ∈ cy_TW := cy_tw (List.mem_of_getElem? (i := 65) (by decide +kernel)) rfl
theorem mm_i : Cond.initialized "java/lang/Math" ∈ cy_TW := cy_tw (List.mem_of_getElem? (i := 66) (by decide +kernel)) rfl
theorem ini_Shelf : Cond.initialized R_Shelf ∈ cy_TW := cy_tw (List.mem_of_getElem? (i := 67) (by decide +kernel)) rfl
theorem ini_Code : Cond.initialized R_Code ∈ cy_TW := cy_tw (List.mem_of_getElem? (i := 68) (by decide +kernel)) rfl
theorem ini_Survey : Cond.initialized R_Survey ∈ cy_TW := cy_tw (List.mem_of_getElem? (i := 69) (by decide +kernel)) rfl
theorem ini_Run : Cond.initialized R_Run ∈ cy_TW := cy_tw (List.mem_of_getElem? (i := 70) (by decide +kernel)) rfl
theorem ini_Frame : Cond.initialized R_Frame ∈ cy_TW := cy_tw (List.mem_of_getElem? (i := 71) (by decide +kernel)) rfl
theorem ini_Model : Cond.initialized R_Model ∈ cy_TW := cy_tw (List.mem_of_getElem? (i := 72) (by decide +kernel)) rfl
theorem cl_Law_7 : Cond.classLink R_Law 7 R_Yard ∈ cy_TW := cy_tw (List.mem_of_getElem? (i := 73) (by decide +kernel)) rfl
theorem in_Yard : Cond.instantiable R_Yard 4 ∈ cy_TW := cy_tw (List.mem_of_getElem? (i := 74) (by decide +kernel)) rfl
theorem ml_Law_9 : Cond.methodLink R_Law 9 y_Yard_init ∈ cy_TW := cy_tw (List.mem_of_getElem? (i := 75) (by decide +kernel)) rfl
theorem ml_Yard_1 : Cond.methodLink R_Yard 1 Lib.objectInit ∈ cy_TW := cy_tw (List.mem_of_getElem? (i := 78) (by decide +kernel)) rfl
theorem cl_Yard_7 : Cond.classLink R_Yard 7 R_Row ∈ cy_TW := cy_tw (List.mem_of_getElem? (i := 81) (by decide +kernel)) rfl
theorem in_Row : Cond.instantiable R_Row 2 ∈ cy_TW := cy_tw (List.mem_of_getElem? (i := 82) (by decide +kernel)) rfl
theorem ml_Yard_11 : Cond.methodLinkNest R_Yard 11 y_Row_init "CodeYard" ∈ cy_NW := cy_nw (List.mem_of_getElem? (i := 83) (by decide +kernel)) rfl
theorem ml_Row_1 : Cond.methodLink R_Row 1 Lib.objectInit ∈ cy_TW := cy_tw (List.mem_of_getElem? (i := 86) (by decide +kernel)) rfl
theorem ml_Row_7 : Cond.methodLink R_Row 7 Lib.Math.max.name ∈ cy_TW := cy_tw (List.mem_of_getElem? (i := 87) (by decide +kernel)) rfl
theorem fl_Row_13 : Cond.fieldLink R_Row 13 (F_Row 0).1 (F_Row 0).2.1 (F_Row 0).2.2.1 ∈ cy_TW := cy_tw (List.mem_of_getElem? (i := 90) (by decide +kernel)) rfl
theorem fl_Row_19 : Cond.fieldLink R_Row 19 (F_Row 1).1 (F_Row 1).2.1 (F_Row 1).2.2.1 ∈ cy_TW := cy_tw (List.mem_of_getElem? (i := 91) (by decide +kernel)) rfl
theorem fl_Survey_26 : Cond.fieldLinkNest R_Survey 26 (F_Row 1).1 (F_Row 1).2.1 (F_Row 1).2.2.1 "CodeYard" ∈ cy_NW := cy_nw (List.mem_of_getElem? (i := 92) (by decide +kernel)) rfl
theorem fl_Yard_41 : Cond.fieldLinkNest R_Yard 41 (F_Row 1).1 (F_Row 1).2.1 (F_Row 1).2.2.1 "CodeYard" ∈ cy_NW := cy_nw (List.mem_of_getElem? (i := 93) (by decide +kernel)) rfl
theorem fl_Code_33 : Cond.fieldLinkNest R_Code 33 (F_Row 1).1 (F_Row 1).2.1 (F_Row 1).2.2.1 "CodeYard" ∈ cy_NW := cy_nw (List.mem_of_getElem? (i := 94) (by decide +kernel)) rfl
theorem fl_Run_101 : Cond.fieldLinkNest R_Run 101 (F_Row 1).1 (F_Row 1).2.1 (F_Row 1).2.2.1 "CodeYard" ∈ cy_NW := cy_nw (List.mem_of_getElem? (i := 95) (by decide +kernel)) rfl
theorem aw_int : Cond.arrayClass .int ∈ cy_TW := cy_tw (List.mem_of_getElem? (i := 101) (by decide +kernel)) rfl
theorem cl_Yard_18 : Cond.classLink R_Yard 18 R_Shelf ∈ cy_TW := cy_tw (List.mem_of_getElem? (i := 102) (by decide +kernel)) rfl
theorem in_Shelf : Cond.instantiable R_Shelf 1 ∈ cy_TW := cy_tw (List.mem_of_getElem? (i := 103) (by decide +kernel)) rfl
theorem ml_Yard_20 : Cond.methodLinkNest R_Yard 20 y_Shelf_init "CodeYard" ∈ cy_NW := cy_nw (List.mem_of_getElem? (i := 104) (by decide +kernel)) rfl
theorem ml_Shelf_3 : Cond.methodLink R_Shelf 3 Lib.objectInit ∈ cy_TW := cy_tw (List.mem_of_getElem? (i := 107) (by decide +kernel)) rfl
theorem cl_Shelf_9 : Cond.classLink R_Shelf 9 R_Code ∈ cy_TW := cy_tw (List.mem_of_getElem? (i := 108) (by decide +kernel)) rfl
theorem in_Code : Cond.instantiable R_Code 5 ∈ cy_TW := cy_tw (List.mem_of_getElem? (i := 110) (by decide +kernel)) rfl
theorem ml_Shelf_17 : Cond.methodLinkNest R_Shelf 17 y_Code_init "CodeYard" ∈ cy_NW := cy_nw (List.mem_of_getElem? (i := 111) (by decide +kernel)) rfl
theorem ml_Code_3 : Cond.methodLink R_Code 3 Lib.objectInit ∈ cy_TW := cy_tw (List.mem_of_getElem? (i := 114) (by decide +kernel)) rfl
theorem cl_Code_15 : Cond.classLink R_Code 15 R_Row ∈ cy_TW := cy_tw (List.mem_of_getElem? (i := 115) (by decide +kernel)) rfl
theorem ml_Code_17 : Cond.methodLinkNest R_Code 17 y_Row_init "CodeYard" ∈ cy_NW := cy_nw (List.mem_of_getElem? (i := 116) (by decide +kernel)) rfl
theorem fl_Code_9 : Cond.fieldLink R_Code 9 (F_Code 0).1 (F_Code 0).2.1 (F_Code 0).2.2.1 ∈ cy_TW := cy_tw (List.mem_of_getElem? (i := 117) (by decide +kernel)) rfl
theorem fl_Run_95 : Cond.fieldLinkNest R_Run 95 (F_Code 0).1 (F_Code 0).2.1 (F_Code 0).2.2.1 "CodeYard" ∈ cy_NW := cy_nw (List.mem_of_getElem? (i := 118) (by decide +kernel)) rfl
theorem fl_Code_20 : Cond.fieldLink R_Code 20 (F_Code 1).1 (F_Code 1).2.1 (F_Code 1).2.2.1 ∈ cy_TW := cy_tw (List.mem_of_getElem? (i := 119) (by decide +kernel)) rfl
theorem fl_Frame_35 : Cond.fieldLinkNest R_Frame 35 (F_Code 1).1 (F_Code 1).2.1 (F_Code 1).2.2.1 "CodeYard" ∈ cy_NW := cy_nw (List.mem_of_getElem? (i := 120) (by decide +kernel)) rfl
theorem fl_Yard_119 : Cond.fieldLinkNest R_Yard 119 (F_Code 1).1 (F_Code 1).2.1 (F_Code 1).2.2.1 "CodeYard" ∈ cy_NW := cy_nw (List.mem_of_getElem? (i := 121) (by decide +kernel)) rfl
theorem fl_Code_24 : Cond.fieldLink R_Code 24 (F_Code 2).1 (F_Code 2).2.1 (F_Code 2).2.2.1 ∈ cy_TW := cy_tw (List.mem_of_getElem? (i := 122) (by decide +kernel)) rfl
theorem fl_Yard_118 : Cond.fieldLinkNest R_Yard 118 (F_Code 2).1 (F_Code 2).2.1 (F_Code 2).2.2.1 "CodeYard" ∈ cy_NW := cy_nw (List.mem_of_getElem? (i := 123) (by decide +kernel)) rfl
theorem fl_Code_27 : Cond.fieldLink R_Code 27 (F_Code 3).1 (F_Code 3).2.1 (F_Code 3).2.2.1 ∈ cy_TW := cy_tw (List.mem_of_getElem? (i := 124) (by decide +kernel)) rfl
theorem fl_Shelf_32 : Cond.fieldLinkNest R_Shelf 32 (F_Code 3).1 (F_Code 3).2.1 (F_Code 3).2.2.1 "CodeYard" ∈ cy_NW := cy_nw (List.mem_of_getElem? (i := 125) (by decide +kernel)) rfl
theorem fl_Run_137 : Cond.fieldLinkNest R_Run 137 (F_Code 3).1 (F_Code 3).2.1 (F_Code 3).2.2.1 "CodeYard" ∈ cy_NW := cy_nw (List.mem_of_getElem? (i := 126) (by decide +kernel)) rfl
theorem fl_Yard_112 : Cond.fieldLinkNest R_Yard 112 (F_Code 3).1 (F_Code 3).2.1 (F_Code 3).2.2.1 "CodeYard" ∈ cy_NW := cy_nw (List.mem_of_getElem? (i := 127) (by decide +kernel)) rfl
theorem fl_Code_30 : Cond.fieldLink R_Code 30 (F_Code 4).1 (F_Code 4).2.1 (F_Code 4).2.2.1 ∈ cy_TW := cy_tw (List.mem_of_getElem? (i := 128) (by decide +kernel)) rfl
theorem fl_Shelf_28 : Cond.fieldLinkNest R_Shelf 28 (F_Code 4).1 (F_Code 4).2.1 (F_Code 4).2.2.1 "CodeYard" ∈ cy_NW := cy_nw (List.mem_of_getElem? (i := 129) (by decide +kernel)) rfl
theorem fl_Shelf_11 : Cond.fieldLink R_Shelf 11 (F_Shelf 0).1 (F_Shelf 0).2.1 (F_Shelf 0).2.2.1 ∈ cy_TW := cy_tw (List.mem_of_getElem? (i := 141) (by decide +kernel)) rfl
theorem cl_Yard_25 : Cond.classLink R_Yard 25 R_Survey ∈ cy_TW := cy_tw (List.mem_of_getElem? (i := 145) (by decide +kernel)) rfl
theorem in_Survey : Cond.instantiable R_Survey 6 ∈ cy_TW := cy_tw (List.mem_of_getElem? (i := 146) (by decide +kernel)) rfl
theorem ml_Yard_27 : Cond.methodLinkNest R_Yard 27 y_Survey_init "CodeYard" ∈ cy_NW := cy_nw (List.mem_of_getElem? (i := 147) (by decide +kernel)) rfl
theorem ml_Survey_3 : Cond.methodLink R_Survey 3 Lib.objectInit ∈ cy_TW := cy_tw (List.mem_of_getElem? (i := 150) (by decide +kernel)) rfl
theorem cl_Survey_9 : Cond.classLink R_Survey 9 R_Row ∈ cy_TW := cy_tw (List.mem_of_getElem? (i := 151) (by decide +kernel)) rfl
theorem ml_Survey_11 : Cond.methodLinkNest R_Survey 11 y_Row_init "CodeYard" ∈ cy_NW := cy_nw (List.mem_of_getElem? (i := 152) (by decide +kernel)) rfl
theorem fl_Survey_14 : Cond.fieldLink R_Survey 14 (F_Survey 0).1 (F_Survey 0).2.1 (F_Survey 0).2.2.1 ∈ cy_TW := cy_tw (List.mem_of_getElem? (i := 153) (by decide +kernel)) rfl
theorem fl_Survey_20 : Cond.fieldLink R_Survey 20 (F_Survey 1).1 (F_Survey 1).2.1 (F_Survey 1).2.2.1 ∈ cy_TW := cy_tw (List.mem_of_getElem? (i := 154) (by decide +kernel)) rfl
theorem fl_Yard_74 : Cond.fieldLinkNest R_Yard 74 (F_Survey 1).1 (F_Survey 1).2.1 (F_Survey 1).2.2.1 "CodeYard" ∈ cy_NW := cy_nw (List.mem_of_getElem? (i := 155) (by decide +kernel)) rfl
theorem fl_Survey_23 : Cond.fieldLink R_Survey 23 (F_Survey 2).1 (F_Survey 2).2.1 (F_Survey 2).2.2.1 ∈ cy_TW := cy_tw (List.mem_of_getElem? (i := 156) (by decide +kernel)) rfl
theorem fl_Survey_51 : Cond.fieldLink R_Survey 51 (F_Survey 3).1 (F_Survey 3).2.1 (F_Survey 3).2.2.1 ∈ cy_TW := cy_tw (List.mem_of_getElem? (i := 157) (by decide +kernel)) rfl
theorem fl_Yard_83 : Cond.fieldLinkNest R_Yard 83 (F_Survey 3).1 (F_Survey 3).2.1 (F_Survey 3).2.2.1 "CodeYard" ∈ cy_NW := cy_nw (List.mem_of_getElem? (i := 158) (by decide +kernel)) rfl
theorem fl_Survey_54 : Cond.fieldLink R_Survey 54 (F_Survey 4).1 (F_Survey 4).2.1 (F_Survey 4).2.2.1 ∈ cy_TW := cy_tw (List.mem_of_getElem? (i := 159) (by decide +kernel)) rfl
theorem fl_Survey_57 : Cond.fieldLink R_Survey 57 (F_Survey 5).1 (F_Survey 5).2.1 (F_Survey 5).2.2.1 ∈ cy_TW := cy_tw (List.mem_of_getElem? (i := 160) (by decide +kernel)) rfl
theorem cl_Yard_32 : Cond.classLink R_Yard 32 R_Run ∈ cy_TW := cy_tw (List.mem_of_getElem? (i := 174) (by decide +kernel)) rfl
theorem in_Run : Cond.instantiable R_Run 10 ∈ cy_TW := cy_tw (List.mem_of_getElem? (i := 175) (by decide +kernel)) rfl
theorem ml_Yard_34 : Cond.methodLinkNest R_Yard 34 y_Run_init "CodeYard" ∈ cy_NW := cy_nw (List.mem_of_getElem? (i := 176) (by decide +kernel)) rfl
theorem ml_Run_3 : Cond.methodLink R_Run 3 Lib.objectInit ∈ cy_TW := cy_tw (List.mem_of_getElem? (i := 179) (by decide +kernel)) rfl
theorem cl_Run_15 : Cond.classLink R_Run 15 R_Row ∈ cy_TW := cy_tw (List.mem_of_getElem? (i := 180) (by decide +kernel)) rfl
theorem ml_Run_17 : Cond.methodLinkNest R_Run 17 y_Row_init "CodeYard" ∈ cy_NW := cy_nw (List.mem_of_getElem? (i := 181) (by decide +kernel)) rfl
theorem cl_Run_27 : Cond.classLink R_Run 27 R_Code ∈ cy_TW := cy_tw (List.mem_of_getElem? (i := 182) (by decide +kernel)) rfl
theorem ml_Run_29 : Cond.methodLinkNest R_Run 29 y_Code_init "CodeYard" ∈ cy_NW := cy_nw (List.mem_of_getElem? (i := 183) (by decide +kernel)) rfl
theorem cl_Run_30 : Cond.classLink R_Run 30 R_Frame ∈ cy_TW := cy_tw (List.mem_of_getElem? (i := 184) (by decide +kernel)) rfl
theorem in_Frame : Cond.instantiable R_Frame 7 ∈ cy_TW := cy_tw (List.mem_of_getElem? (i := 185) (by decide +kernel)) rfl
theorem ml_Run_32 : Cond.methodLinkNest R_Run 32 y_Frame_init "CodeYard" ∈ cy_NW := cy_nw (List.mem_of_getElem? (i := 186) (by decide +kernel)) rfl
theorem ml_Frame_3 : Cond.methodLink R_Frame 3 Lib.objectInit ∈ cy_TW := cy_tw (List.mem_of_getElem? (i := 189) (by decide +kernel)) rfl
theorem cl_Frame_19 : Cond.classLink R_Frame 19 R_Row ∈ cy_TW := cy_tw (List.mem_of_getElem? (i := 190) (by decide +kernel)) rfl
theorem ml_Frame_21 : Cond.methodLinkNest R_Frame 21 y_Row_init "CodeYard" ∈ cy_NW := cy_nw (List.mem_of_getElem? (i := 191) (by decide +kernel)) rfl
theorem fl_Frame_9 : Cond.fieldLink R_Frame 9 (F_Frame 0).1 (F_Frame 0).2.1 (F_Frame 0).2.2.1 ∈ cy_TW := cy_tw (List.mem_of_getElem? (i := 192) (by decide +kernel)) rfl
theorem fl_Run_88 : Cond.fieldLinkNest R_Run 88 (F_Frame 0).1 (F_Frame 0).2.1 (F_Frame 0).2.2.1 "CodeYard" ∈ cy_NW := cy_nw (List.mem_of_getElem? (i := 193) (by decide +kernel)) rfl
theorem fl_Frame_15 : Cond.fieldLink R_Frame 15 (F_Frame 1).1 (F_Frame 1).2.1 (F_Frame 1).2.2.1 ∈ cy_TW := cy_tw (List.mem_of_getElem? (i := 194) (by decide +kernel)) rfl
theorem fl_Run_179 : Cond.fieldLinkNest R_Run 179 (F_Frame 1).1 (F_Frame 1).2.1 (F_Frame 1).2.2.1 "CodeYard" ∈ cy_NW := cy_nw (List.mem_of_getElem? (i := 195) (by decide +kernel)) rfl
theorem fl_Run_42 : Cond.fieldLinkNest R_Run 42 (F_Frame 2).1 (F_Frame 2).2.1 (F_Frame 2).2.2.1 "CodeYard" ∈ cy_NW := cy_nw (List.mem_of_getElem? (i := 196) (by decide +kernel)) rfl
theorem fl_Frame_24 : Cond.fieldLink R_Frame 24 (F_Frame 3).1 (F_Frame 3).2.1 (F_Frame 3).2.2.1 ∈ cy_TW := cy_tw (List.mem_of_getElem? (i := 197) (by decide +kernel)) rfl
theorem fl_Run_131 : Cond.fieldLinkNest R_Run 131 (F_Frame 3).1 (F_Frame 3).2.1 (F_Frame 3).2.2.1 "CodeYard" ∈ cy_NW := cy_nw (List.mem_of_getElem? (i := 198) (by decide +kernel)) rfl
theorem fl_Yard_104 : Cond.fieldLinkNest R_Yard 104 (F_Frame 3).1 (F_Frame 3).2.1 (F_Frame 3).2.2.1 "CodeYard" ∈ cy_NW := cy_nw (List.mem_of_getElem? (i := 199) (by decide +kernel)) rfl
theorem fl_Frame_28 : Cond.fieldLink R_Frame 28 (F_Frame 4).1 (F_Frame 4).2.1 (F_Frame 4).2.2.1 ∈ cy_TW := cy_tw (List.mem_of_getElem? (i := 200) (by decide +kernel)) rfl
theorem fl_Run_150 : Cond.fieldLinkNest R_Run 150 (F_Frame 4).1 (F_Frame 4).2.1 (F_Frame 4).2.2.1 "CodeYard" ∈ cy_NW := cy_nw (List.mem_of_getElem? (i := 201) (by decide +kernel)) rfl
theorem fl_Yard_109 : Cond.fieldLinkNest R_Yard 109 (F_Frame 4).1 (F_Frame 4).2.1 (F_Frame 4).2.2.1 "CodeYard" ∈ cy_NW := cy_nw (List.mem_of_getElem? (i := 202) (by decide +kernel)) rfl
theorem fl_Frame_31 : Cond.fieldLink R_Frame 31 (F_Frame 5).1 (F_Frame 5).2.1 (F_Frame 5).2.2.1 ∈ cy_TW := cy_tw (List.mem_of_getElem? (i := 203) (by decide +kernel)) rfl
theorem fl_Run_91 : Cond.fieldLinkNest R_Run 91 (F_Frame 5).1 (F_Frame 5).2.1 (F_Frame 5).2.2.1 "CodeYard" ∈ cy_NW := cy_nw (List.mem_of_getElem? (i := 204) (by decide +kernel)) rfl
theorem fl_Frame_44 : Cond.fieldLink R_Frame 44 (F_Frame 6).1 (F_Frame 6).2.1 (F_Frame 6).2.2.1 ∈ cy_TW := cy_tw (List.mem_of_getElem? (i := 205) (by decide +kernel)) rfl
theorem fl_Run_98 : Cond.fieldLinkNest R_Run 98 (F_Frame 6).1 (F_Frame 6).2.1 (F_Frame 6).2.2.1 "CodeYard" ∈ cy_NW := cy_nw (List.mem_of_getElem? (i := 206) (by decide +kernel)) rfl
theorem fl_Run_9 : Cond.fieldLink R_Run 9 (F_Run 0).1 (F_Run 0).2.1 (F_Run 0).2.2.1 ∈ cy_TW := cy_tw (List.mem_of_getElem? (i := 222) (by decide +kernel)) rfl
theorem fl_Run_35 : Cond.fieldLink R_Run 35 (F_Run 1).1 (F_Run 1).2.1 (F_Run 1).2.2.1 ∈ cy_TW := cy_tw (List.mem_of_getElem? (i := 223) (by decide +kernel)) rfl
theorem fl_Run_20 : Cond.fieldLink R_Run 20 (F_Run 2).1 (F_Run 2).2.1 (F_Run 2).2.2.1 ∈ cy_TW := cy_tw (List.mem_of_getElem? (i := 224) (by decide +kernel)) rfl
theorem fl_Run_24 : Cond.fieldLink R_Run 24 (F_Run 3).1 (F_Run 3).2.1 (F_Run 3).2.2.1 ∈ cy_TW := cy_tw (List.mem_of_getElem? (i := 225) (by decide +kernel)) rfl
theorem fl_Yard_115 : Cond.fieldLinkNest R_Yard 115 (F_Run 3).1 (F_Run 3).2.1 (F_Run 3).2.2.1 "CodeYard" ∈ cy_NW := cy_nw (List.mem_of_getElem? (i := 226) (by decide +kernel)) rfl
theorem fl_Run_39 : Cond.fieldLink R_Run 39 (F_Run 4).1 (F_Run 4).2.1 (F_Run 4).2.2.1 ∈ cy_TW := cy_tw (List.mem_of_getElem? (i := 227) (by decide +kernel)) rfl
theorem fl_Yard_100 : Cond.fieldLinkNest R_Yard 100 (F_Run 4).1 (F_Run 4).2.1 (F_Run 4).2.2.1 "CodeYard" ∈ cy_NW := cy_nw (List.mem_of_getElem? (i := 228) (by decide +kernel)) rfl
theorem fl_Run_45 : Cond.fieldLink R_Run 45 (F_Run 5).1 (F_Run 5).2.1 (F_Run 5).2.2.1 ∈ cy_TW := cy_tw (List.mem_of_getElem? (i := 229) (by decide +kernel)) rfl
theorem fl_Run_49 : Cond.fieldLink R_Run 49 (F_Run 6).1 (F_Run 6).2.1 (F_Run 6).2.2.1 ∈ cy_TW := cy_tw (List.mem_of_getElem? (i := 230) (by decide +kernel)) rfl
theorem fl_Run_76 : Cond.fieldLink R_Run 76 (F_Run 7).1 (F_Run 7).2.1 (F_Run 7).2.2.1 ∈ cy_TW := cy_tw (List.mem_of_getElem? (i := 231) (by decide +kernel)) rfl
theorem fl_Run_79 : Cond.fieldLink R_Run 79 (F_Run 8).1 (F_Run 8).2.1 (F_Run 8).2.2.1 ∈ cy_TW := cy_tw (List.mem_of_getElem? (i := 232) (by decide +kernel)) rfl
theorem fl_Run_82 : Cond.fieldLink R_Run 82 (F_Run 9).1 (F_Run 9).2.1 (F_Run 9).2.2.1 ∈ cy_TW := cy_tw (List.mem_of_getElem? (i := 233) (by decide +kernel)) rfl
theorem fl_Yard_14 : Cond.fieldLink R_Yard 14 (F_Yard 0).1 (F_Yard 0).2.1 (F_Yard 0).2.2.1 ∈ cy_TW := cy_tw (List.mem_of_getElem? (i := 255) (by decide +kernel)) rfl
theorem fl_Yard_21 : Cond.fieldLink R_Yard 21 (F_Yard 1).1 (F_Yard 1).2.1 (F_Yard 1).2.2.1 ∈ cy_TW := cy_tw (List.mem_of_getElem? (i := 256) (by decide +kernel)) rfl
theorem fl_Yard_28 : Cond.fieldLink R_Yard 28 (F_Yard 2).1 (F_Yard 2).2.1 (F_Yard 2).2.2.1 ∈ cy_TW := cy_tw (List.mem_of_getElem? (i := 257) (by decide +kernel)) rfl
theorem fl_Yard_37 : Cond.fieldLink R_Yard 37 (F_Yard 3).1 (F_Yard 3).2.1 (F_Yard 3).2.2.1 ∈ cy_TW := cy_tw (List.mem_of_getElem? (i := 258) (by decide +kernel)) rfl
theorem ml_Law_13 : Cond.methodLink R_Law 13 y_Yard_feed ∈ cy_TW := cy_tw (List.mem_of_getElem? (i := 268) (by decide +kernel)) rfl
theorem ml_Yard_45 : Cond.methodLink R_Yard 45 y_Yard_addBytes ∈ cy_TW := cy_tw (List.mem_of_getElem? (i := 272) (by decide +kernel)) rfl
theorem ml_Yard_48 : Cond.methodLinkNest R_Yard 48 y_Row_add "CodeYard" ∈ cy_NW := cy_nw (List.mem_of_getElem? (i := 276) (by decide +kernel)) rfl
theorem ml_Law_18 : Cond.methodLink R_Law 18 y_Yard_end ∈ cy_TW := cy_tw (List.mem_of_getElem? (i := 280) (by decide +kernel)) rfl
theorem ml_Yard_51 : Cond.methodLinkNest R_Yard 51 y_Row_shorten "CodeYard" ∈ cy_NW := cy_nw (List.mem_of_getElem? (i := 284) (by decide +kernel)) rfl
theorem ml_Row_23 : Cond.methodLink R_Row 23 Lib.Math.min.name ∈ cy_TW := cy_tw (List.mem_of_getElem? (i := 288) (by decide +kernel)) rfl
theorem ml_Law_23 : Cond.methodLink R_Law 23 y_Yard_poke ∈ cy_TW := cy_tw (List.mem_of_getElem? (i := 291) (by decide +kernel)) rfl
theorem ml_Yard_54 : Cond.methodLinkNest R_Yard 54 y_Row_at "CodeYard" ∈ cy_NW := cy_nw (List.mem_of_getElem? (i := 295) (by decide +kernel)) rfl
theorem ml_Yard_58 : Cond.methodLinkNest R_Yard 58 y_Row_put "CodeYard" ∈ cy_NW := cy_nw (List.mem_of_getElem? (i := 299) (by decide +kernel)) rfl
theorem ml_Law_28 : Cond.methodLink R_Law 28 y_Yard_load ∈ cy_TW := cy_tw (List.mem_of_getElem? (i := 303) (by decide +kernel)) rfl
theorem ml_Yard_62 : Cond.methodLinkNest R_Yard 62 y_Shelf_slot "CodeYard" ∈ cy_NW := cy_nw (List.mem_of_getElem? (i := 307) (by decide +kernel)) rfl
theorem ml_Yard_66 : Cond.methodLinkNest R_Yard 66 y_Run_isHeld "CodeYard" ∈ cy_NW := cy_nw (List.mem_of_getElem? (i := 311) (by decide +kernel)) rfl
theorem ml_Yard_70 : Cond.methodLinkNest R_Yard 70 y_Survey_lookOver "CodeYard" ∈ cy_NW := cy_nw (List.mem_of_getElem? (i := 315) (by decide +kernel)) rfl
theorem ml_Survey_30 : Cond.methodLink R_Survey 30 y_Survey_fault ∈ cy_TW := cy_tw (List.mem_of_getElem? (i := 319) (by decide +kernel)) rfl
theorem ml_Survey_34 : Cond.methodLink R_Survey 34 y_Survey_clear ∈ cy_TW := cy_tw (List.mem_of_getElem? (i := 322) (by decide +kernel)) rfl
theorem ml_Survey_47 : Cond.methodLinkNest R_Survey 47 y_Row_become "CodeYard" ∈ cy_NW := cy_nw (List.mem_of_getElem? (i := 326) (by decide +kernel)) rfl
theorem ml_Survey_37 : Cond.methodLink R_Survey 37 y_Survey_readInstructions ∈ cy_TW := cy_tw (List.mem_of_getElem? (i := 330) (by decide +kernel)) rfl
theorem ml_Survey_60 : Cond.methodLink R_Survey 60 y_Survey_readingFault ∈ cy_TW := cy_tw (List.mem_of_getElem? (i := 334) (by decide +kernel)) rfl
theorem ml_Survey_67 : Cond.methodLinkNest R_Survey 67 y_Row_at "CodeYard" ∈ cy_NW := cy_nw (List.mem_of_getElem? (i := 337) (by decide +kernel)) rfl
theorem ml_Survey_77 : Cond.methodLinkNest R_Survey 77 y_Yard_isInstruction "CodeYard" ∈ cy_NW := cy_nw (List.mem_of_getElem? (i := 338) (by decide +kernel)) rfl
theorem fl_Yard_122 : Cond.fieldLink R_Yard 122 "CodeYard" "OPERAND_MOST" "[I" ∈ cy_TW := cy_tw (List.mem_of_getElem? (i := 341) (by decide +kernel)) rfl
theorem ml_Survey_70 : Cond.methodLinkNest R_Survey 70 y_Yard_hasOperand "CodeYard" ∈ cy_NW := cy_nw (List.mem_of_getElem? (i := 343) (by decide +kernel)) rfl
theorem ml_Yard_130 : Cond.methodLink R_Yard 130 y_Yard_operandMost ∈ cy_TW := cy_tw (List.mem_of_getElem? (i := 346) (by decide +kernel)) rfl
theorem ml_Yard_126 : Cond.methodLink R_Yard 126 y_Yard_isInstruction ∈ cy_TW := cy_tw (List.mem_of_getElem? (i := 349) (by decide +kernel)) rfl
theorem ml_Survey_80 : Cond.methodLinkNest R_Survey 80 y_Row_has "CodeYard" ∈ cy_NW := cy_nw (List.mem_of_getElem? (i := 350) (by decide +kernel)) rfl
theorem ml_Survey_83 : Cond.methodLinkNest R_Survey 83 y_Yard_operandMost "CodeYard" ∈ cy_NW := cy_nw (List.mem_of_getElem? (i := 354) (by decide +kernel)) rfl
theorem ml_Survey_64 : Cond.methodLinkNest R_Survey 64 y_Row_put "CodeYard" ∈ cy_NW := cy_nw (List.mem_of_getElem? (i := 355) (by decide +kernel)) rfl
theorem ml_Survey_74 : Cond.methodLinkNest R_Survey 74 y_Yard_isEnding "CodeYard" ∈ cy_NW := cy_nw (List.mem_of_getElem? (i := 356) (by decide +kernel)) rfl
theorem ml_Survey_41 : Cond.methodLink R_Survey 41 y_Survey_lookAtPlaces ∈ cy_TW := cy_tw (List.mem_of_getElem? (i := 359) (by decide +kernel)) rfl
theorem ml_Survey_87 : Cond.methodLink R_Survey 87 y_Survey_tellsPlace ∈ cy_TW := cy_tw (List.mem_of_getElem? (i := 363) (by decide +kernel)) rfl
theorem ml_Survey_91 : Cond.methodLinkNest R_Survey 91 y_Yard_isJump "CodeYard" ∈ cy_NW := cy_nw (List.mem_of_getElem? (i := 367) (by decide +kernel)) rfl
theorem ml_Survey_44 : Cond.methodLink R_Survey 44 y_Survey_goThroughAll ∈ cy_TW := cy_tw (List.mem_of_getElem? (i := 370) (by decide +kernel)) rfl
theorem ml_Survey_94 : Cond.methodLink R_Survey 94 y_Survey_comeTo ∈ cy_TW := cy_tw (List.mem_of_getElem? (i := 374) (by decide +kernel)) rfl
theorem ml_Survey_110 : Cond.methodLink R_Survey 110 Lib.Math.min.name ∈ cy_TW := cy_tw (List.mem_of_getElem? (i := 378) (by decide +kernel)) rfl
theorem ml_Survey_97 : Cond.methodLink R_Survey 97 y_Survey_leastWaiting ∈ cy_TW := cy_tw (List.mem_of_getElem? (i := 379) (by decide +kernel)) rfl
theorem ml_Survey_101 : Cond.methodLink R_Survey 101 y_Survey_goThrough ∈ cy_TW := cy_tw (List.mem_of_getElem? (i := 383) (by decide +kernel)) rfl
theorem ml_Survey_104 : Cond.methodLinkNest R_Survey 104 y_Yard_takes "CodeYard" ∈ cy_NW := cy_nw (List.mem_of_getElem? (i := 387) (by decide +kernel)) rfl
theorem fl_Yard_133 : Cond.fieldLink R_Yard 133 "CodeYard" "TAKES" "[I" ∈ cy_TW := cy_tw (List.mem_of_getElem? (i := 390) (by decide +kernel)) rfl
theorem ml_Survey_107 : Cond.methodLinkNest R_Survey 107 y_Yard_gives "CodeYard" ∈ cy_NW := cy_nw (List.mem_of_getElem? (i := 392) (by decide +kernel)) rfl
theorem fl_Yard_136 : Cond.fieldLink R_Yard 136 "CodeYard" "GIVES" "[I" ∈ cy_TW := cy_tw (List.mem_of_getElem? (i := 395) (by decide +kernel)) rfl
theorem ml_Survey_115 : Cond.methodLink R_Survey 115 Lib.Math.max.name ∈ cy_TW := cy_tw (List.mem_of_getElem? (i := 397) (by decide +kernel)) rfl
theorem ml_Yard_77 : Cond.methodLinkNest R_Yard 77 y_Code_take "CodeYard" ∈ cy_NW := cy_nw (List.mem_of_getElem? (i := 398) (by decide +kernel)) rfl
theorem ml_Code_36 : Cond.methodLinkNest R_Code 36 y_Row_becomeLike "CodeYard" ∈ cy_NW := cy_nw (List.mem_of_getElem? (i := 402) (by decide +kernel)) rfl
theorem ml_Row_26 : Cond.methodLink R_Row 26 y_Row_at ∈ cy_TW := cy_tw (List.mem_of_getElem? (i := 406) (by decide +kernel)) rfl
theorem ml_Row_29 : Cond.methodLink R_Row 29 y_Row_add ∈ cy_TW := cy_tw (List.mem_of_getElem? (i := 407) (by decide +kernel)) rfl
theorem ml_Code_40 : Cond.methodLinkNest R_Code 40 y_Row_become "CodeYard" ∈ cy_NW := cy_nw (List.mem_of_getElem? (i := 408) (by decide +kernel)) rfl
theorem ml_Law_32 : Cond.methodLink R_Law 32 y_Yard_begin ∈ cy_TW := cy_tw (List.mem_of_getElem? (i := 409) (by decide +kernel)) rfl
theorem ml_Yard_86 : Cond.methodLinkNest R_Yard 86 y_Shelf_taken "CodeYard" ∈ cy_NW := cy_nw (List.mem_of_getElem? (i := 413) (by decide +kernel)) rfl
theorem ml_Shelf_20 : Cond.methodLink R_Shelf 20 y_Shelf_slot ∈ cy_TW := cy_tw (List.mem_of_getElem? (i := 417) (by decide +kernel)) rfl
theorem ml_Shelf_24 : Cond.methodLinkNest R_Shelf 24 y_Code_isTaken "CodeYard" ∈ cy_NW := cy_nw (List.mem_of_getElem? (i := 418) (by decide +kernel)) rfl
theorem ml_Yard_89 : Cond.methodLinkNest R_Yard 89 y_Run_start "CodeYard" ∈ cy_NW := cy_nw (List.mem_of_getElem? (i := 422) (by decide +kernel)) rfl
theorem ml_Run_53 : Cond.methodLink R_Run 53 y_Run_isHeld ∈ cy_TW := cy_tw (List.mem_of_getElem? (i := 426) (by decide +kernel)) rfl
theorem ml_Run_57 : Cond.methodLinkNest R_Run 57 y_Shelf_bringCellsBack "CodeYard" ∈ cy_NW := cy_nw (List.mem_of_getElem? (i := 427) (by decide +kernel)) rfl
theorem ml_Shelf_35 : Cond.methodLinkNest R_Shelf 35 y_Row_becomeLike "CodeYard" ∈ cy_NW := cy_nw (List.mem_of_getElem? (i := 431) (by decide +kernel)) rfl
theorem ml_Run_62 : Cond.methodLinkNest R_Run 62 y_Shelf_keepCells "CodeYard" ∈ cy_NW := cy_nw (List.mem_of_getElem? (i := 432) (by decide +kernel)) rfl
theorem ml_Run_65 : Cond.methodLinkNest R_Run 65 y_Row_becomeLike "CodeYard" ∈ cy_NW := cy_nw (List.mem_of_getElem? (i := 436) (by decide +kernel)) rfl
theorem ml_Run_69 : Cond.methodLinkNest R_Run 69 y_Row_shorten "CodeYard" ∈ cy_NW := cy_nw (List.mem_of_getElem? (i := 437) (by decide +kernel)) rfl
theorem ml_Run_72 : Cond.methodLinkNest R_Run 72 y_Frame_enter "CodeYard" ∈ cy_NW := cy_nw (List.mem_of_getElem? (i := 438) (by decide +kernel)) rfl
theorem ml_Frame_40 : Cond.methodLinkNest R_Frame 40 y_Row_at "CodeYard" ∈ cy_NW := cy_nw (List.mem_of_getElem? (i := 442) (by decide +kernel)) rfl
theorem ml_Frame_47 : Cond.methodLinkNest R_Frame 47 y_Row_shorten "CodeYard" ∈ cy_NW := cy_nw (List.mem_of_getElem? (i := 443) (by decide +kernel)) rfl
theorem ml_Frame_50 : Cond.methodLinkNest R_Frame 50 y_Row_become "CodeYard" ∈ cy_NW := cy_nw (List.mem_of_getElem? (i := 444) (by decide +kernel)) rfl
theorem ml_Law_36 : Cond.methodLink R_Law 36 y_Yard_go ∈ cy_TW := cy_tw (List.mem_of_getElem? (i := 445) (by decide +kernel)) rfl
theorem ml_Yard_93 : Cond.methodLinkNest R_Yard 93 y_Run_advance "CodeYard" ∈ cy_NW := cy_nw (List.mem_of_getElem? (i := 449) (by decide +kernel)) rfl
theorem ml_Run_85 : Cond.methodLink R_Run 85 y_Run_step ∈ cy_TW := cy_tw (List.mem_of_getElem? (i := 453) (by decide +kernel)) rfl
theorem ml_Run_104 : Cond.methodLink R_Run 104 y_Run_fail ∈ cy_TW := cy_tw (List.mem_of_getElem? (i := 457) (by decide +kernel)) rfl
theorem ml_Run_107 : Cond.methodLinkNest R_Run 107 y_Frame_nextByte "CodeYard" ∈ cy_NW := cy_nw (List.mem_of_getElem? (i := 461) (by decide +kernel)) rfl
theorem ml_Run_111 : Cond.methodLinkNest R_Run 111 y_Yard_hasOperand "CodeYard" ∈ cy_NW := cy_nw (List.mem_of_getElem? (i := 465) (by decide +kernel)) rfl
theorem ml_Run_115 : Cond.methodLink R_Run 115 y_Run_move ∈ cy_TW := cy_tw (List.mem_of_getElem? (i := 466) (by decide +kernel)) rfl
theorem ml_Run_134 : Cond.methodLinkNest R_Run 134 y_Row_add "CodeYard" ∈ cy_NW := cy_nw (List.mem_of_getElem? (i := 470) (by decide +kernel)) rfl
theorem ml_Run_140 : Cond.methodLinkNest R_Run 140 y_Row_at "CodeYard" ∈ cy_NW := cy_nw (List.mem_of_getElem? (i := 471) (by decide +kernel)) rfl
theorem ml_Run_144 : Cond.methodLinkNest R_Run 144 y_Row_takeLast "CodeYard" ∈ cy_NW := cy_nw (List.mem_of_getElem? (i := 472) (by decide +kernel)) rfl
theorem ml_Run_147 : Cond.methodLinkNest R_Run 147 y_Row_put "CodeYard" ∈ cy_NW := cy_nw (List.mem_of_getElem? (i := 476) (by decide +kernel)) rfl
theorem ml_Run_119 : Cond.methodLink R_Run 119 y_Run_combine ∈ cy_TW := cy_tw (List.mem_of_getElem? (i := 477) (by decide +kernel)) rfl
theorem ml_Run_153 : Cond.methodLink R_Run 153 y_Run_combined ∈ cy_TW := cy_tw (List.mem_of_getElem? (i := 481) (by decide +kernel)) rfl
theorem ml_Run_122 : Cond.methodLink R_Run 122 y_Run_rearrange ∈ cy_TW := cy_tw (List.mem_of_getElem? (i := 484) (by decide +kernel)) rfl
theorem ml_Run_125 : Cond.methodLink R_Run 125 y_Run_jump ∈ cy_TW := cy_tw (List.mem_of_getElem? (i := 488) (by decide +kernel)) rfl
theorem ml_Run_128 : Cond.methodLink R_Run 128 y_Run_doOther ∈ cy_TW := cy_tw (List.mem_of_getElem? (i := 492) (by decide +kernel)) rfl
theorem ml_Run_157 : Cond.methodLink R_Run 157 y_Run_readInput ∈ cy_TW := cy_tw (List.mem_of_getElem? (i := 496) (by decide +kernel)) rfl
theorem ml_Run_176 : Cond.methodLinkNest R_Run 176 y_Row_has "CodeYard" ∈ cy_NW := cy_nw (List.mem_of_getElem? (i := 500) (by decide +kernel)) rfl
theorem ml_Run_160 : Cond.methodLink R_Run 160 y_Run_putOut ∈ cy_TW := cy_tw (List.mem_of_getElem? (i := 501) (by decide +kernel)) rfl
theorem ml_Run_163 : Cond.methodLink R_Run 163 y_Run_finish ∈ cy_TW := cy_tw (List.mem_of_getElem? (i := 505) (by decide +kernel)) rfl
theorem ml_Run_166 : Cond.methodLink R_Run 166 y_Run_divide ∈ cy_TW := cy_tw (List.mem_of_getElem? (i := 509) (by decide +kernel)) rfl
theorem ml_Run_169 : Cond.methodLinkNest R_Run 169 y_Shelf_taken "CodeYard" ∈ cy_NW := cy_nw (List.mem_of_getElem? (i := 513) (by decide +kernel)) rfl
theorem ml_Run_173 : Cond.methodLink R_Run 173 y_Run_callCode ∈ cy_TW := cy_tw (List.mem_of_getElem? (i := 514) (by decide +kernel)) rfl
theorem ml_Law_40 : Cond.methodLink R_Law 40 y_Yard_state ∈ cy_TW := cy_tw (List.mem_of_getElem? (i := 518) (by decide +kernel)) rfl
theorem ml_Yard_97 : Cond.methodLinkNest R_Yard 97 y_Run_tell "CodeYard" ∈ cy_NW := cy_nw (List.mem_of_getElem? (i := 522) (by decide +kernel)) rfl
theorem ml_Law_44 : Cond.methodLink R_Law 44 y_Yard_stack ∈ cy_TW := cy_tw (List.mem_of_getElem? (i := 526) (by decide +kernel)) rfl
theorem ml_Law_48 : Cond.methodLink R_Law 48 y_Yard_local ∈ cy_TW := cy_tw (List.mem_of_getElem? (i := 530) (by decide +kernel)) rfl
theorem ml_Law_52 : Cond.methodLink R_Law 52 y_Yard_cell ∈ cy_TW := cy_tw (List.mem_of_getElem? (i := 534) (by decide +kernel)) rfl
theorem ml_Law_56 : Cond.methodLink R_Law 56 y_Yard_out ∈ cy_TW := cy_tw (List.mem_of_getElem? (i := 538) (by decide +kernel)) rfl
theorem ml_Law_60 : Cond.methodLink R_Law 60 y_Yard_height ∈ cy_TW := cy_tw (List.mem_of_getElem? (i := 542) (by decide +kernel)) rfl
theorem ml_Law_64 : Cond.methodLink R_Law 64 y_Yard_size ∈ cy_TW := cy_tw (List.mem_of_getElem? (i := 546) (by decide +kernel)) rfl
theorem cl_Law_10 : Cond.classLink R_Law 10 R_Model ∈ cy_TW := cy_tw (List.mem_of_getElem? (i := 550) (by decide +kernel)) rfl
theorem in_Model : Cond.instantiable R_Model 29 ∈ cy_TW := cy_tw (List.mem_of_getElem? (i := 551) (by decide +kernel)) rfl
theorem ml_Law_12 : Cond.methodLink R_Law 12 y_Model_init ∈ cy_TW := cy_tw (List.mem_of_getElem? (i := 552) (by decide +kernel)) rfl
theorem ml_Model_1 : Cond.methodLink R_Model 1 Lib.objectInit ∈ cy_TW := cy_tw (List.mem_of_getElem? (i := 555) (by decide +kernel)) rfl
theorem fl_Model_7 : Cond.fieldLink R_Model 7 (F_Model 0).1 (F_Model 0).2.1 (F_Model 0).2.2.1 ∈ cy_TW := cy_tw (List.mem_of_getElem? (i := 556) (by decide +kernel)) rfl
theorem fl_Model_60 : Cond.fieldLink R_Model 60 (F_Model 1).1 (F_Model 1).2.1 (F_Model 1).2.2.1 ∈ cy_TW := cy_tw (List.mem_of_getElem? (i := 557) (by decide +kernel)) rfl
theorem fl_Model_13 : Cond.fieldLink R_Model 13 (F_Model 2).1 (F_Model 2).2.1 (F_Model 2).2.2.1 ∈ cy_TW := cy_tw (List.mem_of_getElem? (i := 558) (by decide +kernel)) rfl
theorem fl_Model_16 : Cond.fieldLink R_Model 16 (F_Model 3).1 (F_Model 3).2.1 (F_Model 3).2.2.1 ∈ cy_TW := cy_tw (List.mem_of_getElem? (i := 559) (by decide +kernel)) rfl
theorem fl_Model_20 : Cond.fieldLink R_Model 20 (F_Model 4).1 (F_Model 4).2.1 (F_Model 4).2.2.1 ∈ cy_TW := cy_tw (List.mem_of_getElem? (i := 560) (by decide +kernel)) rfl
theorem fl_Model_23 : Cond.fieldLink R_Model 23 (F_Model 5).1 (F_Model 5).2.1 (F_Model 5).2.2.1 ∈ cy_TW := cy_tw (List.mem_of_getElem? (i := 561) (by decide +kernel)) rfl
theorem fl_Model_26 : Cond.fieldLink R_Model 26 (F_Model 6).1 (F_Model 6).2.1 (F_Model 6).2.2.1 ∈ cy_TW := cy_tw (List.mem_of_getElem? (i := 562) (by decide +kernel)) rfl
theorem fl_Model_74 : Cond.fieldLink R_Model 74 (F_Model 7).1 (F_Model 7).2.1 (F_Model 7).2.2.1 ∈ cy_TW := cy_tw (List.mem_of_getElem? (i := 563) (by decide +kernel)) rfl
theorem fl_Model_29 : Cond.fieldLink R_Model 29 (F_Model 8).1 (F_Model 8).2.1 (F_Model 8).2.2.1 ∈ cy_TW := cy_tw (List.mem_of_getElem? (i := 564) (by decide +kernel)) rfl
theorem fl_Model_33 : Cond.fieldLink R_Model 33 (F_Model 9).1 (F_Model 9).2.1 (F_Model 9).2.2.1 ∈ cy_TW := cy_tw (List.mem_of_getElem? (i := 565) (by decide +kernel)) rfl
theorem fl_Model_36 : Cond.fieldLink R_Model 36 (F_Model 10).1 (F_Model 10).2.1 (F_Model 10).2.2.1 ∈ cy_TW := cy_tw (List.mem_of_getElem? (i := 566) (by decide +kernel)) rfl
theorem fl_Model_68 : Cond.fieldLink R_Model 68 (F_Model 11).1 (F_Model 11).2.1 (F_Model 11).2.2.1 ∈ cy_TW := cy_tw (List.mem_of_getElem? (i := 567) (by decide +kernel)) rfl
theorem fl_Model_71 : Cond.fieldLink R_Model 71 (F_Model 12).1 (F_Model 12).2.1 (F_Model 12).2.2.1 ∈ cy_TW := cy_tw (List.mem_of_getElem? (i := 568) (by decide +kernel)) rfl
theorem fl_Model_125 : Cond.fieldLink R_Model 125 (F_Model 13).1 (F_Model 13).2.1 (F_Model 13).2.2.1 ∈ cy_TW := cy_tw (List.mem_of_getElem? (i := 569) (by decide +kernel)) rfl
theorem fl_Model_108 : Cond.fieldLink R_Model 108 (F_Model 14).1 (F_Model 14).2.1 (F_Model 14).2.2.1 ∈ cy_TW := cy_tw (List.mem_of_getElem? (i := 570) (by decide +kernel)) rfl
theorem fl_Model_128 : Cond.fieldLink R_Model 128 (F_Model 15).1 (F_Model 15).2.1 (F_Model 15).2.2.1 ∈ cy_TW := cy_tw (List.mem_of_getElem? (i := 571) (by decide +kernel)) rfl
theorem fl_Model_131 : Cond.fieldLink R_Model 131 (F_Model 16).1 (F_Model 16).2.1 (F_Model 16).2.2.1 ∈ cy_TW := cy_tw (List.mem_of_getElem? (i := 572) (by decide +kernel)) rfl
theorem fl_Model_134 : Cond.fieldLink R_Model 134 (F_Model 17).1 (F_Model 17).2.1 (F_Model 17).2.2.1 ∈ cy_TW := cy_tw (List.mem_of_getElem? (i := 573) (by decide +kernel)) rfl
theorem fl_Model_137 : Cond.fieldLink R_Model 137 (F_Model 18).1 (F_Model 18).2.1 (F_Model 18).2.2.1 ∈ cy_TW := cy_tw (List.mem_of_getElem? (i := 574) (by decide +kernel)) rfl
theorem fl_Model_140 : Cond.fieldLink R_Model 140 (F_Model 19).1 (F_Model 19).2.1 (F_Model 19).2.2.1 ∈ cy_TW := cy_tw (List.mem_of_getElem? (i := 575) (by decide +kernel)) rfl
theorem fl_Model_39 : Cond.fieldLink R_Model 39 (F_Model 20).1 (F_Model 20).2.1 (F_Model 20).2.2.1 ∈ cy_TW := cy_tw (List.mem_of_getElem? (i := 576) (by decide +kernel)) rfl
theorem fl_Model_42 : Cond.fieldLink R_Model 42 (F_Model 21).1 (F_Model 21).2.1 (F_Model 21).2.2.1 ∈ cy_TW := cy_tw (List.mem_of_getElem? (i := 577) (by decide +kernel)) rfl
theorem fl_Model_45 : Cond.fieldLink R_Model 45 (F_Model 22).1 (F_Model 22).2.1 (F_Model 22).2.2.1 ∈ cy_TW := cy_tw (List.mem_of_getElem? (i := 578) (by decide +kernel)) rfl
theorem fl_Model_48 : Cond.fieldLink R_Model 48 (F_Model 23).1 (F_Model 23).2.1 (F_Model 23).2.2.1 ∈ cy_TW := cy_tw (List.mem_of_getElem? (i := 579) (by decide +kernel)) rfl
theorem fl_Model_51 : Cond.fieldLink R_Model 51 (F_Model 24).1 (F_Model 24).2.1 (F_Model 24).2.2.1 ∈ cy_TW := cy_tw (List.mem_of_getElem? (i := 580) (by decide +kernel)) rfl
theorem fl_Model_54 : Cond.fieldLink R_Model 54 (F_Model 25).1 (F_Model 25).2.1 (F_Model 25).2.2.1 ∈ cy_TW := cy_tw (List.mem_of_getElem? (i := 581) (by decide +kernel)) rfl
theorem fl_Model_119 : Cond.fieldLink R_Model 119 (F_Model 26).1 (F_Model 26).2.1 (F_Model 26).2.2.1 ∈ cy_TW := cy_tw (List.mem_of_getElem? (i := 582) (by decide +kernel)) rfl
theorem fl_Model_57 : Cond.fieldLink R_Model 57 (F_Model 27).1 (F_Model 27).2.1 (F_Model 27).2.2.1 ∈ cy_TW := cy_tw (List.mem_of_getElem? (i := 583) (by decide +kernel)) rfl
theorem fl_Model_122 : Cond.fieldLink R_Model 122 (F_Model 28).1 (F_Model 28).2.1 (F_Model 28).2.2.1 ∈ cy_TW := cy_tw (List.mem_of_getElem? (i := 584) (by decide +kernel)) rfl
theorem aw_byte : Cond.arrayClass .byte ∈ cy_TW := cy_tw (List.mem_of_getElem? (i := 644) (by decide +kernel)) rfl
theorem aw_boolean : Cond.arrayClass .boolean ∈ cy_TW := cy_tw (List.mem_of_getElem? (i := 645) (by decide +kernel)) rfl
theorem ml_Law_17 : Cond.methodLink R_Law 17 y_Model_feed ∈ cy_TW := cy_tw (List.mem_of_getElem? (i := 646) (by decide +kernel)) rfl
theorem ml_Model_64 : Cond.methodLink R_Model 64 y_Model_putFour ∈ cy_TW := cy_tw (List.mem_of_getElem? (i := 650) (by decide +kernel)) rfl
theorem ml_Law_22 : Cond.methodLink R_Law 22 y_Model_end ∈ cy_TW := cy_tw (List.mem_of_getElem? (i := 654) (by decide +kernel)) rfl
theorem ml_Law_27 : Cond.methodLink R_Law 27 y_Model_poke ∈ cy_TW := cy_tw (List.mem_of_getElem? (i := 658) (by decide +kernel)) rfl
theorem ml_Law_31 : Cond.methodLink R_Law 31 y_Model_load ∈ cy_TW := cy_tw (List.mem_of_getElem? (i := 662) (by decide +kernel)) rfl
theorem ml_Model_112 : Cond.methodLink R_Model 112 y_Model_look ∈ cy_TW := cy_tw (List.mem_of_getElem? (i := 666) (by decide +kernel)) rfl
theorem ml_Model_77 : Cond.methodLink R_Model 77 y_Model_bad ∈ cy_TW := cy_tw (List.mem_of_getElem? (i := 670) (by decide +kernel)) rfl
theorem ml_Model_81 : Cond.methodLink R_Model 81 y_Model_at ∈ cy_TW := cy_tw (List.mem_of_getElem? (i := 674) (by decide +kernel)) rfl
theorem ml_Model_85 : Cond.methodLink R_Model 85 y_Model_hasOperand ∈ cy_TW := cy_tw (List.mem_of_getElem? (i := 678) (by decide +kernel)) rfl
theorem ml_Model_89 : Cond.methodLink R_Model 89 y_Model_isOperand ∈ cy_TW := cy_tw (List.mem_of_getElem? (i := 681) (by decide +kernel)) rfl
theorem ml_Model_93 : Cond.methodLink R_Model 93 y_Model_walk ∈ cy_TW := cy_tw (List.mem_of_getElem? (i := 684) (by decide +kernel)) rfl
theorem ml_Model_96 : Cond.methodLink R_Model 96 y_Model_come ∈ cy_TW := cy_tw (List.mem_of_getElem? (i := 688) (by decide +kernel)) rfl
theorem ml_Model_99 : Cond.methodLink R_Model 99 y_Model_goThrough ∈ cy_TW := cy_tw (List.mem_of_getElem? (i := 692) (by decide +kernel)) rfl
theorem ml_Model_102 : Cond.methodLink R_Model 102 y_Model_takes ∈ cy_TW := cy_tw (List.mem_of_getElem? (i := 696) (by decide +kernel)) rfl
theorem ml_Model_105 : Cond.methodLink R_Model 105 y_Model_gives ∈ cy_TW := cy_tw (List.mem_of_getElem? (i := 699) (by decide +kernel)) rfl
theorem ml_Law_35 : Cond.methodLink R_Law 35 y_Model_begin ∈ cy_TW := cy_tw (List.mem_of_getElem? (i := 702) (by decide +kernel)) rfl
theorem ml_Model_116 : Cond.methodLink R_Model 116 y_Model_undo ∈ cy_TW := cy_tw (List.mem_of_getElem? (i := 706) (by decide +kernel)) rfl
theorem ml_Model_143 : Cond.methodLink R_Model 143 y_Model_enter ∈ cy_TW := cy_tw (List.mem_of_getElem? (i := 710) (by decide +kernel)) rfl
theorem ml_Law_39 : Cond.methodLink R_Law 39 y_Model_go ∈ cy_TW := cy_tw (List.mem_of_getElem? (i := 714) (by decide +kernel)) rfl
theorem ml_Model_149 : Cond.methodLink R_Model 149 y_Model_throwFor ∈ cy_TW := cy_tw (List.mem_of_getElem? (i := 718) (by decide +kernel)) rfl
theorem ml_Model_152 : Cond.methodLink R_Model 152 y_Model_oneStep ∈ cy_TW := cy_tw (List.mem_of_getElem? (i := 722) (by decide +kernel)) rfl
theorem ml_Model_155 : Cond.methodLink R_Model 155 y_Model_simple ∈ cy_TW := cy_tw (List.mem_of_getElem? (i := 726) (by decide +kernel)) rfl
theorem ml_Model_146 : Cond.methodLink R_Model 146 y_Model_push ∈ cy_TW := cy_tw (List.mem_of_getElem? (i := 730) (by decide +kernel)) rfl
theorem ml_Model_178 : Cond.methodLink R_Model 178 y_Model_pop ∈ cy_TW := cy_tw (List.mem_of_getElem? (i := 734) (by decide +kernel)) rfl
theorem ml_Model_159 : Cond.methodLink R_Model 159 y_Model_works ∈ cy_TW := cy_tw (List.mem_of_getElem? (i := 738) (by decide +kernel)) rfl
theorem ml_Model_162 : Cond.methodLink R_Model 162 y_Model_jumps ∈ cy_TW := cy_tw (List.mem_of_getElem? (i := 742) (by decide +kernel)) rfl
theorem ml_Model_166 : Cond.methodLink R_Model 166 y_Model_bytes ∈ cy_TW := cy_tw (List.mem_of_getElem? (i := 746) (by decide +kernel)) rfl
theorem ml_Model_169 : Cond.methodLink R_Model 169 y_Model_finish ∈ cy_TW := cy_tw (List.mem_of_getElem? (i := 750) (by decide +kernel)) rfl
theorem ml_Model_181 : Cond.methodLink R_Model 181 y_Model_ends ∈ cy_TW := cy_tw (List.mem_of_getElem? (i := 754) (by decide +kernel)) rfl
theorem ml_Model_172 : Cond.methodLink R_Model 172 y_Model_divide ∈ cy_TW := cy_tw (List.mem_of_getElem? (i := 758) (by decide +kernel)) rfl
theorem ml_Model_175 : Cond.methodLink R_Model 175 y_Model_call ∈ cy_TW := cy_tw (List.mem_of_getElem? (i := 762) (by decide +kernel)) rfl
theorem ml_Law_43 : Cond.methodLink R_Law 43 y_Model_state ∈ cy_TW := cy_tw (List.mem_of_getElem? (i := 766) (by decide +kernel)) rfl
theorem ml_Law_47 : Cond.methodLink R_Law 47 y_Model_stack ∈ cy_TW := cy_tw (List.mem_of_getElem? (i := 770) (by decide +kernel)) rfl
theorem ml_Law_51 : Cond.methodLink R_Law 51 y_Model_local ∈ cy_TW := cy_tw (List.mem_of_getElem? (i := 774) (by decide +kernel)) rfl
theorem ml_Law_55 : Cond.methodLink R_Law 55 y_Model_cell ∈ cy_TW := cy_tw (List.mem_of_getElem? (i := 778) (by decide +kernel)) rfl
theorem ml_Law_59 : Cond.methodLink R_Law 59 y_Model_out ∈ cy_TW := cy_tw (List.mem_of_getElem? (i := 782) (by decide +kernel)) rfl
theorem ml_Law_63 : Cond.methodLink R_Law 63 y_Model_height ∈ cy_TW := cy_tw (List.mem_of_getElem? (i := 786) (by decide +kernel)) rfl
theorem ml_Law_67 : Cond.methodLink R_Law 67 y_Model_size ∈ cy_TW := cy_tw (List.mem_of_getElem? (i := 790) (by decide +kernel)) rfl
theorem ob_i : Cond.instanceMethod Lib.objectInit ∈ cy_TW := cy_tw (List.mem_of_getElem? (i := 79) (by decide +kernel)) rfl
theorem ob_c : Cond.code Lib.objectInit ⟨#[0xb1]⟩ 1 none ∈ cy_TW := cy_tw (List.mem_of_getElem? (i := 80) (by decide +kernel)) rfl
theorem mm_max_s : Cond.static Lib.Math.max.name ∈ cy_TW := cy_tw (List.mem_of_getElem? (i := 88) (by decide +kernel)) rfl
theorem mm_max_c : Cond.code Lib.Math.max.name Lib.Math.max.code 2 (some .int) ∈ cy_TW := cy_tw (List.mem_of_getElem? (i := 89) (by decide +kernel)) rfl
theorem mm_min_s : Cond.static Lib.Math.min.name ∈ cy_TW := cy_tw (List.mem_of_getElem? (i := 289) (by decide +kernel)) rfl
theorem mm_min_c : Cond.code Lib.Math.min.name Lib.Math.min.code 2 (some .int) ∈ cy_TW := cy_tw (List.mem_of_getElem? (i := 290) (by decide +kernel)) rfl
theorem ao_Code : R_Code ∈ cy_AO := by decide
theorem mo_Yard_init : cy_MoI m_Yard_init 0 := ⟨⟨cy_tw (List.mem_of_getElem? (i := 77) (by decide +kernel)) rfl, ini_Yard, by decide +kernel, by decide⟩, cy_tw (List.mem_of_getElem? (i := 76) (by decide +kernel)) rfl, rfl⟩
theorem mo_Row_init : cy_MoI m_Row_init 1 := ⟨⟨cy_tw (List.mem_of_getElem? (i := 85) (by decide +kernel)) rfl, ini_Row, by decide +kernel, by decide⟩, cy_tw (List.mem_of_getElem? (i := 84) (by decide +kernel)) rfl, rfl⟩
theorem mo_Shelf_init : cy_MoI m_Shelf_init 0 := ⟨⟨cy_tw (List.mem_of_getElem? (i := 106) (by decide +kernel)) rfl, ini_Shelf, by decide +kernel, by decide⟩, cy_tw (List.mem_of_getElem? (i := 105) (by decide +kernel)) rfl, rfl⟩
theorem mo_Code_init : cy_MoI m_Code_init 1 := ⟨⟨cy_tw (List.mem_of_getElem? (i := 113) (by decide +kernel)) rfl, ini_Code, by decide +kernel, by decide⟩, cy_tw (List.mem_of_getElem? (i := 112) (by decide +kernel)) rfl, rfl⟩
theorem mo_Survey_init : cy_MoI m_Survey_init 0 := ⟨⟨cy_tw (List.mem_of_getElem? (i := 149) (by decide +kernel)) rfl, ini_Survey, by decide +kernel, by decide⟩, cy_tw (List.mem_of_getElem? (i := 148) (by decide +kernel)) rfl, rfl⟩
theorem mo_Run_init : cy_MoI m_Run_init 1 := ⟨⟨cy_tw (List.mem_of_getElem? (i := 178) (by decide +kernel)) rfl, ini_Run, by decide +kernel, by decide⟩, cy_tw (List.mem_of_getElem? (i := 177) (by decide +kernel)) rfl, rfl⟩
theorem mo_Frame_init : cy_MoI m_Frame_init 3 := ⟨⟨cy_tw (List.mem_of_getElem? (i := 188) (by decide +kernel)) rfl, ini_Frame, by decide +kernel, by decide⟩, cy_tw (List.mem_of_getElem? (i := 187) (by decide +kernel)) rfl, rfl⟩
theorem mo_Yard_feed : cy_MoV m_Yard_feed 5 := ⟨⟨cy_tw (List.mem_of_getElem? (i := 271) (by decide +kernel)) rfl, ini_Yard, by decide +kernel, by decide⟩, cy_tw (List.mem_of_getElem? (i := 269) (by decide +kernel)) rfl, cy_tw (List.mem_of_getElem? (i := 270) (by decide +kernel)) rfl⟩
theorem mo_Yard_addBytes : cy_MoV m_Yard_addBytes 1 := ⟨⟨cy_tw (List.mem_of_getElem? (i := 275) (by decide +kernel)) rfl, ini_Yard, by decide +kernel, by decide⟩, cy_tw (List.mem_of_getElem? (i := 274) (by decide +kernel)) rfl, cy_tw (List.mem_of_getElem? (i := 0) (by decide +kernel)) rfl⟩
theorem mo_Row_add : cy_MoV m_Row_add 1 := ⟨⟨cy_tw (List.mem_of_getElem? (i := 279) (by decide +kernel)) rfl, ini_Row, by decide +kernel, by decide⟩, cy_tw (List.mem_of_getElem? (i := 278) (by decide +kernel)) rfl, cy_tw (List.mem_of_getElem? (i := 1) (by decide +kernel)) rfl⟩
theorem mo_Yard_end : cy_MoV m_Yard_end 1 := ⟨⟨cy_tw (List.mem_of_getElem? (i := 283) (by decide +kernel)) rfl, ini_Yard, by decide +kernel, by decide⟩, cy_tw (List.mem_of_getElem? (i := 281) (by decide +kernel)) rfl, cy_tw (List.mem_of_getElem? (i := 282) (by decide +kernel)) rfl⟩
theorem mo_Row_shorten : cy_MoV m_Row_shorten 1 := ⟨⟨cy_tw (List.mem_of_getElem? (i := 287) (by decide +kernel)) rfl, ini_Row, by decide +kernel, by decide⟩, cy_tw (List.mem_of_getElem? (i := 286) (by decide +kernel)) rfl, cy_tw (List.mem_of_getElem? (i := 2) (by decide +kernel)) rfl⟩
theorem mo_Yard_poke : cy_MoV m_Yard_poke 2 := ⟨⟨cy_tw (List.mem_of_getElem? (i := 294) (by decide +kernel)) rfl, ini_Yard, by decide +kernel, by decide⟩, cy_tw (List.mem_of_getElem? (i := 292) (by decide +kernel)) rfl, cy_tw (List.mem_of_getElem? (i := 293) (by decide +kernel)) rfl⟩
theorem mo_Row_at : cy_MoV m_Row_at 2 := ⟨⟨cy_tw (List.mem_of_getElem? (i := 298) (by decide +kernel)) rfl, ini_Row, by decide +kernel, by decide⟩, cy_tw (List.mem_of_getElem? (i := 297) (by decide +kernel)) rfl, cy_tw (List.mem_of_getElem? (i := 3) (by decide +kernel)) rfl⟩
theorem mo_Row_put : cy_MoV m_Row_put 2 := ⟨⟨cy_tw (List.mem_of_getElem? (i := 302) (by decide +kernel)) rfl, ini_Row, by decide +kernel, by decide⟩, cy_tw (List.mem_of_getElem? (i := 301) (by decide +kernel)) rfl, cy_tw (List.mem_of_getElem? (i := 4) (by decide +kernel)) rfl⟩
theorem mo_Yard_load : cy_MoV m_Yard_load 1 := ⟨⟨cy_tw (List.mem_of_getElem? (i := 306) (by decide +kernel)) rfl, ini_Yard, by decide +kernel, by decide⟩, cy_tw (List.mem_of_getElem? (i := 304) (by decide +kernel)) rfl, cy_tw (List.mem_of_getElem? (i := 305) (by decide +kernel)) rfl⟩
theorem mo_Shelf_slot : cy_MoV m_Shelf_slot 1 := ⟨⟨cy_tw (List.mem_of_getElem? (i := 310) (by decide +kernel)) rfl, ini_Shelf, by decide +kernel, by decide⟩, cy_tw (List.mem_of_getElem? (i := 309) (by decide +kernel)) rfl, cy_tw (List.mem_of_getElem? (i := 5) (by decide +kernel)) rfl⟩
theorem mo_Run_isHeld : cy_MoV m_Run_isHeld 0 := ⟨⟨cy_tw (List.mem_of_getElem? (i := 314) (by decide +kernel)) rfl, ini_Run, by decide +kernel, by decide⟩, cy_tw (List.mem_of_getElem? (i := 313) (by decide +kernel)) rfl, cy_tw (List.mem_of_getElem? (i := 6) (by decide +kernel)) rfl⟩
theorem mo_Survey_lookOver : cy_MoV m_Survey_lookOver 1 := ⟨⟨cy_tw (List.mem_of_getElem? (i := 318) (by decide +kernel)) rfl, ini_Survey, by decide +kernel, by decide⟩, cy_tw (List.mem_of_getElem? (i := 317) (by decide +kernel)) rfl, cy_tw (List.mem_of_getElem? (i := 7) (by decide +kernel)) rfl⟩
theorem mo_Survey_fault : cy_MoS m_Survey_fault 2 := ⟨⟨cy_tw (List.mem_of_getElem? (i := 321) (by decide +kernel)) rfl, ini_Survey, by decide +kernel, by decide⟩, cy_tw (List.mem_of_getElem? (i := 320) (by decide +kernel)) rfl⟩
theorem mo_Survey_clear : cy_MoV m_Survey_clear 1 := ⟨⟨cy_tw (List.mem_of_getElem? (i := 325) (by decide +kernel)) rfl, ini_Survey, by decide +kernel, by decide⟩, cy_tw (List.mem_of_getElem? (i := 324) (by decide +kernel)) rfl, cy_tw (List.mem_of_getElem? (i := 8) (by decide +kernel)) rfl⟩
theorem mo_Row_become : cy_MoV m_Row_become 2 := ⟨⟨cy_tw (List.mem_of_getElem? (i := 329) (by decide +kernel)) rfl, ini_Row, by decide +kernel, by decide⟩, cy_tw (List.mem_of_getElem? (i := 328) (by decide +kernel)) rfl, cy_tw (List.mem_of_getElem? (i := 9) (by decide +kernel)) rfl⟩
theorem mo_Survey_readInstructions : cy_MoV m_Survey_readInstructions 1 := ⟨⟨cy_tw (List.mem_of_getElem? (i := 333) (by decide +kernel)) rfl, ini_Survey, by decide +kernel, by decide⟩, cy_tw (List.mem_of_getElem? (i := 332) (by decide +kernel)) rfl, cy_tw (List.mem_of_getElem? (i := 10) (by decide +kernel)) rfl⟩
theorem mo_Survey_readingFault : cy_MoS m_Survey_readingFault 2 := ⟨⟨cy_tw (List.mem_of_getElem? (i := 336) (by decide +kernel)) rfl, ini_Survey, by decide +kernel, by decide⟩, cy_tw (List.mem_of_getElem? (i := 335) (by decide +kernel)) rfl⟩
theorem mo_Yard_isInstruction : cy_MoS m_Yard_isInstruction 1 := ⟨⟨cy_tw (List.mem_of_getElem? (i := 340) (by decide +kernel)) rfl, ini_Yard, by decide +kernel, by decide⟩, cy_tw (List.mem_of_getElem? (i := 339) (by decide +kernel)) rfl⟩
theorem mo_Yard_hasOperand : cy_MoS m_Yard_hasOperand 1 := ⟨⟨cy_tw (List.mem_of_getElem? (i := 345) (by decide +kernel)) rfl, ini_Yard, by decide +kernel, by decide⟩, cy_tw (List.mem_of_getElem? (i := 344) (by decide +kernel)) rfl⟩
theorem mo_Yard_operandMost : cy_MoS m_Yard_operandMost 1 := ⟨⟨cy_tw (List.mem_of_getElem? (i := 348) (by decide +kernel)) rfl, ini_Yard, by decide +kernel, by decide⟩, cy_tw (List.mem_of_getElem? (i := 347) (by decide +kernel)) rfl⟩
theorem mo_Row_has : cy_MoV m_Row_has 1 := ⟨⟨cy_tw (List.mem_of_getElem? (i := 353) (by decide +kernel)) rfl, ini_Row, by decide +kernel, by decide⟩, cy_tw (List.mem_of_getElem? (i := 352) (by decide +kernel)) rfl, cy_tw (List.mem_of_getElem? (i := 11) (by decide +kernel)) rfl⟩
theorem mo_Yard_isEnding : cy_MoS m_Yard_isEnding 1 := ⟨⟨cy_tw (List.mem_of_getElem? (i := 358) (by decide +kernel)) rfl, ini_Yard, by decide +kernel, by decide⟩, cy_tw (List.mem_of_getElem? (i := 357) (by decide +kernel)) rfl⟩
theorem mo_Survey_lookAtPlaces : cy_MoV m_Survey_lookAtPlaces 1 := ⟨⟨cy_tw (List.mem_of_getElem? (i := 362) (by decide +kernel)) rfl, ini_Survey, by decide +kernel, by decide⟩, cy_tw (List.mem_of_getElem? (i := 361) (by decide +kernel)) rfl, cy_tw (List.mem_of_getElem? (i := 12) (by decide +kernel)) rfl⟩
theorem mo_Survey_tellsPlace : cy_MoV m_Survey_tellsPlace 2 := ⟨⟨cy_tw (List.mem_of_getElem? (i := 366) (by decide +kernel)) rfl, ini_Survey, by decide +kernel, by decide⟩, cy_tw (List.mem_of_getElem? (i := 365) (by decide +kernel)) rfl, cy_tw (List.mem_of_getElem? (i := 13) (by decide +kernel)) rfl⟩
theorem mo_Yard_isJump : cy_MoS m_Yard_isJump 1 := ⟨⟨cy_tw (List.mem_of_getElem? (i := 369) (by decide +kernel)) rfl, ini_Yard, by decide +kernel, by decide⟩, cy_tw (List.mem_of_getElem? (i := 368) (by decide +kernel)) rfl⟩
theorem mo_Survey_goThroughAll : cy_MoV m_Survey_goThroughAll 1 := ⟨⟨cy_tw (List.mem_of_getElem? (i := 373) (by decide +kernel)) rfl, ini_Survey, by decide +kernel, by decide⟩, cy_tw (List.mem_of_getElem? (i := 372) (by decide +kernel)) rfl, cy_tw (List.mem_of_getElem? (i := 14) (by decide +kernel)) rfl⟩
theorem mo_Survey_comeTo : cy_MoV m_Survey_comeTo 2 := ⟨⟨cy_tw (List.mem_of_getElem? (i := 377) (by decide +kernel)) rfl, ini_Survey, by decide +kernel, by decide⟩, cy_tw (List.mem_of_getElem? (i := 376) (by decide +kernel)) rfl, cy_tw (List.mem_of_getElem? (i := 15) (by decide +kernel)) rfl⟩
theorem mo_Survey_leastWaiting : cy_MoV m_Survey_leastWaiting 0 := ⟨⟨cy_tw (List.mem_of_getElem? (i := 382) (by decide +kernel)) rfl, ini_Survey, by decide +kernel, by decide⟩, cy_tw (List.mem_of_getElem? (i := 381) (by decide +kernel)) rfl, cy_tw (List.mem_of_getElem? (i := 16) (by decide +kernel)) rfl⟩
theorem mo_Survey_goThrough : cy_MoV m_Survey_goThrough 2 := ⟨⟨cy_tw (List.mem_of_getElem? (i := 386) (by decide +kernel)) rfl, ini_Survey, by decide +kernel, by decide⟩, cy_tw (List.mem_of_getElem? (i := 385) (by decide +kernel)) rfl, cy_tw (List.mem_of_getElem? (i := 17) (by decide +kernel)) rfl⟩
theorem mo_Yard_takes : cy_MoS m_Yard_takes 1 := ⟨⟨cy_tw (List.mem_of_getElem? (i := 389) (by decide +kernel)) rfl, ini_Yard, by decide +kernel, by decide⟩, cy_tw (List.mem_of_getElem? (i := 388) (by decide +kernel)) rfl⟩
theorem mo_Yard_gives : cy_MoS m_Yard_gives 1 := ⟨⟨cy_tw (List.mem_of_getElem? (i := 394) (by decide +kernel)) rfl, ini_Yard, by decide +kernel, by decide⟩, cy_tw (List.mem_of_getElem? (i := 393) (by decide +kernel)) rfl⟩
theorem mo_Code_take : cy_MoV m_Code_take 2 := ⟨⟨cy_tw (List.mem_of_getElem? (i := 401) (by decide +kernel)) rfl, ini_Code, by decide +kernel, by decide⟩, cy_tw (List.mem_of_getElem? (i := 400) (by decide +kernel)) rfl, cy_tw (List.mem_of_getElem? (i := 18) (by decide +kernel)) rfl⟩
theorem mo_Row_becomeLike : cy_MoV m_Row_becomeLike 1 := ⟨⟨cy_tw (List.mem_of_getElem? (i := 405) (by decide +kernel)) rfl, ini_Row, by decide +kernel, by decide⟩, cy_tw (List.mem_of_getElem? (i := 404) (by decide +kernel)) rfl, cy_tw (List.mem_of_getElem? (i := 19) (by decide +kernel)) rfl⟩
theorem mo_Yard_begin : cy_MoV m_Yard_begin 2 := ⟨⟨cy_tw (List.mem_of_getElem? (i := 412) (by decide +kernel)) rfl, ini_Yard, by decide +kernel, by decide⟩, cy_tw (List.mem_of_getElem? (i := 410) (by decide +kernel)) rfl, cy_tw (List.mem_of_getElem? (i := 411) (by decide +kernel)) rfl⟩
theorem mo_Shelf_taken : cy_MoV m_Shelf_taken 1 := ⟨⟨cy_tw (List.mem_of_getElem? (i := 416) (by decide +kernel)) rfl, ini_Shelf, by decide +kernel, by decide⟩, cy_tw (List.mem_of_getElem? (i := 415) (by decide +kernel)) rfl, cy_tw (List.mem_of_getElem? (i := 20) (by decide +kernel)) rfl⟩
theorem mo_Code_isTaken : cy_MoV m_Code_isTaken 0 := ⟨⟨cy_tw (List.mem_of_getElem? (i := 421) (by decide +kernel)) rfl, ini_Code, by decide +kernel, by decide⟩, cy_tw (List.mem_of_getElem? (i := 420) (by decide +kernel)) rfl, cy_tw (List.mem_of_getElem? (i := 21) (by decide +kernel)) rfl⟩
theorem mo_Run_start : cy_MoV m_Run_start 3 := ⟨⟨cy_tw (List.mem_of_getElem? (i := 425) (by decide +kernel)) rfl, ini_Run, by decide +kernel, by decide⟩, cy_tw (List.mem_of_getElem? (i := 424) (by decide +kernel)) rfl, cy_tw (List.mem_of_getElem? (i := 22) (by decide +kernel)) rfl⟩
theorem mo_Shelf_bringCellsBack : cy_MoV m_Shelf_bringCellsBack 0 := ⟨⟨cy_tw (List.mem_of_getElem? (i := 430) (by decide +kernel)) rfl, ini_Shelf, by decide +kernel, by decide⟩, cy_tw (List.mem_of_getElem? (i := 429) (by decide +kernel)) rfl, cy_tw (List.mem_of_getElem? (i := 23) (by decide +kernel)) rfl⟩
theorem mo_Shelf_keepCells : cy_MoV m_Shelf_keepCells 0 := ⟨⟨cy_tw (List.mem_of_getElem? (i := 435) (by decide +kernel)) rfl, ini_Shelf, by decide +kernel, by decide⟩, cy_tw (List.mem_of_getElem? (i := 434) (by decide +kernel)) rfl, cy_tw (List.mem_of_getElem? (i := 24) (by decide +kernel)) rfl⟩
theorem mo_Frame_enter : cy_MoV m_Frame_enter 2 := ⟨⟨cy_tw (List.mem_of_getElem? (i := 441) (by decide +kernel)) rfl, ini_Frame, by decide +kernel, by decide⟩, cy_tw (List.mem_of_getElem? (i := 440) (by decide +kernel)) rfl, cy_tw (List.mem_of_getElem? (i := 25) (by decide +kernel)) rfl⟩
theorem mo_Yard_go : cy_MoV m_Yard_go 1 := ⟨⟨cy_tw (List.mem_of_getElem? (i := 448) (by decide +kernel)) rfl, ini_Yard, by decide +kernel, by decide⟩, cy_tw (List.mem_of_getElem? (i := 446) (by decide +kernel)) rfl, cy_tw (List.mem_of_getElem? (i := 447) (by decide +kernel)) rfl⟩
theorem mo_Run_advance : cy_MoV m_Run_advance 1 := ⟨⟨cy_tw (List.mem_of_getElem? (i := 452) (by decide +kernel)) rfl, ini_Run, by decide +kernel, by decide⟩, cy_tw (List.mem_of_getElem? (i := 451) (by decide +kernel)) rfl, cy_tw (List.mem_of_getElem? (i := 26) (by decide +kernel)) rfl⟩
theorem mo_Run_step : cy_MoV m_Run_step 0 := ⟨⟨cy_tw (List.mem_of_getElem? (i := 456) (by decide +kernel)) rfl, ini_Run, by decide +kernel, by decide⟩, cy_tw (List.mem_of_getElem? (i := 455) (by decide +kernel)) rfl, cy_tw (List.mem_of_getElem? (i := 27) (by decide +kernel)) rfl⟩
theorem mo_Run_fail : cy_MoV m_Run_fail 1 := ⟨⟨cy_tw (List.mem_of_getElem? (i := 460) (by decide +kernel)) rfl, ini_Run, by decide +kernel, by decide⟩, cy_tw (List.mem_of_getElem? (i := 459) (by decide +kernel)) rfl, cy_tw (List.mem_of_getElem? (i := 28) (by decide +kernel)) rfl⟩
theorem mo_Frame_nextByte : cy_MoV m_Frame_nextByte 0 := ⟨⟨cy_tw (List.mem_of_getElem? (i := 464) (by decide +kernel)) rfl, ini_Frame, by decide +kernel, by decide⟩, cy_tw (List.mem_of_getElem? (i := 463) (by decide +kernel)) rfl, cy_tw (List.mem_of_getElem? (i := 29) (by decide +kernel)) rfl⟩
theorem mo_Run_move : cy_MoV m_Run_move 2 := ⟨⟨cy_tw (List.mem_of_getElem? (i := 469) (by decide +kernel)) rfl, ini_Run, by decide +kernel, by decide⟩, cy_tw (List.mem_of_getElem? (i := 468) (by decide +kernel)) rfl, cy_tw (List.mem_of_getElem? (i := 30) (by decide +kernel)) rfl⟩
theorem mo_Row_takeLast : cy_MoV m_Row_takeLast 0 := ⟨⟨cy_tw (List.mem_of_getElem? (i := 475) (by decide +kernel)) rfl, ini_Row, by decide +kernel, by decide⟩, cy_tw (List.mem_of_getElem? (i := 474) (by decide +kernel)) rfl, cy_tw (List.mem_of_getElem? (i := 31) (by decide +kernel)) rfl⟩
theorem mo_Run_combine : cy_MoV m_Run_combine 1 := ⟨⟨cy_tw (List.mem_of_getElem? (i := 480) (by decide +kernel)) rfl, ini_Run, by decide +kernel, by decide⟩, cy_tw (List.mem_of_getElem? (i := 479) (by decide +kernel)) rfl, cy_tw (List.mem_of_getElem? (i := 32) (by decide +kernel)) rfl⟩
theorem mo_Run_combined : cy_MoS m_Run_combined 3 := ⟨⟨cy_tw (List.mem_of_getElem? (i := 483) (by decide +kernel)) rfl, ini_Run, by decide +kernel, by decide⟩, cy_tw (List.mem_of_getElem? (i := 482) (by decide +kernel)) rfl⟩
theorem mo_Run_rearrange : cy_MoV m_Run_rearrange 1 := ⟨⟨cy_tw (List.mem_of_getElem? (i := 487) (by decide +kernel)) rfl, ini_Run, by decide +kernel, by decide⟩, cy_tw (List.mem_of_getElem? (i := 486) (by decide +kernel)) rfl, cy_tw (List.mem_of_getElem? (i := 33) (by decide +kernel)) rfl⟩
theorem mo_Run_jump : cy_MoV m_Run_jump 2 := ⟨⟨cy_tw (List.mem_of_getElem? (i := 491) (by decide +kernel)) rfl, ini_Run, by decide +kernel, by decide⟩, cy_tw (List.mem_of_getElem? (i := 490) (by decide +kernel)) rfl, cy_tw (List.mem_of_getElem? (i := 34) (by decide +kernel)) rfl⟩
theorem mo_Run_doOther : cy_MoV m_Run_doOther 2 := ⟨⟨cy_tw (List.mem_of_getElem? (i := 495) (by decide +kernel)) rfl, ini_Run, by decide +kernel, by decide⟩, cy_tw (List.mem_of_getElem? (i := 494) (by decide +kernel)) rfl, cy_tw (List.mem_of_getElem? (i := 35) (by decide +kernel)) rfl⟩
theorem mo_Run_readInput : cy_MoV m_Run_readInput 1 := ⟨⟨cy_tw (List.mem_of_getElem? (i := 499) (by decide +kernel)) rfl, ini_Run, by decide +kernel, by decide⟩, cy_tw (List.mem_of_getElem? (i := 498) (by decide +kernel)) rfl, cy_tw (List.mem_of_getElem? (i := 36) (by decide +kernel)) rfl⟩
theorem mo_Run_putOut : cy_MoV m_Run_putOut 1 := ⟨⟨cy_tw (List.mem_of_getElem? (i := 504) (by decide +kernel)) rfl, ini_Run, by decide +kernel, by decide⟩, cy_tw (List.mem_of_getElem? (i := 503) (by decide +kernel)) rfl, cy_tw (List.mem_of_getElem? (i := 37) (by decide +kernel)) rfl⟩
theorem mo_Run_finish : cy_MoV m_Run_finish 1 := ⟨⟨cy_tw (List.mem_of_getElem? (i := 508) (by decide +kernel)) rfl, ini_Run, by decide +kernel, by decide⟩, cy_tw (List.mem_of_getElem? (i := 507) (by decide +kernel)) rfl, cy_tw (List.mem_of_getElem? (i := 38) (by decide +kernel)) rfl⟩
theorem mo_Run_divide : cy_MoV m_Run_divide 1 := ⟨⟨cy_tw (List.mem_of_getElem? (i := 512) (by decide +kernel)) rfl, ini_Run, by decide +kernel, by decide⟩, cy_tw (List.mem_of_getElem? (i := 511) (by decide +kernel)) rfl, cy_tw (List.mem_of_getElem? (i := 39) (by decide +kernel)) rfl⟩
theorem mo_Run_callCode : cy_MoV m_Run_callCode 2 := ⟨⟨cy_tw (List.mem_of_getElem? (i := 517) (by decide +kernel)) rfl, ini_Run, by decide +kernel, by decide⟩, cy_tw (List.mem_of_getElem? (i := 516) (by decide +kernel)) rfl, cy_tw (List.mem_of_getElem? (i := 40) (by decide +kernel)) rfl⟩
theorem mo_Yard_state : cy_MoV m_Yard_state 1 := ⟨⟨cy_tw (List.mem_of_getElem? (i := 521) (by decide +kernel)) rfl, ini_Yard, by decide +kernel, by decide⟩, cy_tw (List.mem_of_getElem? (i := 519) (by decide +kernel)) rfl, cy_tw (List.mem_of_getElem? (i := 520) (by decide +kernel)) rfl⟩
theorem mo_Run_tell : cy_MoV m_Run_tell 1 := ⟨⟨cy_tw (List.mem_of_getElem? (i := 525) (by decide +kernel)) rfl, ini_Run, by decide +kernel, by decide⟩, cy_tw (List.mem_of_getElem? (i := 524) (by decide +kernel)) rfl, cy_tw (List.mem_of_getElem? (i := 41) (by decide +kernel)) rfl⟩
theorem mo_Yard_stack : cy_MoV m_Yard_stack 1 := ⟨⟨cy_tw (List.mem_of_getElem? (i := 529) (by decide +kernel)) rfl, ini_Yard, by decide +kernel, by decide⟩, cy_tw (List.mem_of_getElem? (i := 527) (by decide +kernel)) rfl, cy_tw (List.mem_of_getElem? (i := 528) (by decide +kernel)) rfl⟩
theorem mo_Yard_local : cy_MoV m_Yard_local 1 := ⟨⟨cy_tw (List.mem_of_getElem? (i := 533) (by decide +kernel)) rfl, ini_Yard, by decide +kernel, by decide⟩, cy_tw (List.mem_of_getElem? (i := 531) (by decide +kernel)) rfl, cy_tw (List.mem_of_getElem? (i := 532) (by decide +kernel)) rfl⟩
theorem mo_Yard_cell : cy_MoV m_Yard_cell 2 := ⟨⟨cy_tw (List.mem_of_getElem? (i := 537) (by decide +kernel)) rfl, ini_Yard, by decide +kernel, by decide⟩, cy_tw (List.mem_of_getElem? (i := 535) (by decide +kernel)) rfl, cy_tw (List.mem_of_getElem? (i := 536) (by decide +kernel)) rfl⟩
theorem mo_Yard_out : cy_MoV m_Yard_out 1 := ⟨⟨cy_tw (List.mem_of_getElem? (i := 541) (by decide +kernel)) rfl, ini_Yard, by decide +kernel, by decide⟩, cy_tw (List.mem_of_getElem? (i := 539) (by decide +kernel)) rfl, cy_tw (List.mem_of_getElem? (i := 540) (by decide +kernel)) rfl⟩
theorem mo_Yard_height : cy_MoV m_Yard_height 2 := ⟨⟨cy_tw (List.mem_of_getElem? (i := 545) (by decide +kernel)) rfl, ini_Yard, by decide +kernel, by decide⟩, cy_tw (List.mem_of_getElem? (i := 543) (by decide +kernel)) rfl, cy_tw (List.mem_of_getElem? (i := 544) (by decide +kernel)) rfl⟩
theorem mo_Yard_size : cy_MoV m_Yard_size 1 := ⟨⟨cy_tw (List.mem_of_getElem? (i := 549) (by decide +kernel)) rfl, ini_Yard, by decide +kernel, by decide⟩, cy_tw (List.mem_of_getElem? (i := 547) (by decide +kernel)) rfl, cy_tw (List.mem_of_getElem? (i := 548) (by decide +kernel)) rfl⟩
theorem mo_Model_init : cy_MoI m_Model_init 0 := ⟨⟨cy_tw (List.mem_of_getElem? (i := 554) (by decide +kernel)) rfl, ini_Model, by decide +kernel, by decide⟩, cy_tw (List.mem_of_getElem? (i := 553) (by decide +kernel)) rfl, rfl⟩
theorem mo_Model_feed : cy_MoV m_Model_feed 5 := ⟨⟨cy_tw (List.mem_of_getElem? (i := 649) (by decide +kernel)) rfl, ini_Model, by decide +kernel, by decide⟩, cy_tw (List.mem_of_getElem? (i := 647) (by decide +kernel)) rfl, cy_tw (List.mem_of_getElem? (i := 648) (by decide +kernel)) rfl⟩
theorem mo_Model_putFour : cy_MoV m_Model_putFour 1 := ⟨⟨cy_tw (List.mem_of_getElem? (i := 653) (by decide +kernel)) rfl, ini_Model, by decide +kernel, by decide⟩, cy_tw (List.mem_of_getElem? (i := 652) (by decide +kernel)) rfl, cy_tw (List.mem_of_getElem? (i := 42) (by decide +kernel)) rfl⟩
theorem mo_Model_end : cy_MoV m_Model_end 1 := ⟨⟨cy_tw (List.mem_of_getElem? (i := 657) (by decide +kernel)) rfl, ini_Model, by decide +kernel, by decide⟩, cy_tw (List.mem_of_getElem? (i := 655) (by decide +kernel)) rfl, cy_tw (List.mem_of_getElem? (i := 656) (by decide +kernel)) rfl⟩
theorem mo_Model_poke : cy_MoV m_Model_poke 2 := ⟨⟨cy_tw (List.mem_of_getElem? (i := 661) (by decide +kernel)) rfl, ini_Model, by decide +kernel, by decide⟩, cy_tw (List.mem_of_getElem? (i := 659) (by decide +kernel)) rfl, cy_tw (List.mem_of_getElem? (i := 660) (by decide +kernel)) rfl⟩
theorem mo_Model_load : cy_MoV m_Model_load 1 := ⟨⟨cy_tw (List.mem_of_getElem? (i := 665) (by decide +kernel)) rfl, ini_Model, by decide +kernel, by decide⟩, cy_tw (List.mem_of_getElem? (i := 663) (by decide +kernel)) rfl, cy_tw (List.mem_of_getElem? (i := 664) (by decide +kernel)) rfl⟩
theorem mo_Model_look : cy_MoV m_Model_look 0 := ⟨⟨cy_tw (List.mem_of_getElem? (i := 669) (by decide +kernel)) rfl, ini_Model, by decide +kernel, by decide⟩, cy_tw (List.mem_of_getElem? (i := 668) (by decide +kernel)) rfl, cy_tw (List.mem_of_getElem? (i := 43) (by decide +kernel)) rfl⟩
theorem mo_Model_bad : cy_MoV m_Model_bad 2 := ⟨⟨cy_tw (List.mem_of_getElem? (i := 673) (by decide +kernel)) rfl, ini_Model, by decide +kernel, by decide⟩, cy_tw (List.mem_of_getElem? (i := 672) (by decide +kernel)) rfl, cy_tw (List.mem_of_getElem? (i := 44) (by decide +kernel)) rfl⟩
theorem mo_Model_at : cy_MoV m_Model_at 1 := ⟨⟨cy_tw (List.mem_of_getElem? (i := 677) (by decide +kernel)) rfl, ini_Model, by decide +kernel, by decide⟩, cy_tw (List.mem_of_getElem? (i := 676) (by decide +kernel)) rfl, cy_tw (List.mem_of_getElem? (i := 45) (by decide +kernel)) rfl⟩
theorem mo_Model_hasOperand : cy_MoS m_Model_hasOperand 1 := ⟨⟨cy_tw (List.mem_of_getElem? (i := 680) (by decide +kernel)) rfl, ini_Model, by decide +kernel, by decide⟩, cy_tw (List.mem_of_getElem? (i := 679) (by decide +kernel)) rfl⟩
theorem mo_Model_isOperand : cy_MoS m_Model_isOperand 2 := ⟨⟨cy_tw (List.mem_of_getElem? (i := 683) (by decide +kernel)) rfl, ini_Model, by decide +kernel, by decide⟩, cy_tw (List.mem_of_getElem? (i := 682) (by decide +kernel)) rfl⟩
theorem mo_Model_walk : cy_MoV m_Model_walk 0 := ⟨⟨cy_tw (List.mem_of_getElem? (i := 687) (by decide +kernel)) rfl, ini_Model, by decide +kernel, by decide⟩, cy_tw (List.mem_of_getElem? (i := 686) (by decide +kernel)) rfl, cy_tw (List.mem_of_getElem? (i := 46) (by decide +kernel)) rfl⟩
theorem mo_Model_come : cy_MoV m_Model_come 2 := ⟨⟨cy_tw (List.mem_of_getElem? (i := 691) (by decide +kernel)) rfl, ini_Model, by decide +kernel, by decide⟩, cy_tw (List.mem_of_getElem? (i := 690) (by decide +kernel)) rfl, cy_tw (List.mem_of_getElem? (i := 47) (by decide +kernel)) rfl⟩
theorem mo_Model_goThrough : cy_MoV m_Model_goThrough 1 := ⟨⟨cy_tw (List.mem_of_getElem? (i := 695) (by decide +kernel)) rfl, ini_Model, by decide +kernel, by decide⟩, cy_tw (List.mem_of_getElem? (i := 694) (by decide +kernel)) rfl, cy_tw (List.mem_of_getElem? (i := 48) (by decide +kernel)) rfl⟩
theorem mo_Model_takes : cy_MoS m_Model_takes 1 := ⟨⟨cy_tw (List.mem_of_getElem? (i := 698) (by decide +kernel)) rfl, ini_Model, by decide +kernel, by decide⟩, cy_tw (List.mem_of_getElem? (i := 697) (by decide +kernel)) rfl⟩
theorem mo_Model_gives : cy_MoS m_Model_gives 1 := ⟨⟨cy_tw (List.mem_of_getElem? (i := 701) (by decide +kernel)) rfl, ini_Model, by decide +kernel, by decide⟩, cy_tw (List.mem_of_getElem? (i := 700) (by decide +kernel)) rfl⟩
theorem mo_Model_begin : cy_MoV m_Model_begin 2 := ⟨⟨cy_tw (List.mem_of_getElem? (i := 705) (by decide +kernel)) rfl, ini_Model, by decide +kernel, by decide⟩, cy_tw (List.mem_of_getElem? (i := 703) (by decide +kernel)) rfl, cy_tw (List.mem_of_getElem? (i := 704) (by decide +kernel)) rfl⟩
theorem mo_Model_undo : cy_MoV m_Model_undo 0 := ⟨⟨cy_tw (List.mem_of_getElem? (i := 709) (by decide +kernel)) rfl, ini_Model, by decide +kernel, by decide⟩, cy_tw (List.mem_of_getElem? (i := 708) (by decide +kernel)) rfl, cy_tw (List.mem_of_getElem? (i := 49) (by decide +kernel)) rfl⟩
theorem mo_Model_enter : cy_MoV m_Model_enter 2 := ⟨⟨cy_tw (List.mem_of_getElem? (i := 713) (by decide +kernel)) rfl, ini_Model, by decide +kernel, by decide⟩, cy_tw (List.mem_of_getElem? (i := 712) (by decide +kernel)) rfl, cy_tw (List.mem_of_getElem? (i := 50) (by decide +kernel)) rfl⟩
theorem mo_Model_go : cy_MoV m_Model_go 1 := ⟨⟨cy_tw (List.mem_of_getElem? (i := 717) (by decide +kernel)) rfl, ini_Model, by decide +kernel, by decide⟩, cy_tw (List.mem_of_getElem? (i := 715) (by decide +kernel)) rfl, cy_tw (List.mem_of_getElem? (i := 716) (by decide +kernel)) rfl⟩
theorem mo_Model_throwFor : cy_MoV m_Model_throwFor 1 := ⟨⟨cy_tw (List.mem_of_getElem? (i := 721) (by decide +kernel)) rfl, ini_Model, by decide +kernel, by decide⟩, cy_tw (List.mem_of_getElem? (i := 720) (by decide +kernel)) rfl, cy_tw (List.mem_of_getElem? (i := 51) (by decide +kernel)) rfl⟩
theorem mo_Model_oneStep : cy_MoV m_Model_oneStep 0 := ⟨⟨cy_tw (List.mem_of_getElem? (i := 725) (by decide +kernel)) rfl, ini_Model, by decide +kernel, by decide⟩, cy_tw (List.mem_of_getElem? (i := 724) (by decide +kernel)) rfl, cy_tw (List.mem_of_getElem? (i := 52) (by decide +kernel)) rfl⟩
theorem mo_Model_simple : cy_MoV m_Model_simple 4 := ⟨⟨cy_tw (List.mem_of_getElem? (i := 729) (by decide +kernel)) rfl, ini_Model, by decide +kernel, by decide⟩, cy_tw (List.mem_of_getElem? (i := 728) (by decide +kernel)) rfl, cy_tw (List.mem_of_getElem? (i := 53) (by decide +kernel)) rfl⟩
theorem mo_Model_push : cy_MoV m_Model_push 1 := ⟨⟨cy_tw (List.mem_of_getElem? (i := 733) (by decide +kernel)) rfl, ini_Model, by decide +kernel, by decide⟩, cy_tw (List.mem_of_getElem? (i := 732) (by decide +kernel)) rfl, cy_tw (List.mem_of_getElem? (i := 54) (by decide +kernel)) rfl⟩
theorem mo_Model_pop : cy_MoV m_Model_pop 0 := ⟨⟨cy_tw (List.mem_of_getElem? (i := 737) (by decide +kernel)) rfl, ini_Model, by decide +kernel, by decide⟩, cy_tw (List.mem_of_getElem? (i := 736) (by decide +kernel)) rfl, cy_tw (List.mem_of_getElem? (i := 55) (by decide +kernel)) rfl⟩
theorem mo_Model_works : cy_MoV m_Model_works 1 := ⟨⟨cy_tw (List.mem_of_getElem? (i := 741) (by decide +kernel)) rfl, ini_Model, by decide +kernel, by decide⟩, cy_tw (List.mem_of_getElem? (i := 740) (by decide +kernel)) rfl, cy_tw (List.mem_of_getElem? (i := 56) (by decide +kernel)) rfl⟩
theorem mo_Model_jumps : cy_MoV m_Model_jumps 3 := ⟨⟨cy_tw (List.mem_of_getElem? (i := 745) (by decide +kernel)) rfl, ini_Model, by decide +kernel, by decide⟩, cy_tw (List.mem_of_getElem? (i := 744) (by decide +kernel)) rfl, cy_tw (List.mem_of_getElem? (i := 57) (by decide +kernel)) rfl⟩
theorem mo_Model_bytes : cy_MoV m_Model_bytes 1 := ⟨⟨cy_tw (List.mem_of_getElem? (i := 749) (by decide +kernel)) rfl, ini_Model, by decide +kernel, by decide⟩, cy_tw (List.mem_of_getElem? (i := 748) (by decide +kernel)) rfl, cy_tw (List.mem_of_getElem? (i := 58) (by decide +kernel)) rfl⟩
theorem mo_Model_finish : cy_MoV m_Model_finish 1 := ⟨⟨cy_tw (List.mem_of_getElem? (i := 753) (by decide +kernel)) rfl, ini_Model, by decide +kernel, by decide⟩, cy_tw (List.mem_of_getElem? (i := 752) (by decide +kernel)) rfl, cy_tw (List.mem_of_getElem? (i := 59) (by decide +kernel)) rfl⟩
theorem mo_Model_ends : cy_MoV m_Model_ends 1 := ⟨⟨cy_tw (List.mem_of_getElem? (i := 757) (by decide +kernel)) rfl, ini_Model, by decide +kernel, by decide⟩, cy_tw (List.mem_of_getElem? (i := 756) (by decide +kernel)) rfl, cy_tw (List.mem_of_getElem? (i := 60) (by decide +kernel)) rfl⟩
theorem mo_Model_divide : cy_MoV m_Model_divide 1 := ⟨⟨cy_tw (List.mem_of_getElem? (i := 761) (by decide +kernel)) rfl, ini_Model, by decide +kernel, by decide⟩, cy_tw (List.mem_of_getElem? (i := 760) (by decide +kernel)) rfl, cy_tw (List.mem_of_getElem? (i := 61) (by decide +kernel)) rfl⟩
theorem mo_Model_call : cy_MoV m_Model_call 1 := ⟨⟨cy_tw (List.mem_of_getElem? (i := 765) (by decide +kernel)) rfl, ini_Model, by decide +kernel, by decide⟩, cy_tw (List.mem_of_getElem? (i := 764) (by decide +kernel)) rfl, cy_tw (List.mem_of_getElem? (i := 62) (by decide +kernel)) rfl⟩
theorem mo_Model_state : cy_MoV m_Model_state 1 := ⟨⟨cy_tw (List.mem_of_getElem? (i := 769) (by decide +kernel)) rfl, ini_Model, by decide +kernel, by decide⟩, cy_tw (List.mem_of_getElem? (i := 767) (by decide +kernel)) rfl, cy_tw (List.mem_of_getElem? (i := 768) (by decide +kernel)) rfl⟩
theorem mo_Model_stack : cy_MoV m_Model_stack 1 := ⟨⟨cy_tw (List.mem_of_getElem? (i := 773) (by decide +kernel)) rfl, ini_Model, by decide +kernel, by decide⟩, cy_tw (List.mem_of_getElem? (i := 771) (by decide +kernel)) rfl, cy_tw (List.mem_of_getElem? (i := 772) (by decide +kernel)) rfl⟩
theorem mo_Model_local : cy_MoV m_Model_local 1 := ⟨⟨cy_tw (List.mem_of_getElem? (i := 777) (by decide +kernel)) rfl, ini_Model, by decide +kernel, by decide⟩, cy_tw (List.mem_of_getElem? (i := 775) (by decide +kernel)) rfl, cy_tw (List.mem_of_getElem? (i := 776) (by decide +kernel)) rfl⟩
theorem mo_Model_cell : cy_MoV m_Model_cell 2 := ⟨⟨cy_tw (List.mem_of_getElem? (i := 781) (by decide +kernel)) rfl, ini_Model, by decide +kernel, by decide⟩, cy_tw (List.mem_of_getElem? (i := 779) (by decide +kernel)) rfl, cy_tw (List.mem_of_getElem? (i := 780) (by decide +kernel)) rfl⟩
theorem mo_Model_out : cy_MoV m_Model_out 1 := ⟨⟨cy_tw (List.mem_of_getElem? (i := 785) (by decide +kernel)) rfl, ini_Model, by decide +kernel, by decide⟩, cy_tw (List.mem_of_getElem? (i := 783) (by decide +kernel)) rfl, cy_tw (List.mem_of_getElem? (i := 784) (by decide +kernel)) rfl⟩
theorem mo_Model_height : cy_MoV m_Model_height 2 := ⟨⟨cy_tw (List.mem_of_getElem? (i := 789) (by decide +kernel)) rfl, ini_Model, by decide +kernel, by decide⟩, cy_tw (List.mem_of_getElem? (i := 787) (by decide +kernel)) rfl, cy_tw (List.mem_of_getElem? (i := 788) (by decide +kernel)) rfl⟩
theorem mo_Model_size : cy_MoV m_Model_size 1 := ⟨⟨cy_tw (List.mem_of_getElem? (i := 793) (by decide +kernel)) rfl, ini_Model, by decide +kernel, by decide⟩, cy_tw (List.mem_of_getElem? (i := 791) (by decide +kernel)) rfl, cy_tw (List.mem_of_getElem? (i := 792) (by decide +kernel)) rfl⟩
end
section
/-! THE CLASS'S STATE: rows of ints as lists, frames, the run's and the survey's numbers; and the cells that hold it -/
/-- rows; frames (number of the code, place); run (frame at work, begun, status, result, reason, done); survey (instructions, lastStart, searchFrom) -/
abbrev cy_S : Type := (Nat → List Int32) × (Nat → Nat × Int32) × (Nat × Int32 × Int32 × Int32 × Int32 × Int32) × (Int32 × Int32 × Int32)
/-- class of int arrays, class of arrays of codes, addresses by key, what else the heap holds -/
abbrev cy_E : Type := ClassId × ClassId × (Nat → Nat) × cy_Hp
def cy_cap (r : Nat) : Nat := if r = 0 ∨ r = 4 then 300 else if r ≤ 3 then 256 else if r = 5 then 64 else if r < 42 then (if (r - 6) % 4 < 2 then 256 else 16) else 8
def cy_up {α : Type} (f : Nat → α) (k : Nat) (v : α) : Nat → α := fun j => if j = k then v else f j
theorem cy_up_self {α : Type} (f : Nat → α) (k : Nat) (v : α) : cy_up f k v k = v := by simp [cy_up]
theorem cy_up_ne {α : Type} (f : Nat → α) {k j : Nat} (v : α) (h : j ≠ k) : cy_up f k v j = f j := by simp [cy_up, h]
theorem cy_cap_lt (r : Nat) : cy_cap r < 2 ^ 31 := by
  unfold cy_cap
  repeat' split
  all_goals omega
def cy_rw (E : cy_E) (M : cy_Hp) (r : Nat) (xs : List Int32) : Prop := ∃ f : Nat → Int32, M (E.2.2.1 (2 * r)) = some (.inr (0, [.ref (E.2.2.1 (2 * r + 1)), .int (nI xs.length)])) ∧ M (E.2.2.1 (2 * r + 1)) = some (.inl (E.1, cy_cap r, .inl f)) ∧ xs.length ≤ cy_cap r ∧ ∀ j, j < xs.length → f j = xs.getD j 0
def cy_num (k : Nat) : Int32 := if k = 8 then -1 else nI k
def cy_code (E : cy_E) (k : Nat) : va_E := .inr (1, [.int (cy_num k), .ref (E.2.2.1 (2 * (6 + 4 * k))), .ref (E.2.2.1 (2 * (7 + 4 * k))), .ref (E.2.2.1 (2 * (8 + 4 * k))), .ref (E.2.2.1 (2 * (9 + 4 * k)))])
def cy_frame (E : cy_E) (j : Nat) (q : Nat × Int32) : va_E := .inr (4, [.int (nI (j + 1)), va_rf (if j = 0 then none else some (E.2.2.1 (125 + (j - 1)))), va_rf (if j = 7 then none else some (E.2.2.1 (125 + (j + 1)))), .ref (E.2.2.1 (2 * (42 + 2 * j))), .ref (E.2.2.1 (2 * (43 + 2 * j))), .ref (E.2.2.1 (116 + q.1)), .int q.2])
def cy_yard (E : cy_E) : va_E := .inr (6, [.ref (E.2.2.1 (2 * 0)), .ref (E.2.2.1 134), .ref (E.2.2.1 135), .ref (E.2.2.1 136)])
def cy_shelf (E : cy_E) : va_E := .inr (2, [.ref (E.2.2.1 137)])
def cy_codes (E : cy_E) : va_E := .inl (E.2.1, 8, .inr (.inr (.inr (.inr (fun k => if k < 8 then some (E.2.2.1 (116 + k)) else none)))))
def cy_survey (E : cy_E) (q : Int32 × Int32 × Int32) : va_E := .inr (3, [.ref (E.2.2.1 (2 * 1)), .ref (E.2.2.1 (2 * 2)), .ref (E.2.2.1 (2 * 3)), .int q.1, .int q.2.1, .int q.2.2])
def cy_run_ (E : cy_E) (q : Nat × Int32 × Int32 × Int32 × Int32 × Int32) : va_E := .inr (5, [.ref (E.2.2.1 134), .ref (E.2.2.1 125), .ref (E.2.2.1 (2 * 4)), .ref (E.2.2.1 (2 * 5)), .ref (E.2.2.1 (125 + q.1)), .int q.2.1, .int q.2.2.1, .int q.2.2.2.1, .int q.2.2.2.2.1, .int q.2.2.2.2.2])
/-- the heap holds the state s; the rest is as it was -/
def cy_R (E : cy_E) (s : cy_S) (M : cy_Hp) : Prop :=
  (∀ r, r < 58 → cy_rw E M r (s.1 r)) ∧ (∀ k, k < 9 → M (E.2.2.1 (116 + k)) = some (cy_code E k)) ∧ (∀ j, j < 8 → M (E.2.2.1 (125 + j)) = some (cy_frame E j (s.2.1 j)) ∧ (s.2.1 j).1 < 9) ∧
  M (E.2.2.1 133) = some (cy_yard E) ∧ M (E.2.2.1 134) = some (cy_shelf E) ∧ M (E.2.2.1 135) = some (cy_survey E s.2.2.2) ∧ (M (E.2.2.1 136) = some (cy_run_ E s.2.2.1) ∧ s.2.2.1.1 < 8) ∧ M (E.2.2.1 137) = some (cy_codes E) ∧
  ∀ a, (∀ k, k < 138 → a ≠ E.2.2.1 k) → M a = E.2.2.2 a
def cy_inj (E : cy_E) : Prop := ∀ i j, i < 138 → j < 138 → i ≠ j → E.2.2.1 i ≠ E.2.2.1 j
def cy_Eo (G : cy_G) (E : cy_E) : Prop := G.2.2.1[0]? = some (E.1, .int) ∧ G.2.2.1[1]? = some (E.2.1, .object "CodeYard$Code") ∧ cy_inj E
theorem cy_rw_kept {E : cy_E} {M M' : cy_Hp} {r : Nat} {xs : List Int32} (h : cy_rw E M r xs) (h1 : M' (E.2.2.1 (2 * r)) = M (E.2.2.1 (2 * r))) (h2 : M' (E.2.2.1 (2 * r + 1)) = M (E.2.2.1 (2 * r + 1))) : cy_rw E M' r xs := by
  obtain ⟨f, a, b, c⟩ := h
  exact ⟨f, h1.trans a, h2.trans b, c⟩
def cy_sr (s : cy_S) (r : Nat) (xs : List Int32) : cy_S := (cy_up s.1 r xs, s.2)
/-- one row has changed -/
theorem cy_R_row {E : cy_E} {s : cy_S} {M M' : cy_Hp} (hi : cy_inj E) (h : cy_R E s M) {r : Nat} (hr : r < 58) {xs : List Int32} (hM : ∀ a, a ≠ E.2.2.1 (2 * r) → a ≠ E.2.2.1 (2 * r + 1) → M' a = M a) (hx : cy_rw E M' r xs) : cy_R E (cy_sr s r xs) M' := by
  obtain ⟨h1, h2, h3, h4, h5, h6, h7, h8, h9⟩ := h
  have key : ∀ k, k < 138 → k ≠ 2 * r → k ≠ 2 * r + 1 → M' (E.2.2.1 k) = M (E.2.2.1 k) := fun k hk a b => hM _ (hi k (2 * r) hk (by omega) a) (hi k (2 * r + 1) hk (by omega) b)
  refine ⟨fun q hq => ?_, fun k hk => (key _ (by omega) (by omega) (by omega)).trans (h2 k hk), fun j hj => ⟨(key _ (by omega) (by omega) (by omega)).trans (h3 j hj).1, (h3 j hj).2⟩, (key _ (by omega) (by omega) (by omega)).trans h4, (key _ (by omega) (by omega) (by omega)).trans h5, (key _ (by omega) (by omega) (by omega)).trans h6, ⟨(key _ (by omega) (by omega) (by omega)).trans h7.1, h7.2⟩, (key _ (by omega) (by omega) (by omega)).trans h8, fun a ha => (hM a (ha _ (by omega)) (ha _ (by omega))).trans (h9 a ha)⟩
  by_cases hqr : q = r
  · subst hqr
    show cy_rw E M' q (cy_up s.1 q xs q)
    rw [cy_up_self]; exact hx
  · show cy_rw E M' q (cy_up s.1 r xs q)
    rw [cy_up_ne _ _ hqr]
    exact cy_rw_kept (h1 q hq) (key _ (by omega) (by omega) (by omega)) (key _ (by omega) (by omega) (by omega))
theorem cy_getD_append {xs : List Int32} {v : Int32} {j : Nat} : (xs ++ [v]).getD j 0 = if j < xs.length then xs.getD j 0 else if j = xs.length then v else 0 := by
  by_cases h : j < xs.length
  · simp [List.getD_eq_getElem?_getD, List.getElem?_append_left h, h]
  · rw [if_neg h]
    by_cases h2 : j = xs.length
    · subst h2; simp [List.getD_eq_getElem?_getD]
    · rw [if_neg h2]
      have : xs.length < j := by omega
      simp [List.getD_eq_getElem?_getD, List.getElem?_append_right (Nat.le_of_lt this)]
      rw [List.getElem?_eq_none (by simp; omega)]
      rfl
theorem rp_row {E : cy_E} {s : cy_S} {M : cy_Hp} (h : cy_R E s M) {r : Nat} (hr : r < 58) : M (E.2.2.1 (2 * r)) = some (.inr (0, [.ref (E.2.2.1 (2 * r + 1)), .int (nI (s.1 r).length)])) := by
  obtain ⟨f, h1, -⟩ := h.1 r hr
  exact h1
theorem rp_code {E : cy_E} {s : cy_S} {M : cy_Hp} (h : cy_R E s M) {k : Nat} (hk : k < 9) : M (E.2.2.1 (116 + k)) = some (cy_code E k) := h.2.1 k hk
theorem rp_frame {E : cy_E} {s : cy_S} {M : cy_Hp} (h : cy_R E s M) {j : Nat} (hj : j < 8) : M (E.2.2.1 (125 + j)) = some (cy_frame E j (s.2.1 j)) := (h.2.2.1 j hj).1
theorem rp_fc {E : cy_E} {s : cy_S} {M : cy_Hp} (h : cy_R E s M) {j : Nat} (hj : j < 8) : (s.2.1 j).1 < 9 := (h.2.2.1 j hj).2
theorem rp_yard {E : cy_E} {s : cy_S} {M : cy_Hp} (h : cy_R E s M) : M (E.2.2.1 133) = some (cy_yard E) := h.2.2.2.1
theorem rp_shelf {E : cy_E} {s : cy_S} {M : cy_Hp} (h : cy_R E s M) : M (E.2.2.1 134) = some (cy_shelf E) := h.2.2.2.2.1
theorem rp_survey {E : cy_E} {s : cy_S} {M : cy_Hp} (h : cy_R E s M) : M (E.2.2.1 135) = some (cy_survey E s.2.2.2) := h.2.2.2.2.2.1
theorem rp_run {E : cy_E} {s : cy_S} {M : cy_Hp} (h : cy_R E s M) : M (E.2.2.1 136) = some (cy_run_ E s.2.2.1) := h.2.2.2.2.2.2.1.1
theorem rp_work {E : cy_E} {s : cy_S} {M : cy_Hp} (h : cy_R E s M) : s.2.2.1.1 < 8 := h.2.2.2.2.2.2.1.2
theorem rp_codes {E : cy_E} {s : cy_S} {M : cy_Hp} (h : cy_R E s M) : M (E.2.2.1 137) = some (cy_codes E) := h.2.2.2.2.2.2.2.1
theorem rp_rest {E : cy_E} {s : cy_S} {M : cy_Hp} (h : cy_R E s M) : ∀ a, (∀ k, k < 138 → a ≠ E.2.2.1 k) → M a = E.2.2.2 a := h.2.2.2.2.2.2.2.2
theorem cy_R_run {E : cy_E} {s : cy_S} {M : cy_Hp} (hi : cy_inj E) (h : cy_R E s M) (q : Nat × Int32 × Int32 × Int32 × Int32 × Int32) (hq : q.1 < 8) : cy_R E (s.1, s.2.1, q, s.2.2.2) (cy_set M (E.2.2.1 136) (cy_run_ E q)) := by
  have key : ∀ k, k < 138 → k ≠ 136 → cy_set M (E.2.2.1 136) (cy_run_ E q) (E.2.2.1 k) = M (E.2.2.1 k) := fun k hk a => cy_set_ne _ _ (hi k 136 hk (by omega) a)
  exact ⟨fun r hr => cy_rw_kept (h.1 r hr) (key _ (by omega) (by omega)) (key _ (by omega) (by omega)), fun k hk => (key _ (by omega) (by omega)).trans (rp_code h hk), fun j hj => ⟨(key _ (by omega) (by omega)).trans (rp_frame h hj), rp_fc h hj⟩, (key _ (by omega) (by omega)).trans (rp_yard (s := s) h), (key _ (by omega) (by omega)).trans (rp_shelf (s := s) h), (key _ (by omega) (by omega)).trans (rp_survey (s := s) h), ⟨cy_set_self _ _ _, hq⟩, (key _ (by omega) (by omega)).trans (rp_codes (s := s) h), fun a ha => (cy_set_ne _ _ (ha 136 (by omega))).trans (rp_rest h a ha)⟩
theorem cy_R_sv {E : cy_E} {s : cy_S} {M : cy_Hp} (hi : cy_inj E) (h : cy_R E s M) (q : Int32 × Int32 × Int32) : cy_R E (s.1, s.2.1, s.2.2.1, q) (cy_set M (E.2.2.1 135) (cy_survey E q)) := by
  have key : ∀ k, k < 138 → k ≠ 135 → cy_set M (E.2.2.1 135) (cy_survey E q) (E.2.2.1 k) = M (E.2.2.1 k) := fun k hk a => cy_set_ne _ _ (hi k 135 hk (by omega) a)
  exact ⟨fun r hr => cy_rw_kept (h.1 r hr) (key _ (by omega) (by omega)) (key _ (by omega) (by omega)), fun k hk => (key _ (by omega) (by omega)).trans (rp_code h hk), fun j hj => ⟨(key _ (by omega) (by omega)).trans (rp_frame h hj), rp_fc h hj⟩, (key _ (by omega) (by omega)).trans (rp_yard (s := s) h), (key _ (by omega) (by omega)).trans (rp_shelf (s := s) h), cy_set_self _ _ _, ⟨(key _ (by omega) (by omega)).trans (rp_run (s := s) h), rp_work (s := s) h⟩, (key _ (by omega) (by omega)).trans (rp_codes (s := s) h), fun a ha => (cy_set_ne _ _ (ha 135 (by omega))).trans (rp_rest h a ha)⟩
theorem cy_R_fr {E : cy_E} {s : cy_S} {M : cy_Hp} (hi : cy_inj E) (h : cy_R E s M) {j : Nat} (hj : j < 8) (q : Nat × Int32) (hq : q.1 < 9) : cy_R E (s.1, cy_up s.2.1 j q, s.2.2) (cy_set M (E.2.2.1 (125 + j)) (cy_frame E j q)) := by
  have key : ∀ k, k < 138 → k ≠ 125 + j → cy_set M (E.2.2.1 (125 + j)) (cy_frame E j q) (E.2.2.1 k) = M (E.2.2.1 k) := fun k hk a => cy_set_ne _ _ (hi k (125 + j) hk (by omega) a)
  refine ⟨fun r hr => cy_rw_kept (h.1 r hr) (key _ (by omega) (by omega)) (key _ (by omega) (by omega)), fun k hk => (key _ (by omega) (by omega)).trans (rp_code h hk), fun j2 hj2 => ?_, (key _ (by omega) (by omega)).trans (rp_yard (s := s) h), (key _ (by omega) (by omega)).trans (rp_shelf (s := s) h), (key _ (by omega) (by omega)).trans (rp_survey (s := s) h), ⟨(key _ (by omega) (by omega)).trans (rp_run (s := s) h), rp_work (s := s) h⟩, (key _ (by omega) (by omega)).trans (rp_codes (s := s) h), fun a ha => (cy_set_ne _ _ (ha (125 + j) (by omega))).trans (rp_rest h a ha)⟩
  by_cases e : j2 = j
  · subst e
    refine ⟨?_, ?_⟩
    · rw [cy_set_self]; show some (cy_frame E j2 q) = some (cy_frame E j2 (cy_up s.2.1 j2 q j2)); rw [cy_up_self]
    · show (cy_up s.2.1 j2 q j2).1 < 9; rw [cy_up_self]; exact hq
  · refine ⟨(key _ (by omega) (by omega)).trans ?_, ?_⟩
    · show M (E.2.2.1 (125 + j2)) = some (cy_frame E j2 (cy_up s.2.1 j q j2)); rw [cy_up_ne _ _ e]; exact rp_frame h hj2
    · show (cy_up s.2.1 j q j2).1 < 9; rw [cy_up_ne _ _ e]; exact rp_fc h hj2
def cy_s_work (s : cy_S) (v : Nat) : cy_S := (s.1, s.2.1, (v, s.2.2.1.2), s.2.2.2)
def cy_s_begun (s : cy_S) (v : Int32) : cy_S := (s.1, s.2.1, (s.2.2.1.1, v, s.2.2.1.2.2), s.2.2.2)
def cy_s_status (s : cy_S) (v : Int32) : cy_S := (s.1, s.2.1, (s.2.2.1.1, s.2.2.1.2.1, v, s.2.2.1.2.2.2), s.2.2.2)
def cy_s_result (s : cy_S) (v : Int32) : cy_S := (s.1, s.2.1, (s.2.2.1.1, s.2.2.1.2.1, s.2.2.1.2.2.1, v, s.2.2.1.2.2.2.2), s.2.2.2)
def cy_s_reason (s : cy_S) (v : Int32) : cy_S := (s.1, s.2.1, (s.2.2.1.1, s.2.2.1.2.1, s.2.2.1.2.2.1, s.2.2.1.2.2.2.1, v, s.2.2.1.2.2.2.2.2), s.2.2.2)
def cy_s_done (s : cy_S) (v : Int32) : cy_S := (s.1, s.2.1, (s.2.2.1.1, s.2.2.1.2.1, s.2.2.1.2.2.1, s.2.2.1.2.2.2.1, s.2.2.1.2.2.2.2.1, v), s.2.2.2)
def cy_s_instructions (s : cy_S) (v : Int32) : cy_S := (s.1, s.2.1, s.2.2.1, (v, s.2.2.2.2))
def cy_s_lastStart (s : cy_S) (v : Int32) : cy_S := (s.1, s.2.1, s.2.2.1, (s.2.2.2.1, v, s.2.2.2.2.2))
def cy_s_searchFrom (s : cy_S) (v : Int32) : cy_S := (s.1, s.2.1, s.2.2.1, (s.2.2.2.1, s.2.2.2.2.1, v))
def cy_sf_code (s : cy_S) (j k : Nat) : cy_S := (s.1, cy_up s.2.1 j (k, (s.2.1 j).2), s.2.2)
def cy_sf_place (s : cy_S) (j : Nat) (v : Int32) : cy_S := (s.1, cy_up s.2.1 j ((s.2.1 j).1, v), s.2.2)
section CYP
variable {G : cy_G} {E : cy_E} {s : cy_S} {M : cy_Hp}
theorem rp_p_work (hE : cy_Eo G E) (h : cy_R E s M) {v : Nat} (hv : v < 8) : cy_R E (cy_s_work s v) (cy_set M (E.2.2.1 136) (cy_run_ E (cy_s_work s v).2.2.1)) := cy_R_run hE.2.2 h _ hv
theorem rp_p_begun (hE : cy_Eo G E) (h : cy_R E s M) (v : Int32) : cy_R E (cy_s_begun s v) (cy_set M (E.2.2.1 136) (cy_run_ E (cy_s_begun s v).2.2.1)) := cy_R_run hE.2.2 h _ (rp_work h)
theorem rp_p_status (hE : cy_Eo G E) (h : cy_R E s M) (v : Int32) : cy_R E (cy_s_status s v) (cy_set M (E.2.2.1 136) (cy_run_ E (cy_s_status s v).2.2.1)) := cy_R_run hE.2.2 h _ (rp_work h)
theorem rp_p_result (hE : cy_Eo G E) (h : cy_R E s M) (v : Int32) : cy_R E (cy_s_result s v) (cy_set M (E.2.2.1 136) (cy_run_ E (cy_s_result s v).2.2.1)) := cy_R_run hE.2.2 h _ (rp_work h)
theorem rp_p_reason (hE : cy_Eo G E) (h : cy_R E s M) (v : Int32) : cy_R E (cy_s_reason s v) (cy_set M (E.2.2.1 136) (cy_run_ E (cy_s_reason s v).2.2.1)) := cy_R_run hE.2.2 h _ (rp_work h)
theorem rp_p_done (hE : cy_Eo G E) (h : cy_R E s M) (v : Int32) : cy_R E (cy_s_done s v) (cy_set M (E.2.2.1 136) (cy_run_ E (cy_s_done s v).2.2.1)) := cy_R_run hE.2.2 h _ (rp_work h)
theorem rp_p_instructions (hE : cy_Eo G E) (h : cy_R E s M) (v : Int32) : cy_R E (cy_s_instructions s v) (cy_set M (E.2.2.1 135) (cy_survey E (cy_s_instructions s v).2.2.2)) := cy_R_sv hE.2.2 h _
theorem rp_p_lastStart (hE : cy_Eo G E) (h : cy_R E s M) (v : Int32) : cy_R E (cy_s_lastStart s v) (cy_set M (E.2.2.1 135) (cy_survey E (cy_s_lastStart s v).2.2.2)) := cy_R_sv hE.2.2 h _
theorem rp_p_searchFrom (hE : cy_Eo G E) (h : cy_R E s M) (v : Int32) : cy_R E (cy_s_searchFrom s v) (cy_set M (E.2.2.1 135) (cy_survey E (cy_s_searchFrom s v).2.2.2)) := cy_R_sv hE.2.2 h _
theorem rp_p_code (hE : cy_Eo G E) (h : cy_R E s M) {j k : Nat} (hj : j < 8) (hk : k < 9) : cy_R E (cy_sf_code s j k) (cy_set M (E.2.2.1 (125 + j)) (cy_frame E j (k, (s.2.1 j).2))) := cy_R_fr hE.2.2 h hj _ hk
theorem rp_p_place (hE : cy_Eo G E) (h : cy_R E s M) {j : Nat} (hj : j < 8) (v : Int32) : cy_R E (cy_sf_place s j v) (cy_set M (E.2.2.1 (125 + j)) (cy_frame E j ((s.2.1 j).1, v))) := cy_R_fr hE.2.2 h hj _ (rp_fc h hj)
theorem rp_p_count0 (hE : cy_Eo G E) (h : cy_R E s M) {r : Nat} (hr : r < 58) : cy_R E (cy_sr s r []) (cy_set M (E.2.2.1 (2 * r)) (.inr (0, [.ref (E.2.2.1 (2 * r + 1)), .int 0]))) := by
  obtain ⟨f, h1, h2, h3, h4⟩ := h.1 r hr
  have hne := hE.2.2 (2 * r) (2 * r + 1) (by omega) (by omega) (by omega)
  refine cy_R_row hE.2.2 h hr (fun a ha hb => cy_set_ne _ _ ha) ⟨f, ?_, ?_, Nat.zero_le _, fun j hj => absurd hj (Nat.not_lt_zero _)⟩
  · rw [cy_set_self]; rfl
  · rw [cy_set_ne _ _ (Ne.symm hne)]; exact h2
end CYP
theorem wm_gen {G : cy_G} {F : cy_F} {nL kc ks pc : Nat} {lv : List (Nat × Value)} {st : List Value} {E : cy_E} {s : cy_S} {M : cy_Hp} (h : cy_R E s M) (k : ∀ M1, cy_R E s M1 → WM G F nL kc ks pc lv st M1) : WM G F nL kc ks pc lv st M := k M h
theorem cy_ki {G : cy_G} {F : cy_F} {nL kc ks pc d mc ms : Nat} {i : cy_I} {av : List Value} {lv : List (Nat × Value)} {rest : List Value} {M : cy_Hp} (h : cy_Ct G d i av M mc ms (fun r M' => ∃ v, r = some v ∧ WM G F nL kc ks pc lv (v :: rest) M')) : cy_Ct G d i av M mc ms (fun r M' => WM G F nL kc ks pc lv (r.toList ++ rest) M') := h.mono (fun r M' q => by obtain ⟨v, rfl, q⟩ := q; exact q)
theorem cy_kv {G : cy_G} {F : cy_F} {nL kc ks pc d mc ms : Nat} {i : cy_I} {av : List Value} {lv : List (Nat × Value)} {rest : List Value} {M : cy_Hp} (h : cy_Ct G d i av M mc ms (fun r M' => r = none ∧ WM G F nL kc ks pc lv rest M')) : cy_Ct G d i av M mc ms (fun r M' => WM G F nL kc ks pc lv (r.toList ++ rest) M') := h.mono (fun r M' q => by obtain ⟨rfl, q⟩ := q; exact q)
theorem rb6 {k : Nat} (h : k < 9) : 6 + 4 * k < 58 := by omega
theorem rb7 {k : Nat} (h : k < 9) : 7 + 4 * k < 58 := by omega
theorem rb8 {k : Nat} (h : k < 9) : 8 + 4 * k < 58 := by omega
theorem rb9 {k : Nat} (h : k < 9) : 9 + 4 * k < 58 := by omega
theorem rb42 {j : Nat} (h : j < 8) : 42 + 2 * j < 58 := by omega
theorem rb43 {j : Nat} (h : j < 8) : 43 + 2 * j < 58 := by omega
end
section
def cy_at (f : Nat → Int32) (n : Nat) (i o : Int32) : Int32 := if i < 0 then o else if nI n ≤ i then o else f i.toNatClampNeg
theorem cy_inOf {i : Int32} {n cap : Nat} (h0 : ¬ i < 0) (h1 : ¬ nI n ≤ i) (hn : n ≤ cap) (hc : cap < 2 ^ 31) : vp_in i cap := by
  obtain ⟨j, hj, rfl⟩ := nI_of h0
  rcases Nat.lt_or_ge j n with h | h
  · exact vp_in_nI (Nat.lt_of_lt_of_le h hn) hc
  · exact absurd (nI_le h hj) h1
theorem cy_le_tr {a b c : Int32} (h : a ≤ b) (h2 : b ≤ c) : a ≤ c := Int32.le_trans h h2
set_option maxHeartbeats 4000000 in
theorem t_Row_at {G : cy_G} {cI : ClassId} (hG : G.2.2.1[0]? = some (cI, .int)) {M : cy_Hp} {r a cap n : Nat} {f : Nat → Int32} (hr : M r = some (.inr (0, [.ref a, .int (nI n)]))) (ha : M a = some (.inl (cI, cap, .inl f))) (hra : r ≠ a) (hn : n ≤ cap) (hc : cap < 2 ^ 31) (i o : Int32) {post : Option Value → cy_Hp → Prop} (h : post (some (.int (cy_at f n i o))) M) : cy_Ct G 0 m_Row_at [.ref r, .int i, .int o] M 0 0 post := by
  refine cy_Ct.of (by decide) (Nat.le_of_ble_eq_true rfl) ?_
  intro F C P _
  have C : cy_C G F R_Row b_Row_at 3 0 0 0 := C
  have P : cy_P G F (some .int) post 0 0 := P
  show WM G F 3 0 0 0 [(0, .ref r), (1, .int i), (2, .int o)] [] M
  refine wm_iload_n C d_Row_at_0 rfl (j := 1) rfl ?_
  refine wm_if_lt (tgt := 30) C d_Row_at_1 (by decide) (fun (h_1 : i < 0) => ?_) (fun (h_1 : ¬ i < 0) => ?_)
  · refine wm_iload_n C d_Row_at_30 rfl (j := 2) rfl ?_
    refine wm_iret C P d_Row_at_31 ?_
    rw [cy_at] at h
    simpa [h_1] using h
  · refine wm_iload_n C d_Row_at_4 rfl (j := 1) rfl ?_
    refine wm_aload_n C d_Row_at_5 rfl (j := 0) rfl ?_
    refine wm_get C co_Row hr 1 (by decide) fl_Row_19 rfl d_Row_at_6 ?_
    refine wm_icmp_ge (tgt := 30) C d_Row_at_9 (by decide) (fun (h_9 : (nI n) ≤ i) => ?_) (fun (h_9 : ¬ (nI n) ≤ i) => ?_)
    · refine wm_iload_n C d_Row_at_30 rfl (j := 2) rfl ?_
      refine wm_iret C P d_Row_at_31 ?_
      rw [cy_at] at h
      simpa [h_1, h_9] using h
    · refine wm_iload_n C d_Row_at_12 rfl (j := 1) rfl ?_
      refine wm_aload_n C d_Row_at_13 rfl (j := 0) rfl ?_
      refine wm_get C co_Row hr 0 (by decide) fl_Row_13 rfl d_Row_at_14 ?_
      refine wm_alen C ha hG d_Row_at_17 ?_
      refine wm_icmp_ge (tgt := 30) C d_Row_at_18 (by decide) (fun (h_18 : (nI cap) ≤ i) => ?_) (fun (h_18 : ¬ (nI cap) ≤ i) => ?_)
      · exact absurd (cy_le_tr (nI_le hn hc) h_18) h_9
      · refine wm_aload_n C d_Row_at_21 rfl (j := 0) rfl ?_
        refine wm_get C co_Row hr 0 (by decide) fl_Row_13 rfl d_Row_at_22 ?_
        refine wm_iload_n C d_Row_at_25 rfl (j := 1) rfl ?_
        refine wm_iald C ha hG (cy_inOf h_1 h_9 hn hc) d_Row_at_26 ?_
        refine wm_goto (tgt := 31) C d_Row_at_27 (by decide) ?_
        refine wm_iret C P d_Row_at_31 ?_
        rw [cy_at] at h
        simpa [h_1, h_9, h_18] using h
set_option maxHeartbeats 4000000 in
theorem t_Row_has {G : cy_G} {cI : ClassId} (hG : G.2.2.1[0]? = some (cI, .int)) {M : cy_Hp} {r a cap n : Nat} {f : Nat → Int32} (hr : M r = some (.inr (0, [.ref a, .int (nI n)]))) (ha : M a = some (.inl (cI, cap, .inl f))) (hra : r ≠ a) (hn : n ≤ cap) (hc : cap < 2 ^ 31) (i : Int32) {post : Option Value → cy_Hp → Prop} (h : post (some (.int (if i < 0 then 0 else if nI n ≤ i then 0 else 1))) M) : cy_Ct G 0 m_Row_has [.ref r, .int i] M 0 0 post := by
  refine cy_Ct.of (by decide) (Nat.le_of_ble_eq_true rfl) ?_
  intro F C P _
  have C : cy_C G F R_Row b_Row_has 2 0 0 0 := C
  have P : cy_P G F (some .boolean) post 0 0 := P
  show WM G F 2 0 0 0 [(0, .ref r), (1, .int i)] [] M
  refine wm_iload_n C d_Row_has_0 rfl (j := 1) rfl ?_
  refine wm_if_lt (tgt := 25) C d_Row_has_1 (by decide) (fun (h_1 : i < 0) => ?_) (fun (h_1 : ¬ i < 0) => ?_)
  · refine wm_iconst (v := 0) C d_Row_has_25 (by decide) ?_
    refine wm_zret C P rfl d_Row_has_26 ?_
    simpa [h_1] using h
  · refine wm_iload_n C d_Row_has_4 rfl (j := 1) rfl ?_
    refine wm_aload_n C d_Row_has_5 rfl (j := 0) rfl ?_
    refine wm_get C co_Row hr 1 (by decide) fl_Row_19 rfl d_Row_has_6 ?_
    refine wm_icmp_ge (tgt := 25) C d_Row_has_9 (by decide) (fun (h_9 : (nI n) ≤ i) => ?_) (fun (h_9 : ¬ (nI n) ≤ i) => ?_)
    · refine wm_iconst (v := 0) C d_Row_has_25 (by decide) ?_
      refine wm_zret C P rfl d_Row_has_26 ?_
      simpa [h_1, h_9] using h
    · refine wm_iload_n C d_Row_has_12 rfl (j := 1) rfl ?_
      refine wm_aload_n C d_Row_has_13 rfl (j := 0) rfl ?_
      refine wm_get C co_Row hr 0 (by decide) fl_Row_13 rfl d_Row_has_14 ?_
      refine wm_alen C ha hG d_Row_has_17 ?_
      refine wm_icmp_ge (tgt := 25) C d_Row_has_18 (by decide) (fun (h_18 : (nI cap) ≤ i) => ?_) (fun (h_18 : ¬ (nI cap) ≤ i) => ?_)
      · exact absurd (cy_le_tr (nI_le hn hc) h_18) h_9
      · refine wm_iconst (v := 1) C d_Row_has_21 (by decide) ?_
        refine wm_goto (tgt := 26) C d_Row_has_22 (by decide) ?_
        refine wm_zret C P rfl d_Row_has_26 ?_
        simpa [h_1, h_9, h_18] using h
set_option maxHeartbeats 4000000 in
theorem t_Row_put {G : cy_G} {cI : ClassId} (hG : G.2.2.1[0]? = some (cI, .int)) {M : cy_Hp} {r a cap n : Nat} {f : Nat → Int32} (hr : M r = some (.inr (0, [.ref a, .int (nI n)]))) (ha : M a = some (.inl (cI, cap, .inl f))) (hra : r ≠ a) (hn : n ≤ cap) (hc : cap < 2 ^ 31) (i v : Int32) {post : Option Value → cy_Hp → Prop} (h1 : (i < 0 ∨ nI n ≤ i) → post none M) (h2 : ¬ i < 0 → ¬ nI n ≤ i → post none (cy_set M a (.inl (cI, cap, .inl (upd f i.toNatClampNeg v))))) : cy_Ct G 0 m_Row_put [.ref r, .int i, .int v] M 0 0 post := by
  refine cy_Ct.of (by decide) (Nat.le_of_ble_eq_true rfl) ?_
  intro F C P _
  have C : cy_C G F R_Row b_Row_put 3 0 0 0 := C
  have P : cy_P G F none post 0 0 := P
  show WM G F 3 0 0 0 [(0, .ref r), (1, .int i), (2, .int v)] [] M
  refine wm_iload_n C d_Row_put_0 rfl (j := 1) rfl ?_
  refine wm_if_lt (tgt := 28) C d_Row_put_1 (by decide) (fun (h_1 : i < 0) => ?_) (fun (h_1 : ¬ i < 0) => ?_)
  · refine wm_vret C P d_Row_put_28 ?_
    exact h1 (Or.inl h_1)
  · refine wm_iload_n C d_Row_put_4 rfl (j := 1) rfl ?_
    refine wm_aload_n C d_Row_put_5 rfl (j := 0) rfl ?_
    refine wm_get C co_Row hr 1 (by decide) fl_Row_19 rfl d_Row_put_6 ?_
    refine wm_icmp_ge (tgt := 28) C d_Row_put_9 (by decide) (fun (h_9 : (nI n) ≤ i) => ?_) (fun (h_9 : ¬ (nI n) ≤ i) => ?_)
    · refine wm_vret C P d_Row_put_28 ?_
      exact h1 (Or.inr h_9)
    · refine wm_iload_n C d_Row_put_12 rfl (j := 1) rfl ?_
      refine wm_aload_n C d_Row_put_13 rfl (j := 0) rfl ?_
      refine wm_get C co_Row hr 0 (by decide) fl_Row_13 rfl d_Row_put_14 ?_
      refine wm_alen C ha hG d_Row_put_17 ?_
      refine wm_icmp_ge (tgt := 28) C d_Row_put_18 (by decide) (fun (h_18 : (nI cap) ≤ i) => ?_) (fun (h_18 : ¬ (nI cap) ≤ i) => ?_)
      · exact absurd (cy_le_tr (nI_le hn hc) h_18) h_9
      · refine wm_aload_n C d_Row_put_21 rfl (j := 0) rfl ?_
        refine wm_get C co_Row hr 0 (by decide) fl_Row_13 rfl d_Row_put_22 ?_
        refine wm_iload_n C d_Row_put_25 rfl (j := 1) rfl ?_
        refine wm_iload_n C d_Row_put_26 rfl (j := 2) rfl ?_
        refine wm_iast C ha hG (cy_inOf h_1 h_9 hn hc) d_Row_put_27 ?_
        refine wm_vret C P d_Row_put_28 ?_
        exact h2 h_1 h_9
set_option maxHeartbeats 4000000 in
theorem t_Row_add {G : cy_G} {cI : ClassId} (hG : G.2.2.1[0]? = some (cI, .int)) {M : cy_Hp} {r a cap n : Nat} {f : Nat → Int32} (hr : M r = some (.inr (0, [.ref a, .int (nI n)]))) (ha : M a = some (.inl (cI, cap, .inl f))) (hra : r ≠ a) (hn : n ≤ cap) (hc : cap < 2 ^ 31) (v : Int32) {post : Option Value → cy_Hp → Prop} (h1 : cap ≤ n → post none M) (h2 : n < cap → post none (cy_set (cy_set M a (.inl (cI, cap, .inl (upd f n v)))) r (.inr (0, [.ref a, .int (nI (n + 1))])))) : cy_Ct G 0 m_Row_add [.ref r, .int v] M 0 0 post := by
  refine cy_Ct.of (by decide) (Nat.le_of_ble_eq_true rfl) ?_
  intro F C P _
  have C : cy_C G F R_Row b_Row_add 2 0 0 0 := C
  have P : cy_P G F none post 0 0 := P
  show WM G F 2 0 0 0 [(0, .ref r), (1, .int v)] [] M
  have hn31 : n < 2 ^ 31 := Nat.lt_of_le_of_lt hn hc
  refine wm_aload_n C d_Row_add_0 rfl (j := 0) rfl ?_
  refine wm_get C co_Row hr 1 (by decide) fl_Row_19 rfl d_Row_add_1 ?_
  refine wm_if_lt (tgt := 39) C d_Row_add_4 (by decide) (fun (h_4 : (nI n) < 0) => ?_) (fun (h_4 : ¬ (nI n) < 0) => ?_)
  · exact absurd h_4 (nI_pos hn31)
  · refine wm_aload_n C d_Row_add_7 rfl (j := 0) rfl ?_
    refine wm_get C co_Row hr 1 (by decide) fl_Row_19 rfl d_Row_add_8 ?_
    refine wm_aload_n C d_Row_add_11 rfl (j := 0) rfl ?_
    refine wm_get C co_Row hr 0 (by decide) fl_Row_13 rfl d_Row_add_12 ?_
    refine wm_alen C ha hG d_Row_add_15 ?_
    refine wm_icmp_ge (tgt := 39) C d_Row_add_16 (by decide) (fun (h_16 : (nI cap) ≤ (nI n)) => ?_) (fun (h_16 : ¬ (nI cap) ≤ (nI n)) => ?_)
    · refine wm_vret C P d_Row_add_39 ?_
      exact h1 ((nI_leI hc hn31).mp h_16)
    · refine wm_aload_n C d_Row_add_19 rfl (j := 0) rfl ?_
      refine wm_get C co_Row hr 0 (by decide) fl_Row_13 rfl d_Row_add_20 ?_
      refine wm_aload_n C d_Row_add_23 rfl (j := 0) rfl ?_
      refine wm_get C co_Row hr 1 (by decide) fl_Row_19 rfl d_Row_add_24 ?_
      refine wm_iload_n C d_Row_add_27 rfl (j := 1) rfl ?_
      refine wm_iast C ha hG (vp_in_nI (Nat.lt_of_not_le fun z => h_16 (nI_le z hn31)) hc) d_Row_add_28 ?_
      refine wm_aload_n C d_Row_add_29 rfl (j := 0) rfl ?_
      refine wm_dup C d_Row_add_30 rfl ?_
      refine wm_get C co_Row ((cy_set_ne _ _ hra).trans hr) 1 (by decide) fl_Row_19 rfl d_Row_add_31 ?_
      refine wm_iconst (v := 1) C d_Row_add_34 (by decide) ?_
      refine wm_iadd C d_Row_add_35 ?_
      refine wm_put C co_Row ((cy_set_ne _ _ hra).trans hr) 1 (by decide) fl_Row_19 rfl rfl rfl (Nat.le_of_ble_eq_true rfl) d_Row_add_36 ?_
      refine wm_vret C P d_Row_add_39 ?_
      have h2 := h2 (Nat.lt_of_not_le fun z => h_16 (nI_le z hn31))
      rw [nI_clamp hn31]
      rw [← nI_1] at h2
      exact h2
set_option maxHeartbeats 4000000 in
theorem t_Row_take0 {G : cy_G} {cI : ClassId} (hG : G.2.2.1[0]? = some (cI, .int)) {M : cy_Hp} {r a cap : Nat} {f : Nat → Int32} (hr : M r = some (.inr (0, [.ref a, .int (nI 0)]))) (ha : M a = some (.inl (cI, cap, .inl f))) (hra : r ≠ a) (hn : 0 ≤ cap) (hc : cap < 2 ^ 31)  {post : Option Value → cy_Hp → Prop} (h : post (some (.int 0)) M) : cy_Ct G 0 m_Row_takeLast [.ref r] M 0 0 post := by
  refine cy_Ct.of (by decide) (Nat.le_of_ble_eq_true rfl) ?_
  intro F C P _
  have C : cy_C G F R_Row b_Row_takeLast 1 0 0 0 := C
  have P : cy_P G F (some .int) post 0 0 := P
  show WM G F 1 0 0 0 [(0, .ref r)] [] M
  refine wm_aload_n C d_Row_takeLast_0 rfl (j := 0) rfl ?_
  refine wm_get C co_Row hr 1 (by decide) fl_Row_19 rfl d_Row_takeLast_1 ?_
  refine wm_if_le (tgt := 19) C d_Row_takeLast_4 (by decide) (fun (h_4 : (nI 0) ≤ 0) => ?_) (fun (h_4 : ¬ (nI 0) ≤ 0) => ?_)
  · refine wm_iconst (v := 0) C d_Row_takeLast_19 (by decide) ?_
    refine wm_iret C P d_Row_takeLast_20 ?_
    exact h
  · exact absurd (Int32.le_refl _) h_4
set_option maxHeartbeats 4000000 in
theorem t_Row_take1 {G : cy_G} {cI : ClassId} (hG : G.2.2.1[0]? = some (cI, .int)) {M : cy_Hp} {r a cap k : Nat} {f : Nat → Int32} (hr : M r = some (.inr (0, [.ref a, .int (nI (k + 1))]))) (ha : M a = some (.inl (cI, cap, .inl f))) (hra : r ≠ a) (hn : (k + 1) ≤ cap) (hc : cap < 2 ^ 31)  {post : Option Value → cy_Hp → Prop} (h : post (some (.int (f k))) (cy_set M r (.inr (0, [.ref a, .int (nI k)])))) : cy_Ct G 0 m_Row_takeLast [.ref r] M 0 0 post := by
  refine cy_Ct.of (by decide) (Nat.le_of_ble_eq_true rfl) ?_
  intro F C P _
  have C : cy_C G F R_Row b_Row_takeLast 1 0 0 0 := C
  have P : cy_P G F (some .int) post 0 0 := P
  show WM G F 1 0 0 0 [(0, .ref r)] [] M
  refine wm_aload_n C d_Row_takeLast_0 rfl (j := 0) rfl ?_
  refine wm_get C co_Row hr 1 (by decide) fl_Row_19 rfl d_Row_takeLast_1 ?_
  refine wm_if_le (tgt := 19) C d_Row_takeLast_4 (by decide) (fun (h_4 : (nI (k + 1)) ≤ 0) => ?_) (fun (h_4 : ¬ (nI (k + 1)) ≤ 0) => ?_)
  · exact absurd h_4 (nI_nle (Nat.succ_pos k) (Nat.lt_of_le_of_lt hn hc))
  · refine wm_aload_n C d_Row_takeLast_7 rfl (j := 0) rfl ?_
    refine wm_get C co_Row hr 1 (by decide) fl_Row_19 rfl d_Row_takeLast_8 ?_
    refine wm_aload_n C d_Row_takeLast_11 rfl (j := 0) rfl ?_
    refine wm_get C co_Row hr 0 (by decide) fl_Row_13 rfl d_Row_takeLast_12 ?_
    refine wm_alen C ha hG d_Row_takeLast_15 ?_
    refine wm_icmp_le (tgt := 21) C d_Row_takeLast_16 (by decide) (fun (h_16 : (nI (k + 1)) ≤ (nI cap)) => ?_) (fun (h_16 : ¬ (nI (k + 1)) ≤ (nI cap)) => ?_)
    · refine wm_aload_n C d_Row_takeLast_21 rfl (j := 0) rfl ?_
      refine wm_dup C d_Row_takeLast_22 rfl ?_
      refine wm_get C co_Row hr 1 (by decide) fl_Row_19 rfl d_Row_takeLast_23 ?_
      refine wm_iconst (v := 1) C d_Row_takeLast_26 (by decide) ?_
      refine wm_isub C d_Row_takeLast_27 ?_
      refine wm_put C co_Row hr 1 (by decide) fl_Row_19 rfl rfl rfl (Nat.le_of_ble_eq_true rfl) d_Row_takeLast_28 ?_
      refine wm_aload_n C d_Row_takeLast_31 rfl (j := 0) rfl ?_
      refine wm_get C co_Row (cy_set_self _ _ _) 0 (by decide) fl_Row_13 rfl d_Row_takeLast_32 ?_
      refine wm_aload_n C d_Row_takeLast_35 rfl (j := 0) rfl ?_
      refine wm_get C co_Row (cy_set_self _ _ _) 1 (by decide) fl_Row_19 rfl d_Row_takeLast_36 ?_
      refine wm_iald C ((cy_set_ne _ _ (Ne.symm hra)).trans ha) hG (by rw [nI_pred]; exact vp_in_nI (Nat.lt_of_lt_of_le (Nat.lt_succ_self k) hn) hc) d_Row_takeLast_39 ?_
      refine wm_iret C P d_Row_takeLast_40 ?_
      rw [nI_pred, nI_clamp (Nat.lt_of_lt_of_le (Nat.lt_succ_self k) (Nat.le_trans hn (Nat.le_of_lt hc)))]
      exact h
    · exact absurd (nI_le hn hc) h_16
def cy_clip (i m : Int32) : Int32 := if 0 < (if m < i then m else i) then (if m < i then m else i) else 0
set_option maxHeartbeats 4000000 in
theorem t_Row_shorten {G : cy_G} {cI : ClassId} (hG : G.2.2.1[0]? = some (cI, .int)) {M : cy_Hp} {r a cap n : Nat} {f : Nat → Int32} (hr : M r = some (.inr (0, [.ref a, .int (nI n)]))) (ha : M a = some (.inl (cI, cap, .inl f))) (hra : r ≠ a) (hn : n ≤ cap) (hc : cap < 2 ^ 31) (i : Int32) {post : Option Value → cy_Hp → Prop} (h : post none (cy_set M r (.inr (0, [.ref a, .int (cy_clip i (nI n))])))) : cy_Ct G 1 m_Row_shorten [.ref r, .int i] M 0 0 post := by
  refine cy_Ct.of (by decide) (Nat.le_of_ble_eq_true rfl) ?_
  intro F C P _
  have C : cy_C G F R_Row b_Row_shorten 2 1 0 0 := C
  have P : cy_P G F none post 0 0 := P
  show WM G F 2 0 0 0 [(0, .ref r), (1, .int i)] [] M
  refine wm_aload_n C d_Row_shorten_0 rfl (j := 0) rfl ?_
  refine wm_iconst (v := 0) C d_Row_shorten_1 (by decide) ?_
  refine wm_iload_n C d_Row_shorten_2 rfl (j := 1) rfl ?_
  refine wm_aload_n C d_Row_shorten_3 rfl (j := 0) rfl ?_
  refine wm_get C co_Row hr 1 (by decide) fl_Row_19 rfl d_Row_shorten_4 ?_
  refine wm_mmin C ml_Row_23 mm_min_s mm_i mm_min_c (by decide) (Nat.le_of_ble_eq_true rfl) (Nat.zero_le _) (Nat.zero_le _) d_Row_shorten_7 ?_
  refine wm_mmax C ml_Row_7 mm_max_s mm_i mm_max_c (by decide) (Nat.le_of_ble_eq_true rfl) (Nat.zero_le _) (Nat.zero_le _) d_Row_shorten_10 ?_
  refine wm_put C co_Row hr 1 (by decide) fl_Row_19 rfl rfl rfl (Nat.le_of_ble_eq_true rfl) d_Row_shorten_13 ?_
  refine wm_vret C P d_Row_shorten_16 ?_
  exact h
set_option maxHeartbeats 4000000 in
theorem t_Row_become {G : cy_G} {cI : ClassId} (hG : G.2.2.1[0]? = some (cI, .int)) {M : cy_Hp} {r a cap n : Nat} {f : Nat → Int32} (hr : M r = some (.inr (0, [.ref a, .int (nI n)]))) (ha : M a = some (.inl (cI, cap, .inl f))) (hra : r ≠ a) (hn : n ≤ cap) (hc : cap < 2 ^ 31) (i v : Int32) {post : Option Value → cy_Hp → Prop} (N : Nat) (hN : cy_clip i (nI cap) = nI N) (hNc : N ≤ cap) (h : post none (cy_set (cy_set M r (.inr (0, [.ref a, .int (nI N)]))) a (.inl (cI, cap, .inl (fun j => if j < N then v else f j))))) : cy_Ct G 1 m_Row_become [.ref r, .int i, .int v] M 0 0 post := by
  refine cy_Ct.of (by decide) (Nat.le_of_ble_eq_true rfl) ?_
  intro F C P _
  have C : cy_C G F R_Row b_Row_become 4 1 0 0 := C
  have P : cy_P G F none post 0 0 := P
  have loop : ∀ (q j : Nat) (M1 : cy_Hp) (g : Nat → Int32), j + q = N → M1 r = some (.inr (0, [.ref a, .int (nI N)])) → M1 a = some (.inl (cI, cap, .inl g)) → post none (cy_set M1 a (.inl (cI, cap, .inl (fun t => if t < N then (if t < j then g t else v) else g t)))) → WM G F 4 0 0 19 [(3, .int (nI j)), (0, .ref r), (1, .int i), (2, .int v)] [] M1 := by
    intro q
    induction q with
    | zero =>
      intro j M1 g hj hr1 ha1 hp
      refine wm_iload_n C d_Row_become_19 rfl (j := 0) rfl ?_
      refine wm_aload_n C d_Row_become_20 rfl (j := 1) rfl ?_
      refine wm_get C co_Row hr1 1 (by decide) fl_Row_19 rfl d_Row_become_21 ?_
      refine wm_icmp_ge (tgt := 49) C d_Row_become_24 (by decide) (fun (h_24 : (nI N) ≤ (nI j)) => ?_) (fun (h_24 : ¬ (nI N) ≤ (nI j)) => ?_)
      · refine wm_vret C P d_Row_become_49 ?_
        have e : (fun t => if t < N then (if t < j then g t else v) else g t) = g := by
          funext t
          by_cases ht : t < N
          · rw [if_pos ht, if_pos (by omega)]
          · rw [if_neg ht]
        rw [e] at hp
        rw [cy_set_same ha1] at hp
        exact hp
      · exact absurd (nI_le (show N ≤ j by omega) (by omega)) h_24
    | succ q ih =>
      intro j M1 g hj hr1 ha1 hp
      refine wm_iload_n C d_Row_become_19 rfl (j := 0) rfl ?_
      refine wm_aload_n C d_Row_become_20 rfl (j := 1) rfl ?_
      refine wm_get C co_Row hr1 1 (by decide) fl_Row_19 rfl d_Row_become_21 ?_
      refine wm_icmp_ge (tgt := 49) C d_Row_become_24 (by decide) (fun (h_24 : (nI N) ≤ (nI j)) => ?_) (fun (h_24 : ¬ (nI N) ≤ (nI j)) => ?_)
      · exact absurd h_24 (nI_ge (show j < N by omega) (by omega))
      · refine wm_iload_n C d_Row_become_27 rfl (j := 0) rfl ?_
        refine wm_aload_n C d_Row_become_28 rfl (j := 1) rfl ?_
        refine wm_get C co_Row hr1 0 (by decide) fl_Row_13 rfl d_Row_become_29 ?_
        refine wm_alen C ha1 hG d_Row_become_32 ?_
        refine wm_icmp_ge (tgt := 49) C d_Row_become_33 (by decide) (fun (h_33 : (nI cap) ≤ (nI j)) => ?_) (fun (h_33 : ¬ (nI cap) ≤ (nI j)) => ?_)
        · exact absurd h_33 (nI_ge (show j < cap by omega) (by omega))
        · refine wm_aload_n C d_Row_become_36 rfl (j := 1) rfl ?_
          refine wm_get C co_Row hr1 0 (by decide) fl_Row_13 rfl d_Row_become_37 ?_
          refine wm_iload_n C d_Row_become_40 rfl (j := 0) rfl ?_
          refine wm_iload_n C d_Row_become_41 rfl (j := 3) rfl ?_
          refine wm_iast C ha1 hG (vp_in_nI (show j < cap by omega) hc) d_Row_become_42 ?_
          refine wm_iinc (v := (nI j) + 1) (lv' := [(3, .int ((nI j) + 1)), (0, .ref r), (1, .int i), (2, .int v)]) C d_Row_become_43 (k := 0) rfl rfl (by decide) rfl ?_
          refine wm_goto (tgt := 19) C d_Row_become_46 (by decide) ?_
          rw [nI_1]
          refine ih (j + 1) _ (upd g j v) (by omega) ((cy_set_ne _ _ hra).trans hr1) (by rw [cy_set_self, nI_clamp (show j < 2 ^ 31 by omega)]) ?_
          rw [cy_set_set]
          have e : (fun t => if t < N then (if t < j + 1 then upd g j v t else v) else upd g j v t) = (fun t => if t < N then (if t < j then g t else v) else g t) := by
            funext t
            by_cases h1 : t < N
            · rw [if_pos h1, if_pos h1]
              by_cases h2 : t < j
              · rw [if_pos (by omega), if_pos h2, pk_un (by omega)]
              · rw [if_neg h2]
                by_cases h3 : t < j + 1
                · rw [if_pos h3, show t = j by omega, pk_us]
                · rw [if_neg h3]
            · rw [if_neg h1, if_neg h1, pk_un (by omega)]
          rw [e]
          exact hp
  show WM G F 4 0 0 0 [(0, .ref r), (1, .int i), (2, .int v)] [] M
  refine wm_aload_n C d_Row_become_0 rfl (j := 0) rfl ?_
  refine wm_iconst (v := 0) C d_Row_become_1 (by decide) ?_
  refine wm_iload_n C d_Row_become_2 rfl (j := 1) rfl ?_
  refine wm_aload_n C d_Row_become_3 rfl (j := 0) rfl ?_
  refine wm_get C co_Row hr 0 (by decide) fl_Row_13 rfl d_Row_become_4 ?_
  refine wm_alen C ha hG d_Row_become_7 ?_
  refine wm_mmin C ml_Row_23 mm_min_s mm_i mm_min_c (by decide) (Nat.le_of_ble_eq_true rfl) (Nat.zero_le _) (Nat.zero_le _) d_Row_become_8 ?_
  refine wm_mmax C ml_Row_7 mm_max_s mm_i mm_max_c (by decide) (Nat.le_of_ble_eq_true rfl) (Nat.zero_le _) (Nat.zero_le _) d_Row_become_11 ?_
  refine wm_put C co_Row hr 1 (by decide) fl_Row_19 rfl rfl rfl (Nat.le_of_ble_eq_true rfl) d_Row_become_14 ?_
  refine wm_iconst (v := 0) C d_Row_become_17 (by decide) ?_
  refine wm_istore_n (lv' := [(3, .int 0), (0, .ref r), (1, .int i), (2, .int v)]) C d_Row_become_18 rfl (by decide) rfl ?_
  have e0 : (if 0 < (if nI cap < i then nI cap else i) then (if nI cap < i then nI cap else i) else 0) = nI N := hN
  rw [e0]
  exact loop N 0 _ f (by omega) (cy_set_self _ _ _) ((cy_set_ne _ _ (Ne.symm hra)).trans ha) (by simpa using h)
end
section
def cy_la (xs : List Int32) (i o : Int32) : Int32 := if i < 0 then o else xs.getD i.toNatClampNeg o
def cy_ladd (cap : Nat) (xs : List Int32) (v : Int32) : List Int32 := if xs.length < cap then xs ++ [v] else xs
def cy_lput (xs : List Int32) (i v : Int32) : List Int32 := if i < 0 then xs else xs.set i.toNatClampNeg v
def cy_lcut (xs : List Int32) (i : Int32) : List Int32 := xs.take i.toNatClampNeg
def cy_lfill (cap : Nat) (i v : Int32) : List Int32 := List.replicate (min i.toNatClampNeg cap) v
theorem cy_rwo {E : cy_E} {M : cy_Hp} {r : Nat} {xs : List Int32} (h : cy_rw E M r xs) : M (E.2.2.1 (2 * r)) = some (.inr (0, [.ref (E.2.2.1 (2 * r + 1)), .int (nI xs.length)])) := by
  obtain ⟨f, h1, -⟩ := h
  exact h1
theorem cy_at_la {f : Nat → Int32} {xs : List Int32} (hx : xs.length < 2 ^ 31) (hf : ∀ j, j < xs.length → f j = xs.getD j 0) (i o : Int32) : cy_at f xs.length i o = cy_la xs i o := by
  unfold cy_at cy_la
  by_cases h : i < 0
  · rw [if_pos h, if_pos h]
  · rw [if_neg h, if_neg h]
    obtain ⟨j, hj, rfl⟩ := nI_of h
    rw [nI_clamp hj]
    by_cases h2 : xs.length ≤ j
    · rw [if_pos (nI_le h2 hj), List.getD_eq_getElem?_getD, List.getElem?_eq_none h2]
      rfl
    · have h3 : j < xs.length := Nat.lt_of_not_le h2
      rw [if_neg (nI_ge h3 hx), hf j h3, List.getD_eq_getElem?_getD, List.getD_eq_getElem?_getD, List.getElem?_eq_getElem h3]
      rfl
section CYW
variable {G : cy_G} {E : cy_E} {s : cy_S} {M : cy_Hp} {post : Option Value → cy_Hp → Prop}
theorem c_at (hE : cy_Eo G E) (hR : cy_R E s M) {r : Nat} (hr : r < 58) (i o : Int32) (h : post (some (.int (cy_la (s.1 r) i o))) M) : cy_Ct G 0 m_Row_at [.ref (E.2.2.1 (2 * r)), .int i, .int o] M 0 0 post := by
  obtain ⟨f, h1, h2, h3, h4⟩ := hR.1 r hr
  refine t_Row_at hE.1 h1 h2 (hE.2.2 _ _ (by omega) (by omega) (by omega)) h3 (cy_cap_lt r) i o ?_
  rw [cy_at_la (Nat.lt_of_le_of_lt h3 (cy_cap_lt r)) h4]
  exact h
theorem c_has (hE : cy_Eo G E) (hR : cy_R E s M) {r : Nat} (hr : r < 58) (i : Int32) (h : post (some (.int (if i < 0 then 0 else if nI (s.1 r).length ≤ i then 0 else 1))) M) : cy_Ct G 0 m_Row_has [.ref (E.2.2.1 (2 * r)), .int i] M 0 0 post := by
  obtain ⟨f, h1, h2, h3, h4⟩ := hR.1 r hr
  exact t_Row_has hE.1 h1 h2 (hE.2.2 _ _ (by omega) (by omega) (by omega)) h3 (cy_cap_lt r) i h
theorem c_add (hE : cy_Eo G E) (hR : cy_R E s M) {r : Nat} (hr : r < 58) (v : Int32) (h : ∀ M', cy_R E (cy_sr s r (cy_ladd (cy_cap r) (s.1 r) v)) M' → post none M') : cy_Ct G 0 m_Row_add [.ref (E.2.2.1 (2 * r)), .int v] M 0 0 post := by
  obtain ⟨f, h1, h2, h3, h4⟩ := hR.1 r hr
  have hne := hE.2.2 (2 * r) (2 * r + 1) (by omega) (by omega) (by omega)
  refine t_Row_add hE.1 h1 h2 hne h3 (cy_cap_lt r) v (fun hx => h _ ?_) (fun hx => h _ ?_)
  · rw [cy_ladd, if_neg (Nat.not_lt.mpr hx)]
    exact cy_R_row hE.2.2 hR hr (fun _ _ _ => rfl) (hR.1 r hr)
  · rw [cy_ladd, if_pos hx]
    refine cy_R_row hE.2.2 hR hr (fun a ha hb => by rw [cy_set_ne _ _ ha, cy_set_ne _ _ hb]) ⟨upd f (s.1 r).length v, ?_, ?_, by simp; omega, fun j hj => ?_⟩
    · rw [cy_set_self]; simp
    · rw [cy_set_ne _ _ (Ne.symm hne), cy_set_self]
    · rw [cy_getD_append]
      simp at hj
      by_cases hjl : j < (s.1 r).length
      · rw [if_pos hjl, pk_un (by omega), h4 j hjl]
      · rw [if_neg hjl, if_pos (by omega), show j = (s.1 r).length by omega, pk_us]
theorem c_put (hE : cy_Eo G E) (hR : cy_R E s M) {r : Nat} (hr : r < 58) (i v : Int32) (h : ∀ M', cy_R E (cy_sr s r (cy_lput (s.1 r) i v)) M' → post none M') : cy_Ct G 0 m_Row_put [.ref (E.2.2.1 (2 * r)), .int i, .int v] M 0 0 post := by
  obtain ⟨f, h1, h2, h3, h4⟩ := hR.1 r hr
  have hne := hE.2.2 (2 * r) (2 * r + 1) (by omega) (by omega) (by omega)
  have hl31 : (s.1 r).length < 2 ^ 31 := Nat.lt_of_le_of_lt h3 (cy_cap_lt r)
  refine t_Row_put hE.1 h1 h2 hne h3 (cy_cap_lt r) i v (fun hx => h _ ?_) (fun hx hy => h _ ?_)
  · have e : cy_lput (s.1 r) i v = s.1 r := by
      unfold cy_lput
      by_cases h0 : i < 0
      · rw [if_pos h0]
      · rw [if_neg h0]
        obtain ⟨j, hj, rfl⟩ := nI_of h0
        rw [nI_clamp hj]
        rcases hx with hx | hx
        · exact absurd hx h0
        · refine List.set_eq_of_length_le ?_
          exact (nI_leI hl31 hj).mp hx
    rw [e]
    exact cy_R_row hE.2.2 hR hr (fun _ _ _ => rfl) (hR.1 r hr)
  · obtain ⟨j, hj, rfl⟩ := nI_of hx
    rw [cy_lput, if_neg hx]
    rw [nI_clamp hj]
    have hjl : j < (s.1 r).length := Nat.lt_of_not_le fun q => hy (nI_le q hj)
    refine cy_R_row hE.2.2 hR hr (fun a ha hb => by rw [cy_set_ne _ _ hb]) ⟨upd f j v, ?_, ?_, by simp; exact h3, fun t ht => ?_⟩
    · rw [cy_set_ne _ _ hne, h1]; simp
    · rw [cy_set_self]
    · rw [set_getD v hjl]
      simp at ht
      by_cases htj : t = j
      · rw [if_pos htj, htj, pk_us]
      · rw [if_neg htj, pk_un htj, h4 t ht]
theorem c_take (hE : cy_Eo G E) (hR : cy_R E s M) {r : Nat} (hr : r < 58) (h : ∀ M', cy_R E (cy_sr s r (s.1 r).dropLast) M' → post (some (.int ((s.1 r).getLastD 0))) M') : cy_Ct G 0 m_Row_takeLast [.ref (E.2.2.1 (2 * r))] M 0 0 post := by
  obtain ⟨f, h1, h2, h3, h4⟩ := hR.1 r hr
  have hne := hE.2.2 (2 * r) (2 * r + 1) (by omega) (by omega) (by omega)
  rcases List.eq_nil_or_concat (s.1 r) with e | ⟨xs, v, e⟩
  · rw [e] at h1 h3
    refine t_Row_take0 hE.1 h1 h2 hne h3 (cy_cap_lt r) ?_
    have h := h M (by rw [e]; exact cy_R_row hE.2.2 hR hr (fun _ _ _ => rfl) (by have := hR.1 r hr; rw [e] at this; exact this))
    rw [e] at h
    exact h
  · rw [List.concat_eq_append] at e
    rw [e, List.length_append] at h1 h3
    refine t_Row_take1 (k := xs.length) hE.1 h1 h2 hne h3 (cy_cap_lt r) ?_
    have hv : f xs.length = v := by
      rw [h4 xs.length (by rw [e]; simp), e, cy_getD_append, if_neg (Nat.lt_irrefl _), if_pos rfl]
    rw [hv]
    have h := h (cy_set M (E.2.2.1 (2 * r)) (.inr (0, [.ref (E.2.2.1 (2 * r + 1)), .int (nI xs.length)]))) (by
      rw [e, List.dropLast_concat]
      refine cy_R_row hE.2.2 hR hr (fun a ha hb => by rw [cy_set_ne _ _ ha]) ⟨f, ?_, ?_, by simp at h3; omega, fun t ht => ?_⟩
      · rw [cy_set_self]
      · rw [cy_set_ne _ _ (Ne.symm hne)]; exact h2
      · rw [h4 t (by rw [e]; simp; omega), e, cy_getD_append, if_pos ht])
    rw [e] at h
    simpa using h
theorem cy_clip_eq (i : Int32) {n : Nat} (hn : n < 2 ^ 31) : cy_clip i (nI n) = nI (min i.toNatClampNeg n) := by
  unfold cy_clip
  by_cases h : i < 0
  · have e1 : ¬ nI n < i := fun q => absurd (Int32.lt_trans q h) (nI_pos hn)
    have e2 : i.toNatClampNeg = 0 := by
      rw [Int32.lt_iff_toInt_lt, Int32.toInt_zero] at h
      show i.toInt.toNat = 0
      omega
    rw [if_neg e1, if_neg (fun q => Int32.lt_irrefl (Int32.lt_trans q h)), e2, Nat.zero_min, nI_0]
  · obtain ⟨j, hj, rfl⟩ := nI_of h
    rw [nI_clamp hj]
    by_cases h2 : n < j
    · rw [if_pos (nI_lt h2 hj), Nat.min_eq_right (Nat.le_of_lt h2)]
      by_cases h3 : 0 < n
      · rw [if_pos (by rw [← nI_0]; exact nI_lt h3 hn)]
      · rw [show n = 0 by omega, nI_0]; rfl
    · rw [if_neg (nI_nlt (Nat.le_of_not_lt h2) hn), Nat.min_eq_left (Nat.le_of_not_lt h2)]
      by_cases h3 : 0 < j
      · rw [if_pos (by rw [← nI_0]; exact nI_lt h3 hj)]
      · rw [show j = 0 by omega, nI_0]; rfl
theorem c_cut (hE : cy_Eo G E) (hR : cy_R E s M) {r : Nat} (hr : r < 58) (i : Int32) (h : ∀ M', cy_R E (cy_sr s r (cy_lcut (s.1 r) i)) M' → post none M') : cy_Ct G 1 m_Row_shorten [.ref (E.2.2.1 (2 * r)), .int i] M 0 0 post := by
  obtain ⟨f, h1, h2, h3, h4⟩ := hR.1 r hr
  have hne := hE.2.2 (2 * r) (2 * r + 1) (by omega) (by omega) (by omega)
  refine t_Row_shorten hE.1 h1 h2 hne h3 (cy_cap_lt r) i (h _ ?_)
  rw [cy_clip_eq i (Nat.lt_of_le_of_lt h3 (cy_cap_lt r))]
  refine cy_R_row hE.2.2 hR hr (fun a ha hb => by rw [cy_set_ne _ _ ha]) ⟨f, ?_, ?_, by simp [cy_lcut]; omega, fun t ht => ?_⟩
  · rw [cy_set_self, cy_lcut, List.length_take]
  · rw [cy_set_ne _ _ (Ne.symm hne)]; exact h2
  · have ht2 : t < i.toNatClampNeg ∧ t < (s.1 r).length := by
      rw [cy_lcut, List.length_take] at ht
      omega
    rw [h4 t ht2.2, cy_lcut, List.getD_eq_getElem?_getD, List.getD_eq_getElem?_getD, List.getElem?_take, if_pos ht2.1]
theorem c_fill (hE : cy_Eo G E) (hR : cy_R E s M) {r : Nat} (hr : r < 58) (i v : Int32) (h : ∀ M', cy_R E (cy_sr s r (cy_lfill (cy_cap r) i v)) M' → post none M') : cy_Ct G 1 m_Row_become [.ref (E.2.2.1 (2 * r)), .int i, .int v] M 0 0 post := by
  obtain ⟨f, h1, h2, h3, h4⟩ := hR.1 r hr
  have hne := hE.2.2 (2 * r) (2 * r + 1) (by omega) (by omega) (by omega)
  refine t_Row_become hE.1 h1 h2 hne h3 (cy_cap_lt r) i v (min i.toNatClampNeg (cy_cap r)) (cy_clip_eq i (cy_cap_lt r)) (Nat.min_le_right _ _) (h _ ?_)
  refine cy_R_row hE.2.2 hR hr (fun a ha hb => by rw [cy_set_ne _ _ hb, cy_set_ne _ _ ha]) ⟨_, ?_, cy_set_self _ _ _, by simp [cy_lfill]; omega, fun t ht => ?_⟩
  · rw [cy_set_ne _ _ hne, cy_set_self, cy_lfill, List.length_replicate]
  · simp [cy_lfill] at ht
    show (if t < min i.toNatClampNeg (cy_cap r) then v else f t) = _
    rw [if_pos (by omega), cy_lfill, List.getD_eq_getElem?_getD, List.getElem?_replicate, if_pos (by omega)]
    rfl
end CYW
def cy_rat (s : cy_S) (r : Nat) (i o : Int32) : Int32 := cy_la (s.1 r) i o
def cy_rlast (s : cy_S) (r : Nat) : Int32 := (s.1 r).getLastD 0
def cy_radd (s : cy_S) (r : Nat) (v : Int32) : cy_S := cy_sr s r (cy_ladd (cy_cap r) (s.1 r) v)
def cy_rput (s : cy_S) (r : Nat) (i v : Int32) : cy_S := cy_sr s r (cy_lput (s.1 r) i v)
def cy_rdrop (s : cy_S) (r : Nat) : cy_S := cy_sr s r (s.1 r).dropLast
def cy_rcut (s : cy_S) (r : Nat) (i : Int32) : cy_S := cy_sr s r (cy_lcut (s.1 r) i)
def cy_rfill (s : cy_S) (r : Nat) (i v : Int32) : cy_S := cy_sr s r (cy_lfill (cy_cap r) i v)
end
section
def cy_rlike (s : cy_S) (r r2 : Nat) : cy_S := cy_sr s r ((s.1 r2).take (cy_cap r))
def cy_rhas (s : cy_S) (r : Nat) (i : Int32) : Int32 := if i < 0 then 0 else if nI (s.1 r).length ≤ i then 0 else 1
theorem cy_sr_sr (s : cy_S) (r : Nat) (xs ys : List Int32) : cy_sr (cy_sr s r xs) r ys = cy_sr s r ys := by
  unfold cy_sr
  congr 1
  funext q
  by_cases h : q = r
  · subst h; simp [cy_up]
  · simp [cy_up, h]
theorem cy_like_step {s : cy_S} {r r2 j : Nat} (hne : r ≠ r2) (hj : j < (s.1 r2).length) (hl : (s.1 r2).length < 2 ^ 31) : cy_radd (cy_sr s r (((s.1 r2).take j).take (cy_cap r))) r (cy_rat (cy_sr s r (((s.1 r2).take j).take (cy_cap r))) r2 (nI j) 0) = cy_sr s r (((s.1 r2).take (j + 1)).take (cy_cap r)) := by
  have e1 : (cy_sr s r (((s.1 r2).take j).take (cy_cap r))).1 r = ((s.1 r2).take j).take (cy_cap r) := cy_up_self _ _ _
  have e2 : (cy_sr s r (((s.1 r2).take j).take (cy_cap r))).1 r2 = s.1 r2 := cy_up_ne _ _ (Ne.symm hne)
  have e3 : cy_rat (cy_sr s r (((s.1 r2).take j).take (cy_cap r))) r2 (nI j) 0 = (s.1 r2)[j] := by
    rw [cy_rat, e2, cy_la, if_neg (nI_pos (by omega)), nI_clamp (by omega), List.getD_eq_getElem?_getD, List.getElem?_eq_getElem hj]
    rfl
  rw [e3, cy_radd, e1, cy_sr_sr]
  congr 1
  unfold cy_ladd
  rw [List.take_succ_eq_append_getElem hj]
  have hy : ((s.1 r2).take j).length = j := by rw [List.length_take]; omega
  generalize (s.1 r2)[j] = v
  generalize (s.1 r2).take j = ys at hy
  by_cases hc : j < cy_cap r
  · rw [List.take_of_length_le (i := cy_cap r) (l := ys) (by omega), if_pos (by omega), List.take_of_length_le (l := ys ++ [v]) (by rw [List.length_append, hy]; show j + 1 ≤ _; omega)]
  · rw [if_neg (by rw [List.length_take]; omega), List.take_append_of_le_length (by omega)]
set_option maxHeartbeats 4000000 in
theorem c_like {G : cy_G} {E : cy_E} {s : cy_S} {M : cy_Hp} {post : Option Value → cy_Hp → Prop} (hE : cy_Eo G E) (hR : cy_R E s M) {r : Nat} (hr : r < 58) {r2 : Nat} (hr2 : r2 < 58) (hne : r ≠ r2) (h : ∀ M', cy_R E (cy_rlike s r r2) M' → post none M') : cy_Ct G 1 m_Row_becomeLike [.ref (E.2.2.1 (2 * r)), .ref (E.2.2.1 (2 * r2))] M 0 0 post := by
  refine cy_Ct.of (by decide) (Nat.le_of_ble_eq_true rfl) ?_
  intro F C P _
  have C : cy_C G F R_Row b_Row_becomeLike 3 1 0 0 := C
  have P : cy_P G F none post 0 0 := P
  have hl31 : (s.1 r2).length < 2 ^ 31 := by
    obtain ⟨f, h1, h2, h3, h4⟩ := hR.1 r2 hr2
    exact Nat.lt_of_le_of_lt h3 (cy_cap_lt r2)
  have loop : ∀ (q j : Nat) (M1 : cy_Hp), j + q = (s.1 r2).length → cy_R E (cy_sr s r (((s.1 r2).take j).take (cy_cap r))) M1 → WM G F 3 0 0 7 [(2, .int (nI j)), (0, .ref (E.2.2.1 (2 * r))), (1, .ref (E.2.2.1 (2 * r2)))] [] M1 := by
    intro q
    induction q with
    | zero =>
      intro j M1 hj hR1
      have e2 : (cy_sr s r (((s.1 r2).take j).take (cy_cap r))).1 r2 = s.1 r2 := cy_up_ne _ _ (Ne.symm hne)
      refine wm_iload_n C d_Row_becomeLike_7 rfl (j := 0) rfl ?_
      refine wm_aload_n C d_Row_becomeLike_8 rfl (j := 2) rfl ?_
      refine wm_get C co_Row ((rp_row hR1 hr2).trans (by rw [e2])) 1 (by decide) fl_Row_19 rfl d_Row_becomeLike_9 ?_
      refine wm_icmp_ge (tgt := 31) C d_Row_becomeLike_12 (by decide) (fun (h_12 : (nI (s.1 r2).length) ≤ (nI j)) => ?_) (fun (h_12 : ¬ (nI (s.1 r2).length) ≤ (nI j)) => ?_)
      · refine wm_vret C P d_Row_becomeLike_31 ?_
        have e : (s.1 r2).take j = s.1 r2 := List.take_of_length_le (by omega)
        rw [e] at hR1
        exact h _ hR1
      · exact absurd (nI_le (show (s.1 r2).length ≤ j by omega) (by omega)) h_12
    | succ q ih =>
      intro j M1 hj hR1
      have e2 : (cy_sr s r (((s.1 r2).take j).take (cy_cap r))).1 r2 = s.1 r2 := cy_up_ne _ _ (Ne.symm hne)
      refine wm_iload_n C d_Row_becomeLike_7 rfl (j := 0) rfl ?_
      refine wm_aload_n C d_Row_becomeLike_8 rfl (j := 2) rfl ?_
      refine wm_get C co_Row ((rp_row hR1 hr2).trans (by rw [e2])) 1 (by decide) fl_Row_19 rfl d_Row_becomeLike_9 ?_
      refine wm_icmp_ge (tgt := 31) C d_Row_becomeLike_12 (by decide) (fun (h_12 : (nI (s.1 r2).length) ≤ (nI j)) => ?_) (fun (h_12 : ¬ (nI (s.1 r2).length) ≤ (nI j)) => ?_)
      · exact absurd h_12 (nI_ge (show j < (s.1 r2).length by omega) hl31)
      · refine wm_aload_n C d_Row_becomeLike_15 rfl (j := 1) rfl ?_
        refine wm_aload_n C d_Row_becomeLike_16 rfl (j := 2) rfl ?_
        refine wm_iload_n C d_Row_becomeLike_17 rfl (j := 0) rfl ?_
        refine wm_iconst (v := 0) C d_Row_becomeLike_18 (by decide) ?_
        refine wm_callV (d2 := 0) (mc := 0) (ms := 0) C mo_Row_at co_Row ml_Row_26 [.int (nI j), .int 0] [.ref (E.2.2.1 (2 * r))] rfl (rp_row hR1 hr2) rfl (by decide) (Nat.le_of_ble_eq_true rfl) (Nat.le_refl _) (Nat.le_refl _) d_Row_becomeLike_19 (cy_ki ?_)
        refine c_at hE hR1 hr2 _ _ ⟨_, rfl, ?_⟩
        refine wm_callV (d2 := 0) (mc := 0) (ms := 0) C mo_Row_add co_Row ml_Row_29 [.int (cy_rat (cy_sr s r (((s.1 r2).take j).take (cy_cap r))) r2 (nI j) 0)] [] rfl (rp_row hR1 hr) rfl (by decide) (Nat.le_of_ble_eq_true rfl) (Nat.le_refl _) (Nat.le_refl _) d_Row_becomeLike_22 (cy_kv ?_)
        refine c_add hE hR1 hr _ (fun M1 hR1 => ⟨rfl, ?_⟩)
        refine wm_iinc (v := (nI j) + 1) (lv' := [(2, .int ((nI j) + 1)), (0, .ref (E.2.2.1 (2 * r))), (1, .ref (E.2.2.1 (2 * r2)))]) C d_Row_becomeLike_25 (k := 0) rfl rfl (by decide) rfl ?_
        refine wm_goto (tgt := 7) C d_Row_becomeLike_28 (by decide) ?_
        rw [nI_1]
        refine ih (j + 1) _ (by omega) ?_
        have e : cy_radd (cy_sr s r (((s.1 r2).take j).take (cy_cap r))) r (cy_rat (cy_sr s r (((s.1 r2).take j).take (cy_cap r))) r2 (nI j) 0) = cy_sr s r (((s.1 r2).take (j + 1)).take (cy_cap r)) := cy_like_step hne (by omega) hl31
        rw [← e]
        exact hR1
  show WM G F 3 0 0 0 [(0, .ref (E.2.2.1 (2 * r))), (1, .ref (E.2.2.1 (2 * r2)))] [] M
  refine wm_aload_n C d_Row_becomeLike_0 rfl (j := 0) rfl ?_
  refine wm_iconst (v := 0) C d_Row_becomeLike_1 (by decide) ?_
  refine wm_put C co_Row (rp_row hR hr) 1 (by decide) fl_Row_19 rfl rfl rfl (Nat.le_of_ble_eq_true rfl) d_Row_becomeLike_2 ?_
  refine wm_gen (rp_p_count0 hE hR hr) (fun M1 hR1 => ?_)
  refine wm_iconst (v := 0) C d_Row_becomeLike_5 (by decide) ?_
  refine wm_istore_n (lv' := [(2, .int 0), (0, .ref (E.2.2.1 (2 * r))), (1, .ref (E.2.2.1 (2 * r2)))]) C d_Row_becomeLike_6 rfl (by decide) rfl ?_
  refine loop _ 0 _ (Nat.zero_add _) ?_
  rw [List.take_zero, List.take_nil]
  exact hR1
abbrev cy_bad (i : Int32) : Prop := i < 0 ∨ nI 8 ≤ i
theorem cy_bad_lt8 {i : Int32} (h : ¬ cy_bad i) : i.toNatClampNeg < 8 := by
  obtain ⟨j, hj, rfl⟩ := nI_of (fun q => h (Or.inl q))
  rw [nI_clamp hj]
  exact Nat.lt_of_not_le fun q => h (Or.inr (nI_le q hj))
theorem cy_bad_lt {i : Int32} (h : ¬ cy_bad i) : i.toNatClampNeg < 9 := Nat.lt_succ_of_lt (cy_bad_lt8 h)
theorem cy_lt_out {j : Nat} (h : j < 8) (_ : ¬ j = 0) : j - 1 < 8 := by omega
theorem cy_lt_in {j : Nat} (h : j < 8) (h7 : ¬ j = 7) : j + 1 < 8 := by omega
theorem cy_outer_n {j : Nat} {a : Nat} {v0 : Value} {vs : List Value} (h : j = 0) : (v0 :: va_rf (if j = 0 then none else some a) :: vs)[1]? = some .null := by rw [if_pos h]; rfl
theorem cy_outer_s {j : Nat} {a : Nat} {v0 : Value} {vs : List Value} (h : ¬ j = 0) : (v0 :: va_rf (if j = 0 then none else some a) :: vs)[1]? = some (.ref a) := by rw [if_neg h]; rfl
theorem cy_inner_n {j : Nat} {a : Nat} {v0 v1 : Value} {vs : List Value} (h : j = 7) : (v0 :: v1 :: va_rf (if j = 7 then none else some a) :: vs)[2]? = some .null := by rw [if_pos h]; rfl
theorem cy_inner_s {j : Nat} {a : Nat} {v0 v1 : Value} {vs : List Value} (h : ¬ j = 7) : (v0 :: v1 :: va_rf (if j = 7 then none else some a) :: vs)[2]? = some (.ref a) := by rw [if_neg h]; rfl
set_option maxHeartbeats 4000000 in
theorem c_slot {G : cy_G} {E : cy_E} {s : cy_S} {M : cy_Hp} {post : Option Value → cy_Hp → Prop} (hE : cy_Eo G E) (hR : cy_R E s M) (i : Int32) (hN : cy_bad i → post (some .null) M) (hS : ¬ cy_bad i → post (some (.ref (E.2.2.1 (116 + i.toNatClampNeg)))) M) : cy_Ct G 0 m_Shelf_slot [.ref (E.2.2.1 134), .int i] M 0 0 post := by
  refine cy_Ct.of (by decide) (Nat.le_of_ble_eq_true rfl) ?_
  intro F C P _
  have C : cy_C G F R_Shelf b_Shelf_slot 2 0 0 0 := C
  have P : cy_P G F (some (.object "CodeYard$Code")) post 0 0 := P
  show WM G F 2 0 0 0 [(0, .ref (E.2.2.1 134)), (1, .int i)] [] M
  refine wm_iload_n C d_Shelf_slot_0 rfl (j := 1) rfl ?_
  refine wm_if_lt (tgt := 22) C d_Shelf_slot_1 (by decide) (fun (h_1 : i < 0) => ?_) (fun (h_1 : ¬ i < 0) => ?_)
  · refine wm_null C d_Shelf_slot_22 ?_
    refine wm_aret C P (Or.inl ⟨_, rfl⟩) (Or.inl rfl) d_Shelf_slot_23 ?_
    exact hN (Or.inl h_1)
  · refine wm_iload_n C d_Shelf_slot_4 rfl (j := 1) rfl ?_
    refine wm_aload_n C d_Shelf_slot_5 rfl (j := 0) rfl ?_
    refine wm_get C co_Shelf (rp_shelf hR) 0 (by decide) fl_Shelf_11 rfl d_Shelf_slot_6 ?_
    refine wm_alen C (rp_codes hR) hE.2.1 d_Shelf_slot_9 ?_
    refine wm_icmp_ge (tgt := 22) C d_Shelf_slot_10 (by decide) (fun (h_10 : (nI 8) ≤ i) => ?_) (fun (h_10 : ¬ (nI 8) ≤ i) => ?_)
    · refine wm_null C d_Shelf_slot_22 ?_
      refine wm_aret C P (Or.inl ⟨_, rfl⟩) (Or.inl rfl) d_Shelf_slot_23 ?_
      exact hN (Or.inr h_10)
    · refine wm_aload_n C d_Shelf_slot_13 rfl (j := 0) rfl ?_
      refine wm_get C co_Shelf (rp_shelf hR) 0 (by decide) fl_Shelf_11 rfl d_Shelf_slot_14 ?_
      refine wm_iload_n C d_Shelf_slot_17 rfl (j := 1) rfl ?_
      refine wm_aald C (rp_codes hR) hE.2.1 (cy_inOf (n := 8) (cap := 8) h_1 h_10 (Nat.le_refl _) (by decide)) d_Shelf_slot_18 ?_
      rw [if_pos (cy_bad_lt8 (fun q => q.elim h_1 h_10))]
      refine wm_goto (tgt := 23) C d_Shelf_slot_19 (by decide) ?_
      refine wm_aret C P (Or.inl ⟨_, rfl⟩) (Or.inr ⟨_, rfl⟩) d_Shelf_slot_23 ?_
      exact hS (fun q => q.elim h_1 h_10)
theorem c_slot_in {G : cy_G} {E : cy_E} {s : cy_S} {M : cy_Hp} {post : Option Value → cy_Hp → Prop} (hE : cy_Eo G E) (hR : cy_R E s M) {k : Nat} (hk : k < 8) (h : post (some (.ref (E.2.2.1 (116 + k)))) M) : cy_Ct G 0 m_Shelf_slot [.ref (E.2.2.1 134), .int (nI k)] M 0 0 post := by
  refine c_slot hE hR (nI k) (fun q => ?_) (fun _ => ?_)
  · rcases q with q | q
    · exact absurd q (nI_pos (by omega))
    · exact absurd q (nI_ge hk (by decide))
  · rw [nI_clamp (by omega)]; exact h
end
section
def cy_Yard_isInstruction (op : Int32) : Int32 :=
  if op < 0 then
    0
  else
    if (nI 28) ≤ op then
      0
    else
      1
set_option maxHeartbeats 4000000 in
theorem c_Yard_isInstruction {G : cy_G} {E : cy_E} {s : cy_S} {M : cy_Hp} {post : Option Value → cy_Hp → Prop} (hE : cy_Eo G E) (hR : cy_R E s M)  (op : Int32) (h : post (some (.int (cy_Yard_isInstruction op))) M) : cy_Ct G 0 m_Yard_isInstruction [.int op] M 0 0 post := by
  refine cy_Ct.of (by decide) (Nat.le_of_ble_eq_true rfl) ?_
  intro F C P _
  have C : cy_C G F R_Yard b_Yard_isInstruction 1 0 0 0 := C
  have P : cy_P G F (some .boolean) post 0 0 := P
  show WM G F 1 0 0 0 [(0, .int op)] [] M
  refine wm_iload_n C d_Yard_isInstruction_0 rfl (j := 0) rfl ?_
  refine wm_if_lt (tgt := 16) C d_Yard_isInstruction_1 (by decide) (fun (h_1 : op < 0) => ?_) (fun (h_1 : ¬ op < 0) => ?_)
  · refine wm_iconst (v := 0) C d_Yard_isInstruction_16 (by decide) ?_
    refine wm_zret C P rfl d_Yard_isInstruction_17 ?_
    have e : cy_Yard_isInstruction op = 0 := by rw [cy_Yard_isInstruction, if_pos h_1]
    rw [e] at h
    exact h
  · refine wm_iload_n C d_Yard_isInstruction_4 rfl (j := 0) rfl ?_
    refine wm_gets (j := 0) C rfl fl_Yard_122 d_Yard_isInstruction_5 ?_
    refine wm_tlen (j := 0) C rfl d_Yard_isInstruction_8 ?_
    refine wm_icmp_ge (tgt := 16) C d_Yard_isInstruction_9 (by decide) (fun (h_9 : (nI 28) ≤ op) => ?_) (fun (h_9 : ¬ (nI 28) ≤ op) => ?_)
    · refine wm_iconst (v := 0) C d_Yard_isInstruction_16 (by decide) ?_
      refine wm_zret C P rfl d_Yard_isInstruction_17 ?_
      have e : cy_Yard_isInstruction op = 0 := by rw [cy_Yard_isInstruction, if_neg h_1, if_pos h_9]
      rw [e] at h
      exact h
    · refine wm_iconst (v := 1) C d_Yard_isInstruction_12 (by decide) ?_
      refine wm_goto (tgt := 17) C d_Yard_isInstruction_13 (by decide) ?_
      refine wm_zret C P rfl d_Yard_isInstruction_17 ?_
      have e : cy_Yard_isInstruction op = 1 := by rw [cy_Yard_isInstruction, if_neg h_1, if_neg h_9]
      rw [e] at h
      exact h
theorem cy_isI_in {op : Int32} (h : ¬ cy_Yard_isInstruction op = 0) : vp_in op 28 := by
  unfold cy_Yard_isInstruction at h
  by_cases h1 : op < 0
  · rw [if_pos h1] at h; exact absurd rfl h
  · rw [if_neg h1] at h
    by_cases h2 : nI 28 ≤ op
    · rw [if_pos h2] at h; exact absurd rfl h
    · exact cy_inOf (n := 28) (cap := 28) h1 h2 (Nat.le_refl _) (by decide)
def cy_Yard_operandMost (op : Int32) : Int32 :=
  if (cy_Yard_isInstruction op) = 0 then
    (-1)
  else
    cy_OM op.toNatClampNeg
set_option maxHeartbeats 4000000 in
theorem c_Yard_operandMost {G : cy_G} {E : cy_E} {s : cy_S} {M : cy_Hp} {post : Option Value → cy_Hp → Prop} (hE : cy_Eo G E) (hR : cy_R E s M)  (op : Int32) (h : post (some (.int (cy_Yard_operandMost op))) M) : cy_Ct G 1 m_Yard_operandMost [.int op] M 0 0 post := by
  refine cy_Ct.of (by decide) (Nat.le_of_ble_eq_true rfl) ?_
  intro F C P _
  have C : cy_C G F R_Yard b_Yard_operandMost 1 1 0 0 := C
  have P : cy_P G F (some .int) post 0 0 := P
  show WM G F 1 0 0 0 [(0, .int op)] [] M
  refine wm_iload_n C d_Yard_operandMost_0 rfl (j := 0) rfl ?_
  refine wm_callS (d2 := 0) (mc := 0) (ms := 0) C mo_Yard_isInstruction ml_Yard_126 [.int op] [] rfl rfl (by decide) (Nat.le_of_ble_eq_true rfl) (Nat.le_refl _) (Nat.le_refl _) d_Yard_operandMost_1 (cy_ki ?_)
  refine c_Yard_isInstruction hE hR  _ ⟨_, rfl, ?_⟩
  refine wm_if_eq (tgt := 15) C d_Yard_operandMost_4 (by decide) (fun (h_4 : (cy_Yard_isInstruction op) = 0) => ?_) (fun (h_4 : ¬ (cy_Yard_isInstruction op) = 0) => ?_)
  · refine wm_iconst (v := -1) C d_Yard_operandMost_15 (by decide) ?_
    refine wm_iret C P d_Yard_operandMost_16 ?_
    have e : cy_Yard_operandMost op = (-1) := by rw [cy_Yard_operandMost, if_pos h_4]
    rw [e] at h
    exact h
  · refine wm_gets (j := 0) C rfl fl_Yard_122 d_Yard_operandMost_7 ?_
    refine wm_iload_n C d_Yard_operandMost_10 rfl (j := 0) rfl ?_
    refine wm_getsN (j := 0) C rfl (cy_isI_in (by simpa using h_4)) rfl d_Yard_operandMost_11 ?_
    refine wm_goto (tgt := 16) C d_Yard_operandMost_12 (by decide) ?_
    refine wm_iret C P d_Yard_operandMost_16 ?_
    have e : cy_Yard_operandMost op = cy_OM op.toNatClampNeg := by rw [cy_Yard_operandMost, if_neg h_4]
    rw [e] at h
    exact h
def cy_Yard_hasOperand (op : Int32) : Int32 :=
  if (cy_Yard_operandMost op) = (-1) then
    0
  else
    1
set_option maxHeartbeats 4000000 in
theorem c_Yard_hasOperand {G : cy_G} {E : cy_E} {s : cy_S} {M : cy_Hp} {post : Option Value → cy_Hp → Prop} (hE : cy_Eo G E) (hR : cy_R E s M)  (op : Int32) (h : post (some (.int (cy_Yard_hasOperand op))) M) : cy_Ct G 2 m_Yard_hasOperand [.int op] M 0 0 post := by
  refine cy_Ct.of (by decide) (Nat.le_of_ble_eq_true rfl) ?_
  intro F C P _
  have C : cy_C G F R_Yard b_Yard_hasOperand 1 2 0 0 := C
  have P : cy_P G F (some .boolean) post 0 0 := P
  show WM G F 1 0 0 0 [(0, .int op)] [] M
  refine wm_iload_n C d_Yard_hasOperand_0 rfl (j := 0) rfl ?_
  refine wm_callS (d2 := 1) (mc := 0) (ms := 0) C mo_Yard_operandMost ml_Yard_130 [.int op] [] rfl rfl (by decide) (Nat.le_of_ble_eq_true rfl) (Nat.le_refl _) (Nat.le_refl _) d_Yard_hasOperand_1 (cy_ki ?_)
  refine c_Yard_operandMost hE hR  _ ⟨_, rfl, ?_⟩
  refine wm_iconst (v := -1) C d_Yard_hasOperand_4 (by decide) ?_
  refine wm_icmp_eq (tgt := 12) C d_Yard_hasOperand_5 (by decide) (fun (h_5 : (cy_Yard_operandMost op) = (-1)) => ?_) (fun (h_5 : ¬ (cy_Yard_operandMost op) = (-1)) => ?_)
  · refine wm_iconst (v := 0) C d_Yard_hasOperand_12 (by decide) ?_
    refine wm_zret C P rfl d_Yard_hasOperand_13 ?_
    have e : cy_Yard_hasOperand op = 0 := by rw [cy_Yard_hasOperand, if_pos h_5]
    rw [e] at h
    exact h
  · refine wm_iconst (v := 1) C d_Yard_hasOperand_8 (by decide) ?_
    refine wm_goto (tgt := 13) C d_Yard_hasOperand_9 (by decide) ?_
    refine wm_zret C P rfl d_Yard_hasOperand_13 ?_
    have e : cy_Yard_hasOperand op = 1 := by rw [cy_Yard_hasOperand, if_neg h_5]
    rw [e] at h
    exact h
def cy_Yard_takes (op : Int32) : Int32 :=
  if op < 0 then
    0
  else
    if (nI 28) ≤ op then
      0
    else
      cy_TK op.toNatClampNeg
set_option maxHeartbeats 4000000 in
theorem c_Yard_takes {G : cy_G} {E : cy_E} {s : cy_S} {M : cy_Hp} {post : Option Value → cy_Hp → Prop} (hE : cy_Eo G E) (hR : cy_R E s M)  (op : Int32) (h : post (some (.int (cy_Yard_takes op))) M) : cy_Ct G 0 m_Yard_takes [.int op] M 0 0 post := by
  refine cy_Ct.of (by decide) (Nat.le_of_ble_eq_true rfl) ?_
  intro F C P _
  have C : cy_C G F R_Yard b_Yard_takes 1 0 0 0 := C
  have P : cy_P G F (some .int) post 0 0 := P
  show WM G F 1 0 0 0 [(0, .int op)] [] M
  refine wm_iload_n C d_Yard_takes_0 rfl (j := 0) rfl ?_
  refine wm_if_lt (tgt := 20) C d_Yard_takes_1 (by decide) (fun (h_1 : op < 0) => ?_) (fun (h_1 : ¬ op < 0) => ?_)
  · refine wm_iconst (v := 0) C d_Yard_takes_20 (by decide) ?_
    refine wm_iret C P d_Yard_takes_21 ?_
    have e : cy_Yard_takes op = 0 := by rw [cy_Yard_takes, if_pos h_1]
    rw [e] at h
    exact h
  · refine wm_iload_n C d_Yard_takes_4 rfl (j := 0) rfl ?_
    refine wm_gets (j := 1) C rfl fl_Yard_133 d_Yard_takes_5 ?_
    refine wm_tlen (j := 1) C rfl d_Yard_takes_8 ?_
    refine wm_icmp_ge (tgt := 20) C d_Yard_takes_9 (by decide) (fun (h_9 : (nI 28) ≤ op) => ?_) (fun (h_9 : ¬ (nI 28) ≤ op) => ?_)
    · refine wm_iconst (v := 0) C d_Yard_takes_20 (by decide) ?_
      refine wm_iret C P d_Yard_takes_21 ?_
      have e : cy_Yard_takes op = 0 := by rw [cy_Yard_takes, if_neg h_1, if_pos h_9]
      rw [e] at h
      exact h
    · refine wm_gets (j := 1) C rfl fl_Yard_133 d_Yard_takes_12 ?_
      refine wm_iload_n C d_Yard_takes_15 rfl (j := 0) rfl ?_
      refine wm_getsN (j := 1) C rfl (cy_inOf (n := 28) (cap := 28) h_1 h_9 (Nat.le_refl _) (by decide)) rfl d_Yard_takes_16 ?_
      refine wm_goto (tgt := 21) C d_Yard_takes_17 (by decide) ?_
      refine wm_iret C P d_Yard_takes_21 ?_
      have e : cy_Yard_takes op = cy_TK op.toNatClampNeg := by rw [cy_Yard_takes, if_neg h_1, if_neg h_9]
      rw [e] at h
      exact h
def cy_Yard_gives (op : Int32) : Int32 :=
  if op < 0 then
    0
  else
    if (nI 28) ≤ op then
      0
    else
      cy_GV op.toNatClampNeg
set_option maxHeartbeats 4000000 in
theorem c_Yard_gives {G : cy_G} {E : cy_E} {s : cy_S} {M : cy_Hp} {post : Option Value → cy_Hp → Prop} (hE : cy_Eo G E) (hR : cy_R E s M)  (op : Int32) (h : post (some (.int (cy_Yard_gives op))) M) : cy_Ct G 0 m_Yard_gives [.int op] M 0 0 post := by
  refine cy_Ct.of (by decide) (Nat.le_of_ble_eq_true rfl) ?_
  intro F C P _
  have C : cy_C G F R_Yard b_Yard_gives 1 0 0 0 := C
  have P : cy_P G F (some .int) post 0 0 := P
  show WM G F 1 0 0 0 [(0, .int op)] [] M
  refine wm_iload_n C d_Yard_gives_0 rfl (j := 0) rfl ?_
  refine wm_if_lt (tgt := 20) C d_Yard_gives_1 (by decide) (fun (h_1 : op < 0) => ?_) (fun (h_1 : ¬ op < 0) => ?_)
  · refine wm_iconst (v := 0) C d_Yard_gives_20 (by decide) ?_
    refine wm_iret C P d_Yard_gives_21 ?_
    have e : cy_Yard_gives op = 0 := by rw [cy_Yard_gives, if_pos h_1]
    rw [e] at h
    exact h
  · refine wm_iload_n C d_Yard_gives_4 rfl (j := 0) rfl ?_
    refine wm_gets (j := 2) C rfl fl_Yard_136 d_Yard_gives_5 ?_
    refine wm_tlen (j := 2) C rfl d_Yard_gives_8 ?_
    refine wm_icmp_ge (tgt := 20) C d_Yard_gives_9 (by decide) (fun (h_9 : (nI 28) ≤ op) => ?_) (fun (h_9 : ¬ (nI 28) ≤ op) => ?_)
    · refine wm_iconst (v := 0) C d_Yard_gives_20 (by decide) ?_
      refine wm_iret C P d_Yard_gives_21 ?_
      have e : cy_Yard_gives op = 0 := by rw [cy_Yard_gives, if_neg h_1, if_pos h_9]
      rw [e] at h
      exact h
    · refine wm_gets (j := 2) C rfl fl_Yard_136 d_Yard_gives_12 ?_
      refine wm_iload_n C d_Yard_gives_15 rfl (j := 0) rfl ?_
      refine wm_getsN (j := 2) C rfl (cy_inOf (n := 28) (cap := 28) h_1 h_9 (Nat.le_refl _) (by decide)) rfl d_Yard_gives_16 ?_
      refine wm_goto (tgt := 21) C d_Yard_gives_17 (by decide) ?_
      refine wm_iret C P d_Yard_gives_21 ?_
      have e : cy_Yard_gives op = cy_GV op.toNatClampNeg := by rw [cy_Yard_gives, if_neg h_1, if_neg h_9]
      rw [e] at h
      exact h
def cy_Yard_isEnding (op : Int32) : Int32 :=
  if op = 22 then
    1
  else
    if op = 23 then
      1
    else
      if op = 24 then
        1
      else
        0
set_option maxHeartbeats 4000000 in
theorem c_Yard_isEnding {G : cy_G} {E : cy_E} {s : cy_S} {M : cy_Hp} {post : Option Value → cy_Hp → Prop} (hE : cy_Eo G E) (hR : cy_R E s M)  (op : Int32) (h : post (some (.int (cy_Yard_isEnding op))) M) : cy_Ct G 0 m_Yard_isEnding [.int op] M 0 0 post := by
  refine cy_Ct.of (by decide) (Nat.le_of_ble_eq_true rfl) ?_
  intro F C P _
  have C : cy_C G F R_Yard b_Yard_isEnding 1 0 0 0 := C
  have P : cy_P G F (some .boolean) post 0 0 := P
  show WM G F 1 0 0 0 [(0, .int op)] [] M
  refine wm_iload_n C d_Yard_isEnding_0 rfl (j := 0) rfl ?_
  refine wm_bipush (v := 22) C d_Yard_isEnding_1 (by decide) ?_
  refine wm_icmp_eq (tgt := 18) C d_Yard_isEnding_3 (by decide) (fun (h_3 : op = 22) => ?_) (fun (h_3 : ¬ op = 22) => ?_)
  · refine wm_iconst (v := 1) C d_Yard_isEnding_18 (by decide) ?_
    refine wm_goto (tgt := 23) C d_Yard_isEnding_19 (by decide) ?_
    refine wm_zret C P rfl d_Yard_isEnding_23 ?_
    have e : cy_Yard_isEnding op = 1 := by rw [cy_Yard_isEnding, if_pos h_3]
    rw [e] at h
    exact h
  · refine wm_iload_n C d_Yard_isEnding_6 rfl (j := 0) rfl ?_
    refine wm_bipush (v := 23) C d_Yard_isEnding_7 (by decide) ?_
    refine wm_icmp_eq (tgt := 18) C d_Yard_isEnding_9 (by decide) (fun (h_9 : op = 23) => ?_) (fun (h_9 : ¬ op = 23) => ?_)
    · refine wm_iconst (v := 1) C d_Yard_isEnding_18 (by decide) ?_
      refine wm_goto (tgt := 23) C d_Yard_isEnding_19 (by decide) ?_
      refine wm_zret C P rfl d_Yard_isEnding_23 ?_
      have e : cy_Yard_isEnding op = 1 := by rw [cy_Yard_isEnding, if_neg h_3, if_pos h_9]
      rw [e] at h
      exact h
    · refine wm_iload_n C d_Yard_isEnding_12 rfl (j := 0) rfl ?_
      refine wm_bipush (v := 24) C d_Yard_isEnding_13 (by decide) ?_
      refine wm_icmp_ne (tgt := 22) C d_Yard_isEnding_15 (by decide) (fun (h_15 : ¬ op = 24) => ?_) (fun (h_15 : op = 24) => ?_)
      · refine wm_iconst (v := 0) C d_Yard_isEnding_22 (by decide) ?_
        refine wm_zret C P rfl d_Yard_isEnding_23 ?_
        have e : cy_Yard_isEnding op = 0 := by rw [cy_Yard_isEnding, if_neg h_3, if_neg h_9, if_neg h_15]
        rw [e] at h
        exact h
      · refine wm_iconst (v := 1) C d_Yard_isEnding_18 (by decide) ?_
        refine wm_goto (tgt := 23) C d_Yard_isEnding_19 (by decide) ?_
        refine wm_zret C P rfl d_Yard_isEnding_23 ?_
        have e : cy_Yard_isEnding op = 1 := by rw [cy_Yard_isEnding, if_neg h_3, if_neg h_9, if_pos h_15]
        rw [e] at h
        exact h
def cy_Yard_isJump (op : Int32) : Int32 :=
  if op = 16 then
    1
  else
    if op = 17 then
      1
    else
      if op = 18 then
        1
      else
        0
set_option maxHeartbeats 4000000 in
theorem c_Yard_isJump {G : cy_G} {E : cy_E} {s : cy_S} {M : cy_Hp} {post : Option Value → cy_Hp → Prop} (hE : cy_Eo G E) (hR : cy_R E s M)  (op : Int32) (h : post (some (.int (cy_Yard_isJump op))) M) : cy_Ct G 0 m_Yard_isJump [.int op] M 0 0 post := by
  refine cy_Ct.of (by decide) (Nat.le_of_ble_eq_true rfl) ?_
  intro F C P _
  have C : cy_C G F R_Yard b_Yard_isJump 1 0 0 0 := C
  have P : cy_P G F (some .boolean) post 0 0 := P
  show WM G F 1 0 0 0 [(0, .int op)] [] M
  refine wm_iload_n C d_Yard_isJump_0 rfl (j := 0) rfl ?_
  refine wm_bipush (v := 16) C d_Yard_isJump_1 (by decide) ?_
  refine wm_icmp_eq (tgt := 18) C d_Yard_isJump_3 (by decide) (fun (h_3 : op = 16) => ?_) (fun (h_3 : ¬ op = 16) => ?_)
  · refine wm_iconst (v := 1) C d_Yard_isJump_18 (by decide) ?_
    refine wm_goto (tgt := 23) C d_Yard_isJump_19 (by decide) ?_
    refine wm_zret C P rfl d_Yard_isJump_23 ?_
    have e : cy_Yard_isJump op = 1 := by rw [cy_Yard_isJump, if_pos h_3]
    rw [e] at h
    exact h
  · refine wm_iload_n C d_Yard_isJump_6 rfl (j := 0) rfl ?_
    refine wm_bipush (v := 17) C d_Yard_isJump_7 (by decide) ?_
    refine wm_icmp_eq (tgt := 18) C d_Yard_isJump_9 (by decide) (fun (h_9 : op = 17) => ?_) (fun (h_9 : ¬ op = 17) => ?_)
    · refine wm_iconst (v := 1) C d_Yard_isJump_18 (by decide) ?_
      refine wm_goto (tgt := 23) C d_Yard_isJump_19 (by decide) ?_
      refine wm_zret C P rfl d_Yard_isJump_23 ?_
      have e : cy_Yard_isJump op = 1 := by rw [cy_Yard_isJump, if_neg h_3, if_pos h_9]
      rw [e] at h
      exact h
    · refine wm_iload_n C d_Yard_isJump_12 rfl (j := 0) rfl ?_
      refine wm_bipush (v := 18) C d_Yard_isJump_13 (by decide) ?_
      refine wm_icmp_ne (tgt := 22) C d_Yard_isJump_15 (by decide) (fun (h_15 : ¬ op = 18) => ?_) (fun (h_15 : op = 18) => ?_)
      · refine wm_iconst (v := 0) C d_Yard_isJump_22 (by decide) ?_
        refine wm_zret C P rfl d_Yard_isJump_23 ?_
        have e : cy_Yard_isJump op = 0 := by rw [cy_Yard_isJump, if_neg h_3, if_neg h_9, if_neg h_15]
        rw [e] at h
        exact h
      · refine wm_iconst (v := 1) C d_Yard_isJump_18 (by decide) ?_
        refine wm_goto (tgt := 23) C d_Yard_isJump_19 (by decide) ?_
        refine wm_zret C P rfl d_Yard_isJump_23 ?_
        have e : cy_Yard_isJump op = 1 := by rw [cy_Yard_isJump, if_neg h_3, if_neg h_9, if_pos h_15]
        rw [e] at h
        exact h
def cy_Code_isTaken (s : cy_S) (k : Nat) : Int32 :=
  if (nI (s.1 (6 + 4 * k)).length) ≤ 0 then
    0
  else
    1
set_option maxHeartbeats 4000000 in
theorem c_Code_isTaken {G : cy_G} {E : cy_E} {s : cy_S} {M : cy_Hp} {post : Option Value → cy_Hp → Prop} (hE : cy_Eo G E) (hR : cy_R E s M) {k : Nat} (hk : k < 9)  (h : post (some (.int (cy_Code_isTaken s k))) M) : cy_Ct G 0 m_Code_isTaken [.ref (E.2.2.1 (116 + k))] M 0 0 post := by
  refine cy_Ct.of (by decide) (Nat.le_of_ble_eq_true rfl) ?_
  intro F C P _
  have C : cy_C G F R_Code b_Code_isTaken 1 0 0 0 := C
  have P : cy_P G F (some .boolean) post 0 0 := P
  show WM G F 1 0 0 0 [(0, .ref (E.2.2.1 (116 + k)))] [] M
  refine wm_aload_n C d_Code_isTaken_0 rfl (j := 0) rfl ?_
  refine wm_get C co_Code (rp_code hR hk) 1 (by decide) fl_Code_20 rfl d_Code_isTaken_1 ?_
  refine wm_getN C co_Row (rp_row hR (rb6 hk)) 1 (by decide) fl_Code_33 rfl d_Code_isTaken_4 ?_
  refine wm_if_le (tgt := 14) C d_Code_isTaken_7 (by decide) (fun (h_7 : (nI (s.1 (6 + 4 * k)).length) ≤ 0) => ?_) (fun (h_7 : ¬ (nI (s.1 (6 + 4 * k)).length) ≤ 0) => ?_)
  · refine wm_iconst (v := 0) C d_Code_isTaken_14 (by decide) ?_
    refine wm_zret C P rfl d_Code_isTaken_15 ?_
    have e : cy_Code_isTaken s k = 0 := by rw [cy_Code_isTaken, if_pos h_7]
    rw [e] at h
    exact h
  · refine wm_iconst (v := 1) C d_Code_isTaken_10 (by decide) ?_
    refine wm_goto (tgt := 15) C d_Code_isTaken_11 (by decide) ?_
    refine wm_zret C P rfl d_Code_isTaken_15 ?_
    have e : cy_Code_isTaken s k = 1 := by rw [cy_Code_isTaken, if_neg h_7]
    rw [e] at h
    exact h
def cy_Frame_nextByte (s : cy_S) (j : Nat) : Int32 × cy_S :=
  (cy_rat s (6 + 4 * ((s.2.1 j).1)) ((s.2.1 j).2) 0, (cy_sf_place s j (((s.2.1 j).2) + 1)))
set_option maxHeartbeats 4000000 in
theorem c_Frame_nextByte {G : cy_G} {E : cy_E} {s : cy_S} {M : cy_Hp} {post : Option Value → cy_Hp → Prop} (hE : cy_Eo G E) (hR : cy_R E s M) {j : Nat} (hj : j < 8)  (h : ∀ M', cy_R E (cy_Frame_nextByte s j).2 M' → post (some (.int (cy_Frame_nextByte s j).1)) M') : cy_Ct G 1 m_Frame_nextByte [.ref (E.2.2.1 (125 + j))] M 0 0 post := by
  refine cy_Ct.of (by decide) (Nat.le_of_ble_eq_true rfl) ?_
  intro F C P _
  have C : cy_C G F R_Frame b_Frame_nextByte 2 1 0 0 := C
  have P : cy_P G F (some .int) post 0 0 := P
  show WM G F 2 0 0 0 [(0, .ref (E.2.2.1 (125 + j)))] [] M
  refine wm_aload_n C d_Frame_nextByte_0 rfl (j := 0) rfl ?_
  refine wm_get C co_Frame (rp_frame hR hj) 5 (by decide) fl_Frame_31 rfl d_Frame_nextByte_1 ?_
  refine wm_getN C co_Code (rp_code hR (rp_fc (s := s) hR hj)) 1 (by decide) fl_Frame_35 rfl d_Frame_nextByte_4 ?_
  refine wm_aload_n C d_Frame_nextByte_7 rfl (j := 0) rfl ?_
  refine wm_get C co_Frame (rp_frame hR hj) 6 (by decide) fl_Frame_44 rfl d_Frame_nextByte_8 ?_
  refine wm_iconst (v := 0) C d_Frame_nextByte_11 (by decide) ?_
  refine wm_callVN (d2 := 0) (mc := 0) (ms := 0) C mo_Row_at co_Row ml_Frame_40 [.int ((s.2.1 j).2), .int 0] [] rfl (rp_row hR (rb6 (rp_fc (s := s) hR hj))) rfl (by decide) (Nat.le_of_ble_eq_true rfl) (Nat.le_refl _) (Nat.le_refl _) d_Frame_nextByte_12 (cy_ki ?_)
  refine c_at hE hR (rb6 (rp_fc (s := s) hR hj)) _ _ ⟨_, rfl, ?_⟩
  refine wm_istore_n (lv' := [(1, .int (cy_rat s (6 + 4 * ((s.2.1 j).1)) ((s.2.1 j).2) 0)), (0, .ref (E.2.2.1 (125 + j)))]) C d_Frame_nextByte_15 rfl (by decide) rfl ?_
  refine wm_aload_n C d_Frame_nextByte_16 rfl (j := 1) rfl ?_
  refine wm_dup C d_Frame_nextByte_17 rfl ?_
  refine wm_get C co_Frame (rp_frame hR hj) 6 (by decide) fl_Frame_44 rfl d_Frame_nextByte_18 ?_
  refine wm_iconst (v := 1) C d_Frame_nextByte_21 (by decide) ?_
  refine wm_iadd C d_Frame_nextByte_22 ?_
  refine wm_put C co_Frame (rp_frame hR hj) 6 (by decide) fl_Frame_44 rfl rfl rfl (Nat.le_of_ble_eq_true rfl) d_Frame_nextByte_23 ?_
  refine wm_gen (rp_p_place hE hR hj (((s.2.1 j).2) + 1)) (fun M1 hR1 => ?_)
  refine wm_iload_n C d_Frame_nextByte_26 rfl (j := 0) rfl ?_
  refine wm_iret C P d_Frame_nextByte_27 ?_
  have e : cy_Frame_nextByte s j = (cy_rat s (6 + 4 * ((s.2.1 j).1)) ((s.2.1 j).2) 0, (cy_sf_place s j (((s.2.1 j).2) + 1))) := by rw [cy_Frame_nextByte]
  rw [e] at h
  exact h _ hR1
def cy_Frame_enter (s : cy_S) (j : Nat) (k : Nat) (b : Int32) : cy_S :=
  (cy_rfill (cy_rcut (cy_sf_place (cy_sf_code s j k) j (cy_rat (cy_sf_code s j k) (6 + 4 * k) b 0)) (42 + 2 * j) 0) (43 + 2 * j) 8 0)
set_option maxHeartbeats 4000000 in
theorem c_Frame_enter {G : cy_G} {E : cy_E} {s : cy_S} {M : cy_Hp} {post : Option Value → cy_Hp → Prop} (hE : cy_Eo G E) (hR : cy_R E s M) {j : Nat} (hj : j < 8) {k : Nat} (hk : k < 9) (b : Int32) (h : ∀ M', cy_R E (cy_Frame_enter s j k b) M' → post none M') : cy_Ct G 2 m_Frame_enter [.ref (E.2.2.1 (125 + j)), .ref (E.2.2.1 (116 + k)), .int b] M 0 0 post := by
  refine cy_Ct.of (by decide) (Nat.le_of_ble_eq_true rfl) ?_
  intro F C P _
  have C : cy_C G F R_Frame b_Frame_enter 3 2 0 0 := C
  have P : cy_P G F none post 0 0 := P
  show WM G F 3 0 0 0 [(0, .ref (E.2.2.1 (125 + j))), (1, .ref (E.2.2.1 (116 + k))), (2, .int b)] [] M
  refine wm_aload_n C d_Frame_enter_0 rfl (j := 0) rfl ?_
  refine wm_aload_n C d_Frame_enter_1 rfl (j := 1) rfl ?_
  refine wm_put C co_Frame (rp_frame hR hj) 5 (by decide) fl_Frame_31 rfl rfl rfl (Nat.le_of_ble_eq_true rfl) d_Frame_enter_2 ?_
  refine wm_gen (rp_p_code hE hR hj hk) (fun M1 hR1 => ?_)
  refine wm_aload_n C d_Frame_enter_5 rfl (j := 0) rfl ?_
  refine wm_aload_n C d_Frame_enter_6 rfl (j := 1) rfl ?_
  refine wm_getN C co_Code (rp_code hR1 hk) 1 (by decide) fl_Frame_35 rfl d_Frame_enter_7 ?_
  refine wm_iload_n C d_Frame_enter_10 rfl (j := 2) rfl ?_
  refine wm_iconst (v := 0) C d_Frame_enter_11 (by decide) ?_
  refine wm_callVN (d2 := 0) (mc := 0) (ms := 0) C mo_Row_at co_Row ml_Frame_40 [.int b, .int 0] [.ref (E.2.2.1 (125 + j))] rfl (rp_row hR1 (rb6 hk)) rfl (by decide) (Nat.le_of_ble_eq_true rfl) (Nat.le_refl _) (Nat.le_refl _) d_Frame_enter_12 (cy_ki ?_)
  refine c_at hE hR1 (rb6 hk) _ _ ⟨_, rfl, ?_⟩
  refine wm_put C co_Frame (rp_frame hR1 hj) 6 (by decide) fl_Frame_44 rfl rfl rfl (Nat.le_of_ble_eq_true rfl) d_Frame_enter_15 ?_
  refine wm_gen (rp_p_place hE hR1 hj (cy_rat (cy_sf_code s j k) (6 + 4 * k) b 0)) (fun M2 hR2 => ?_)
  refine wm_aload_n C d_Frame_enter_18 rfl (j := 0) rfl ?_
  refine wm_get C co_Frame (rp_frame hR2 hj) 3 (by decide) fl_Frame_24 rfl d_Frame_enter_19 ?_
  refine wm_iconst (v := 0) C d_Frame_enter_22 (by decide) ?_
  refine wm_callVN (d2 := 1) (mc := 0) (ms := 0) C mo_Row_shorten co_Row ml_Frame_47 [.int 0] [] rfl (rp_row hR2 (rb42 hj)) rfl (by decide) (Nat.le_of_ble_eq_true rfl) (Nat.le_refl _) (Nat.le_refl _) d_Frame_enter_23 (cy_kv ?_)
  refine c_cut hE hR2 (rb42 hj) _ (fun M3 hR3 => ⟨rfl, ?_⟩)
  refine wm_aload_n C d_Frame_enter_26 rfl (j := 0) rfl ?_
  refine wm_get C co_Frame (rp_frame hR3 hj) 4 (by decide) fl_Frame_28 rfl d_Frame_enter_27 ?_
  refine wm_bipush (v := 8) C d_Frame_enter_30 (by decide) ?_
  refine wm_iconst (v := 0) C d_Frame_enter_32 (by decide) ?_
  refine wm_callVN (d2 := 1) (mc := 0) (ms := 0) C mo_Row_become co_Row ml_Frame_50 [.int 8, .int 0] [] rfl (rp_row hR3 (rb43 hj)) rfl (by decide) (Nat.le_of_ble_eq_true rfl) (Nat.le_refl _) (Nat.le_refl _) d_Frame_enter_33 (cy_kv ?_)
  refine c_fill hE hR3 (rb43 hj) _ _ (fun M4 hR4 => ⟨rfl, ?_⟩)
  refine wm_vret C P d_Frame_enter_36 ?_
  have e : cy_Frame_enter s j k b = (cy_rfill (cy_rcut (cy_sf_place (cy_sf_code s j k) j (cy_rat (cy_sf_code s j k) (6 + 4 * k) b 0)) (42 + 2 * j) 0) (43 + 2 * j) 8 0) := by rw [cy_Frame_enter]
  rw [e] at h
  exact h _ hR4
def cy_Run_isHeld (s : cy_S) : Int32 :=
  if s.2.2.1.2.1 = 0 then
    0
  else
    if s.2.2.1.2.2.1 = 1 then
      1
    else
      0
set_option maxHeartbeats 4000000 in
theorem c_Run_isHeld {G : cy_G} {E : cy_E} {s : cy_S} {M : cy_Hp} {post : Option Value → cy_Hp → Prop} (hE : cy_Eo G E) (hR : cy_R E s M)   (h : post (some (.int (cy_Run_isHeld s))) M) : cy_Ct G 0 m_Run_isHeld [.ref (E.2.2.1 136)] M 0 0 post := by
  refine cy_Ct.of (by decide) (Nat.le_of_ble_eq_true rfl) ?_
  intro F C P _
  have C : cy_C G F R_Run b_Run_isHeld 1 0 0 0 := C
  have P : cy_P G F (some .boolean) post 0 0 := P
  show WM G F 1 0 0 0 [(0, .ref (E.2.2.1 136))] [] M
  refine wm_aload_n C d_Run_isHeld_0 rfl (j := 0) rfl ?_
  refine wm_get C co_Run (rp_run hR) 5 (by decide) fl_Run_45 rfl d_Run_isHeld_1 ?_
  refine wm_if_eq (tgt := 19) C d_Run_isHeld_4 (by decide) (fun (h_4 : s.2.2.1.2.1 = 0) => ?_) (fun (h_4 : ¬ s.2.2.1.2.1 = 0) => ?_)
  · refine wm_iconst (v := 0) C d_Run_isHeld_19 (by decide) ?_
    refine wm_zret C P rfl d_Run_isHeld_20 ?_
    have e : cy_Run_isHeld s = 0 := by rw [cy_Run_isHeld, if_pos h_4]
    rw [e] at h
    exact h
  · refine wm_aload_n C d_Run_isHeld_7 rfl (j := 0) rfl ?_
    refine wm_get C co_Run (rp_run hR) 6 (by decide) fl_Run_49 rfl d_Run_isHeld_8 ?_
    refine wm_iconst (v := 1) C d_Run_isHeld_11 (by decide) ?_
    refine wm_icmp_ne (tgt := 19) C d_Run_isHeld_12 (by decide) (fun (h_12 : ¬ s.2.2.1.2.2.1 = 1) => ?_) (fun (h_12 : s.2.2.1.2.2.1 = 1) => ?_)
    · refine wm_iconst (v := 0) C d_Run_isHeld_19 (by decide) ?_
      refine wm_zret C P rfl d_Run_isHeld_20 ?_
      have e : cy_Run_isHeld s = 0 := by rw [cy_Run_isHeld, if_neg h_4, if_neg h_12]
      rw [e] at h
      exact h
    · refine wm_iconst (v := 1) C d_Run_isHeld_15 (by decide) ?_
      refine wm_goto (tgt := 20) C d_Run_isHeld_16 (by decide) ?_
      refine wm_zret C P rfl d_Run_isHeld_20 ?_
      have e : cy_Run_isHeld s = 1 := by rw [cy_Run_isHeld, if_neg h_4, if_pos h_12]
      rw [e] at h
      exact h
def cy_Run_fail (s : cy_S) (why : Int32) : cy_S :=
  (cy_s_reason (cy_s_status s 2) why)
set_option maxHeartbeats 4000000 in
theorem c_Run_fail {G : cy_G} {E : cy_E} {s : cy_S} {M : cy_Hp} {post : Option Value → cy_Hp → Prop} (hE : cy_Eo G E) (hR : cy_R E s M)  (why : Int32) (h : ∀ M', cy_R E (cy_Run_fail s why) M' → post none M') : cy_Ct G 0 m_Run_fail [.ref (E.2.2.1 136), .int why] M 0 0 post := by
  refine cy_Ct.of (by decide) (Nat.le_of_ble_eq_true rfl) ?_
  intro F C P _
  have C : cy_C G F R_Run b_Run_fail 2 0 0 0 := C
  have P : cy_P G F none post 0 0 := P
  show WM G F 2 0 0 0 [(0, .ref (E.2.2.1 136)), (1, .int why)] [] M
  refine wm_aload_n C d_Run_fail_0 rfl (j := 0) rfl ?_
  refine wm_iconst (v := 2) C d_Run_fail_1 (by decide) ?_
  refine wm_put C co_Run (rp_run hR) 6 (by decide) fl_Run_49 rfl rfl rfl (Nat.le_of_ble_eq_true rfl) d_Run_fail_2 ?_
  refine wm_gen (rp_p_status hE hR 2) (fun M1 hR1 => ?_)
  refine wm_aload_n C d_Run_fail_5 rfl (j := 0) rfl ?_
  refine wm_iload_n C d_Run_fail_6 rfl (j := 1) rfl ?_
  refine wm_put C co_Run (rp_run hR1) 8 (by decide) fl_Run_79 rfl rfl rfl (Nat.le_of_ble_eq_true rfl) d_Run_fail_7 ?_
  refine wm_gen (rp_p_reason hE hR1 why) (fun M2 hR2 => ?_)
  refine wm_vret C P d_Run_fail_10 ?_
  have e : cy_Run_fail s why = (cy_s_reason (cy_s_status s 2) why) := by rw [cy_Run_fail]
  rw [e] at h
  exact h _ hR2
def cy_Run_combined (op : Int32) (a : Int32) (b : Int32) : Int32 :=
  if op = 5 then
    a + b
  else
    if op = 6 then
      a - b
    else
      if op = 7 then
        a * b
      else
        if op = 8 then
          a &&& b
        else
          if op = 9 then
            a ||| b
          else
            if op = 10 then
              a ^^^ b
            else
              if op = 11 then
                a <<< (b &&& 31)
              else
                a >>> (b &&& 31)
set_option maxHeartbeats 4000000 in
theorem c_Run_combined {G : cy_G} {E : cy_E} {s : cy_S} {M : cy_Hp} {post : Option Value → cy_Hp → Prop} (hE : cy_Eo G E) (hR : cy_R E s M)  (op : Int32) (a : Int32) (b : Int32) (h : post (some (.int (cy_Run_combined op a b))) M) : cy_Ct G 0 m_Run_combined [.int op, .int a, .int b] M 0 0 post := by
  refine cy_Ct.of (by decide) (Nat.le_of_ble_eq_true rfl) ?_
  intro F C P _
  have C : cy_C G F R_Run b_Run_combined 3 0 0 0 := C
  have P : cy_P G F (some .int) post 0 0 := P
  show WM G F 3 0 0 0 [(0, .int op), (1, .int a), (2, .int b)] [] M
  refine wm_iload_n C d_Run_combined_0 rfl (j := 0) rfl ?_
  by_cases e_1_5 : op = 5
  · refine wm_tableIn (tgt := 44) C d_Run_combined_1 (by rw [e_1_5]; decide) (by rw [e_1_5]; decide) (by rw [e_1_5]; rfl) (by decide) ?_
    refine wm_iload_n C d_Run_combined_44 rfl (j := 1) rfl ?_
    refine wm_iload_n C d_Run_combined_45 rfl (j := 2) rfl ?_
    refine wm_iadd C d_Run_combined_46 ?_
    refine wm_iret C P d_Run_combined_47 ?_
    have e : cy_Run_combined op a b = a + b := by rw [cy_Run_combined, if_pos e_1_5]
    rw [e] at h
    exact h
  by_cases e_1_6 : op = 6
  · refine wm_tableIn (tgt := 48) C d_Run_combined_1 (by rw [e_1_6]; decide) (by rw [e_1_6]; decide) (by rw [e_1_6]; rfl) (by decide) ?_
    refine wm_iload_n C d_Run_combined_48 rfl (j := 1) rfl ?_
    refine wm_iload_n C d_Run_combined_49 rfl (j := 2) rfl ?_
    refine wm_isub C d_Run_combined_50 ?_
    refine wm_iret C P d_Run_combined_51 ?_
    have e : cy_Run_combined op a b = a - b := by rw [cy_Run_combined, if_neg e_1_5, if_pos e_1_6]
    rw [e] at h
    exact h
  by_cases e_1_7 : op = 7
  · refine wm_tableIn (tgt := 52) C d_Run_combined_1 (by rw [e_1_7]; decide) (by rw [e_1_7]; decide) (by rw [e_1_7]; rfl) (by decide) ?_
    refine wm_iload_n C d_Run_combined_52 rfl (j := 1) rfl ?_
    refine wm_iload_n C d_Run_combined_53 rfl (j := 2) rfl ?_
    refine wm_imul C d_Run_combined_54 ?_
    refine wm_iret C P d_Run_combined_55 ?_
    have e : cy_Run_combined op a b = a * b := by rw [cy_Run_combined, if_neg e_1_5, if_neg e_1_6, if_pos e_1_7]
    rw [e] at h
    exact h
  by_cases e_1_8 : op = 8
  · refine wm_tableIn (tgt := 56) C d_Run_combined_1 (by rw [e_1_8]; decide) (by rw [e_1_8]; decide) (by rw [e_1_8]; rfl) (by decide) ?_
    refine wm_iload_n C d_Run_combined_56 rfl (j := 1) rfl ?_
    refine wm_iload_n C d_Run_combined_57 rfl (j := 2) rfl ?_
    refine wm_iand C d_Run_combined_58 ?_
    refine wm_iret C P d_Run_combined_59 ?_
    have e : cy_Run_combined op a b = a &&& b := by rw [cy_Run_combined, if_neg e_1_5, if_neg e_1_6, if_neg e_1_7, if_pos e_1_8]
    rw [e] at h
    exact h
  by_cases e_1_9 : op = 9
  · refine wm_tableIn (tgt := 60) C d_Run_combined_1 (by rw [e_1_9]; decide) (by rw [e_1_9]; decide) (by rw [e_1_9]; rfl) (by decide) ?_
    refine wm_iload_n C d_Run_combined_60 rfl (j := 1) rfl ?_
    refine wm_iload_n C d_Run_combined_61 rfl (j := 2) rfl ?_
    refine wm_ior C d_Run_combined_62 ?_
    refine wm_iret C P d_Run_combined_63 ?_
    have e : cy_Run_combined op a b = a ||| b := by rw [cy_Run_combined, if_neg e_1_5, if_neg e_1_6, if_neg e_1_7, if_neg e_1_8, if_pos e_1_9]
    rw [e] at h
    exact h
  by_cases e_1_10 : op = 10
  · refine wm_tableIn (tgt := 64) C d_Run_combined_1 (by rw [e_1_10]; decide) (by rw [e_1_10]; decide) (by rw [e_1_10]; rfl) (by decide) ?_
    refine wm_iload_n C d_Run_combined_64 rfl (j := 1) rfl ?_
    refine wm_iload_n C d_Run_combined_65 rfl (j := 2) rfl ?_
    refine wm_ixor C d_Run_combined_66 ?_
    refine wm_iret C P d_Run_combined_67 ?_
    have e : cy_Run_combined op a b = a ^^^ b := by rw [cy_Run_combined, if_neg e_1_5, if_neg e_1_6, if_neg e_1_7, if_neg e_1_8, if_neg e_1_9, if_pos e_1_10]
    rw [e] at h
    exact h
  by_cases e_1_11 : op = 11
  · refine wm_tableIn (tgt := 68) C d_Run_combined_1 (by rw [e_1_11]; decide) (by rw [e_1_11]; decide) (by rw [e_1_11]; rfl) (by decide) ?_
    refine wm_iload_n C d_Run_combined_68 rfl (j := 1) rfl ?_
    refine wm_iload_n C d_Run_combined_69 rfl (j := 2) rfl ?_
    refine wm_ishl C d_Run_combined_70 ?_
    refine wm_iret C P d_Run_combined_71 ?_
    have e : cy_Run_combined op a b = a <<< (b &&& 31) := by rw [cy_Run_combined, if_neg e_1_5, if_neg e_1_6, if_neg e_1_7, if_neg e_1_8, if_neg e_1_9, if_neg e_1_10, if_pos e_1_11]
    rw [e] at h
    exact h
  · refine wm_tableOut (tgt := 72) C d_Run_combined_1 (by have n0 := lv_neT e_1_5 (a := 5) (by decide); have n1 := lv_neT e_1_6 (a := 6) (by decide); have n2 := lv_neT e_1_7 (a := 7) (by decide); have n3 := lv_neT e_1_8 (a := 8) (by decide); have n4 := lv_neT e_1_9 (a := 9) (by decide); have n5 := lv_neT e_1_10 (a := 10) (by decide); have n6 := lv_neT e_1_11 (a := 11) (by decide); omega) (by decide) ?_
    refine wm_iload_n C d_Run_combined_72 rfl (j := 1) rfl ?_
    refine wm_iload_n C d_Run_combined_73 rfl (j := 2) rfl ?_
    refine wm_ishr C d_Run_combined_74 ?_
    refine wm_iret C P d_Run_combined_75 ?_
    have e : cy_Run_combined op a b = a >>> (b &&& 31) := by rw [cy_Run_combined, if_neg e_1_5, if_neg e_1_6, if_neg e_1_7, if_neg e_1_8, if_neg e_1_9, if_neg e_1_10, if_neg e_1_11]
    rw [e] at h
    exact h
def cy_Survey_fault (number : Int32) (place : Int32) : Int32 :=
  ((-1000) * number) - place
set_option maxHeartbeats 4000000 in
theorem c_Survey_fault {G : cy_G} {E : cy_E} {s : cy_S} {M : cy_Hp} {post : Option Value → cy_Hp → Prop} (hE : cy_Eo G E) (hR : cy_R E s M)  (number : Int32) (place : Int32) (h : post (some (.int (cy_Survey_fault number place))) M) : cy_Ct G 0 m_Survey_fault [.int number, .int place] M 0 0 post := by
  refine cy_Ct.of (by decide) (Nat.le_of_ble_eq_true rfl) ?_
  intro F C P _
  have C : cy_C G F R_Survey b_Survey_fault 2 0 0 0 := C
  have P : cy_P G F (some .int) post 0 0 := P
  show WM G F 2 0 0 0 [(0, .int number), (1, .int place)] [] M
  refine wm_sipush (v := -1000) C d_Survey_fault_0 (by decide) ?_
  refine wm_iload_n C d_Survey_fault_3 rfl (j := 0) rfl ?_
  refine wm_imul C d_Survey_fault_4 ?_
  refine wm_iload_n C d_Survey_fault_5 rfl (j := 1) rfl ?_
  refine wm_isub C d_Survey_fault_6 ?_
  refine wm_iret C P d_Survey_fault_7 ?_
  have e : cy_Survey_fault number place = ((-1000) * number) - place := by rw [cy_Survey_fault]
  rw [e] at h
  exact h
def cy_Run_combine (s : cy_S) (op : Int32) : cy_S :=
  (cy_radd (cy_rdrop (cy_rdrop s (42 + 2 * s.2.2.1.1)) (42 + 2 * s.2.2.1.1)) (42 + 2 * s.2.2.1.1) (cy_Run_combined op (cy_rlast (cy_rdrop s (42 + 2 * s.2.2.1.1)) (42 + 2 * s.2.2.1.1)) (cy_rlast s (42 + 2 * s.2.2.1.1))))
set_option maxHeartbeats 4000000 in
theorem c_Run_combine {G : cy_G} {E : cy_E} {s : cy_S} {M : cy_Hp} {post : Option Value → cy_Hp → Prop} (hE : cy_Eo G E) (hR : cy_R E s M)  (op : Int32) (h : ∀ M', cy_R E (cy_Run_combine s op) M' → post none M') : cy_Ct G 1 m_Run_combine [.ref (E.2.2.1 136), .int op] M 0 0 post := by
  refine cy_Ct.of (by decide) (Nat.le_of_ble_eq_true rfl) ?_
  intro F C P _
  have C : cy_C G F R_Run b_Run_combine 4 1 0 0 := C
  have P : cy_P G F none post 0 0 := P
  show WM G F 4 0 0 0 [(0, .ref (E.2.2.1 136)), (1, .int op)] [] M
  refine wm_aload_n C d_Run_combine_0 rfl (j := 0) rfl ?_
  refine wm_get C co_Run (rp_run hR) 4 (by decide) fl_Run_39 rfl d_Run_combine_1 ?_
  refine wm_getN C co_Frame (rp_frame hR (rp_work (s := s) hR)) 3 (by decide) fl_Run_131 rfl d_Run_combine_4 ?_
  refine wm_callVN (d2 := 0) (mc := 0) (ms := 0) C mo_Row_takeLast co_Row ml_Run_144 [] [] rfl (rp_row hR (rb42 (rp_work (s := s) hR))) rfl (by decide) (Nat.le_of_ble_eq_true rfl) (Nat.le_refl _) (Nat.le_refl _) d_Run_combine_7 (cy_ki ?_)
  refine c_take hE hR (rb42 (rp_work (s := s) hR)) (fun M1 hR1 => ⟨_, rfl, ?_⟩)
  refine wm_istore_n (lv' := [(2, .int (cy_rlast s (42 + 2 * s.2.2.1.1))), (0, .ref (E.2.2.1 136)), (1, .int op)]) C d_Run_combine_10 rfl (by decide) rfl ?_
  refine wm_aload_n C d_Run_combine_11 rfl (j := 1) rfl ?_
  refine wm_get C co_Run (rp_run hR1) 4 (by decide) fl_Run_39 rfl d_Run_combine_12 ?_
  refine wm_getN C co_Frame (rp_frame hR1 (rp_work (s := s) hR)) 3 (by decide) fl_Run_131 rfl d_Run_combine_15 ?_
  refine wm_callVN (d2 := 0) (mc := 0) (ms := 0) C mo_Row_takeLast co_Row ml_Run_144 [] [] rfl (rp_row hR1 (rb42 (rp_work (s := s) hR))) rfl (by decide) (Nat.le_of_ble_eq_true rfl) (Nat.le_refl _) (Nat.le_refl _) d_Run_combine_18 (cy_ki ?_)
  refine c_take hE hR1 (rb42 (rp_work (s := s) hR)) (fun M2 hR2 => ⟨_, rfl, ?_⟩)
  refine wm_istore_n (lv' := [(3, .int (cy_rlast (cy_rdrop s (42 + 2 * s.2.2.1.1)) (42 + 2 * s.2.2.1.1))), (2, .int (cy_rlast s (42 + 2 * s.2.2.1.1))), (0, .ref (E.2.2.1 136)), (1, .int op)]) C d_Run_combine_21 rfl (by decide) rfl ?_
  refine wm_aload_n C d_Run_combine_22 rfl (j := 2) rfl ?_
  refine wm_get C co_Run (rp_run hR2) 4 (by decide) fl_Run_39 rfl d_Run_combine_23 ?_
  refine wm_getN C co_Frame (rp_frame hR2 (rp_work (s := s) hR)) 3 (by decide) fl_Run_131 rfl d_Run_combine_26 ?_
  refine wm_iload_n C d_Run_combine_29 rfl (j := 3) rfl ?_
  refine wm_iload_n C d_Run_combine_30 rfl (j := 0) rfl ?_
  refine wm_iload_n C d_Run_combine_31 rfl (j := 1) rfl ?_
  refine wm_callS (d2 := 0) (mc := 0) (ms := 0) C mo_Run_combined ml_Run_153 [.int op, .int (cy_rlast (cy_rdrop s (42 + 2 * s.2.2.1.1)) (42 + 2 * s.2.2.1.1)), .int (cy_rlast s (42 + 2 * s.2.2.1.1))] [.ref (E.2.2.1 (2 * (42 + 2 * s.2.2.1.1)))] rfl rfl (by decide) (Nat.le_of_ble_eq_true rfl) (Nat.le_refl _) (Nat.le_refl _) d_Run_combine_32 (cy_ki ?_)
  refine c_Run_combined hE hR2  _ _ _ ⟨_, rfl, ?_⟩
  refine wm_callVN (d2 := 0) (mc := 0) (ms := 0) C mo_Row_add co_Row ml_Run_134 [.int (cy_Run_combined op (cy_rlast (cy_rdrop s (42 + 2 * s.2.2.1.1)) (42 + 2 * s.2.2.1.1)) (cy_rlast s (42 + 2 * s.2.2.1.1)))] [] rfl (rp_row hR2 (rb42 (rp_work (s := s) hR))) rfl (by decide) (Nat.le_of_ble_eq_true rfl) (Nat.le_refl _) (Nat.le_refl _) d_Run_combine_35 (cy_kv ?_)
  refine c_add hE hR2 (rb42 (rp_work (s := s) hR)) _ (fun M3 hR3 => ⟨rfl, ?_⟩)
  refine wm_vret C P d_Run_combine_38 ?_
  have e : cy_Run_combine s op = (cy_radd (cy_rdrop (cy_rdrop s (42 + 2 * s.2.2.1.1)) (42 + 2 * s.2.2.1.1)) (42 + 2 * s.2.2.1.1) (cy_Run_combined op (cy_rlast (cy_rdrop s (42 + 2 * s.2.2.1.1)) (42 + 2 * s.2.2.1.1)) (cy_rlast s (42 + 2 * s.2.2.1.1)))) := by rw [cy_Run_combine]
  rw [e] at h
  exact h _ hR3
def cy_Run_move (s : cy_S) (op : Int32) (n : Int32) : cy_S :=
  if op = 0 then
    (cy_radd s (42 + 2 * s.2.2.1.1) n.toInt8.toInt32)
  else
    if op = 1 then
      (cy_radd s (42 + 2 * s.2.2.1.1) (cy_rat s (8 + 4 * ((s.2.1 s.2.2.1.1).1)) n 0))
    else
      if op = 2 then
        (cy_rput (cy_rdrop s (42 + 2 * s.2.2.1.1)) (8 + 4 * ((s.2.1 s.2.2.1.1).1)) n (cy_rlast s (42 + 2 * s.2.2.1.1)))
      else
        if op = 3 then
          (cy_radd s (42 + 2 * s.2.2.1.1) (cy_rat s (43 + 2 * s.2.2.1.1) n 0))
        else
          (cy_rput (cy_rdrop s (42 + 2 * s.2.2.1.1)) (43 + 2 * s.2.2.1.1) n (cy_rlast s (42 + 2 * s.2.2.1.1)))
set_option maxHeartbeats 4000000 in
theorem c_Run_move {G : cy_G} {E : cy_E} {s : cy_S} {M : cy_Hp} {post : Option Value → cy_Hp → Prop} (hE : cy_Eo G E) (hR : cy_R E s M)  (op : Int32) (n : Int32) (h : ∀ M', cy_R E (cy_Run_move s op n) M' → post none M') : cy_Ct G 1 m_Run_move [.ref (E.2.2.1 136), .int op, .int n] M 0 0 post := by
  refine cy_Ct.of (by decide) (Nat.le_of_ble_eq_true rfl) ?_
  intro F C P _
  have C : cy_C G F R_Run b_Run_move 4 1 0 0 := C
  have P : cy_P G F none post 0 0 := P
  show WM G F 4 0 0 0 [(0, .ref (E.2.2.1 136)), (1, .int op), (2, .int n)] [] M
  refine wm_aload_n C d_Run_move_0 rfl (j := 0) rfl ?_
  refine wm_get C co_Run (rp_run hR) 4 (by decide) fl_Run_39 rfl d_Run_move_1 ?_
  refine wm_getN C co_Frame (rp_frame hR (rp_work (s := s) hR)) 3 (by decide) fl_Run_131 rfl d_Run_move_4 ?_
  refine wm_astore_n (lv' := [(3, .ref (E.2.2.1 (2 * (42 + 2 * s.2.2.1.1)))), (0, .ref (E.2.2.1 136)), (1, .int op), (2, .int n)]) C d_Run_move_7 rfl (by decide) rfl ?_
  refine wm_iload_n C d_Run_move_8 rfl (j := 2) rfl ?_
  by_cases e_9_0 : op = 0
  · refine wm_tableIn (tgt := 40) C d_Run_move_9 (by rw [e_9_0]; decide) (by rw [e_9_0]; decide) (by rw [e_9_0]; rfl) (by decide) ?_
    refine wm_aload_n C d_Run_move_40 rfl (j := 0) rfl ?_
    refine wm_iload_n C d_Run_move_41 rfl (j := 3) rfl ?_
    refine wm_i2b C d_Run_move_42 rfl ?_
    refine wm_callVN (d2 := 0) (mc := 0) (ms := 0) C mo_Row_add co_Row ml_Run_134 [.int n.toInt8.toInt32] [] rfl (rp_row hR (rb42 (rp_work (s := s) hR))) rfl (by decide) (Nat.le_of_ble_eq_true rfl) (Nat.le_refl _) (Nat.le_refl _) d_Run_move_43 (cy_kv ?_)
    refine c_add hE hR (rb42 (rp_work (s := s) hR)) _ (fun M1 hR1 => ⟨rfl, ?_⟩)
    refine wm_goto (tgt := 126) C d_Run_move_46 (by decide) ?_
    refine wm_vret C P d_Run_move_126 ?_
    have e : cy_Run_move s op n = (cy_radd s (42 + 2 * s.2.2.1.1) n.toInt8.toInt32) := by rw [cy_Run_move, if_pos e_9_0]
    rw [e] at h
    exact h _ hR1
  by_cases e_9_1 : op = 1
  · refine wm_tableIn (tgt := 49) C d_Run_move_9 (by rw [e_9_1]; decide) (by rw [e_9_1]; decide) (by rw [e_9_1]; rfl) (by decide) ?_
    refine wm_aload_n C d_Run_move_49 rfl (j := 0) rfl ?_
    refine wm_aload_n C d_Run_move_50 rfl (j := 1) rfl ?_
    refine wm_get C co_Run (rp_run hR) 4 (by decide) fl_Run_39 rfl d_Run_move_51 ?_
    refine wm_getN C co_Frame (rp_frame hR (rp_work (s := s) hR)) 5 (by decide) fl_Run_91 rfl d_Run_move_54 ?_
    refine wm_getN C co_Code (rp_code hR (rp_fc (s := s) hR (rp_work (s := s) hR))) 3 (by decide) fl_Run_137 rfl d_Run_move_57 ?_
    refine wm_iload_n C d_Run_move_60 rfl (j := 3) rfl ?_
    refine wm_iconst (v := 0) C d_Run_move_61 (by decide) ?_
    refine wm_callVN (d2 := 0) (mc := 0) (ms := 0) C mo_Row_at co_Row ml_Run_140 [.int n, .int 0] [.ref (E.2.2.1 (2 * (42 + 2 * s.2.2.1.1)))] rfl (rp_row hR (rb8 (rp_fc (s := s) hR (rp_work (s := s) hR)))) rfl (by decide) (Nat.le_of_ble_eq_true rfl) (Nat.le_refl _) (Nat.le_refl _) d_Run_move_62 (cy_ki ?_)
    refine c_at hE hR (rb8 (rp_fc (s := s) hR (rp_work (s := s) hR))) _ _ ⟨_, rfl, ?_⟩
    refine wm_callVN (d2 := 0) (mc := 0) (ms := 0) C mo_Row_add co_Row ml_Run_134 [.int (cy_rat s (8 + 4 * ((s.2.1 s.2.2.1.1).1)) n 0)] [] rfl (rp_row hR (rb42 (rp_work (s := s) hR))) rfl (by decide) (Nat.le_of_ble_eq_true rfl) (Nat.le_refl _) (Nat.le_refl _) d_Run_move_65 (cy_kv ?_)
    refine c_add hE hR (rb42 (rp_work (s := s) hR)) _ (fun M2 hR2 => ⟨rfl, ?_⟩)
    refine wm_goto (tgt := 126) C d_Run_move_68 (by decide) ?_
    refine wm_vret C P d_Run_move_126 ?_
    have e : cy_Run_move s op n = (cy_radd s (42 + 2 * s.2.2.1.1) (cy_rat s (8 + 4 * ((s.2.1 s.2.2.1.1).1)) n 0)) := by rw [cy_Run_move, if_neg e_9_0, if_pos e_9_1]
    rw [e] at h
    exact h _ hR2
  by_cases e_9_2 : op = 2
  · refine wm_tableIn (tgt := 71) C d_Run_move_9 (by rw [e_9_2]; decide) (by rw [e_9_2]; decide) (by rw [e_9_2]; rfl) (by decide) ?_
    refine wm_aload_n C d_Run_move_71 rfl (j := 1) rfl ?_
    refine wm_get C co_Run (rp_run hR) 4 (by decide) fl_Run_39 rfl d_Run_move_72 ?_
    refine wm_getN C co_Frame (rp_frame hR (rp_work (s := s) hR)) 5 (by decide) fl_Run_91 rfl d_Run_move_75 ?_
    refine wm_getN C co_Code (rp_code hR (rp_fc (s := s) hR (rp_work (s := s) hR))) 3 (by decide) fl_Run_137 rfl d_Run_move_78 ?_
    refine wm_iload_n C d_Run_move_81 rfl (j := 3) rfl ?_
    refine wm_aload_n C d_Run_move_82 rfl (j := 0) rfl ?_
    refine wm_callVN (d2 := 0) (mc := 0) (ms := 0) C mo_Row_takeLast co_Row ml_Run_144 [] [.int n, .ref (E.2.2.1 (2 * (8 + 4 * ((s.2.1 s.2.2.1.1).1))))] rfl (rp_row hR (rb42 (rp_work (s := s) hR))) rfl (by decide) (Nat.le_of_ble_eq_true rfl) (Nat.le_refl _) (Nat.le_refl _) d_Run_move_83 (cy_ki ?_)
    refine c_take hE hR (rb42 (rp_work (s := s) hR)) (fun M3 hR3 => ⟨_, rfl, ?_⟩)
    refine wm_callVN (d2 := 0) (mc := 0) (ms := 0) C mo_Row_put co_Row ml_Run_147 [.int n, .int (cy_rlast s (42 + 2 * s.2.2.1.1))] [] rfl (rp_row hR3 (rb8 (rp_fc (s := s) hR (rp_work (s := s) hR)))) rfl (by decide) (Nat.le_of_ble_eq_true rfl) (Nat.le_refl _) (Nat.le_refl _) d_Run_move_86 (cy_kv ?_)
    refine c_put hE hR3 (rb8 (rp_fc (s := s) hR (rp_work (s := s) hR))) _ _ (fun M4 hR4 => ⟨rfl, ?_⟩)
    refine wm_goto (tgt := 126) C d_Run_move_89 (by decide) ?_
    refine wm_vret C P d_Run_move_126 ?_
    have e : cy_Run_move s op n = (cy_rput (cy_rdrop s (42 + 2 * s.2.2.1.1)) (8 + 4 * ((s.2.1 s.2.2.1.1).1)) n (cy_rlast s (42 + 2 * s.2.2.1.1))) := by rw [cy_Run_move, if_neg e_9_0, if_neg e_9_1, if_pos e_9_2]
    rw [e] at h
    exact h _ hR4
  by_cases e_9_3 : op = 3
  · refine wm_tableIn (tgt := 92) C d_Run_move_9 (by rw [e_9_3]; decide) (by rw [e_9_3]; decide) (by rw [e_9_3]; rfl) (by decide) ?_
    refine wm_aload_n C d_Run_move_92 rfl (j := 0) rfl ?_
    refine wm_aload_n C d_Run_move_93 rfl (j := 1) rfl ?_
    refine wm_get C co_Run (rp_run hR) 4 (by decide) fl_Run_39 rfl d_Run_move_94 ?_
    refine wm_getN C co_Frame (rp_frame hR (rp_work (s := s) hR)) 4 (by decide) fl_Run_150 rfl d_Run_move_97 ?_
    refine wm_iload_n C d_Run_move_100 rfl (j := 3) rfl ?_
    refine wm_iconst (v := 0) C d_Run_move_101 (by decide) ?_
    refine wm_callVN (d2 := 0) (mc := 0) (ms := 0) C mo_Row_at co_Row ml_Run_140 [.int n, .int 0] [.ref (E.2.2.1 (2 * (42 + 2 * s.2.2.1.1)))] rfl (rp_row hR (rb43 (rp_work (s := s) hR))) rfl (by decide) (Nat.le_of_ble_eq_true rfl) (Nat.le_refl _) (Nat.le_refl _) d_Run_move_102 (cy_ki ?_)
    refine c_at hE hR (rb43 (rp_work (s := s) hR)) _ _ ⟨_, rfl, ?_⟩
    refine wm_callVN (d2 := 0) (mc := 0) (ms := 0) C mo_Row_add co_Row ml_Run_134 [.int (cy_rat s (43 + 2 * s.2.2.1.1) n 0)] [] rfl (rp_row hR (rb42 (rp_work (s := s) hR))) rfl (by decide) (Nat.le_of_ble_eq_true rfl) (Nat.le_refl _) (Nat.le_refl _) d_Run_move_105 (cy_kv ?_)
    refine c_add hE hR (rb42 (rp_work (s := s) hR)) _ (fun M5 hR5 => ⟨rfl, ?_⟩)
    refine wm_goto (tgt := 126) C d_Run_move_108 (by decide) ?_
    refine wm_vret C P d_Run_move_126 ?_
    have e : cy_Run_move s op n = (cy_radd s (42 + 2 * s.2.2.1.1) (cy_rat s (43 + 2 * s.2.2.1.1) n 0)) := by rw [cy_Run_move, if_neg e_9_0, if_neg e_9_1, if_neg e_9_2, if_pos e_9_3]
    rw [e] at h
    exact h _ hR5
  · refine wm_tableOut (tgt := 111) C d_Run_move_9 (by have n0 := lv_neT e_9_0 (a := 0) (by decide); have n1 := lv_neT e_9_1 (a := 1) (by decide); have n2 := lv_neT e_9_2 (a := 2) (by decide); have n3 := lv_neT e_9_3 (a := 3) (by decide); omega) (by decide) ?_
    refine wm_aload_n C d_Run_move_111 rfl (j := 1) rfl ?_
    refine wm_get C co_Run (rp_run hR) 4 (by decide) fl_Run_39 rfl d_Run_move_112 ?_
    refine wm_getN C co_Frame (rp_frame hR (rp_work (s := s) hR)) 4 (by decide) fl_Run_150 rfl d_Run_move_115 ?_
    refine wm_iload_n C d_Run_move_118 rfl (j := 3) rfl ?_
    refine wm_aload_n C d_Run_move_119 rfl (j := 0) rfl ?_
    refine wm_callVN (d2 := 0) (mc := 0) (ms := 0) C mo_Row_takeLast co_Row ml_Run_144 [] [.int n, .ref (E.2.2.1 (2 * (43 + 2 * s.2.2.1.1)))] rfl (rp_row hR (rb42 (rp_work (s := s) hR))) rfl (by decide) (Nat.le_of_ble_eq_true rfl) (Nat.le_refl _) (Nat.le_refl _) d_Run_move_120 (cy_ki ?_)
    refine c_take hE hR (rb42 (rp_work (s := s) hR)) (fun M6 hR6 => ⟨_, rfl, ?_⟩)
    refine wm_callVN (d2 := 0) (mc := 0) (ms := 0) C mo_Row_put co_Row ml_Run_147 [.int n, .int (cy_rlast s (42 + 2 * s.2.2.1.1))] [] rfl (rp_row hR6 (rb43 (rp_work (s := s) hR))) rfl (by decide) (Nat.le_of_ble_eq_true rfl) (Nat.le_refl _) (Nat.le_refl _) d_Run_move_123 (cy_kv ?_)
    refine c_put hE hR6 (rb43 (rp_work (s := s) hR)) _ _ (fun M7 hR7 => ⟨rfl, ?_⟩)
    refine wm_vret C P d_Run_move_126 ?_
    have e : cy_Run_move s op n = (cy_rput (cy_rdrop s (42 + 2 * s.2.2.1.1)) (43 + 2 * s.2.2.1.1) n (cy_rlast s (42 + 2 * s.2.2.1.1))) := by rw [cy_Run_move, if_neg e_9_0, if_neg e_9_1, if_neg e_9_2, if_neg e_9_3]
    rw [e] at h
    exact h _ hR7
def cy_Run_rearrange (s : cy_S) (op : Int32) : cy_S :=
  if op = 14 then
    (cy_rdrop s (42 + 2 * s.2.2.1.1))
  else
    if op = 13 then
      (cy_radd (cy_radd (cy_rdrop s (42 + 2 * s.2.2.1.1)) (42 + 2 * s.2.2.1.1) (cy_rlast s (42 + 2 * s.2.2.1.1))) (42 + 2 * s.2.2.1.1) (cy_rlast s (42 + 2 * s.2.2.1.1)))
    else
      (cy_radd (cy_radd (cy_rdrop (cy_rdrop s (42 + 2 * s.2.2.1.1)) (42 + 2 * s.2.2.1.1)) (42 + 2 * s.2.2.1.1) (cy_rlast s (42 + 2 * s.2.2.1.1))) (42 + 2 * s.2.2.1.1) (cy_rlast (cy_rdrop s (42 + 2 * s.2.2.1.1)) (42 + 2 * s.2.2.1.1)))
set_option maxHeartbeats 4000000 in
theorem c_Run_rearrange {G : cy_G} {E : cy_E} {s : cy_S} {M : cy_Hp} {post : Option Value → cy_Hp → Prop} (hE : cy_Eo G E) (hR : cy_R E s M)  (op : Int32) (h : ∀ M', cy_R E (cy_Run_rearrange s op) M' → post none M') : cy_Ct G 1 m_Run_rearrange [.ref (E.2.2.1 136), .int op] M 0 0 post := by
  refine cy_Ct.of (by decide) (Nat.le_of_ble_eq_true rfl) ?_
  intro F C P _
  have C : cy_C G F R_Run b_Run_rearrange 5 1 0 0 := C
  have P : cy_P G F none post 0 0 := P
  show WM G F 5 0 0 0 [(0, .ref (E.2.2.1 136)), (1, .int op)] [] M
  refine wm_aload_n C d_Run_rearrange_0 rfl (j := 0) rfl ?_
  refine wm_get C co_Run (rp_run hR) 4 (by decide) fl_Run_39 rfl d_Run_rearrange_1 ?_
  refine wm_getN C co_Frame (rp_frame hR (rp_work (s := s) hR)) 3 (by decide) fl_Run_131 rfl d_Run_rearrange_4 ?_
  refine wm_astore_n (lv' := [(2, .ref (E.2.2.1 (2 * (42 + 2 * s.2.2.1.1)))), (0, .ref (E.2.2.1 136)), (1, .int op)]) C d_Run_rearrange_7 rfl (by decide) rfl ?_
  refine wm_aload_n C d_Run_rearrange_8 rfl (j := 0) rfl ?_
  refine wm_callVN (d2 := 0) (mc := 0) (ms := 0) C mo_Row_takeLast co_Row ml_Run_144 [] [] rfl (rp_row hR (rb42 (rp_work (s := s) hR))) rfl (by decide) (Nat.le_of_ble_eq_true rfl) (Nat.le_refl _) (Nat.le_refl _) d_Run_rearrange_9 (cy_ki ?_)
  refine c_take hE hR (rb42 (rp_work (s := s) hR)) (fun M1 hR1 => ⟨_, rfl, ?_⟩)
  refine wm_istore_n (lv' := [(3, .int (cy_rlast s (42 + 2 * s.2.2.1.1))), (2, .ref (E.2.2.1 (2 * (42 + 2 * s.2.2.1.1)))), (0, .ref (E.2.2.1 136)), (1, .int op)]) C d_Run_rearrange_12 rfl (by decide) rfl ?_
  refine wm_iload_n C d_Run_rearrange_13 rfl (j := 3) rfl ?_
  refine wm_bipush (v := 14) C d_Run_rearrange_14 (by decide) ?_
  refine wm_icmp_eq (tgt := 46) C d_Run_rearrange_16 (by decide) (fun (h_16 : op = 14) => ?_) (fun (h_16 : ¬ op = 14) => ?_)
  · refine wm_vret C P d_Run_rearrange_46 ?_
    have e : cy_Run_rearrange s op = (cy_rdrop s (42 + 2 * s.2.2.1.1)) := by rw [cy_Run_rearrange, if_pos h_16]
    rw [e] at h
    exact h _ hR1
  · refine wm_iload_n C d_Run_rearrange_19 rfl (j := 3) rfl ?_
    refine wm_bipush (v := 13) C d_Run_rearrange_20 (by decide) ?_
    refine wm_icmp_ne (tgt := 29) C d_Run_rearrange_22 (by decide) (fun (h_22 : ¬ op = 13) => ?_) (fun (h_22 : op = 13) => ?_)
    · refine wm_aload_n C d_Run_rearrange_29 rfl (j := 1) rfl ?_
      refine wm_callVN (d2 := 0) (mc := 0) (ms := 0) C mo_Row_takeLast co_Row ml_Run_144 [] [] rfl (rp_row hR1 (rb42 (rp_work (s := s) hR))) rfl (by decide) (Nat.le_of_ble_eq_true rfl) (Nat.le_refl _) (Nat.le_refl _) d_Run_rearrange_30 (cy_ki ?_)
      refine c_take hE hR1 (rb42 (rp_work (s := s) hR)) (fun M2 hR2 => ⟨_, rfl, ?_⟩)
      refine wm_istore (lv' := [(4, .int (cy_rlast (cy_rdrop s (42 + 2 * s.2.2.1.1)) (42 + 2 * s.2.2.1.1))), (3, .int (cy_rlast s (42 + 2 * s.2.2.1.1))), (2, .ref (E.2.2.1 (2 * (42 + 2 * s.2.2.1.1)))), (0, .ref (E.2.2.1 136)), (1, .int op)]) C d_Run_rearrange_33 (by decide) rfl ?_
      refine wm_aload_n C d_Run_rearrange_35 rfl (j := 2) rfl ?_
      refine wm_iload_n C d_Run_rearrange_36 rfl (j := 1) rfl ?_
      refine wm_callVN (d2 := 0) (mc := 0) (ms := 0) C mo_Row_add co_Row ml_Run_134 [.int (cy_rlast s (42 + 2 * s.2.2.1.1))] [] rfl (rp_row hR2 (rb42 (rp_work (s := s) hR))) rfl (by decide) (Nat.le_of_ble_eq_true rfl) (Nat.le_refl _) (Nat.le_refl _) d_Run_rearrange_37 (cy_kv ?_)
      refine c_add hE hR2 (rb42 (rp_work (s := s) hR)) _ (fun M3 hR3 => ⟨rfl, ?_⟩)
      refine wm_aload_n C d_Run_rearrange_40 rfl (j := 2) rfl ?_
      refine wm_iload C d_Run_rearrange_41 (j := 0) rfl ?_
      refine wm_callVN (d2 := 0) (mc := 0) (ms := 0) C mo_Row_add co_Row ml_Run_134 [.int (cy_rlast (cy_rdrop s (42 + 2 * s.2.2.1.1)) (42 + 2 * s.2.2.1.1))] [] rfl (rp_row hR3 (rb42 (rp_work (s := s) hR))) rfl (by decide) (Nat.le_of_ble_eq_true rfl) (Nat.le_refl _) (Nat.le_refl _) d_Run_rearrange_43 (cy_kv ?_)
      refine c_add hE hR3 (rb42 (rp_work (s := s) hR)) _ (fun M4 hR4 => ⟨rfl, ?_⟩)
      refine wm_vret C P d_Run_rearrange_46 ?_
      have e : cy_Run_rearrange s op = (cy_radd (cy_radd (cy_rdrop (cy_rdrop s (42 + 2 * s.2.2.1.1)) (42 + 2 * s.2.2.1.1)) (42 + 2 * s.2.2.1.1) (cy_rlast s (42 + 2 * s.2.2.1.1))) (42 + 2 * s.2.2.1.1) (cy_rlast (cy_rdrop s (42 + 2 * s.2.2.1.1)) (42 + 2 * s.2.2.1.1))) := by rw [cy_Run_rearrange, if_neg h_16, if_neg h_22]
      rw [e] at h
      exact h _ hR4
    · refine wm_iload_n C d_Run_rearrange_25 rfl (j := 0) rfl ?_
      refine wm_goto (tgt := 33) C d_Run_rearrange_26 (by decide) ?_
      refine wm_istore (lv' := [(4, .int (cy_rlast s (42 + 2 * s.2.2.1.1))), (3, .int (cy_rlast s (42 + 2 * s.2.2.1.1))), (2, .ref (E.2.2.1 (2 * (42 + 2 * s.2.2.1.1)))), (0, .ref (E.2.2.1 136)), (1, .int op)]) C d_Run_rearrange_33 (by decide) rfl ?_
      refine wm_aload_n C d_Run_rearrange_35 rfl (j := 2) rfl ?_
      refine wm_iload_n C d_Run_rearrange_36 rfl (j := 1) rfl ?_
      refine wm_callVN (d2 := 0) (mc := 0) (ms := 0) C mo_Row_add co_Row ml_Run_134 [.int (cy_rlast s (42 + 2 * s.2.2.1.1))] [] rfl (rp_row hR1 (rb42 (rp_work (s := s) hR))) rfl (by decide) (Nat.le_of_ble_eq_true rfl) (Nat.le_refl _) (Nat.le_refl _) d_Run_rearrange_37 (cy_kv ?_)
      refine c_add hE hR1 (rb42 (rp_work (s := s) hR)) _ (fun M5 hR5 => ⟨rfl, ?_⟩)
      refine wm_aload_n C d_Run_rearrange_40 rfl (j := 2) rfl ?_
      refine wm_iload C d_Run_rearrange_41 (j := 0) rfl ?_
      refine wm_callVN (d2 := 0) (mc := 0) (ms := 0) C mo_Row_add co_Row ml_Run_134 [.int (cy_rlast s (42 + 2 * s.2.2.1.1))] [] rfl (rp_row hR5 (rb42 (rp_work (s := s) hR))) rfl (by decide) (Nat.le_of_ble_eq_true rfl) (Nat.le_refl _) (Nat.le_refl _) d_Run_rearrange_43 (cy_kv ?_)
      refine c_add hE hR5 (rb42 (rp_work (s := s) hR)) _ (fun M6 hR6 => ⟨rfl, ?_⟩)
      refine wm_vret C P d_Run_rearrange_46 ?_
      have e : cy_Run_rearrange s op = (cy_radd (cy_radd (cy_rdrop s (42 + 2 * s.2.2.1.1)) (42 + 2 * s.2.2.1.1) (cy_rlast s (42 + 2 * s.2.2.1.1))) (42 + 2 * s.2.2.1.1) (cy_rlast s (42 + 2 * s.2.2.1.1))) := by rw [cy_Run_rearrange, if_neg h_16, if_pos h_22]
      rw [e] at h
      exact h _ hR6
def cy_Run_jump (s : cy_S) (op : Int32) (target : Int32) : cy_S :=
  if op = 17 then
    if (cy_rlast s (42 + 2 * s.2.2.1.1)) = 0 then
      (cy_sf_place (cy_rdrop s (42 + 2 * s.2.2.1.1)) s.2.2.1.1 target)
    else
      (cy_rdrop s (42 + 2 * s.2.2.1.1))
  else
    if op = 18 then
      if (cy_rlast s (42 + 2 * s.2.2.1.1)) ≤ (cy_rlast (cy_rdrop s (42 + 2 * s.2.2.1.1)) (42 + 2 * s.2.2.1.1)) then
        (cy_rdrop (cy_rdrop s (42 + 2 * s.2.2.1.1)) (42 + 2 * s.2.2.1.1))
      else
        (cy_sf_place (cy_rdrop (cy_rdrop s (42 + 2 * s.2.2.1.1)) (42 + 2 * s.2.2.1.1)) s.2.2.1.1 target)
    else
      (cy_sf_place s s.2.2.1.1 target)
set_option maxHeartbeats 4000000 in
theorem c_Run_jump {G : cy_G} {E : cy_E} {s : cy_S} {M : cy_Hp} {post : Option Value → cy_Hp → Prop} (hE : cy_Eo G E) (hR : cy_R E s M)  (op : Int32) (target : Int32) (h : ∀ M', cy_R E (cy_Run_jump s op target) M' → post none M') : cy_Ct G 1 m_Run_jump [.ref (E.2.2.1 136), .int op, .int target] M 0 0 post := by
  refine cy_Ct.of (by decide) (Nat.le_of_ble_eq_true rfl) ?_
  intro F C P _
  have C : cy_C G F R_Run b_Run_jump 6 1 0 0 := C
  have P : cy_P G F none post 0 0 := P
  show WM G F 6 0 0 0 [(0, .ref (E.2.2.1 136)), (1, .int op), (2, .int target)] [] M
  refine wm_iconst (v := 1) C d_Run_jump_0 (by decide) ?_
  refine wm_istore_n (lv' := [(3, .int 1), (0, .ref (E.2.2.1 136)), (1, .int op), (2, .int target)]) C d_Run_jump_1 rfl (by decide) rfl ?_
  refine wm_iload_n C d_Run_jump_2 rfl (j := 2) rfl ?_
  refine wm_bipush (v := 17) C d_Run_jump_3 (by decide) ?_
  refine wm_icmp_ne (tgt := 30) C d_Run_jump_5 (by decide) (fun (h_5 : ¬ op = 17) => ?_) (fun (h_5 : op = 17) => ?_)
  · refine wm_iload_n C d_Run_jump_30 rfl (j := 2) rfl ?_
    refine wm_bipush (v := 18) C d_Run_jump_31 (by decide) ?_
    refine wm_icmp_ne (tgt := 73) C d_Run_jump_33 (by decide) (fun (h_33 : ¬ op = 18) => ?_) (fun (h_33 : op = 18) => ?_)
    · refine wm_iload_n C d_Run_jump_73 rfl (j := 0) rfl ?_
      refine wm_if_eq (tgt := 85) C d_Run_jump_74 (by decide) (fun (h_74 : 1 = 0) => ?_) (fun (h_74 : ¬ 1 = 0) => ?_)
      · exact absurd h_74 (by decide)
      · refine wm_aload_n C d_Run_jump_77 rfl (j := 1) rfl ?_
        refine wm_get C co_Run (rp_run hR) 4 (by decide) fl_Run_39 rfl d_Run_jump_78 ?_
        refine wm_iload_n C d_Run_jump_81 rfl (j := 3) rfl ?_
        refine wm_putN C co_Frame (rp_frame hR (rp_work (s := s) hR)) 6 (by decide) fl_Run_98 rfl rfl rfl (Nat.le_of_ble_eq_true rfl) d_Run_jump_82 ?_
        refine wm_gen (rp_p_place hE hR (rp_work (s := s) hR) target) (fun M1 hR1 => ?_)
        refine wm_vret C P d_Run_jump_85 ?_
        have e : cy_Run_jump s op target = (cy_sf_place s s.2.2.1.1 target) := by rw [cy_Run_jump, if_neg h_5, if_neg h_33]
        rw [e] at h
        exact h _ hR1
    · refine wm_aload_n C d_Run_jump_36 rfl (j := 1) rfl ?_
      refine wm_get C co_Run (rp_run hR) 4 (by decide) fl_Run_39 rfl d_Run_jump_37 ?_
      refine wm_getN C co_Frame (rp_frame hR (rp_work (s := s) hR)) 3 (by decide) fl_Run_131 rfl d_Run_jump_40 ?_
      refine wm_callVN (d2 := 0) (mc := 0) (ms := 0) C mo_Row_takeLast co_Row ml_Run_144 [] [] rfl (rp_row hR (rb42 (rp_work (s := s) hR))) rfl (by decide) (Nat.le_of_ble_eq_true rfl) (Nat.le_refl _) (Nat.le_refl _) d_Run_jump_43 (cy_ki ?_)
      refine c_take hE hR (rb42 (rp_work (s := s) hR)) (fun M2 hR2 => ⟨_, rfl, ?_⟩)
      refine wm_istore (lv' := [(4, .int (cy_rlast s (42 + 2 * s.2.2.1.1))), (3, .int 1), (0, .ref (E.2.2.1 136)), (1, .int op), (2, .int target)]) C d_Run_jump_46 (by decide) rfl ?_
      refine wm_aload_n C d_Run_jump_48 rfl (j := 2) rfl ?_
      refine wm_get C co_Run (rp_run hR2) 4 (by decide) fl_Run_39 rfl d_Run_jump_49 ?_
      refine wm_getN C co_Frame (rp_frame hR2 (rp_work (s := s) hR)) 3 (by decide) fl_Run_131 rfl d_Run_jump_52 ?_
      refine wm_callVN (d2 := 0) (mc := 0) (ms := 0) C mo_Row_takeLast co_Row ml_Run_144 [] [] rfl (rp_row hR2 (rb42 (rp_work (s := s) hR))) rfl (by decide) (Nat.le_of_ble_eq_true rfl) (Nat.le_refl _) (Nat.le_refl _) d_Run_jump_55 (cy_ki ?_)
      refine c_take hE hR2 (rb42 (rp_work (s := s) hR)) (fun M3 hR3 => ⟨_, rfl, ?_⟩)
      refine wm_istore (lv' := [(5, .int (cy_rlast (cy_rdrop s (42 + 2 * s.2.2.1.1)) (42 + 2 * s.2.2.1.1))), (4, .int (cy_rlast s (42 + 2 * s.2.2.1.1))), (3, .int 1), (0, .ref (E.2.2.1 136)), (1, .int op), (2, .int target)]) C d_Run_jump_58 (by decide) rfl ?_
      refine wm_iload C d_Run_jump_60 (j := 0) rfl ?_
      refine wm_iload C d_Run_jump_62 (j := 1) rfl ?_
      refine wm_icmp_ge (tgt := 71) C d_Run_jump_64 (by decide) (fun (h_64 : (cy_rlast s (42 + 2 * s.2.2.1.1)) ≤ (cy_rlast (cy_rdrop s (42 + 2 * s.2.2.1.1)) (42 + 2 * s.2.2.1.1))) => ?_) (fun (h_64 : ¬ (cy_rlast s (42 + 2 * s.2.2.1.1)) ≤ (cy_rlast (cy_rdrop s (42 + 2 * s.2.2.1.1)) (42 + 2 * s.2.2.1.1))) => ?_)
      · refine wm_iconst (v := 0) C d_Run_jump_71 (by decide) ?_
        refine wm_istore_n (lv' := [(3, .int 0), (5, .int (cy_rlast (cy_rdrop s (42 + 2 * s.2.2.1.1)) (42 + 2 * s.2.2.1.1))), (4, .int (cy_rlast s (42 + 2 * s.2.2.1.1))), (0, .ref (E.2.2.1 136)), (1, .int op), (2, .int target)]) C d_Run_jump_72 rfl (by decide) rfl ?_
        refine wm_iload_n C d_Run_jump_73 rfl (j := 0) rfl ?_
        refine wm_if_eq (tgt := 85) C d_Run_jump_74 (by decide) (fun (h_74_5 : 0 = 0) => ?_) (fun (h_74_5 : ¬ 0 = 0) => ?_)
        · refine wm_vret C P d_Run_jump_85 ?_
          have e : cy_Run_jump s op target = (cy_rdrop (cy_rdrop s (42 + 2 * s.2.2.1.1)) (42 + 2 * s.2.2.1.1)) := by rw [cy_Run_jump, if_neg h_5, if_pos h_33, if_pos h_64]
          rw [e] at h
          exact h _ hR3
        · exact absurd h_74_5 (by decide)
      · refine wm_iconst (v := 1) C d_Run_jump_67 (by decide) ?_
        refine wm_goto (tgt := 72) C d_Run_jump_68 (by decide) ?_
        refine wm_istore_n (lv' := [(3, .int 1), (5, .int (cy_rlast (cy_rdrop s (42 + 2 * s.2.2.1.1)) (42 + 2 * s.2.2.1.1))), (4, .int (cy_rlast s (42 + 2 * s.2.2.1.1))), (0, .ref (E.2.2.1 136)), (1, .int op), (2, .int target)]) C d_Run_jump_72 rfl (by decide) rfl ?_
        refine wm_iload_n C d_Run_jump_73 rfl (j := 0) rfl ?_
        refine wm_if_eq (tgt := 85) C d_Run_jump_74 (by decide) (fun (h_74_6 : 1 = 0) => ?_) (fun (h_74_6 : ¬ 1 = 0) => ?_)
        · exact absurd h_74_6 (by decide)
        · refine wm_aload_n C d_Run_jump_77 rfl (j := 3) rfl ?_
          refine wm_get C co_Run (rp_run hR3) 4 (by decide) fl_Run_39 rfl d_Run_jump_78 ?_
          refine wm_iload_n C d_Run_jump_81 rfl (j := 5) rfl ?_
          refine wm_putN C co_Frame (rp_frame hR3 (rp_work (s := s) hR)) 6 (by decide) fl_Run_98 rfl rfl rfl (Nat.le_of_ble_eq_true rfl) d_Run_jump_82 ?_
          refine wm_gen (rp_p_place hE hR3 (rp_work (s := s) hR) target) (fun M4 hR4 => ?_)
          refine wm_vret C P d_Run_jump_85 ?_
          have e : cy_Run_jump s op target = (cy_sf_place (cy_rdrop (cy_rdrop s (42 + 2 * s.2.2.1.1)) (42 + 2 * s.2.2.1.1)) s.2.2.1.1 target) := by rw [cy_Run_jump, if_neg h_5, if_pos h_33, if_neg h_64]
          rw [e] at h
          exact h _ hR4
  · refine wm_aload_n C d_Run_jump_8 rfl (j := 1) rfl ?_
    refine wm_get C co_Run (rp_run hR) 4 (by decide) fl_Run_39 rfl d_Run_jump_9 ?_
    refine wm_getN C co_Frame (rp_frame hR (rp_work (s := s) hR)) 3 (by decide) fl_Run_131 rfl d_Run_jump_12 ?_
    refine wm_callVN (d2 := 0) (mc := 0) (ms := 0) C mo_Row_takeLast co_Row ml_Run_144 [] [] rfl (rp_row hR (rb42 (rp_work (s := s) hR))) rfl (by decide) (Nat.le_of_ble_eq_true rfl) (Nat.le_refl _) (Nat.le_refl _) d_Run_jump_15 (cy_ki ?_)
    refine c_take hE hR (rb42 (rp_work (s := s) hR)) (fun M5 hR5 => ⟨_, rfl, ?_⟩)
    refine wm_if_ne (tgt := 25) C d_Run_jump_18 (by decide) (fun (h_18 : ¬ (cy_rlast s (42 + 2 * s.2.2.1.1)) = 0) => ?_) (fun (h_18 : (cy_rlast s (42 + 2 * s.2.2.1.1)) = 0) => ?_)
    · refine wm_iconst (v := 0) C d_Run_jump_25 (by decide) ?_
      refine wm_istore_n (lv' := [(3, .int 0), (0, .ref (E.2.2.1 136)), (1, .int op), (2, .int target)]) C d_Run_jump_26 rfl (by decide) rfl ?_
      refine wm_goto (tgt := 73) C d_Run_jump_27 (by decide) ?_
      refine wm_iload_n C d_Run_jump_73 rfl (j := 0) rfl ?_
      refine wm_if_eq (tgt := 85) C d_Run_jump_74 (by decide) (fun (h_74_8 : 0 = 0) => ?_) (fun (h_74_8 : ¬ 0 = 0) => ?_)
      · refine wm_vret C P d_Run_jump_85 ?_
        have e : cy_Run_jump s op target = (cy_rdrop s (42 + 2 * s.2.2.1.1)) := by rw [cy_Run_jump, if_pos h_5, if_neg h_18]
        rw [e] at h
        exact h _ hR5
      · exact absurd h_74_8 (by decide)
    · refine wm_iconst (v := 1) C d_Run_jump_21 (by decide) ?_
      refine wm_goto (tgt := 26) C d_Run_jump_22 (by decide) ?_
      refine wm_istore_n (lv' := [(3, .int 1), (0, .ref (E.2.2.1 136)), (1, .int op), (2, .int target)]) C d_Run_jump_26 rfl (by decide) rfl ?_
      refine wm_goto (tgt := 73) C d_Run_jump_27 (by decide) ?_
      refine wm_iload_n C d_Run_jump_73 rfl (j := 0) rfl ?_
      refine wm_if_eq (tgt := 85) C d_Run_jump_74 (by decide) (fun (h_74_9 : 1 = 0) => ?_) (fun (h_74_9 : ¬ 1 = 0) => ?_)
      · exact absurd h_74_9 (by decide)
      · refine wm_aload_n C d_Run_jump_77 rfl (j := 1) rfl ?_
        refine wm_get C co_Run (rp_run hR5) 4 (by decide) fl_Run_39 rfl d_Run_jump_78 ?_
        refine wm_iload_n C d_Run_jump_81 rfl (j := 3) rfl ?_
        refine wm_putN C co_Frame (rp_frame hR5 (rp_work (s := s) hR)) 6 (by decide) fl_Run_98 rfl rfl rfl (Nat.le_of_ble_eq_true rfl) d_Run_jump_82 ?_
        refine wm_gen (rp_p_place hE hR5 (rp_work (s := s) hR) target) (fun M6 hR6 => ?_)
        refine wm_vret C P d_Run_jump_85 ?_
        have e : cy_Run_jump s op target = (cy_sf_place (cy_rdrop s (42 + 2 * s.2.2.1.1)) s.2.2.1.1 target) := by rw [cy_Run_jump, if_pos h_5, if_pos h_18]
        rw [e] at h
        exact h _ hR6
def cy_Run_readInput (s : cy_S) (i : Int32) : cy_S :=
  if (cy_rhas s 4 i) = 0 then
    (cy_Run_fail s 2)
  else
    (cy_radd s (42 + 2 * s.2.2.1.1) (cy_rat s 4 i 0))
set_option maxHeartbeats 4000000 in
theorem c_Run_readInput {G : cy_G} {E : cy_E} {s : cy_S} {M : cy_Hp} {post : Option Value → cy_Hp → Prop} (hE : cy_Eo G E) (hR : cy_R E s M)  (i : Int32) (h : ∀ M', cy_R E (cy_Run_readInput s i) M' → post none M') : cy_Ct G 1 m_Run_readInput [.ref (E.2.2.1 136), .int i] M 0 0 post := by
  refine cy_Ct.of (by decide) (Nat.le_of_ble_eq_true rfl) ?_
  intro F C P _
  have C : cy_C G F R_Run b_Run_readInput 2 1 0 0 := C
  have P : cy_P G F none post 0 0 := P
  show WM G F 2 0 0 0 [(0, .ref (E.2.2.1 136)), (1, .int i)] [] M
  refine wm_aload_n C d_Run_readInput_0 rfl (j := 0) rfl ?_
  refine wm_get C co_Run (rp_run hR) 2 (by decide) fl_Run_20 rfl d_Run_readInput_1 ?_
  refine wm_iload_n C d_Run_readInput_4 rfl (j := 1) rfl ?_
  refine wm_callVN (d2 := 0) (mc := 0) (ms := 0) C mo_Row_has co_Row ml_Run_176 [.int i] [] rfl (rp_row hR (by decide)) rfl (by decide) (Nat.le_of_ble_eq_true rfl) (Nat.le_refl _) (Nat.le_refl _) d_Run_readInput_5 (cy_ki ?_)
  refine c_has hE hR (by decide) _ ⟨_, rfl, ?_⟩
  refine wm_if_eq (tgt := 33) C d_Run_readInput_8 (by decide) (fun (h_8 : (cy_rhas s 4 i) = 0) => ?_) (fun (h_8 : ¬ (cy_rhas s 4 i) = 0) => ?_)
  · refine wm_aload_n C d_Run_readInput_33 rfl (j := 0) rfl ?_
    refine wm_iconst (v := 2) C d_Run_readInput_34 (by decide) ?_
    refine wm_callV (d2 := 0) (mc := 0) (ms := 0) C mo_Run_fail co_Run ml_Run_104 [.int 2] [] rfl (rp_run hR) rfl (by decide) (Nat.le_of_ble_eq_true rfl) (Nat.le_refl _) (Nat.le_refl _) d_Run_readInput_35 (cy_kv ?_)
    refine c_Run_fail hE hR  _ (fun M1 hR1 => ⟨rfl, ?_⟩)
    refine wm_vret C P d_Run_readInput_38 ?_
    have e : cy_Run_readInput s i = (cy_Run_fail s 2) := by rw [cy_Run_readInput, if_pos h_8]
    rw [e] at h
    exact h _ hR1
  · refine wm_aload_n C d_Run_readInput_11 rfl (j := 0) rfl ?_
    refine wm_get C co_Run (rp_run hR) 4 (by decide) fl_Run_39 rfl d_Run_readInput_12 ?_
    refine wm_getN C co_Frame (rp_frame hR (rp_work (s := s) hR)) 3 (by decide) fl_Run_131 rfl d_Run_readInput_15 ?_
    refine wm_aload_n C d_Run_readInput_18 rfl (j := 0) rfl ?_
    refine wm_get C co_Run (rp_run hR) 2 (by decide) fl_Run_20 rfl d_Run_readInput_19 ?_
    refine wm_iload_n C d_Run_readInput_22 rfl (j := 1) rfl ?_
    refine wm_iconst (v := 0) C d_Run_readInput_23 (by decide) ?_
    refine wm_callVN (d2 := 0) (mc := 0) (ms := 0) C mo_Row_at co_Row ml_Run_140 [.int i, .int 0] [.ref (E.2.2.1 (2 * (42 + 2 * s.2.2.1.1)))] rfl (rp_row hR (by decide)) rfl (by decide) (Nat.le_of_ble_eq_true rfl) (Nat.le_refl _) (Nat.le_refl _) d_Run_readInput_24 (cy_ki ?_)
    refine c_at hE hR (by decide) _ _ ⟨_, rfl, ?_⟩
    refine wm_callVN (d2 := 0) (mc := 0) (ms := 0) C mo_Row_add co_Row ml_Run_134 [.int (cy_rat s 4 i 0)] [] rfl (rp_row hR (rb42 (rp_work (s := s) hR))) rfl (by decide) (Nat.le_of_ble_eq_true rfl) (Nat.le_refl _) (Nat.le_refl _) d_Run_readInput_27 (cy_kv ?_)
    refine c_add hE hR (rb42 (rp_work (s := s) hR)) _ (fun M2 hR2 => ⟨rfl, ?_⟩)
    refine wm_goto (tgt := 38) C d_Run_readInput_30 (by decide) ?_
    refine wm_vret C P d_Run_readInput_38 ?_
    have e : cy_Run_readInput s i = (cy_radd s (42 + 2 * s.2.2.1.1) (cy_rat s 4 i 0)) := by rw [cy_Run_readInput, if_neg h_8]
    rw [e] at h
    exact h _ hR2
def cy_Run_putOut (s : cy_S) (value : Int32) : cy_S :=
  if 64 ≤ (nI (s.1 5).length) then
    (cy_Run_fail s 3)
  else
    (cy_radd s 5 (value &&& 255))
set_option maxHeartbeats 4000000 in
theorem c_Run_putOut {G : cy_G} {E : cy_E} {s : cy_S} {M : cy_Hp} {post : Option Value → cy_Hp → Prop} (hE : cy_Eo G E) (hR : cy_R E s M)  (value : Int32) (h : ∀ M', cy_R E (cy_Run_putOut s value) M' → post none M') : cy_Ct G 1 m_Run_putOut [.ref (E.2.2.1 136), .int value] M 0 0 post := by
  refine cy_Ct.of (by decide) (Nat.le_of_ble_eq_true rfl) ?_
  intro F C P _
  have C : cy_C G F R_Run b_Run_putOut 2 1 0 0 := C
  have P : cy_P G F none post 0 0 := P
  show WM G F 2 0 0 0 [(0, .ref (E.2.2.1 136)), (1, .int value)] [] M
  refine wm_aload_n C d_Run_putOut_0 rfl (j := 0) rfl ?_
  refine wm_get C co_Run (rp_run hR) 3 (by decide) fl_Run_24 rfl d_Run_putOut_1 ?_
  refine wm_getN C co_Row (rp_row hR (by decide)) 1 (by decide) fl_Run_101 rfl d_Run_putOut_4 ?_
  refine wm_bipush (v := 64) C d_Run_putOut_7 (by decide) ?_
  refine wm_icmp_ge (tgt := 27) C d_Run_putOut_9 (by decide) (fun (h_9 : 64 ≤ (nI (s.1 5).length)) => ?_) (fun (h_9 : ¬ 64 ≤ (nI (s.1 5).length)) => ?_)
  · refine wm_aload_n C d_Run_putOut_27 rfl (j := 0) rfl ?_
    refine wm_iconst (v := 3) C d_Run_putOut_28 (by decide) ?_
    refine wm_callV (d2 := 0) (mc := 0) (ms := 0) C mo_Run_fail co_Run ml_Run_104 [.int 3] [] rfl (rp_run hR) rfl (by decide) (Nat.le_of_ble_eq_true rfl) (Nat.le_refl _) (Nat.le_refl _) d_Run_putOut_29 (cy_kv ?_)
    refine c_Run_fail hE hR  _ (fun M1 hR1 => ⟨rfl, ?_⟩)
    refine wm_vret C P d_Run_putOut_32 ?_
    have e : cy_Run_putOut s value = (cy_Run_fail s 3) := by rw [cy_Run_putOut, if_pos h_9]
    rw [e] at h
    exact h _ hR1
  · refine wm_aload_n C d_Run_putOut_12 rfl (j := 0) rfl ?_
    refine wm_get C co_Run (rp_run hR) 3 (by decide) fl_Run_24 rfl d_Run_putOut_13 ?_
    refine wm_iload_n C d_Run_putOut_16 rfl (j := 1) rfl ?_
    refine wm_sipush (v := 255) C d_Run_putOut_17 (by decide) ?_
    refine wm_iand C d_Run_putOut_20 ?_
    refine wm_callVN (d2 := 0) (mc := 0) (ms := 0) C mo_Row_add co_Row ml_Run_134 [.int (value &&& 255)] [] rfl (rp_row hR (by decide)) rfl (by decide) (Nat.le_of_ble_eq_true rfl) (Nat.le_refl _) (Nat.le_refl _) d_Run_putOut_21 (cy_kv ?_)
    refine c_add hE hR (by decide) _ (fun M2 hR2 => ⟨rfl, ?_⟩)
    refine wm_goto (tgt := 32) C d_Run_putOut_24 (by decide) ?_
    refine wm_vret C P d_Run_putOut_32 ?_
    have e : cy_Run_putOut s value = (cy_radd s 5 (value &&& 255)) := by rw [cy_Run_putOut, if_neg h_9]
    rw [e] at h
    exact h _ hR2
def cy_Run_divide (s : cy_S) (op : Int32) : cy_S :=
  if (cy_rlast s (42 + 2 * s.2.2.1.1)) = 0 then
    (cy_Run_fail (cy_rdrop (cy_rdrop s (42 + 2 * s.2.2.1.1)) (42 + 2 * s.2.2.1.1)) 1)
  else
    if op = 25 then
      (cy_radd (cy_rdrop (cy_rdrop s (42 + 2 * s.2.2.1.1)) (42 + 2 * s.2.2.1.1)) (42 + 2 * s.2.2.1.1) ((cy_rlast (cy_rdrop s (42 + 2 * s.2.2.1.1)) (42 + 2 * s.2.2.1.1)) / (cy_rlast s (42 + 2 * s.2.2.1.1))))
    else
      (cy_radd (cy_rdrop (cy_rdrop s (42 + 2 * s.2.2.1.1)) (42 + 2 * s.2.2.1.1)) (42 + 2 * s.2.2.1.1) ((cy_rlast (cy_rdrop s (42 + 2 * s.2.2.1.1)) (42 + 2 * s.2.2.1.1)) - (cy_rlast (cy_rdrop s (42 + 2 * s.2.2.1.1)) (42 + 2 * s.2.2.1.1)) / (cy_rlast s (42 + 2 * s.2.2.1.1)) * (cy_rlast s (42 + 2 * s.2.2.1.1))))
set_option maxHeartbeats 4000000 in
theorem c_Run_divide {G : cy_G} {E : cy_E} {s : cy_S} {M : cy_Hp} {post : Option Value → cy_Hp → Prop} (hE : cy_Eo G E) (hR : cy_R E s M)  (op : Int32) (h : ∀ M', cy_R E (cy_Run_divide s op) M' → post none M') : cy_Ct G 1 m_Run_divide [.ref (E.2.2.1 136), .int op] M 0 0 post := by
  refine cy_Ct.of (by decide) (Nat.le_of_ble_eq_true rfl) ?_
  intro F C P _
  have C : cy_C G F R_Run b_Run_divide 4 1 0 0 := C
  have P : cy_P G F none post 0 0 := P
  show WM G F 4 0 0 0 [(0, .ref (E.2.2.1 136)), (1, .int op)] [] M
  refine wm_aload_n C d_Run_divide_0 rfl (j := 0) rfl ?_
  refine wm_get C co_Run (rp_run hR) 4 (by decide) fl_Run_39 rfl d_Run_divide_1 ?_
  refine wm_getN C co_Frame (rp_frame hR (rp_work (s := s) hR)) 3 (by decide) fl_Run_131 rfl d_Run_divide_4 ?_
  refine wm_callVN (d2 := 0) (mc := 0) (ms := 0) C mo_Row_takeLast co_Row ml_Run_144 [] [] rfl (rp_row hR (rb42 (rp_work (s := s) hR))) rfl (by decide) (Nat.le_of_ble_eq_true rfl) (Nat.le_refl _) (Nat.le_refl _) d_Run_divide_7 (cy_ki ?_)
  refine c_take hE hR (rb42 (rp_work (s := s) hR)) (fun M1 hR1 => ⟨_, rfl, ?_⟩)
  refine wm_istore_n (lv' := [(2, .int (cy_rlast s (42 + 2 * s.2.2.1.1))), (0, .ref (E.2.2.1 136)), (1, .int op)]) C d_Run_divide_10 rfl (by decide) rfl ?_
  refine wm_aload_n C d_Run_divide_11 rfl (j := 1) rfl ?_
  refine wm_get C co_Run (rp_run hR1) 4 (by decide) fl_Run_39 rfl d_Run_divide_12 ?_
  refine wm_getN C co_Frame (rp_frame hR1 (rp_work (s := s) hR)) 3 (by decide) fl_Run_131 rfl d_Run_divide_15 ?_
  refine wm_callVN (d2 := 0) (mc := 0) (ms := 0) C mo_Row_takeLast co_Row ml_Run_144 [] [] rfl (rp_row hR1 (rb42 (rp_work (s := s) hR))) rfl (by decide) (Nat.le_of_ble_eq_true rfl) (Nat.le_refl _) (Nat.le_refl _) d_Run_divide_18 (cy_ki ?_)
  refine c_take hE hR1 (rb42 (rp_work (s := s) hR)) (fun M2 hR2 => ⟨_, rfl, ?_⟩)
  refine wm_istore_n (lv' := [(3, .int (cy_rlast (cy_rdrop s (42 + 2 * s.2.2.1.1)) (42 + 2 * s.2.2.1.1))), (2, .int (cy_rlast s (42 + 2 * s.2.2.1.1))), (0, .ref (E.2.2.1 136)), (1, .int op)]) C d_Run_divide_21 rfl (by decide) rfl ?_
  refine wm_iload_n C d_Run_divide_22 rfl (j := 1) rfl ?_
  refine wm_if_ne (tgt := 34) C d_Run_divide_23 (by decide) (fun (h_23 : ¬ (cy_rlast s (42 + 2 * s.2.2.1.1)) = 0) => ?_) (fun (h_23 : (cy_rlast s (42 + 2 * s.2.2.1.1)) = 0) => ?_)
  · refine wm_aload_n C d_Run_divide_34 rfl (j := 2) rfl ?_
    refine wm_get C co_Run (rp_run hR2) 4 (by decide) fl_Run_39 rfl d_Run_divide_35 ?_
    refine wm_getN C co_Frame (rp_frame hR2 (rp_work (s := s) hR)) 3 (by decide) fl_Run_131 rfl d_Run_divide_38 ?_
    refine wm_iload_n C d_Run_divide_41 rfl (j := 3) rfl ?_
    refine wm_bipush (v := 25) C d_Run_divide_42 (by decide) ?_
    refine wm_icmp_ne (tgt := 53) C d_Run_divide_44 (by decide) (fun (h_44 : ¬ op = 25) => ?_) (fun (h_44 : op = 25) => ?_)
    · refine wm_iload_n C d_Run_divide_53 rfl (j := 0) rfl ?_
      refine wm_iload_n C d_Run_divide_54 rfl (j := 1) rfl ?_
      refine wm_irem C d_Run_divide_55 (h_23) ?_
      refine wm_callVN (d2 := 0) (mc := 0) (ms := 0) C mo_Row_add co_Row ml_Run_134 [.int ((cy_rlast (cy_rdrop s (42 + 2 * s.2.2.1.1)) (42 + 2 * s.2.2.1.1)) - (cy_rlast (cy_rdrop s (42 + 2 * s.2.2.1.1)) (42 + 2 * s.2.2.1.1)) / (cy_rlast s (42 + 2 * s.2.2.1.1)) * (cy_rlast s (42 + 2 * s.2.2.1.1)))] [] rfl (rp_row hR2 (rb42 (rp_work (s := s) hR))) rfl (by decide) (Nat.le_of_ble_eq_true rfl) (Nat.le_refl _) (Nat.le_refl _) d_Run_divide_56 (cy_kv ?_)
      refine c_add hE hR2 (rb42 (rp_work (s := s) hR)) _ (fun M3 hR3 => ⟨rfl, ?_⟩)
      refine wm_vret C P d_Run_divide_59 ?_
      have e : cy_Run_divide s op = (cy_radd (cy_rdrop (cy_rdrop s (42 + 2 * s.2.2.1.1)) (42 + 2 * s.2.2.1.1)) (42 + 2 * s.2.2.1.1) ((cy_rlast (cy_rdrop s (42 + 2 * s.2.2.1.1)) (42 + 2 * s.2.2.1.1)) - (cy_rlast (cy_rdrop s (42 + 2 * s.2.2.1.1)) (42 + 2 * s.2.2.1.1)) / (cy_rlast s (42 + 2 * s.2.2.1.1)) * (cy_rlast s (42 + 2 * s.2.2.1.1)))) := by rw [cy_Run_divide, if_neg h_23, if_neg h_44]
      rw [e] at h
      exact h _ hR3
    · refine wm_iload_n C d_Run_divide_47 rfl (j := 0) rfl ?_
      refine wm_iload_n C d_Run_divide_48 rfl (j := 1) rfl ?_
      refine wm_idiv C d_Run_divide_49 (h_23) ?_
      refine wm_goto (tgt := 56) C d_Run_divide_50 (by decide) ?_
      refine wm_callVN (d2 := 0) (mc := 0) (ms := 0) C mo_Row_add co_Row ml_Run_134 [.int ((cy_rlast (cy_rdrop s (42 + 2 * s.2.2.1.1)) (42 + 2 * s.2.2.1.1)) / (cy_rlast s (42 + 2 * s.2.2.1.1)))] [] rfl (rp_row hR2 (rb42 (rp_work (s := s) hR))) rfl (by decide) (Nat.le_of_ble_eq_true rfl) (Nat.le_refl _) (Nat.le_refl _) d_Run_divide_56 (cy_kv ?_)
      refine c_add hE hR2 (rb42 (rp_work (s := s) hR)) _ (fun M4 hR4 => ⟨rfl, ?_⟩)
      refine wm_vret C P d_Run_divide_59 ?_
      have e : cy_Run_divide s op = (cy_radd (cy_rdrop (cy_rdrop s (42 + 2 * s.2.2.1.1)) (42 + 2 * s.2.2.1.1)) (42 + 2 * s.2.2.1.1) ((cy_rlast (cy_rdrop s (42 + 2 * s.2.2.1.1)) (42 + 2 * s.2.2.1.1)) / (cy_rlast s (42 + 2 * s.2.2.1.1)))) := by rw [cy_Run_divide, if_neg h_23, if_pos h_44]
      rw [e] at h
      exact h _ hR4
  · refine wm_aload_n C d_Run_divide_26 rfl (j := 2) rfl ?_
    refine wm_iconst (v := 1) C d_Run_divide_27 (by decide) ?_
    refine wm_callV (d2 := 0) (mc := 0) (ms := 0) C mo_Run_fail co_Run ml_Run_104 [.int 1] [] rfl (rp_run hR2) rfl (by decide) (Nat.le_of_ble_eq_true rfl) (Nat.le_refl _) (Nat.le_refl _) d_Run_divide_28 (cy_kv ?_)
    refine c_Run_fail hE hR2  _ (fun M5 hR5 => ⟨rfl, ?_⟩)
    refine wm_goto (tgt := 59) C d_Run_divide_31 (by decide) ?_
    refine wm_vret C P d_Run_divide_59 ?_
    have e : cy_Run_divide s op = (cy_Run_fail (cy_rdrop (cy_rdrop s (42 + 2 * s.2.2.1.1)) (42 + 2 * s.2.2.1.1)) 1) := by rw [cy_Run_divide, if_pos h_23]
    rw [e] at h
    exact h _ hR5
def cy_Run_finish (s : cy_S) (value : Int32) : cy_S :=
  if s.2.2.1.1 = 0 then
    (cy_s_result (cy_s_status s 0) value)
  else
    (cy_s_work (cy_radd s (42 + 2 * (s.2.2.1.1 - 1)) value) (s.2.2.1.1 - 1))
set_option maxHeartbeats 4000000 in
theorem c_Run_finish {G : cy_G} {E : cy_E} {s : cy_S} {M : cy_Hp} {post : Option Value → cy_Hp → Prop} (hE : cy_Eo G E) (hR : cy_R E s M)  (value : Int32) (h : ∀ M', cy_R E (cy_Run_finish s value) M' → post none M') : cy_Ct G 1 m_Run_finish [.ref (E.2.2.1 136), .int value] M 0 0 post := by
  refine cy_Ct.of (by decide) (Nat.le_of_ble_eq_true rfl) ?_
  intro F C P _
  have C : cy_C G F R_Run b_Run_finish 3 1 0 0 := C
  have P : cy_P G F none post 0 0 := P
  show WM G F 3 0 0 0 [(0, .ref (E.2.2.1 136)), (1, .int value)] [] M
  refine wm_aload_n C d_Run_finish_0 rfl (j := 0) rfl ?_
  refine wm_get C co_Run (rp_run hR) 4 (by decide) fl_Run_39 rfl d_Run_finish_1 ?_
  by_cases f_4 : s.2.2.1.1 = 0
  · refine wm_getN (v := .null) C co_Frame (rp_frame hR (rp_work (s := s) hR)) 1 (by decide) fl_Run_179 (cy_outer_n f_4) d_Run_finish_4 ?_
    refine wm_astore_nN (lv' := [(2, .null), (0, .ref (E.2.2.1 136)), (1, .int value)]) C d_Run_finish_7 rfl (by decide) rfl ?_
    refine wm_aload_nN C d_Run_finish_8 rfl (j := 0) rfl ?_
    refine wm_ifnonnullN C d_Run_finish_9 ?_
    refine wm_aload_n C d_Run_finish_12 rfl (j := 1) rfl ?_
    refine wm_iconst (v := 0) C d_Run_finish_13 (by decide) ?_
    refine wm_put C co_Run (rp_run hR) 6 (by decide) fl_Run_49 rfl rfl rfl (Nat.le_of_ble_eq_true rfl) d_Run_finish_14 ?_
    refine wm_gen (rp_p_status hE hR 0) (fun M1 hR1 => ?_)
    refine wm_aload_n C d_Run_finish_17 rfl (j := 1) rfl ?_
    refine wm_iload_n C d_Run_finish_18 rfl (j := 2) rfl ?_
    refine wm_put C co_Run (rp_run hR1) 7 (by decide) fl_Run_76 rfl rfl rfl (Nat.le_of_ble_eq_true rfl) d_Run_finish_19 ?_
    refine wm_gen (rp_p_result hE hR1 value) (fun M2 hR2 => ?_)
    refine wm_goto (tgt := 38) C d_Run_finish_22 (by decide) ?_
    refine wm_vret C P d_Run_finish_38 ?_
    have e : cy_Run_finish s value = (cy_s_result (cy_s_status s 0) value) := by rw [cy_Run_finish, if_pos f_4]
    rw [e] at h
    exact h _ hR2
  · refine wm_getN (v := .ref (E.2.2.1 (125 + (s.2.2.1.1 - 1)))) C co_Frame (rp_frame hR (rp_work (s := s) hR)) 1 (by decide) fl_Run_179 (cy_outer_s f_4) d_Run_finish_4 ?_
    refine wm_astore_n (lv' := [(2, .ref (E.2.2.1 (125 + (s.2.2.1.1 - 1)))), (0, .ref (E.2.2.1 136)), (1, .int value)]) C d_Run_finish_7 rfl (by decide) rfl ?_
    refine wm_aload_n C d_Run_finish_8 rfl (j := 0) rfl ?_
    refine wm_ifnonnull (tgt := 25) C d_Run_finish_9 (by decide) ?_
    refine wm_aload_n C d_Run_finish_25 rfl (j := 0) rfl ?_
    refine wm_getN C co_Frame (rp_frame hR (cy_lt_out (rp_work (s := s) hR) f_4)) 3 (by decide) fl_Run_131 rfl d_Run_finish_26 ?_
    refine wm_iload_n C d_Run_finish_29 rfl (j := 2) rfl ?_
    refine wm_callVN (d2 := 0) (mc := 0) (ms := 0) C mo_Row_add co_Row ml_Run_134 [.int value] [] rfl (rp_row hR (rb42 (cy_lt_out (rp_work (s := s) hR) f_4))) rfl (by decide) (Nat.le_of_ble_eq_true rfl) (Nat.le_refl _) (Nat.le_refl _) d_Run_finish_30 (cy_kv ?_)
    refine c_add hE hR (rb42 (cy_lt_out (rp_work (s := s) hR) f_4)) _ (fun M3 hR3 => ⟨rfl, ?_⟩)
    refine wm_aload_n C d_Run_finish_33 rfl (j := 1) rfl ?_
    refine wm_aload_n C d_Run_finish_34 rfl (j := 0) rfl ?_
    refine wm_put C co_Run (rp_run hR3) 4 (by decide) fl_Run_39 rfl rfl rfl (Nat.le_of_ble_eq_true rfl) d_Run_finish_35 ?_
    refine wm_gen (rp_p_work hE hR3 (cy_lt_out (rp_work (s := s) hR) f_4)) (fun M4 hR4 => ?_)
    refine wm_vret C P d_Run_finish_38 ?_
    have e : cy_Run_finish s value = (cy_s_work (cy_radd s (42 + 2 * (s.2.2.1.1 - 1)) value) (s.2.2.1.1 - 1)) := by rw [cy_Run_finish, if_neg f_4]
    rw [e] at h
    exact h _ hR4
end
section
abbrev cy_no (s : cy_S) (i : Int32) : Prop := cy_bad i ∨ cy_Code_isTaken s i.toNatClampNeg = 0
theorem cy_no_lt8 {s : cy_S} {i : Int32} (h : ¬ cy_no s i) : i.toNatClampNeg < 8 := cy_bad_lt8 (fun q => h (Or.inl q))
theorem cy_no_lt {s : cy_S} {i : Int32} (h : ¬ cy_no s i) : i.toNatClampNeg < 9 := Nat.lt_succ_of_lt (cy_no_lt8 h)
set_option maxHeartbeats 4000000 in
theorem c_taken {G : cy_G} {E : cy_E} {s : cy_S} {M : cy_Hp} {post : Option Value → cy_Hp → Prop} (hE : cy_Eo G E) (hR : cy_R E s M) (i : Int32) (hN : cy_no s i → post (some .null) M) (hS : ¬ cy_no s i → post (some (.ref (E.2.2.1 (116 + i.toNatClampNeg)))) M) : cy_Ct G 1 m_Shelf_taken [.ref (E.2.2.1 134), .int i] M 0 0 post := by
  refine cy_Ct.of (by decide) (Nat.le_of_ble_eq_true rfl) ?_
  intro F C P _
  have C : cy_C G F R_Shelf b_Shelf_taken 3 1 0 0 := C
  have P : cy_P G F (some (.object "CodeYard$Code")) post 0 0 := P
  show WM G F 3 0 0 0 [(0, .ref (E.2.2.1 134)), (1, .int i)] [] M
  refine wm_aload_n C d_Shelf_taken_0 rfl (j := 0) rfl ?_
  refine wm_iload_n C d_Shelf_taken_1 rfl (j := 1) rfl ?_
  refine wm_callV (d2 := 0) (mc := 0) (ms := 0) C mo_Shelf_slot co_Shelf ml_Shelf_20 [.int i] [] rfl (rp_shelf hR) rfl (by decide) (Nat.le_of_ble_eq_true rfl) (Nat.le_refl _) (Nat.le_refl _) d_Shelf_taken_2 (cy_ki ?_)
  refine c_slot hE hR _ (fun (g_2 : cy_bad i) => ⟨_, rfl, ?_⟩) (fun (g_2 : ¬ cy_bad i) => ⟨_, rfl, ?_⟩)
  · refine wm_astore_nN (lv' := [(2, .null), (0, .ref (E.2.2.1 134)), (1, .int i)]) C d_Shelf_taken_5 rfl (by decide) rfl ?_
    refine wm_aload_nN C d_Shelf_taken_6 rfl (j := 0) rfl ?_
    refine wm_ifnullN (tgt := 21) C d_Shelf_taken_7 (by decide) ?_
    refine wm_null C d_Shelf_taken_21 ?_
    refine wm_aret C P (Or.inl ⟨_, rfl⟩) (Or.inl rfl) d_Shelf_taken_22 ?_
    exact hN (Or.inl g_2)
  · refine wm_astore_n (lv' := [(2, .ref (E.2.2.1 (116 + i.toNatClampNeg))), (0, .ref (E.2.2.1 134)), (1, .int i)]) C d_Shelf_taken_5 rfl (by decide) rfl ?_
    refine wm_aload_n C d_Shelf_taken_6 rfl (j := 0) rfl ?_
    refine wm_ifnull C d_Shelf_taken_7 ?_
    refine wm_aload_n C d_Shelf_taken_10 rfl (j := 0) rfl ?_
    refine wm_callVN (d2 := 0) (mc := 0) (ms := 0) C mo_Code_isTaken co_Code ml_Shelf_24 [] [] rfl (rp_code hR (cy_bad_lt g_2)) rfl (by decide) (Nat.le_of_ble_eq_true rfl) (Nat.le_refl _) (Nat.le_refl _) d_Shelf_taken_11 (cy_ki ?_)
    refine c_Code_isTaken hE hR (cy_bad_lt g_2)  ⟨_, rfl, ?_⟩
    refine wm_if_eq (tgt := 21) C d_Shelf_taken_14 (by decide) (fun (h_14 : (cy_Code_isTaken s i.toNatClampNeg) = 0) => ?_) (fun (h_14 : ¬ (cy_Code_isTaken s i.toNatClampNeg) = 0) => ?_)
    · refine wm_null C d_Shelf_taken_21 ?_
      refine wm_aret C P (Or.inl ⟨_, rfl⟩) (Or.inl rfl) d_Shelf_taken_22 ?_
      exact hN (Or.inr h_14)
    · refine wm_aload_n C d_Shelf_taken_17 rfl (j := 0) rfl ?_
      refine wm_goto (tgt := 22) C d_Shelf_taken_18 (by decide) ?_
      refine wm_aret C P (Or.inl ⟨_, rfl⟩) (Or.inr ⟨_, rfl⟩) d_Shelf_taken_22 ?_
      exact hS (fun q => q.elim g_2 h_14)
end
section
def cy_Run_callNull (s : cy_S) (b : Int32) : cy_S :=
  if s.2.2.1.1 = 7 then
    (cy_Run_fail s 4)
  else
    (cy_Run_fail s 4)
set_option maxHeartbeats 4000000 in
theorem c_Run_callNull {G : cy_G} {E : cy_E} {s : cy_S} {M : cy_Hp} {post : Option Value → cy_Hp → Prop} (hE : cy_Eo G E) (hR : cy_R E s M)  (b : Int32) (h : ∀ M', cy_R E (cy_Run_callNull s b) M' → post none M') : cy_Ct G 3 m_Run_callCode [.ref (E.2.2.1 136), .null, .int b] M 0 0 post := by
  refine cy_Ct.of (by decide) (Nat.le_of_ble_eq_true rfl) ?_
  intro F C P _
  have C : cy_C G F R_Run b_Run_callCode 4 3 0 0 := C
  have P : cy_P G F none post 0 0 := P
  show WM G F 4 0 0 0 [(0, .ref (E.2.2.1 136)), (1, .null), (2, .int b)] [] M
  refine wm_aload_n C d_Run_callCode_0 rfl (j := 0) rfl ?_
  refine wm_get C co_Run (rp_run hR) 4 (by decide) fl_Run_39 rfl d_Run_callCode_1 ?_
  by_cases f_4 : s.2.2.1.1 = 7
  · refine wm_getN (v := .null) C co_Frame (rp_frame hR (rp_work (s := s) hR)) 2 (by decide) fl_Run_42 (cy_inner_n f_4) d_Run_callCode_4 ?_
    refine wm_astore_nN (lv' := [(3, .null), (0, .ref (E.2.2.1 136)), (1, .null), (2, .int b)]) C d_Run_callCode_7 rfl (by decide) rfl ?_
    refine wm_aload_nN C d_Run_callCode_8 rfl (j := 2) rfl ?_
    refine wm_ifnonnullN C d_Run_callCode_9 ?_
    refine wm_aload_n C d_Run_callCode_12 rfl (j := 1) rfl ?_
    refine wm_iconst (v := 4) C d_Run_callCode_13 (by decide) ?_
    refine wm_callV (d2 := 0) (mc := 0) (ms := 0) C mo_Run_fail co_Run ml_Run_104 [.int 4] [] rfl (rp_run hR) rfl (by decide) (Nat.le_of_ble_eq_true rfl) (Nat.le_refl _) (Nat.le_refl _) d_Run_callCode_14 (cy_kv ?_)
    refine c_Run_fail hE hR  _ (fun M1 hR1 => ⟨rfl, ?_⟩)
    refine wm_goto (tgt := 43) C d_Run_callCode_17 (by decide) ?_
    refine wm_vret C P d_Run_callCode_43 ?_
    have e : cy_Run_callNull s b = (cy_Run_fail s 4) := by rw [cy_Run_callNull, if_pos f_4]
    rw [e] at h
    exact h _ hR1
  · refine wm_getN (v := .ref (E.2.2.1 (125 + (s.2.2.1.1 + 1)))) C co_Frame (rp_frame hR (rp_work (s := s) hR)) 2 (by decide) fl_Run_42 (cy_inner_s f_4) d_Run_callCode_4 ?_
    refine wm_astore_n (lv' := [(3, .ref (E.2.2.1 (125 + (s.2.2.1.1 + 1)))), (0, .ref (E.2.2.1 136)), (1, .null), (2, .int b)]) C d_Run_callCode_7 rfl (by decide) rfl ?_
    refine wm_aload_nN C d_Run_callCode_8 rfl (j := 2) rfl ?_
    refine wm_ifnonnullN C d_Run_callCode_9 ?_
    refine wm_aload_n C d_Run_callCode_12 rfl (j := 1) rfl ?_
    refine wm_iconst (v := 4) C d_Run_callCode_13 (by decide) ?_
    refine wm_callV (d2 := 0) (mc := 0) (ms := 0) C mo_Run_fail co_Run ml_Run_104 [.int 4] [] rfl (rp_run hR) rfl (by decide) (Nat.le_of_ble_eq_true rfl) (Nat.le_refl _) (Nat.le_refl _) d_Run_callCode_14 (cy_kv ?_)
    refine c_Run_fail hE hR  _ (fun M2 hR2 => ⟨rfl, ?_⟩)
    refine wm_goto (tgt := 43) C d_Run_callCode_17 (by decide) ?_
    refine wm_vret C P d_Run_callCode_43 ?_
    have e : cy_Run_callNull s b = (cy_Run_fail s 4) := by rw [cy_Run_callNull, if_neg f_4]
    rw [e] at h
    exact h _ hR2
def cy_Run_callCode (s : cy_S) (k : Nat) (b : Int32) : cy_S :=
  if s.2.2.1.1 = 7 then
    (cy_Run_fail s 5)
  else
    (cy_s_work (cy_Frame_enter s (s.2.2.1.1 + 1) k b) (s.2.2.1.1 + 1))
set_option maxHeartbeats 4000000 in
theorem c_Run_callCode {G : cy_G} {E : cy_E} {s : cy_S} {M : cy_Hp} {post : Option Value → cy_Hp → Prop} (hE : cy_Eo G E) (hR : cy_R E s M)  {k : Nat} (hk : k < 9) (b : Int32) (h : ∀ M', cy_R E (cy_Run_callCode s k b) M' → post none M') : cy_Ct G 3 m_Run_callCode [.ref (E.2.2.1 136), .ref (E.2.2.1 (116 + k)), .int b] M 0 0 post := by
  refine cy_Ct.of (by decide) (Nat.le_of_ble_eq_true rfl) ?_
  intro F C P _
  have C : cy_C G F R_Run b_Run_callCode 4 3 0 0 := C
  have P : cy_P G F none post 0 0 := P
  show WM G F 4 0 0 0 [(0, .ref (E.2.2.1 136)), (1, .ref (E.2.2.1 (116 + k))), (2, .int b)] [] M
  refine wm_aload_n C d_Run_callCode_0 rfl (j := 0) rfl ?_
  refine wm_get C co_Run (rp_run hR) 4 (by decide) fl_Run_39 rfl d_Run_callCode_1 ?_
  by_cases f_4 : s.2.2.1.1 = 7
  · refine wm_getN (v := .null) C co_Frame (rp_frame hR (rp_work (s := s) hR)) 2 (by decide) fl_Run_42 (cy_inner_n f_4) d_Run_callCode_4 ?_
    refine wm_astore_nN (lv' := [(3, .null), (0, .ref (E.2.2.1 136)), (1, .ref (E.2.2.1 (116 + k))), (2, .int b)]) C d_Run_callCode_7 rfl (by decide) rfl ?_
    refine wm_aload_n C d_Run_callCode_8 rfl (j := 2) rfl ?_
    refine wm_ifnonnull (tgt := 20) C d_Run_callCode_9 (by decide) ?_
    refine wm_aload_nN C d_Run_callCode_20 rfl (j := 0) rfl ?_
    refine wm_ifnonnullN C d_Run_callCode_21 ?_
    refine wm_aload_n C d_Run_callCode_24 rfl (j := 1) rfl ?_
    refine wm_iconst (v := 5) C d_Run_callCode_25 (by decide) ?_
    refine wm_callV (d2 := 0) (mc := 0) (ms := 0) C mo_Run_fail co_Run ml_Run_104 [.int 5] [] rfl (rp_run hR) rfl (by decide) (Nat.le_of_ble_eq_true rfl) (Nat.le_refl _) (Nat.le_refl _) d_Run_callCode_26 (cy_kv ?_)
    refine c_Run_fail hE hR  _ (fun M1 hR1 => ⟨rfl, ?_⟩)
    refine wm_goto (tgt := 43) C d_Run_callCode_29 (by decide) ?_
    refine wm_vret C P d_Run_callCode_43 ?_
    have e : cy_Run_callCode s k b = (cy_Run_fail s 5) := by rw [cy_Run_callCode, if_pos f_4]
    rw [e] at h
    exact h _ hR1
  · refine wm_getN (v := .ref (E.2.2.1 (125 + (s.2.2.1.1 + 1)))) C co_Frame (rp_frame hR (rp_work (s := s) hR)) 2 (by decide) fl_Run_42 (cy_inner_s f_4) d_Run_callCode_4 ?_
    refine wm_astore_n (lv' := [(3, .ref (E.2.2.1 (125 + (s.2.2.1.1 + 1)))), (0, .ref (E.2.2.1 136)), (1, .ref (E.2.2.1 (116 + k))), (2, .int b)]) C d_Run_callCode_7 rfl (by decide) rfl ?_
    refine wm_aload_n C d_Run_callCode_8 rfl (j := 2) rfl ?_
    refine wm_ifnonnull (tgt := 20) C d_Run_callCode_9 (by decide) ?_
    refine wm_aload_n C d_Run_callCode_20 rfl (j := 0) rfl ?_
    refine wm_ifnonnull (tgt := 32) C d_Run_callCode_21 (by decide) ?_
    refine wm_aload_n C d_Run_callCode_32 rfl (j := 0) rfl ?_
    refine wm_aload_n C d_Run_callCode_33 rfl (j := 2) rfl ?_
    refine wm_iload_n C d_Run_callCode_34 rfl (j := 3) rfl ?_
    refine wm_callVN (d2 := 2) (mc := 0) (ms := 0) C mo_Frame_enter co_Frame ml_Run_72 [.ref (E.2.2.1 (116 + k)), .int b] [] rfl (rp_frame hR (cy_lt_in (rp_work (s := s) hR) f_4)) rfl (by decide) (Nat.le_of_ble_eq_true rfl) (Nat.le_refl _) (Nat.le_refl _) d_Run_callCode_35 (cy_kv ?_)
    refine c_Frame_enter hE hR (cy_lt_in (rp_work (s := s) hR) f_4) hk _ (fun M2 hR2 => ⟨rfl, ?_⟩)
    refine wm_aload_n C d_Run_callCode_38 rfl (j := 1) rfl ?_
    refine wm_aload_n C d_Run_callCode_39 rfl (j := 0) rfl ?_
    refine wm_put C co_Run (rp_run hR2) 4 (by decide) fl_Run_39 rfl rfl rfl (Nat.le_of_ble_eq_true rfl) d_Run_callCode_40 ?_
    refine wm_gen (rp_p_work hE hR2 (cy_lt_in (rp_work (s := s) hR) f_4)) (fun M3 hR3 => ?_)
    refine wm_vret C P d_Run_callCode_43 ?_
    have e : cy_Run_callCode s k b = (cy_s_work (cy_Frame_enter s (s.2.2.1.1 + 1) k b) (s.2.2.1.1 + 1)) := by rw [cy_Run_callCode, if_neg f_4]
    rw [e] at h
    exact h _ hR3
def cy_Run_doOther (s : cy_S) (op : Int32) (n : Int32) : cy_S :=
  if op = 19 then
    (cy_Run_readInput (cy_rdrop s (42 + 2 * s.2.2.1.1)) (cy_rlast s (42 + 2 * s.2.2.1.1)))
  else
    if op = 20 then
      (cy_radd s (42 + 2 * s.2.2.1.1) (nI (s.1 4).length))
    else
      if op = 21 then
        (cy_Run_putOut (cy_rdrop s (42 + 2 * s.2.2.1.1)) (cy_rlast s (42 + 2 * s.2.2.1.1)))
      else
        if op = 22 then
          (cy_Run_finish (cy_rdrop s (42 + 2 * s.2.2.1.1)) (cy_rlast s (42 + 2 * s.2.2.1.1)))
        else
          if op = 23 then
            (cy_Run_finish s 0)
          else
            if op = 24 then
              (cy_Run_fail s 1)
            else
              if op = 25 then
                (cy_Run_divide s op)
              else
                if op = 26 then
                  (cy_Run_divide s op)
                else
                  if op = 27 then
                    if cy_no s (n - n / 8 * 8) then
                      (cy_Run_callNull s (n / 8))
                    else
                      (cy_Run_callCode s ((n - n / 8 * 8).toNatClampNeg) (n / 8))
                  else
                    (cy_Run_fail s 1)
set_option maxHeartbeats 4000000 in
theorem c_Run_doOther {G : cy_G} {E : cy_E} {s : cy_S} {M : cy_Hp} {post : Option Value → cy_Hp → Prop} (hE : cy_Eo G E) (hR : cy_R E s M)  (op : Int32) (n : Int32) (h : ∀ M', cy_R E (cy_Run_doOther s op n) M' → post none M') : cy_Ct G 4 m_Run_doOther [.ref (E.2.2.1 136), .int op, .int n] M 0 0 post := by
  refine cy_Ct.of (by decide) (Nat.le_of_ble_eq_true rfl) ?_
  intro F C P _
  have C : cy_C G F R_Run b_Run_doOther 3 4 0 0 := C
  have P : cy_P G F none post 0 0 := P
  show WM G F 3 0 0 0 [(0, .ref (E.2.2.1 136)), (1, .int op), (2, .int n)] [] M
  refine wm_iload_n C d_Run_doOther_0 rfl (j := 1) rfl ?_
  by_cases e_1_19 : op = 19
  · refine wm_tableIn (tgt := 52) C d_Run_doOther_1 (by rw [e_1_19]; decide) (by rw [e_1_19]; decide) (by rw [e_1_19]; rfl) (by decide) ?_
    refine wm_aload_n C d_Run_doOther_52 rfl (j := 0) rfl ?_
    refine wm_aload_n C d_Run_doOther_53 rfl (j := 0) rfl ?_
    refine wm_get C co_Run (rp_run hR) 4 (by decide) fl_Run_39 rfl d_Run_doOther_54 ?_
    refine wm_getN C co_Frame (rp_frame hR (rp_work (s := s) hR)) 3 (by decide) fl_Run_131 rfl d_Run_doOther_57 ?_
    refine wm_callVN (d2 := 0) (mc := 0) (ms := 0) C mo_Row_takeLast co_Row ml_Run_144 [] [.ref (E.2.2.1 136)] rfl (rp_row hR (rb42 (rp_work (s := s) hR))) rfl (by decide) (Nat.le_of_ble_eq_true rfl) (Nat.le_refl _) (Nat.le_refl _) d_Run_doOther_60 (cy_ki ?_)
    refine c_take hE hR (rb42 (rp_work (s := s) hR)) (fun M1 hR1 => ⟨_, rfl, ?_⟩)
    refine wm_callV (d2 := 1) (mc := 0) (ms := 0) C mo_Run_readInput co_Run ml_Run_157 [.int (cy_rlast s (42 + 2 * s.2.2.1.1))] [] rfl (rp_run hR1) rfl (by decide) (Nat.le_of_ble_eq_true rfl) (Nat.le_refl _) (Nat.le_refl _) d_Run_doOther_63 (cy_kv ?_)
    refine c_Run_readInput hE hR1  _ (fun M2 hR2 => ⟨rfl, ?_⟩)
    refine wm_goto (tgt := 166) C d_Run_doOther_66 (by decide) ?_
    refine wm_vret C P d_Run_doOther_166 ?_
    have e : cy_Run_doOther s op n = (cy_Run_readInput (cy_rdrop s (42 + 2 * s.2.2.1.1)) (cy_rlast s (42 + 2 * s.2.2.1.1))) := by rw [cy_Run_doOther, if_pos e_1_19]
    rw [e] at h
    exact h _ hR2
  by_cases e_1_20 : op = 20
  · refine wm_tableIn (tgt := 69) C d_Run_doOther_1 (by rw [e_1_20]; decide) (by rw [e_1_20]; decide) (by rw [e_1_20]; rfl) (by decide) ?_
    refine wm_aload_n C d_Run_doOther_69 rfl (j := 0) rfl ?_
    refine wm_get C co_Run (rp_run hR) 4 (by decide) fl_Run_39 rfl d_Run_doOther_70 ?_
    refine wm_getN C co_Frame (rp_frame hR (rp_work (s := s) hR)) 3 (by decide) fl_Run_131 rfl d_Run_doOther_73 ?_
    refine wm_aload_n C d_Run_doOther_76 rfl (j := 0) rfl ?_
    refine wm_get C co_Run (rp_run hR) 2 (by decide) fl_Run_20 rfl d_Run_doOther_77 ?_
    refine wm_getN C co_Row (rp_row hR (by decide)) 1 (by decide) fl_Run_101 rfl d_Run_doOther_80 ?_
    refine wm_callVN (d2 := 0) (mc := 0) (ms := 0) C mo_Row_add co_Row ml_Run_134 [.int (nI (s.1 4).length)] [] rfl (rp_row hR (rb42 (rp_work (s := s) hR))) rfl (by decide) (Nat.le_of_ble_eq_true rfl) (Nat.le_refl _) (Nat.le_refl _) d_Run_doOther_83 (cy_kv ?_)
    refine c_add hE hR (rb42 (rp_work (s := s) hR)) _ (fun M3 hR3 => ⟨rfl, ?_⟩)
    refine wm_goto (tgt := 166) C d_Run_doOther_86 (by decide) ?_
    refine wm_vret C P d_Run_doOther_166 ?_
    have e : cy_Run_doOther s op n = (cy_radd s (42 + 2 * s.2.2.1.1) (nI (s.1 4).length)) := by rw [cy_Run_doOther, if_neg e_1_19, if_pos e_1_20]
    rw [e] at h
    exact h _ hR3
  by_cases e_1_21 : op = 21
  · refine wm_tableIn (tgt := 89) C d_Run_doOther_1 (by rw [e_1_21]; decide) (by rw [e_1_21]; decide) (by rw [e_1_21]; rfl) (by decide) ?_
    refine wm_aload_n C d_Run_doOther_89 rfl (j := 0) rfl ?_
    refine wm_aload_n C d_Run_doOther_90 rfl (j := 0) rfl ?_
    refine wm_get C co_Run (rp_run hR) 4 (by decide) fl_Run_39 rfl d_Run_doOther_91 ?_
    refine wm_getN C co_Frame (rp_frame hR (rp_work (s := s) hR)) 3 (by decide) fl_Run_131 rfl d_Run_doOther_94 ?_
    refine wm_callVN (d2 := 0) (mc := 0) (ms := 0) C mo_Row_takeLast co_Row ml_Run_144 [] [.ref (E.2.2.1 136)] rfl (rp_row hR (rb42 (rp_work (s := s) hR))) rfl (by decide) (Nat.le_of_ble_eq_true rfl) (Nat.le_refl _) (Nat.le_refl _) d_Run_doOther_97 (cy_ki ?_)
    refine c_take hE hR (rb42 (rp_work (s := s) hR)) (fun M4 hR4 => ⟨_, rfl, ?_⟩)
    refine wm_callV (d2 := 1) (mc := 0) (ms := 0) C mo_Run_putOut co_Run ml_Run_160 [.int (cy_rlast s (42 + 2 * s.2.2.1.1))] [] rfl (rp_run hR4) rfl (by decide) (Nat.le_of_ble_eq_true rfl) (Nat.le_refl _) (Nat.le_refl _) d_Run_doOther_100 (cy_kv ?_)
    refine c_Run_putOut hE hR4  _ (fun M5 hR5 => ⟨rfl, ?_⟩)
    refine wm_goto (tgt := 166) C d_Run_doOther_103 (by decide) ?_
    refine wm_vret C P d_Run_doOther_166 ?_
    have e : cy_Run_doOther s op n = (cy_Run_putOut (cy_rdrop s (42 + 2 * s.2.2.1.1)) (cy_rlast s (42 + 2 * s.2.2.1.1))) := by rw [cy_Run_doOther, if_neg e_1_19, if_neg e_1_20, if_pos e_1_21]
    rw [e] at h
    exact h _ hR5
  by_cases e_1_22 : op = 22
  · refine wm_tableIn (tgt := 106) C d_Run_doOther_1 (by rw [e_1_22]; decide) (by rw [e_1_22]; decide) (by rw [e_1_22]; rfl) (by decide) ?_
    refine wm_aload_n C d_Run_doOther_106 rfl (j := 0) rfl ?_
    refine wm_aload_n C d_Run_doOther_107 rfl (j := 0) rfl ?_
    refine wm_get C co_Run (rp_run hR) 4 (by decide) fl_Run_39 rfl d_Run_doOther_108 ?_
    refine wm_getN C co_Frame (rp_frame hR (rp_work (s := s) hR)) 3 (by decide) fl_Run_131 rfl d_Run_doOther_111 ?_
    refine wm_callVN (d2 := 0) (mc := 0) (ms := 0) C mo_Row_takeLast co_Row ml_Run_144 [] [.ref (E.2.2.1 136)] rfl (rp_row hR (rb42 (rp_work (s := s) hR))) rfl (by decide) (Nat.le_of_ble_eq_true rfl) (Nat.le_refl _) (Nat.le_refl _) d_Run_doOther_114 (cy_ki ?_)
    refine c_take hE hR (rb42 (rp_work (s := s) hR)) (fun M6 hR6 => ⟨_, rfl, ?_⟩)
    refine wm_callV (d2 := 1) (mc := 0) (ms := 0) C mo_Run_finish co_Run ml_Run_163 [.int (cy_rlast s (42 + 2 * s.2.2.1.1))] [] rfl (rp_run hR6) rfl (by decide) (Nat.le_of_ble_eq_true rfl) (Nat.le_refl _) (Nat.le_refl _) d_Run_doOther_117 (cy_kv ?_)
    refine c_Run_finish hE hR6  _ (fun M7 hR7 => ⟨rfl, ?_⟩)
    refine wm_goto (tgt := 166) C d_Run_doOther_120 (by decide) ?_
    refine wm_vret C P d_Run_doOther_166 ?_
    have e : cy_Run_doOther s op n = (cy_Run_finish (cy_rdrop s (42 + 2 * s.2.2.1.1)) (cy_rlast s (42 + 2 * s.2.2.1.1))) := by rw [cy_Run_doOther, if_neg e_1_19, if_neg e_1_20, if_neg e_1_21, if_pos e_1_22]
    rw [e] at h
    exact h _ hR7
  by_cases e_1_23 : op = 23
  · refine wm_tableIn (tgt := 123) C d_Run_doOther_1 (by rw [e_1_23]; decide) (by rw [e_1_23]; decide) (by rw [e_1_23]; rfl) (by decide) ?_
    refine wm_aload_n C d_Run_doOther_123 rfl (j := 0) rfl ?_
    refine wm_iconst (v := 0) C d_Run_doOther_124 (by decide) ?_
    refine wm_callV (d2 := 1) (mc := 0) (ms := 0) C mo_Run_finish co_Run ml_Run_163 [.int 0] [] rfl (rp_run hR) rfl (by decide) (Nat.le_of_ble_eq_true rfl) (Nat.le_refl _) (Nat.le_refl _) d_Run_doOther_125 (cy_kv ?_)
    refine c_Run_finish hE hR  _ (fun M8 hR8 => ⟨rfl, ?_⟩)
    refine wm_goto (tgt := 166) C d_Run_doOther_128 (by decide) ?_
    refine wm_vret C P d_Run_doOther_166 ?_
    have e : cy_Run_doOther s op n = (cy_Run_finish s 0) := by rw [cy_Run_doOther, if_neg e_1_19, if_neg e_1_20, if_neg e_1_21, if_neg e_1_22, if_pos e_1_23]
    rw [e] at h
    exact h _ hR8
  by_cases e_1_24 : op = 24
  · refine wm_tableIn (tgt := 161) C d_Run_doOther_1 (by rw [e_1_24]; decide) (by rw [e_1_24]; decide) (by rw [e_1_24]; rfl) (by decide) ?_
    refine wm_aload_n C d_Run_doOther_161 rfl (j := 0) rfl ?_
    refine wm_iconst (v := 1) C d_Run_doOther_162 (by decide) ?_
    refine wm_callV (d2 := 0) (mc := 0) (ms := 0) C mo_Run_fail co_Run ml_Run_104 [.int 1] [] rfl (rp_run hR) rfl (by decide) (Nat.le_of_ble_eq_true rfl) (Nat.le_refl _) (Nat.le_refl _) d_Run_doOther_163 (cy_kv ?_)
    refine c_Run_fail hE hR  _ (fun M9 hR9 => ⟨rfl, ?_⟩)
    refine wm_vret C P d_Run_doOther_166 ?_
    have e : cy_Run_doOther s op n = (cy_Run_fail s 1) := by rw [cy_Run_doOther, if_neg e_1_19, if_neg e_1_20, if_neg e_1_21, if_neg e_1_22, if_neg e_1_23, if_pos e_1_24]
    rw [e] at h
    exact h _ hR9
  by_cases e_1_25 : op = 25
  · refine wm_tableIn (tgt := 131) C d_Run_doOther_1 (by rw [e_1_25]; decide) (by rw [e_1_25]; decide) (by rw [e_1_25]; rfl) (by decide) ?_
    refine wm_aload_n C d_Run_doOther_131 rfl (j := 0) rfl ?_
    refine wm_iload_n C d_Run_doOther_132 rfl (j := 1) rfl ?_
    refine wm_callV (d2 := 1) (mc := 0) (ms := 0) C mo_Run_divide co_Run ml_Run_166 [.int op] [] rfl (rp_run hR) rfl (by decide) (Nat.le_of_ble_eq_true rfl) (Nat.le_refl _) (Nat.le_refl _) d_Run_doOther_133 (cy_kv ?_)
    refine c_Run_divide hE hR  _ (fun M10 hR10 => ⟨rfl, ?_⟩)
    refine wm_goto (tgt := 166) C d_Run_doOther_136 (by decide) ?_
    refine wm_vret C P d_Run_doOther_166 ?_
    have e : cy_Run_doOther s op n = (cy_Run_divide s op) := by rw [cy_Run_doOther, if_neg e_1_19, if_neg e_1_20, if_neg e_1_21, if_neg e_1_22, if_neg e_1_23, if_neg e_1_24, if_pos e_1_25]
    rw [e] at h
    exact h _ hR10
  by_cases e_1_26 : op = 26
  · refine wm_tableIn (tgt := 131) C d_Run_doOther_1 (by rw [e_1_26]; decide) (by rw [e_1_26]; decide) (by rw [e_1_26]; rfl) (by decide) ?_
    refine wm_aload_n C d_Run_doOther_131 rfl (j := 0) rfl ?_
    refine wm_iload_n C d_Run_doOther_132 rfl (j := 1) rfl ?_
    refine wm_callV (d2 := 1) (mc := 0) (ms := 0) C mo_Run_divide co_Run ml_Run_166 [.int op] [] rfl (rp_run hR) rfl (by decide) (Nat.le_of_ble_eq_true rfl) (Nat.le_refl _) (Nat.le_refl _) d_Run_doOther_133 (cy_kv ?_)
    refine c_Run_divide hE hR  _ (fun M11 hR11 => ⟨rfl, ?_⟩)
    refine wm_goto (tgt := 166) C d_Run_doOther_136 (by decide) ?_
    refine wm_vret C P d_Run_doOther_166 ?_
    have e : cy_Run_doOther s op n = (cy_Run_divide s op) := by rw [cy_Run_doOther, if_neg e_1_19, if_neg e_1_20, if_neg e_1_21, if_neg e_1_22, if_neg e_1_23, if_neg e_1_24, if_neg e_1_25, if_pos e_1_26]
    rw [e] at h
    exact h _ hR11
  by_cases e_1_27 : op = 27
  · refine wm_tableIn (tgt := 139) C d_Run_doOther_1 (by rw [e_1_27]; decide) (by rw [e_1_27]; decide) (by rw [e_1_27]; rfl) (by decide) ?_
    refine wm_aload_n C d_Run_doOther_139 rfl (j := 0) rfl ?_
    refine wm_aload_n C d_Run_doOther_140 rfl (j := 0) rfl ?_
    refine wm_get C co_Run (rp_run hR) 0 (by decide) fl_Run_9 rfl d_Run_doOther_141 ?_
    refine wm_iload_n C d_Run_doOther_144 rfl (j := 2) rfl ?_
    refine wm_bipush (v := 8) C d_Run_doOther_145 (by decide) ?_
    refine wm_irem C d_Run_doOther_147 (by decide) ?_
    refine wm_callVN (d2 := 1) (mc := 0) (ms := 0) C mo_Shelf_taken co_Shelf ml_Run_169 [.int (n - n / 8 * 8)] [.ref (E.2.2.1 136)] rfl (rp_shelf hR) rfl (by decide) (Nat.le_of_ble_eq_true rfl) (Nat.le_refl _) (Nat.le_refl _) d_Run_doOther_148 (cy_ki ?_)
    refine c_taken hE hR _ (fun (g_148 : cy_no s (n - n / 8 * 8)) => ⟨_, rfl, ?_⟩) (fun (g_148 : ¬ cy_no s (n - n / 8 * 8)) => ⟨_, rfl, ?_⟩)
    · refine wm_iload_n C d_Run_doOther_151 rfl (j := 2) rfl ?_
      refine wm_bipush (v := 8) C d_Run_doOther_152 (by decide) ?_
      refine wm_idiv C d_Run_doOther_154 (by decide) ?_
      refine wm_callV (d2 := 3) (mc := 0) (ms := 0) C mo_Run_callCode co_Run ml_Run_173 [.null, .int (n / 8)] [] rfl (rp_run hR) rfl (by decide) (Nat.le_of_ble_eq_true rfl) (Nat.le_refl _) (Nat.le_refl _) d_Run_doOther_155 (cy_kv ?_)
      refine c_Run_callNull hE hR  _ (fun M12 hR12 => ⟨rfl, ?_⟩)
      refine wm_goto (tgt := 166) C d_Run_doOther_158 (by decide) ?_
      refine wm_vret C P d_Run_doOther_166 ?_
      have e : cy_Run_doOther s op n = (cy_Run_callNull s (n / 8)) := by rw [cy_Run_doOther, if_neg e_1_19, if_neg e_1_20, if_neg e_1_21, if_neg e_1_22, if_neg e_1_23, if_neg e_1_24, if_neg e_1_25, if_neg e_1_26, if_pos e_1_27, if_pos g_148]
      rw [e] at h
      exact h _ hR12
    · refine wm_iload_n C d_Run_doOther_151 rfl (j := 2) rfl ?_
      refine wm_bipush (v := 8) C d_Run_doOther_152 (by decide) ?_
      refine wm_idiv C d_Run_doOther_154 (by decide) ?_
      refine wm_callV (d2 := 3) (mc := 0) (ms := 0) C mo_Run_callCode co_Run ml_Run_173 [.ref (E.2.2.1 (116 + ((n - n / 8 * 8).toNatClampNeg))), .int (n / 8)] [] rfl (rp_run hR) rfl (by decide) (Nat.le_of_ble_eq_true rfl) (Nat.le_refl _) (Nat.le_refl _) d_Run_doOther_155 (cy_kv ?_)
      refine c_Run_callCode hE hR (cy_no_lt g_148) _ (fun M13 hR13 => ⟨rfl, ?_⟩)
      refine wm_goto (tgt := 166) C d_Run_doOther_158 (by decide) ?_
      refine wm_vret C P d_Run_doOther_166 ?_
      have e : cy_Run_doOther s op n = (cy_Run_callCode s ((n - n / 8 * 8).toNatClampNeg) (n / 8)) := by rw [cy_Run_doOther, if_neg e_1_19, if_neg e_1_20, if_neg e_1_21, if_neg e_1_22, if_neg e_1_23, if_neg e_1_24, if_neg e_1_25, if_neg e_1_26, if_pos e_1_27, if_neg g_148]
      rw [e] at h
      exact h _ hR13
  · refine wm_tableOut (tgt := 161) C d_Run_doOther_1 (by have n0 := lv_neT e_1_19 (a := 19) (by decide); have n1 := lv_neT e_1_20 (a := 20) (by decide); have n2 := lv_neT e_1_21 (a := 21) (by decide); have n3 := lv_neT e_1_22 (a := 22) (by decide); have n4 := lv_neT e_1_23 (a := 23) (by decide); have n5 := lv_neT e_1_24 (a := 24) (by decide); have n6 := lv_neT e_1_25 (a := 25) (by decide); have n7 := lv_neT e_1_26 (a := 26) (by decide); have n8 := lv_neT e_1_27 (a := 27) (by decide); omega) (by decide) ?_
    refine wm_aload_n C d_Run_doOther_161 rfl (j := 0) rfl ?_
    refine wm_iconst (v := 1) C d_Run_doOther_162 (by decide) ?_
    refine wm_callV (d2 := 0) (mc := 0) (ms := 0) C mo_Run_fail co_Run ml_Run_104 [.int 1] [] rfl (rp_run hR) rfl (by decide) (Nat.le_of_ble_eq_true rfl) (Nat.le_refl _) (Nat.le_refl _) d_Run_doOther_163 (cy_kv ?_)
    refine c_Run_fail hE hR  _ (fun M14 hR14 => ⟨rfl, ?_⟩)
    refine wm_vret C P d_Run_doOther_166 ?_
    have e : cy_Run_doOther s op n = (cy_Run_fail s 1) := by rw [cy_Run_doOther, if_neg e_1_19, if_neg e_1_20, if_neg e_1_21, if_neg e_1_22, if_neg e_1_23, if_neg e_1_24, if_neg e_1_25, if_neg e_1_26, if_neg e_1_27]
    rw [e] at h
    exact h _ hR14
def cy_Run_step (s : cy_S) : cy_S :=
  if s.2.2.1.2.2.2.2.2 < 2000 then
    if (cy_Yard_hasOperand ((cy_Frame_nextByte (cy_s_done s (s.2.2.1.2.2.2.2.2 + 1)) s.2.2.1.1).1)) = 0 then
      if 4 < ((cy_Frame_nextByte (cy_s_done s (s.2.2.1.2.2.2.2.2 + 1)) s.2.2.1.1).1) then
        if 12 < ((cy_Frame_nextByte (cy_s_done s (s.2.2.1.2.2.2.2.2 + 1)) s.2.2.1.1).1) then
          if 15 < ((cy_Frame_nextByte (cy_s_done s (s.2.2.1.2.2.2.2.2 + 1)) s.2.2.1.1).1) then
            if 18 < ((cy_Frame_nextByte (cy_s_done s (s.2.2.1.2.2.2.2.2 + 1)) s.2.2.1.1).1) then
              (cy_Run_doOther ((cy_Frame_nextByte (cy_s_done s (s.2.2.1.2.2.2.2.2 + 1)) s.2.2.1.1).2) ((cy_Frame_nextByte (cy_s_done s (s.2.2.1.2.2.2.2.2 + 1)) s.2.2.1.1).1) 0)
            else
              (cy_Run_jump ((cy_Frame_nextByte (cy_s_done s (s.2.2.1.2.2.2.2.2 + 1)) s.2.2.1.1).2) ((cy_Frame_nextByte (cy_s_done s (s.2.2.1.2.2.2.2.2 + 1)) s.2.2.1.1).1) 0)
          else
            (cy_Run_rearrange ((cy_Frame_nextByte (cy_s_done s (s.2.2.1.2.2.2.2.2 + 1)) s.2.2.1.1).2) ((cy_Frame_nextByte (cy_s_done s (s.2.2.1.2.2.2.2.2 + 1)) s.2.2.1.1).1))
        else
          (cy_Run_combine ((cy_Frame_nextByte (cy_s_done s (s.2.2.1.2.2.2.2.2 + 1)) s.2.2.1.1).2) ((cy_Frame_nextByte (cy_s_done s (s.2.2.1.2.2.2.2.2 + 1)) s.2.2.1.1).1))
      else
        (cy_Run_move ((cy_Frame_nextByte (cy_s_done s (s.2.2.1.2.2.2.2.2 + 1)) s.2.2.1.1).2) ((cy_Frame_nextByte (cy_s_done s (s.2.2.1.2.2.2.2.2 + 1)) s.2.2.1.1).1) 0)
    else
      if 4 < ((cy_Frame_nextByte (cy_s_done s (s.2.2.1.2.2.2.2.2 + 1)) s.2.2.1.1).1) then
        if 12 < ((cy_Frame_nextByte (cy_s_done s (s.2.2.1.2.2.2.2.2 + 1)) s.2.2.1.1).1) then
          if 15 < ((cy_Frame_nextByte (cy_s_done s (s.2.2.1.2.2.2.2.2 + 1)) s.2.2.1.1).1) then
            if 18 < ((cy_Frame_nextByte (cy_s_done s (s.2.2.1.2.2.2.2.2 + 1)) s.2.2.1.1).1) then
              (cy_Run_doOther ((cy_Frame_nextByte ((cy_Frame_nextByte (cy_s_done s (s.2.2.1.2.2.2.2.2 + 1)) s.2.2.1.1).2) (((cy_Frame_nextByte (cy_s_done s (s.2.2.1.2.2.2.2.2 + 1)) s.2.2.1.1).2).2.2.1.1)).2) ((cy_Frame_nextByte (cy_s_done s (s.2.2.1.2.2.2.2.2 + 1)) s.2.2.1.1).1) ((cy_Frame_nextByte ((cy_Frame_nextByte (cy_s_done s (s.2.2.1.2.2.2.2.2 + 1)) s.2.2.1.1).2) (((cy_Frame_nextByte (cy_s_done s (s.2.2.1.2.2.2.2.2 + 1)) s.2.2.1.1).2).2.2.1.1)).1))
            else
              (cy_Run_jump ((cy_Frame_nextByte ((cy_Frame_nextByte (cy_s_done s (s.2.2.1.2.2.2.2.2 + 1)) s.2.2.1.1).2) (((cy_Frame_nextByte (cy_s_done s (s.2.2.1.2.2.2.2.2 + 1)) s.2.2.1.1).2).2.2.1.1)).2) ((cy_Frame_nextByte (cy_s_done s (s.2.2.1.2.2.2.2.2 + 1)) s.2.2.1.1).1) ((cy_Frame_nextByte ((cy_Frame_nextByte (cy_s_done s (s.2.2.1.2.2.2.2.2 + 1)) s.2.2.1.1).2) (((cy_Frame_nextByte (cy_s_done s (s.2.2.1.2.2.2.2.2 + 1)) s.2.2.1.1).2).2.2.1.1)).1))
          else
            (cy_Run_rearrange ((cy_Frame_nextByte ((cy_Frame_nextByte (cy_s_done s (s.2.2.1.2.2.2.2.2 + 1)) s.2.2.1.1).2) (((cy_Frame_nextByte (cy_s_done s (s.2.2.1.2.2.2.2.2 + 1)) s.2.2.1.1).2).2.2.1.1)).2) ((cy_Frame_nextByte (cy_s_done s (s.2.2.1.2.2.2.2.2 + 1)) s.2.2.1.1).1))
        else
          (cy_Run_combine ((cy_Frame_nextByte ((cy_Frame_nextByte (cy_s_done s (s.2.2.1.2.2.2.2.2 + 1)) s.2.2.1.1).2) (((cy_Frame_nextByte (cy_s_done s (s.2.2.1.2.2.2.2.2 + 1)) s.2.2.1.1).2).2.2.1.1)).2) ((cy_Frame_nextByte (cy_s_done s (s.2.2.1.2.2.2.2.2 + 1)) s.2.2.1.1).1))
      else
        (cy_Run_move ((cy_Frame_nextByte ((cy_Frame_nextByte (cy_s_done s (s.2.2.1.2.2.2.2.2 + 1)) s.2.2.1.1).2) (((cy_Frame_nextByte (cy_s_done s (s.2.2.1.2.2.2.2.2 + 1)) s.2.2.1.1).2).2.2.1.1)).2) ((cy_Frame_nextByte (cy_s_done s (s.2.2.1.2.2.2.2.2 + 1)) s.2.2.1.1).1) ((cy_Frame_nextByte ((cy_Frame_nextByte (cy_s_done s (s.2.2.1.2.2.2.2.2 + 1)) s.2.2.1.1).2) (((cy_Frame_nextByte (cy_s_done s (s.2.2.1.2.2.2.2.2 + 1)) s.2.2.1.1).2).2.2.1.1)).1))
  else
    (cy_Run_fail s 6)
set_option maxHeartbeats 4000000 in
theorem c_Run_step {G : cy_G} {E : cy_E} {s : cy_S} {M : cy_Hp} {post : Option Value → cy_Hp → Prop} (hE : cy_Eo G E) (hR : cy_R E s M)   (h : ∀ M', cy_R E (cy_Run_step s) M' → post none M') : cy_Ct G 5 m_Run_step [.ref (E.2.2.1 136)] M 0 0 post := by
  refine cy_Ct.of (by decide) (Nat.le_of_ble_eq_true rfl) ?_
  intro F C P _
  have C : cy_C G F R_Run b_Run_step 3 5 0 0 := C
  have P : cy_P G F none post 0 0 := P
  show WM G F 3 0 0 0 [(0, .ref (E.2.2.1 136))] [] M
  refine wm_aload_n C d_Run_step_0 rfl (j := 0) rfl ?_
  refine wm_get C co_Run (rp_run hR) 9 (by decide) fl_Run_82 rfl d_Run_step_1 ?_
  refine wm_sipush (v := 2000) C d_Run_step_4 (by decide) ?_
  refine wm_icmp_lt (tgt := 17) C d_Run_step_7 (by decide) (fun (h_7 : s.2.2.1.2.2.2.2.2 < 2000) => ?_) (fun (h_7 : ¬ s.2.2.1.2.2.2.2.2 < 2000) => ?_)
  · refine wm_aload_n C d_Run_step_17 rfl (j := 0) rfl ?_
    refine wm_dup C d_Run_step_18 rfl ?_
    refine wm_get C co_Run (rp_run hR) 9 (by decide) fl_Run_82 rfl d_Run_step_19 ?_
    refine wm_iconst (v := 1) C d_Run_step_22 (by decide) ?_
    refine wm_iadd C d_Run_step_23 ?_
    refine wm_put C co_Run (rp_run hR) 9 (by decide) fl_Run_82 rfl rfl rfl (Nat.le_of_ble_eq_true rfl) d_Run_step_24 ?_
    refine wm_gen (rp_p_done hE hR (s.2.2.1.2.2.2.2.2 + 1)) (fun M1 hR1 => ?_)
    refine wm_aload_n C d_Run_step_27 rfl (j := 0) rfl ?_
    refine wm_get C co_Run (rp_run hR1) 4 (by decide) fl_Run_39 rfl d_Run_step_28 ?_
    refine wm_callVN (d2 := 1) (mc := 0) (ms := 0) C mo_Frame_nextByte co_Frame ml_Run_107 [] [] rfl (rp_frame hR1 (rp_work (s := s) hR)) rfl (by decide) (Nat.le_of_ble_eq_true rfl) (Nat.le_refl _) (Nat.le_refl _) d_Run_step_31 (cy_ki ?_)
    refine c_Frame_nextByte hE hR1 (rp_work (s := s) hR)  (fun M2 hR2 => ⟨_, rfl, ?_⟩)
    refine wm_istore_n (lv' := [(1, .int ((cy_Frame_nextByte (cy_s_done s (s.2.2.1.2.2.2.2.2 + 1)) s.2.2.1.1).1)), (0, .ref (E.2.2.1 136))]) C d_Run_step_34 rfl (by decide) rfl ?_
    refine wm_iload_n C d_Run_step_35 rfl (j := 0) rfl ?_
    refine wm_callSN (d2 := 2) (mc := 0) (ms := 0) C mo_Yard_hasOperand ml_Run_111 [.int ((cy_Frame_nextByte (cy_s_done s (s.2.2.1.2.2.2.2.2 + 1)) s.2.2.1.1).1)] [] rfl rfl (by decide) (Nat.le_of_ble_eq_true rfl) (Nat.le_refl _) (Nat.le_refl _) d_Run_step_36 (cy_ki ?_)
    refine c_Yard_hasOperand hE hR2  _ ⟨_, rfl, ?_⟩
    refine wm_if_eq (tgt := 52) C d_Run_step_39 (by decide) (fun (h_39 : (cy_Yard_hasOperand ((cy_Frame_nextByte (cy_s_done s (s.2.2.1.2.2.2.2.2 + 1)) s.2.2.1.1).1)) = 0) => ?_) (fun (h_39 : ¬ (cy_Yard_hasOperand ((cy_Frame_nextByte (cy_s_done s (s.2.2.1.2.2.2.2.2 + 1)) s.2.2.1.1).1)) = 0) => ?_)
    · refine wm_iconst (v := 0) C d_Run_step_52 (by decide) ?_
      refine wm_istore_n (lv' := [(2, .int 0), (1, .int ((cy_Frame_nextByte (cy_s_done s (s.2.2.1.2.2.2.2.2 + 1)) s.2.2.1.1).1)), (0, .ref (E.2.2.1 136))]) C d_Run_step_53 rfl (by decide) rfl ?_
      refine wm_iload_n C d_Run_step_54 rfl (j := 1) rfl ?_
      refine wm_iconst (v := 4) C d_Run_step_55 (by decide) ?_
      refine wm_icmp_gt (tgt := 68) C d_Run_step_56 (by decide) (fun (h_56 : 4 < ((cy_Frame_nextByte (cy_s_done s (s.2.2.1.2.2.2.2.2 + 1)) s.2.2.1.1).1)) => ?_) (fun (h_56 : ¬ 4 < ((cy_Frame_nextByte (cy_s_done s (s.2.2.1.2.2.2.2.2 + 1)) s.2.2.1.1).1)) => ?_)
      · refine wm_iload_n C d_Run_step_68 rfl (j := 1) rfl ?_
        refine wm_bipush (v := 12) C d_Run_step_69 (by decide) ?_
        refine wm_icmp_gt (tgt := 82) C d_Run_step_71 (by decide) (fun (h_71 : 12 < ((cy_Frame_nextByte (cy_s_done s (s.2.2.1.2.2.2.2.2 + 1)) s.2.2.1.1).1)) => ?_) (fun (h_71 : ¬ 12 < ((cy_Frame_nextByte (cy_s_done s (s.2.2.1.2.2.2.2.2 + 1)) s.2.2.1.1).1)) => ?_)
        · refine wm_iload_n C d_Run_step_82 rfl (j := 1) rfl ?_
          refine wm_bipush (v := 15) C d_Run_step_83 (by decide) ?_
          refine wm_icmp_gt (tgt := 96) C d_Run_step_85 (by decide) (fun (h_85 : 15 < ((cy_Frame_nextByte (cy_s_done s (s.2.2.1.2.2.2.2.2 + 1)) s.2.2.1.1).1)) => ?_) (fun (h_85 : ¬ 15 < ((cy_Frame_nextByte (cy_s_done s (s.2.2.1.2.2.2.2.2 + 1)) s.2.2.1.1).1)) => ?_)
          · refine wm_iload_n C d_Run_step_96 rfl (j := 1) rfl ?_
            refine wm_bipush (v := 18) C d_Run_step_97 (by decide) ?_
            refine wm_icmp_gt (tgt := 111) C d_Run_step_99 (by decide) (fun (h_99 : 18 < ((cy_Frame_nextByte (cy_s_done s (s.2.2.1.2.2.2.2.2 + 1)) s.2.2.1.1).1)) => ?_) (fun (h_99 : ¬ 18 < ((cy_Frame_nextByte (cy_s_done s (s.2.2.1.2.2.2.2.2 + 1)) s.2.2.1.1).1)) => ?_)
            · refine wm_aload_n C d_Run_step_111 rfl (j := 2) rfl ?_
              refine wm_iload_n C d_Run_step_112 rfl (j := 1) rfl ?_
              refine wm_iload_n C d_Run_step_113 rfl (j := 0) rfl ?_
              refine wm_callV (d2 := 4) (mc := 0) (ms := 0) C mo_Run_doOther co_Run ml_Run_128 [.int ((cy_Frame_nextByte (cy_s_done s (s.2.2.1.2.2.2.2.2 + 1)) s.2.2.1.1).1), .int 0] [] rfl (rp_run hR2) rfl (by decide) (Nat.le_of_ble_eq_true rfl) (Nat.le_refl _) (Nat.le_refl _) d_Run_step_114 (cy_kv ?_)
              refine c_Run_doOther hE hR2  _ _ (fun M3 hR3 => ⟨rfl, ?_⟩)
              refine wm_vret C P d_Run_step_117 ?_
              have e : cy_Run_step s = (cy_Run_doOther ((cy_Frame_nextByte (cy_s_done s (s.2.2.1.2.2.2.2.2 + 1)) s.2.2.1.1).2) ((cy_Frame_nextByte (cy_s_done s (s.2.2.1.2.2.2.2.2 + 1)) s.2.2.1.1).1) 0) := by rw [cy_Run_step, if_pos h_7, if_pos h_39, if_pos h_56, if_pos h_71, if_pos h_85, if_pos h_99]
              rw [e] at h
              exact h _ hR3
            · refine wm_aload_n C d_Run_step_102 rfl (j := 2) rfl ?_
              refine wm_iload_n C d_Run_step_103 rfl (j := 1) rfl ?_
              refine wm_iload_n C d_Run_step_104 rfl (j := 0) rfl ?_
              refine wm_callV (d2 := 1) (mc := 0) (ms := 0) C mo_Run_jump co_Run ml_Run_125 [.int ((cy_Frame_nextByte (cy_s_done s (s.2.2.1.2.2.2.2.2 + 1)) s.2.2.1.1).1), .int 0] [] rfl (rp_run hR2) rfl (by decide) (Nat.le_of_ble_eq_true rfl) (Nat.le_refl _) (Nat.le_refl _) d_Run_step_105 (cy_kv ?_)
              refine c_Run_jump hE hR2  _ _ (fun M4 hR4 => ⟨rfl, ?_⟩)
              refine wm_goto (tgt := 117) C d_Run_step_108 (by decide) ?_
              refine wm_vret C P d_Run_step_117 ?_
              have e : cy_Run_step s = (cy_Run_jump ((cy_Frame_nextByte (cy_s_done s (s.2.2.1.2.2.2.2.2 + 1)) s.2.2.1.1).2) ((cy_Frame_nextByte (cy_s_done s (s.2.2.1.2.2.2.2.2 + 1)) s.2.2.1.1).1) 0) := by rw [cy_Run_step, if_pos h_7, if_pos h_39, if_pos h_56, if_pos h_71, if_pos h_85, if_neg h_99]
              rw [e] at h
              exact h _ hR4
          · refine wm_aload_n C d_Run_step_88 rfl (j := 2) rfl ?_
            refine wm_iload_n C d_Run_step_89 rfl (j := 1) rfl ?_
            refine wm_callV (d2 := 1) (mc := 0) (ms := 0) C mo_Run_rearrange co_Run ml_Run_122 [.int ((cy_Frame_nextByte (cy_s_done s (s.2.2.1.2.2.2.2.2 + 1)) s.2.2.1.1).1)] [] rfl (rp_run hR2) rfl (by decide) (Nat.le_of_ble_eq_true rfl) (Nat.le_refl _) (Nat.le_refl _) d_Run_step_90 (cy_kv ?_)
            refine c_Run_rearrange hE hR2  _ (fun M5 hR5 => ⟨rfl, ?_⟩)
            refine wm_goto (tgt := 117) C d_Run_step_93 (by decide) ?_
            refine wm_vret C P d_Run_step_117 ?_
            have e : cy_Run_step s = (cy_Run_rearrange ((cy_Frame_nextByte (cy_s_done s (s.2.2.1.2.2.2.2.2 + 1)) s.2.2.1.1).2) ((cy_Frame_nextByte (cy_s_done s (s.2.2.1.2.2.2.2.2 + 1)) s.2.2.1.1).1)) := by rw [cy_Run_step, if_pos h_7, if_pos h_39, if_pos h_56, if_pos h_71, if_neg h_85]
            rw [e] at h
            exact h _ hR5
        · refine wm_aload_n C d_Run_step_74 rfl (j := 2) rfl ?_
          refine wm_iload_n C d_Run_step_75 rfl (j := 1) rfl ?_
          refine wm_callV (d2 := 1) (mc := 0) (ms := 0) C mo_Run_combine co_Run ml_Run_119 [.int ((cy_Frame_nextByte (cy_s_done s (s.2.2.1.2.2.2.2.2 + 1)) s.2.2.1.1).1)] [] rfl (rp_run hR2) rfl (by decide) (Nat.le_of_ble_eq_true rfl) (Nat.le_refl _) (Nat.le_refl _) d_Run_step_76 (cy_kv ?_)
          refine c_Run_combine hE hR2  _ (fun M6 hR6 => ⟨rfl, ?_⟩)
          refine wm_goto (tgt := 117) C d_Run_step_79 (by decide) ?_
          refine wm_vret C P d_Run_step_117 ?_
          have e : cy_Run_step s = (cy_Run_combine ((cy_Frame_nextByte (cy_s_done s (s.2.2.1.2.2.2.2.2 + 1)) s.2.2.1.1).2) ((cy_Frame_nextByte (cy_s_done s (s.2.2.1.2.2.2.2.2 + 1)) s.2.2.1.1).1)) := by rw [cy_Run_step, if_pos h_7, if_pos h_39, if_pos h_56, if_neg h_71]
          rw [e] at h
          exact h _ hR6
      · refine wm_aload_n C d_Run_step_59 rfl (j := 2) rfl ?_
        refine wm_iload_n C d_Run_step_60 rfl (j := 1) rfl ?_
        refine wm_iload_n C d_Run_step_61 rfl (j := 0) rfl ?_
        refine wm_callV (d2 := 1) (mc := 0) (ms := 0) C mo_Run_move co_Run ml_Run_115 [.int ((cy_Frame_nextByte (cy_s_done s (s.2.2.1.2.2.2.2.2 + 1)) s.2.2.1.1).1), .int 0] [] rfl (rp_run hR2) rfl (by decide) (Nat.le_of_ble_eq_true rfl) (Nat.le_refl _) (Nat.le_refl _) d_Run_step_62 (cy_kv ?_)
        refine c_Run_move hE hR2  _ _ (fun M7 hR7 => ⟨rfl, ?_⟩)
        refine wm_goto (tgt := 117) C d_Run_step_65 (by decide) ?_
        refine wm_vret C P d_Run_step_117 ?_
        have e : cy_Run_step s = (cy_Run_move ((cy_Frame_nextByte (cy_s_done s (s.2.2.1.2.2.2.2.2 + 1)) s.2.2.1.1).2) ((cy_Frame_nextByte (cy_s_done s (s.2.2.1.2.2.2.2.2 + 1)) s.2.2.1.1).1) 0) := by rw [cy_Run_step, if_pos h_7, if_pos h_39, if_neg h_56]
        rw [e] at h
        exact h _ hR7
    · refine wm_aload_n C d_Run_step_42 rfl (j := 1) rfl ?_
      refine wm_get C co_Run (rp_run hR2) 4 (by decide) fl_Run_39 rfl d_Run_step_43 ?_
      refine wm_callVN (d2 := 1) (mc := 0) (ms := 0) C mo_Frame_nextByte co_Frame ml_Run_107 [] [] rfl (rp_frame hR2 (rp_work (s := (cy_Frame_nextByte (cy_s_done s (s.2.2.1.2.2.2.2.2 + 1)) s.2.2.1.1).2) hR2)) rfl (by decide) (Nat.le_of_ble_eq_true rfl) (Nat.le_refl _) (Nat.le_refl _) d_Run_step_46 (cy_ki ?_)
      refine c_Frame_nextByte hE hR2 (rp_work (s := (cy_Frame_nextByte (cy_s_done s (s.2.2.1.2.2.2.2.2 + 1)) s.2.2.1.1).2) hR2)  (fun M8 hR8 => ⟨_, rfl, ?_⟩)
      refine wm_goto (tgt := 53) C d_Run_step_49 (by decide) ?_
      refine wm_istore_n (lv' := [(2, .int ((cy_Frame_nextByte ((cy_Frame_nextByte (cy_s_done s (s.2.2.1.2.2.2.2.2 + 1)) s.2.2.1.1).2) (((cy_Frame_nextByte (cy_s_done s (s.2.2.1.2.2.2.2.2 + 1)) s.2.2.1.1).2).2.2.1.1)).1)), (1, .int ((cy_Frame_nextByte (cy_s_done s (s.2.2.1.2.2.2.2.2 + 1)) s.2.2.1.1).1)), (0, .ref (E.2.2.1 136))]) C d_Run_step_53 rfl (by decide) rfl ?_
      refine wm_iload_n C d_Run_step_54 rfl (j := 1) rfl ?_
      refine wm_iconst (v := 4) C d_Run_step_55 (by decide) ?_
      refine wm_icmp_gt (tgt := 68) C d_Run_step_56 (by decide) (fun (h_56_7 : 4 < ((cy_Frame_nextByte (cy_s_done s (s.2.2.1.2.2.2.2.2 + 1)) s.2.2.1.1).1)) => ?_) (fun (h_56_7 : ¬ 4 < ((cy_Frame_nextByte (cy_s_done s (s.2.2.1.2.2.2.2.2 + 1)) s.2.2.1.1).1)) => ?_)
      · refine wm_iload_n C d_Run_step_68 rfl (j := 1) rfl ?_
        refine wm_bipush (v := 12) C d_Run_step_69 (by decide) ?_
        refine wm_icmp_gt (tgt := 82) C d_Run_step_71 (by decide) (fun (h_71_8 : 12 < ((cy_Frame_nextByte (cy_s_done s (s.2.2.1.2.2.2.2.2 + 1)) s.2.2.1.1).1)) => ?_) (fun (h_71_8 : ¬ 12 < ((cy_Frame_nextByte (cy_s_done s (s.2.2.1.2.2.2.2.2 + 1)) s.2.2.1.1).1)) => ?_)
        · refine wm_iload_n C d_Run_step_82 rfl (j := 1) rfl ?_
          refine wm_bipush (v := 15) C d_Run_step_83 (by decide) ?_
          refine wm_icmp_gt (tgt := 96) C d_Run_step_85 (by decide) (fun (h_85_9 : 15 < ((cy_Frame_nextByte (cy_s_done s (s.2.2.1.2.2.2.2.2 + 1)) s.2.2.1.1).1)) => ?_) (fun (h_85_9 : ¬ 15 < ((cy_Frame_nextByte (cy_s_done s (s.2.2.1.2.2.2.2.2 + 1)) s.2.2.1.1).1)) => ?_)
          · refine wm_iload_n C d_Run_step_96 rfl (j := 1) rfl ?_
            refine wm_bipush (v := 18) C d_Run_step_97 (by decide) ?_
            refine wm_icmp_gt (tgt := 111) C d_Run_step_99 (by decide) (fun (h_99_10 : 18 < ((cy_Frame_nextByte (cy_s_done s (s.2.2.1.2.2.2.2.2 + 1)) s.2.2.1.1).1)) => ?_) (fun (h_99_10 : ¬ 18 < ((cy_Frame_nextByte (cy_s_done s (s.2.2.1.2.2.2.2.2 + 1)) s.2.2.1.1).1)) => ?_)
            · refine wm_aload_n C d_Run_step_111 rfl (j := 2) rfl ?_
              refine wm_iload_n C d_Run_step_112 rfl (j := 1) rfl ?_
              refine wm_iload_n C d_Run_step_113 rfl (j := 0) rfl ?_
              refine wm_callV (d2 := 4) (mc := 0) (ms := 0) C mo_Run_doOther co_Run ml_Run_128 [.int ((cy_Frame_nextByte (cy_s_done s (s.2.2.1.2.2.2.2.2 + 1)) s.2.2.1.1).1), .int ((cy_Frame_nextByte ((cy_Frame_nextByte (cy_s_done s (s.2.2.1.2.2.2.2.2 + 1)) s.2.2.1.1).2) (((cy_Frame_nextByte (cy_s_done s (s.2.2.1.2.2.2.2.2 + 1)) s.2.2.1.1).2).2.2.1.1)).1)] [] rfl (rp_run hR8) rfl (by decide) (Nat.le_of_ble_eq_true rfl) (Nat.le_refl _) (Nat.le_refl _) d_Run_step_114 (cy_kv ?_)
              refine c_Run_doOther hE hR8  _ _ (fun M9 hR9 => ⟨rfl, ?_⟩)
              refine wm_vret C P d_Run_step_117 ?_
              have e : cy_Run_step s = (cy_Run_doOther ((cy_Frame_nextByte ((cy_Frame_nextByte (cy_s_done s (s.2.2.1.2.2.2.2.2 + 1)) s.2.2.1.1).2) (((cy_Frame_nextByte (cy_s_done s (s.2.2.1.2.2.2.2.2 + 1)) s.2.2.1.1).2).2.2.1.1)).2) ((cy_Frame_nextByte (cy_s_done s (s.2.2.1.2.2.2.2.2 + 1)) s.2.2.1.1).1) ((cy_Frame_nextByte ((cy_Frame_nextByte (cy_s_done s (s.2.2.1.2.2.2.2.2 + 1)) s.2.2.1.1).2) (((cy_Frame_nextByte (cy_s_done s (s.2.2.1.2.2.2.2.2 + 1)) s.2.2.1.1).2).2.2.1.1)).1)) := by rw [cy_Run_step, if_pos h_7, if_neg h_39, if_pos h_56_7, if_pos h_71_8, if_pos h_85_9, if_pos h_99_10]
              rw [e] at h
              exact h _ hR9
            · refine wm_aload_n C d_Run_step_102 rfl (j := 2) rfl ?_
              refine wm_iload_n C d_Run_step_103 rfl (j := 1) rfl ?_
              refine wm_iload_n C d_Run_step_104 rfl (j := 0) rfl ?_
              refine wm_callV (d2 := 1) (mc := 0) (ms := 0) C mo_Run_jump co_Run ml_Run_125 [.int ((cy_Frame_nextByte (cy_s_done s (s.2.2.1.2.2.2.2.2 + 1)) s.2.2.1.1).1), .int ((cy_Frame_nextByte ((cy_Frame_nextByte (cy_s_done s (s.2.2.1.2.2.2.2.2 + 1)) s.2.2.1.1).2) (((cy_Frame_nextByte (cy_s_done s (s.2.2.1.2.2.2.2.2 + 1)) s.2.2.1.1).2).2.2.1.1)).1)] [] rfl (rp_run hR8) rfl (by decide) (Nat.le_of_ble_eq_true rfl) (Nat.le_refl _) (Nat.le_refl _) d_Run_step_105 (cy_kv ?_)
              refine c_Run_jump hE hR8  _ _ (fun M10 hR10 => ⟨rfl, ?_⟩)
              refine wm_goto (tgt := 117) C d_Run_step_108 (by decide) ?_
              refine wm_vret C P d_Run_step_117 ?_
              have e : cy_Run_step s = (cy_Run_jump ((cy_Frame_nextByte ((cy_Frame_nextByte (cy_s_done s (s.2.2.1.2.2.2.2.2 + 1)) s.2.2.1.1).2) (((cy_Frame_nextByte (cy_s_done s (s.2.2.1.2.2.2.2.2 + 1)) s.2.2.1.1).2).2.2.1.1)).2) ((cy_Frame_nextByte (cy_s_done s (s.2.2.1.2.2.2.2.2 + 1)) s.2.2.1.1).1) ((cy_Frame_nextByte ((cy_Frame_nextByte (cy_s_done s (s.2.2.1.2.2.2.2.2 + 1)) s.2.2.1.1).2) (((cy_Frame_nextByte (cy_s_done s (s.2.2.1.2.2.2.2.2 + 1)) s.2.2.1.1).2).2.2.1.1)).1)) := by rw [cy_Run_step, if_pos h_7, if_neg h_39, if_pos h_56_7, if_pos h_71_8, if_pos h_85_9, if_neg h_99_10]
              rw [e] at h
              exact h _ hR10
          · refine wm_aload_n C d_Run_step_88 rfl (j := 2) rfl ?_
            refine wm_iload_n C d_Run_step_89 rfl (j := 1) rfl ?_
            refine wm_callV (d2 := 1) (mc := 0) (ms := 0) C mo_Run_rearrange co_Run ml_Run_122 [.int ((cy_Frame_nextByte (cy_s_done s (s.2.2.1.2.2.2.2.2 + 1)) s.2.2.1.1).1)] [] rfl (rp_run hR8) rfl (by decide) (Nat.le_of_ble_eq_true rfl) (Nat.le_refl _) (Nat.le_refl _) d_Run_step_90 (cy_kv ?_)
            refine c_Run_rearrange hE hR8  _ (fun M11 hR11 => ⟨rfl, ?_⟩)
            refine wm_goto (tgt := 117) C d_Run_step_93 (by decide) ?_
            refine wm_vret C P d_Run_step_117 ?_
            have e : cy_Run_step s = (cy_Run_rearrange ((cy_Frame_nextByte ((cy_Frame_nextByte (cy_s_done s (s.2.2.1.2.2.2.2.2 + 1)) s.2.2.1.1).2) (((cy_Frame_nextByte (cy_s_done s (s.2.2.1.2.2.2.2.2 + 1)) s.2.2.1.1).2).2.2.1.1)).2) ((cy_Frame_nextByte (cy_s_done s (s.2.2.1.2.2.2.2.2 + 1)) s.2.2.1.1).1)) := by rw [cy_Run_step, if_pos h_7, if_neg h_39, if_pos h_56_7, if_pos h_71_8, if_neg h_85_9]
            rw [e] at h
            exact h _ hR11
        · refine wm_aload_n C d_Run_step_74 rfl (j := 2) rfl ?_
          refine wm_iload_n C d_Run_step_75 rfl (j := 1) rfl ?_
          refine wm_callV (d2 := 1) (mc := 0) (ms := 0) C mo_Run_combine co_Run ml_Run_119 [.int ((cy_Frame_nextByte (cy_s_done s (s.2.2.1.2.2.2.2.2 + 1)) s.2.2.1.1).1)] [] rfl (rp_run hR8) rfl (by decide) (Nat.le_of_ble_eq_true rfl) (Nat.le_refl _) (Nat.le_refl _) d_Run_step_76 (cy_kv ?_)
          refine c_Run_combine hE hR8  _ (fun M12 hR12 => ⟨rfl, ?_⟩)
          refine wm_goto (tgt := 117) C d_Run_step_79 (by decide) ?_
          refine wm_vret C P d_Run_step_117 ?_
          have e : cy_Run_step s = (cy_Run_combine ((cy_Frame_nextByte ((cy_Frame_nextByte (cy_s_done s (s.2.2.1.2.2.2.2.2 + 1)) s.2.2.1.1).2) (((cy_Frame_nextByte (cy_s_done s (s.2.2.1.2.2.2.2.2 + 1)) s.2.2.1.1).2).2.2.1.1)).2) ((cy_Frame_nextByte (cy_s_done s (s.2.2.1.2.2.2.2.2 + 1)) s.2.2.1.1).1)) := by rw [cy_Run_step, if_pos h_7, if_neg h_39, if_pos h_56_7, if_neg h_71_8]
          rw [e] at h
          exact h _ hR12
      · refine wm_aload_n C d_Run_step_59 rfl (j := 2) rfl ?_
        refine wm_iload_n C d_Run_step_60 rfl (j := 1) rfl ?_
        refine wm_iload_n C d_Run_step_61 rfl (j := 0) rfl ?_
        refine wm_callV (d2 := 1) (mc := 0) (ms := 0) C mo_Run_move co_Run ml_Run_115 [.int ((cy_Frame_nextByte (cy_s_done s (s.2.2.1.2.2.2.2.2 + 1)) s.2.2.1.1).1), .int ((cy_Frame_nextByte ((cy_Frame_nextByte (cy_s_done s (s.2.2.1.2.2.2.2.2 + 1)) s.2.2.1.1).2) (((cy_Frame_nextByte (cy_s_done s (s.2.2.1.2.2.2.2.2 + 1)) s.2.2.1.1).2).2.2.1.1)).1)] [] rfl (rp_run hR8) rfl (by decide) (Nat.le_of_ble_eq_true rfl) (Nat.le_refl _) (Nat.le_refl _) d_Run_step_62 (cy_kv ?_)
        refine c_Run_move hE hR8  _ _ (fun M13 hR13 => ⟨rfl, ?_⟩)
        refine wm_goto (tgt := 117) C d_Run_step_65 (by decide) ?_
        refine wm_vret C P d_Run_step_117 ?_
        have e : cy_Run_step s = (cy_Run_move ((cy_Frame_nextByte ((cy_Frame_nextByte (cy_s_done s (s.2.2.1.2.2.2.2.2 + 1)) s.2.2.1.1).2) (((cy_Frame_nextByte (cy_s_done s (s.2.2.1.2.2.2.2.2 + 1)) s.2.2.1.1).2).2.2.1.1)).2) ((cy_Frame_nextByte (cy_s_done s (s.2.2.1.2.2.2.2.2 + 1)) s.2.2.1.1).1) ((cy_Frame_nextByte ((cy_Frame_nextByte (cy_s_done s (s.2.2.1.2.2.2.2.2 + 1)) s.2.2.1.1).2) (((cy_Frame_nextByte (cy_s_done s (s.2.2.1.2.2.2.2.2 + 1)) s.2.2.1.1).2).2.2.1.1)).1)) := by rw [cy_Run_step, if_pos h_7, if_neg h_39, if_neg h_56_7]
        rw [e] at h
        exact h _ hR13
  · refine wm_aload_n C d_Run_step_10 rfl (j := 0) rfl ?_
    refine wm_bipush (v := 6) C d_Run_step_11 (by decide) ?_
    refine wm_callV (d2 := 0) (mc := 0) (ms := 0) C mo_Run_fail co_Run ml_Run_104 [.int 6] [] rfl (rp_run hR) rfl (by decide) (Nat.le_of_ble_eq_true rfl) (Nat.le_refl _) (Nat.le_refl _) d_Run_step_13 (cy_kv ?_)
    refine c_Run_fail hE hR  _ (fun M14 hR14 => ⟨rfl, ?_⟩)
    refine wm_vret C P d_Run_step_16 ?_
    have e : cy_Run_step s = (cy_Run_fail s 6) := by rw [cy_Run_step, if_neg h_7]
    rw [e] at h
    exact h _ hR14
def cy_Run_tell (s : cy_S) (what : Int32) : Int32 :=
  if s.2.2.1.2.1 = 0 then
    (-1)
  else
    if what = 0 then
      s.2.2.1.2.2.1
    else
      if what = 1 then
        s.2.2.1.2.2.2.1
      else
        if what = 2 then
          s.2.2.1.2.2.2.2.1
        else
          if what = 3 then
            s.2.2.1.2.2.2.2.2
          else
            if what = 4 then
              if s.2.2.1.2.2.1 = 1 then
                nI (s.2.2.1.1 + 1)
              else
                0
            else
              if what = 5 then
                if s.2.2.1.2.2.1 = 1 then
                  cy_num ((s.2.1 s.2.2.1.1).1)
                else
                  (-1)
              else
                if what = 6 then
                  if s.2.2.1.2.2.1 = 1 then
                    (s.2.1 s.2.2.1.1).2
                  else
                    (-1)
                else
                  if what = 7 then
                    nI (s.1 5).length
                  else
                    (-1)
set_option maxHeartbeats 4000000 in
theorem c_Run_tell {G : cy_G} {E : cy_E} {s : cy_S} {M : cy_Hp} {post : Option Value → cy_Hp → Prop} (hE : cy_Eo G E) (hR : cy_R E s M)  (what : Int32) (h : post (some (.int (cy_Run_tell s what))) M) : cy_Ct G 0 m_Run_tell [.ref (E.2.2.1 136), .int what] M 0 0 post := by
  refine cy_Ct.of (by decide) (Nat.le_of_ble_eq_true rfl) ?_
  intro F C P _
  have C : cy_C G F R_Run b_Run_tell 2 0 0 0 := C
  have P : cy_P G F (some .int) post 0 0 := P
  show WM G F 2 0 0 0 [(0, .ref (E.2.2.1 136)), (1, .int what)] [] M
  refine wm_aload_n C d_Run_tell_0 rfl (j := 0) rfl ?_
  refine wm_get C co_Run (rp_run hR) 5 (by decide) fl_Run_45 rfl d_Run_tell_1 ?_
  refine wm_if_ne (tgt := 9) C d_Run_tell_4 (by decide) (fun (h_4 : ¬ s.2.2.1.2.1 = 0) => ?_) (fun (h_4 : s.2.2.1.2.1 = 0) => ?_)
  · refine wm_iload_n C d_Run_tell_9 rfl (j := 1) rfl ?_
    by_cases e_10_0 : what = 0
    · refine wm_tableIn (tgt := 56) C d_Run_tell_10 (by rw [e_10_0]; decide) (by rw [e_10_0]; decide) (by rw [e_10_0]; rfl) (by decide) ?_
      refine wm_aload_n C d_Run_tell_56 rfl (j := 0) rfl ?_
      refine wm_get C co_Run (rp_run hR) 6 (by decide) fl_Run_49 rfl d_Run_tell_57 ?_
      refine wm_iret C P d_Run_tell_60 ?_
      have e : cy_Run_tell s what = s.2.2.1.2.2.1 := by rw [cy_Run_tell, if_neg h_4, if_pos e_10_0]
      rw [e] at h
      exact h
    by_cases e_10_1 : what = 1
    · refine wm_tableIn (tgt := 61) C d_Run_tell_10 (by rw [e_10_1]; decide) (by rw [e_10_1]; decide) (by rw [e_10_1]; rfl) (by decide) ?_
      refine wm_aload_n C d_Run_tell_61 rfl (j := 0) rfl ?_
      refine wm_get C co_Run (rp_run hR) 7 (by decide) fl_Run_76 rfl d_Run_tell_62 ?_
      refine wm_iret C P d_Run_tell_65 ?_
      have e : cy_Run_tell s what = s.2.2.1.2.2.2.1 := by rw [cy_Run_tell, if_neg h_4, if_neg e_10_0, if_pos e_10_1]
      rw [e] at h
      exact h
    by_cases e_10_2 : what = 2
    · refine wm_tableIn (tgt := 66) C d_Run_tell_10 (by rw [e_10_2]; decide) (by rw [e_10_2]; decide) (by rw [e_10_2]; rfl) (by decide) ?_
      refine wm_aload_n C d_Run_tell_66 rfl (j := 0) rfl ?_
      refine wm_get C co_Run (rp_run hR) 8 (by decide) fl_Run_79 rfl d_Run_tell_67 ?_
      refine wm_iret C P d_Run_tell_70 ?_
      have e : cy_Run_tell s what = s.2.2.1.2.2.2.2.1 := by rw [cy_Run_tell, if_neg h_4, if_neg e_10_0, if_neg e_10_1, if_pos e_10_2]
      rw [e] at h
      exact h
    by_cases e_10_3 : what = 3
    · refine wm_tableIn (tgt := 71) C d_Run_tell_10 (by rw [e_10_3]; decide) (by rw [e_10_3]; decide) (by rw [e_10_3]; rfl) (by decide) ?_
      refine wm_aload_n C d_Run_tell_71 rfl (j := 0) rfl ?_
      refine wm_get C co_Run (rp_run hR) 9 (by decide) fl_Run_82 rfl d_Run_tell_72 ?_
      refine wm_iret C P d_Run_tell_75 ?_
      have e : cy_Run_tell s what = s.2.2.1.2.2.2.2.2 := by rw [cy_Run_tell, if_neg h_4, if_neg e_10_0, if_neg e_10_1, if_neg e_10_2, if_pos e_10_3]
      rw [e] at h
      exact h
    by_cases e_10_4 : what = 4
    · refine wm_tableIn (tgt := 76) C d_Run_tell_10 (by rw [e_10_4]; decide) (by rw [e_10_4]; decide) (by rw [e_10_4]; rfl) (by decide) ?_
      refine wm_aload_n C d_Run_tell_76 rfl (j := 0) rfl ?_
      refine wm_get C co_Run (rp_run hR) 6 (by decide) fl_Run_49 rfl d_Run_tell_77 ?_
      refine wm_iconst (v := 1) C d_Run_tell_80 (by decide) ?_
      refine wm_icmp_ne (tgt := 94) C d_Run_tell_81 (by decide) (fun (h_81 : ¬ s.2.2.1.2.2.1 = 1) => ?_) (fun (h_81 : s.2.2.1.2.2.1 = 1) => ?_)
      · refine wm_iconst (v := 0) C d_Run_tell_94 (by decide) ?_
        refine wm_iret C P d_Run_tell_95 ?_
        have e : cy_Run_tell s what = 0 := by rw [cy_Run_tell, if_neg h_4, if_neg e_10_0, if_neg e_10_1, if_neg e_10_2, if_neg e_10_3, if_pos e_10_4, if_neg h_81]
        rw [e] at h
        exact h
      · refine wm_aload_n C d_Run_tell_84 rfl (j := 0) rfl ?_
        refine wm_get C co_Run (rp_run hR) 4 (by decide) fl_Run_39 rfl d_Run_tell_85 ?_
        refine wm_getN C co_Frame (rp_frame hR (rp_work (s := s) hR)) 0 (by decide) fl_Run_88 rfl d_Run_tell_88 ?_
        refine wm_goto (tgt := 95) C d_Run_tell_91 (by decide) ?_
        refine wm_iret C P d_Run_tell_95 ?_
        have e : cy_Run_tell s what = nI (s.2.2.1.1 + 1) := by rw [cy_Run_tell, if_neg h_4, if_neg e_10_0, if_neg e_10_1, if_neg e_10_2, if_neg e_10_3, if_pos e_10_4, if_pos h_81]
        rw [e] at h
        exact h
    by_cases e_10_5 : what = 5
    · refine wm_tableIn (tgt := 96) C d_Run_tell_10 (by rw [e_10_5]; decide) (by rw [e_10_5]; decide) (by rw [e_10_5]; rfl) (by decide) ?_
      refine wm_aload_n C d_Run_tell_96 rfl (j := 0) rfl ?_
      refine wm_get C co_Run (rp_run hR) 6 (by decide) fl_Run_49 rfl d_Run_tell_97 ?_
      refine wm_iconst (v := 1) C d_Run_tell_100 (by decide) ?_
      refine wm_icmp_ne (tgt := 117) C d_Run_tell_101 (by decide) (fun (h_101 : ¬ s.2.2.1.2.2.1 = 1) => ?_) (fun (h_101 : s.2.2.1.2.2.1 = 1) => ?_)
      · refine wm_iconst (v := -1) C d_Run_tell_117 (by decide) ?_
        refine wm_iret C P d_Run_tell_118 ?_
        have e : cy_Run_tell s what = (-1) := by rw [cy_Run_tell, if_neg h_4, if_neg e_10_0, if_neg e_10_1, if_neg e_10_2, if_neg e_10_3, if_neg e_10_4, if_pos e_10_5, if_neg h_101]
        rw [e] at h
        exact h
      · refine wm_aload_n C d_Run_tell_104 rfl (j := 0) rfl ?_
        refine wm_get C co_Run (rp_run hR) 4 (by decide) fl_Run_39 rfl d_Run_tell_105 ?_
        refine wm_getN C co_Frame (rp_frame hR (rp_work (s := s) hR)) 5 (by decide) fl_Run_91 rfl d_Run_tell_108 ?_
        refine wm_getN C co_Code (rp_code hR (rp_fc (s := s) hR (rp_work (s := s) hR))) 0 (by decide) fl_Run_95 rfl d_Run_tell_111 ?_
        refine wm_goto (tgt := 118) C d_Run_tell_114 (by decide) ?_
        refine wm_iret C P d_Run_tell_118 ?_
        have e : cy_Run_tell s what = cy_num ((s.2.1 s.2.2.1.1).1) := by rw [cy_Run_tell, if_neg h_4, if_neg e_10_0, if_neg e_10_1, if_neg e_10_2, if_neg e_10_3, if_neg e_10_4, if_pos e_10_5, if_pos h_101]
        rw [e] at h
        exact h
    by_cases e_10_6 : what = 6
    · refine wm_tableIn (tgt := 119) C d_Run_tell_10 (by rw [e_10_6]; decide) (by rw [e_10_6]; decide) (by rw [e_10_6]; rfl) (by decide) ?_
      refine wm_aload_n C d_Run_tell_119 rfl (j := 0) rfl ?_
      refine wm_get C co_Run (rp_run hR) 6 (by decide) fl_Run_49 rfl d_Run_tell_120 ?_
      refine wm_iconst (v := 1) C d_Run_tell_123 (by decide) ?_
      refine wm_icmp_ne (tgt := 137) C d_Run_tell_124 (by decide) (fun (h_124 : ¬ s.2.2.1.2.2.1 = 1) => ?_) (fun (h_124 : s.2.2.1.2.2.1 = 1) => ?_)
      · refine wm_iconst (v := -1) C d_Run_tell_137 (by decide) ?_
        refine wm_iret C P d_Run_tell_138 ?_
        have e : cy_Run_tell s what = (-1) := by rw [cy_Run_tell, if_neg h_4, if_neg e_10_0, if_neg e_10_1, if_neg e_10_2, if_neg e_10_3, if_neg e_10_4, if_neg e_10_5, if_pos e_10_6, if_neg h_124]
        rw [e] at h
        exact h
      · refine wm_aload_n C d_Run_tell_127 rfl (j := 0) rfl ?_
        refine wm_get C co_Run (rp_run hR) 4 (by decide) fl_Run_39 rfl d_Run_tell_128 ?_
        refine wm_getN C co_Frame (rp_frame hR (rp_work (s := s) hR)) 6 (by decide) fl_Run_98 rfl d_Run_tell_131 ?_
        refine wm_goto (tgt := 138) C d_Run_tell_134 (by decide) ?_
        refine wm_iret C P d_Run_tell_138 ?_
        have e : cy_Run_tell s what = (s.2.1 s.2.2.1.1).2 := by rw [cy_Run_tell, if_neg h_4, if_neg e_10_0, if_neg e_10_1, if_neg e_10_2, if_neg e_10_3, if_neg e_10_4, if_neg e_10_5, if_pos e_10_6, if_pos h_124]
        rw [e] at h
        exact h
    by_cases e_10_7 : what = 7
    · refine wm_tableIn (tgt := 139) C d_Run_tell_10 (by rw [e_10_7]; decide) (by rw [e_10_7]; decide) (by rw [e_10_7]; rfl) (by decide) ?_
      refine wm_aload_n C d_Run_tell_139 rfl (j := 0) rfl ?_
      refine wm_get C co_Run (rp_run hR) 3 (by decide) fl_Run_24 rfl d_Run_tell_140 ?_
      refine wm_getN C co_Row (rp_row hR (by decide)) 1 (by decide) fl_Run_101 rfl d_Run_tell_143 ?_
      refine wm_iret C P d_Run_tell_146 ?_
      have e : cy_Run_tell s what = nI (s.1 5).length := by rw [cy_Run_tell, if_neg h_4, if_neg e_10_0, if_neg e_10_1, if_neg e_10_2, if_neg e_10_3, if_neg e_10_4, if_neg e_10_5, if_neg e_10_6, if_pos e_10_7]
      rw [e] at h
      exact h
    · refine wm_tableOut (tgt := 147) C d_Run_tell_10 (by have n0 := lv_neT e_10_0 (a := 0) (by decide); have n1 := lv_neT e_10_1 (a := 1) (by decide); have n2 := lv_neT e_10_2 (a := 2) (by decide); have n3 := lv_neT e_10_3 (a := 3) (by decide); have n4 := lv_neT e_10_4 (a := 4) (by decide); have n5 := lv_neT e_10_5 (a := 5) (by decide); have n6 := lv_neT e_10_6 (a := 6) (by decide); have n7 := lv_neT e_10_7 (a := 7) (by decide); omega) (by decide) ?_
      refine wm_iconst (v := -1) C d_Run_tell_147 (by decide) ?_
      refine wm_iret C P d_Run_tell_148 ?_
      have e : cy_Run_tell s what = (-1) := by rw [cy_Run_tell, if_neg h_4, if_neg e_10_0, if_neg e_10_1, if_neg e_10_2, if_neg e_10_3, if_neg e_10_4, if_neg e_10_5, if_neg e_10_6, if_neg e_10_7]
      rw [e] at h
      exact h
  · refine wm_iconst (v := -1) C d_Run_tell_7 (by decide) ?_
    refine wm_iret C P d_Run_tell_8 ?_
    have e : cy_Run_tell s what = (-1) := by rw [cy_Run_tell, if_pos h_4]
    rw [e] at h
    exact h
def cy_Shelf_keepCells (s : cy_S) : cy_S :=
  (cy_rlike (cy_rlike (cy_rlike (cy_rlike (cy_rlike (cy_rlike (cy_rlike (cy_rlike s (9 + 4 * 0) (8 + 4 * 0)) (9 + 4 * 1) (8 + 4 * 1)) (9 + 4 * 2) (8 + 4 * 2)) (9 + 4 * 3) (8 + 4 * 3)) (9 + 4 * 4) (8 + 4 * 4)) (9 + 4 * 5) (8 + 4 * 5)) (9 + 4 * 6) (8 + 4 * 6)) (9 + 4 * 7) (8 + 4 * 7))
set_option maxHeartbeats 4000000 in
theorem c_Shelf_keepCells {G : cy_G} {E : cy_E} {s : cy_S} {M : cy_Hp} {post : Option Value → cy_Hp → Prop} (hE : cy_Eo G E) (hR : cy_R E s M)   (h : ∀ M', cy_R E (cy_Shelf_keepCells s) M' → post none M') : cy_Ct G 2 m_Shelf_keepCells [.ref (E.2.2.1 134)] M 0 0 post := by
  refine cy_Ct.of (by decide) (Nat.le_of_ble_eq_true rfl) ?_
  intro F C P _
  have C : cy_C G F R_Shelf b_Shelf_keepCells 3 2 0 0 := C
  have P : cy_P G F none post 0 0 := P
  show WM G F 3 0 0 0 [(0, .ref (E.2.2.1 134))] [] M
  refine wm_iconst (v := 0) C d_Shelf_keepCells_0 (by decide) ?_
  refine wm_istore_n (lv' := [(1, .int 0), (0, .ref (E.2.2.1 134))]) C d_Shelf_keepCells_1 rfl (by decide) rfl ?_
  refine wm_iload_n C d_Shelf_keepCells_2 rfl (j := 0) rfl ?_
  refine wm_bipush (v := 8) C d_Shelf_keepCells_3 (by decide) ?_
  refine wm_icmp_ge (tgt := 35) C d_Shelf_keepCells_5 (by decide) (fun (h_5 : 8 ≤ 0) => ?_) (fun (h_5 : ¬ 8 ≤ 0) => ?_)
  · exact absurd h_5 (by decide)
  · refine wm_aload_n C d_Shelf_keepCells_8 rfl (j := 1) rfl ?_
    refine wm_iload_n C d_Shelf_keepCells_9 rfl (j := 0) rfl ?_
    refine wm_callV (d2 := 0) (mc := 0) (ms := 0) C mo_Shelf_slot co_Shelf ml_Shelf_20 [.int 0] [] rfl (rp_shelf hR) rfl (by decide) (Nat.le_of_ble_eq_true rfl) (Nat.le_refl _) (Nat.le_refl _) d_Shelf_keepCells_10 (cy_ki ?_)
    refine c_slot_in hE hR (k := 0) (by decide) ⟨_, rfl, ?_⟩
    refine wm_astore_n (lv' := [(2, .ref (E.2.2.1 (116 + 0))), (1, .int 0), (0, .ref (E.2.2.1 134))]) C d_Shelf_keepCells_13 rfl (by decide) rfl ?_
    refine wm_aload_n C d_Shelf_keepCells_14 rfl (j := 0) rfl ?_
    refine wm_ifnull C d_Shelf_keepCells_15 ?_
    refine wm_aload_n C d_Shelf_keepCells_18 rfl (j := 0) rfl ?_
    refine wm_getN C co_Code (rp_code hR (show 0 < 9 by decide)) 4 (by decide) fl_Shelf_28 rfl d_Shelf_keepCells_19 ?_
    refine wm_aload_n C d_Shelf_keepCells_22 rfl (j := 0) rfl ?_
    refine wm_getN C co_Code (rp_code hR (show 0 < 9 by decide)) 3 (by decide) fl_Shelf_32 rfl d_Shelf_keepCells_23 ?_
    refine wm_callVN (d2 := 1) (mc := 0) (ms := 0) C mo_Row_becomeLike co_Row ml_Shelf_35 [.ref (E.2.2.1 (2 * (8 + 4 * 0)))] [] rfl (rp_row hR (rb9 (show 0 < 9 by decide))) rfl (by decide) (Nat.le_of_ble_eq_true rfl) (Nat.le_refl _) (Nat.le_refl _) d_Shelf_keepCells_26 (cy_kv ?_)
    refine c_like hE hR (rb9 (show 0 < 9 by decide)) (rb8 (show 0 < 9 by decide)) (by omega) (fun M1 hR1 => ⟨rfl, ?_⟩)
    refine wm_iinc (v := 1) (lv' := [(1, .int 1), (2, .ref (E.2.2.1 (116 + 0))), (0, .ref (E.2.2.1 134))]) C d_Shelf_keepCells_29 (k := 1) rfl (by decide) (by decide) rfl ?_
    refine wm_goto (tgt := 2) C d_Shelf_keepCells_32 (by decide) ?_
    refine wm_iload_n C d_Shelf_keepCells_2 rfl (j := 0) rfl ?_
    refine wm_bipush (v := 8) C d_Shelf_keepCells_3 (by decide) ?_
    refine wm_icmp_ge (tgt := 35) C d_Shelf_keepCells_5 (by decide) (fun (h_5_2 : 8 ≤ 1) => ?_) (fun (h_5_2 : ¬ 8 ≤ 1) => ?_)
    · exact absurd h_5_2 (by decide)
    · refine wm_aload_n C d_Shelf_keepCells_8 rfl (j := 2) rfl ?_
      refine wm_iload_n C d_Shelf_keepCells_9 rfl (j := 0) rfl ?_
      refine wm_callV (d2 := 0) (mc := 0) (ms := 0) C mo_Shelf_slot co_Shelf ml_Shelf_20 [.int 1] [] rfl (rp_shelf hR1) rfl (by decide) (Nat.le_of_ble_eq_true rfl) (Nat.le_refl _) (Nat.le_refl _) d_Shelf_keepCells_10 (cy_ki ?_)
      refine c_slot_in hE hR1 (k := 1) (by decide) ⟨_, rfl, ?_⟩
      refine wm_astore_n (lv' := [(2, .ref (E.2.2.1 (116 + 1))), (1, .int 1), (0, .ref (E.2.2.1 134))]) C d_Shelf_keepCells_13 rfl (by decide) rfl ?_
      refine wm_aload_n C d_Shelf_keepCells_14 rfl (j := 0) rfl ?_
      refine wm_ifnull C d_Shelf_keepCells_15 ?_
      refine wm_aload_n C d_Shelf_keepCells_18 rfl (j := 0) rfl ?_
      refine wm_getN C co_Code (rp_code hR1 (show 1 < 9 by decide)) 4 (by decide) fl_Shelf_28 rfl d_Shelf_keepCells_19 ?_
      refine wm_aload_n C d_Shelf_keepCells_22 rfl (j := 0) rfl ?_
      refine wm_getN C co_Code (rp_code hR1 (show 1 < 9 by decide)) 3 (by decide) fl_Shelf_32 rfl d_Shelf_keepCells_23 ?_
      refine wm_callVN (d2 := 1) (mc := 0) (ms := 0) C mo_Row_becomeLike co_Row ml_Shelf_35 [.ref (E.2.2.1 (2 * (8 + 4 * 1)))] [] rfl (rp_row hR1 (rb9 (show 1 < 9 by decide))) rfl (by decide) (Nat.le_of_ble_eq_true rfl) (Nat.le_refl _) (Nat.le_refl _) d_Shelf_keepCells_26 (cy_kv ?_)
      refine c_like hE hR1 (rb9 (show 1 < 9 by decide)) (rb8 (show 1 < 9 by decide)) (by omega) (fun M2 hR2 => ⟨rfl, ?_⟩)
      refine wm_iinc (v := 2) (lv' := [(1, .int 2), (2, .ref (E.2.2.1 (116 + 1))), (0, .ref (E.2.2.1 134))]) C d_Shelf_keepCells_29 (k := 1) rfl (by decide) (by decide) rfl ?_
      refine wm_goto (tgt := 2) C d_Shelf_keepCells_32 (by decide) ?_
      refine wm_iload_n C d_Shelf_keepCells_2 rfl (j := 0) rfl ?_
      refine wm_bipush (v := 8) C d_Shelf_keepCells_3 (by decide) ?_
      refine wm_icmp_ge (tgt := 35) C d_Shelf_keepCells_5 (by decide) (fun (h_5_3 : 8 ≤ 2) => ?_) (fun (h_5_3 : ¬ 8 ≤ 2) => ?_)
      · exact absurd h_5_3 (by decide)
      · refine wm_aload_n C d_Shelf_keepCells_8 rfl (j := 2) rfl ?_
        refine wm_iload_n C d_Shelf_keepCells_9 rfl (j := 0) rfl ?_
        refine wm_callV (d2 := 0) (mc := 0) (ms := 0) C mo_Shelf_slot co_Shelf ml_Shelf_20 [.int 2] [] rfl (rp_shelf hR2) rfl (by decide) (Nat.le_of_ble_eq_true rfl) (Nat.le_refl _) (Nat.le_refl _) d_Shelf_keepCells_10 (cy_ki ?_)
        refine c_slot_in hE hR2 (k := 2) (by decide) ⟨_, rfl, ?_⟩
        refine wm_astore_n (lv' := [(2, .ref (E.2.2.1 (116 + 2))), (1, .int 2), (0, .ref (E.2.2.1 134))]) C d_Shelf_keepCells_13 rfl (by decide) rfl ?_
        refine wm_aload_n C d_Shelf_keepCells_14 rfl (j := 0) rfl ?_
        refine wm_ifnull C d_Shelf_keepCells_15 ?_
        refine wm_aload_n C d_Shelf_keepCells_18 rfl (j := 0) rfl ?_
        refine wm_getN C co_Code (rp_code hR2 (show 2 < 9 by decide)) 4 (by decide) fl_Shelf_28 rfl d_Shelf_keepCells_19 ?_
        refine wm_aload_n C d_Shelf_keepCells_22 rfl (j := 0) rfl ?_
        refine wm_getN C co_Code (rp_code hR2 (show 2 < 9 by decide)) 3 (by decide) fl_Shelf_32 rfl d_Shelf_keepCells_23 ?_
        refine wm_callVN (d2 := 1) (mc := 0) (ms := 0) C mo_Row_becomeLike co_Row ml_Shelf_35 [.ref (E.2.2.1 (2 * (8 + 4 * 2)))] [] rfl (rp_row hR2 (rb9 (show 2 < 9 by decide))) rfl (by decide) (Nat.le_of_ble_eq_true rfl) (Nat.le_refl _) (Nat.le_refl _) d_Shelf_keepCells_26 (cy_kv ?_)
        refine c_like hE hR2 (rb9 (show 2 < 9 by decide)) (rb8 (show 2 < 9 by decide)) (by omega) (fun M3 hR3 => ⟨rfl, ?_⟩)
        refine wm_iinc (v := 3) (lv' := [(1, .int 3), (2, .ref (E.2.2.1 (116 + 2))), (0, .ref (E.2.2.1 134))]) C d_Shelf_keepCells_29 (k := 1) rfl (by decide) (by decide) rfl ?_
        refine wm_goto (tgt := 2) C d_Shelf_keepCells_32 (by decide) ?_
        refine wm_iload_n C d_Shelf_keepCells_2 rfl (j := 0) rfl ?_
        refine wm_bipush (v := 8) C d_Shelf_keepCells_3 (by decide) ?_
        refine wm_icmp_ge (tgt := 35) C d_Shelf_keepCells_5 (by decide) (fun (h_5_4 : 8 ≤ 3) => ?_) (fun (h_5_4 : ¬ 8 ≤ 3) => ?_)
        · exact absurd h_5_4 (by decide)
        · refine wm_aload_n C d_Shelf_keepCells_8 rfl (j := 2) rfl ?_
          refine wm_iload_n C d_Shelf_keepCells_9 rfl (j := 0) rfl ?_
          refine wm_callV (d2 := 0) (mc := 0) (ms := 0) C mo_Shelf_slot co_Shelf ml_Shelf_20 [.int 3] [] rfl (rp_shelf hR3) rfl (by decide) (Nat.le_of_ble_eq_true rfl) (Nat.le_refl _) (Nat.le_refl _) d_Shelf_keepCells_10 (cy_ki ?_)
          refine c_slot_in hE hR3 (k := 3) (by decide) ⟨_, rfl, ?_⟩
          refine wm_astore_n (lv' := [(2, .ref (E.2.2.1 (116 + 3))), (1, .int 3), (0, .ref (E.2.2.1 134))]) C d_Shelf_keepCells_13 rfl (by decide) rfl ?_
          refine wm_aload_n C d_Shelf_keepCells_14 rfl (j := 0) rfl ?_
          refine wm_ifnull C d_Shelf_keepCells_15 ?_
          refine wm_aload_n C d_Shelf_keepCells_18 rfl (j := 0) rfl ?_
          refine wm_getN C co_Code (rp_code hR3 (show 3 < 9 by decide)) 4 (by decide) fl_Shelf_28 rfl d_Shelf_keepCells_19 ?_
          refine wm_aload_n C d_Shelf_keepCells_22 rfl (j := 0) rfl ?_
          refine wm_getN C co_Code (rp_code hR3 (show 3 < 9 by decide)) 3 (by decide) fl_Shelf_32 rfl d_Shelf_keepCells_23 ?_
          refine wm_callVN (d2 := 1) (mc := 0) (ms := 0) C mo_Row_becomeLike co_Row ml_Shelf_35 [.ref (E.2.2.1 (2 * (8 + 4 * 3)))] [] rfl (rp_row hR3 (rb9 (show 3 < 9 by decide))) rfl (by decide) (Nat.le_of_ble_eq_true rfl) (Nat.le_refl _) (Nat.le_refl _) d_Shelf_keepCells_26 (cy_kv ?_)
          refine c_like hE hR3 (rb9 (show 3 < 9 by decide)) (rb8 (show 3 < 9 by decide)) (by omega) (fun M4 hR4 => ⟨rfl, ?_⟩)
          refine wm_iinc (v := 4) (lv' := [(1, .int 4), (2, .ref (E.2.2.1 (116 + 3))), (0, .ref (E.2.2.1 134))]) C d_Shelf_keepCells_29 (k := 1) rfl (by decide) (by decide) rfl ?_
          refine wm_goto (tgt := 2) C d_Shelf_keepCells_32 (by decide) ?_
          refine wm_iload_n C d_Shelf_keepCells_2 rfl (j := 0) rfl ?_
          refine wm_bipush (v := 8) C d_Shelf_keepCells_3 (by decide) ?_
          refine wm_icmp_ge (tgt := 35) C d_Shelf_keepCells_5 (by decide) (fun (h_5_5 : 8 ≤ 4) => ?_) (fun (h_5_5 : ¬ 8 ≤ 4) => ?_)
          · exact absurd h_5_5 (by decide)
          · refine wm_aload_n C d_Shelf_keepCells_8 rfl (j := 2) rfl ?_
            refine wm_iload_n C d_Shelf_keepCells_9 rfl (j := 0) rfl ?_
            refine wm_callV (d2 := 0) (mc := 0) (ms := 0) C mo_Shelf_slot co_Shelf ml_Shelf_20 [.int 4] [] rfl (rp_shelf hR4) rfl (by decide) (Nat.le_of_ble_eq_true rfl) (Nat.le_refl _) (Nat.le_refl _) d_Shelf_keepCells_10 (cy_ki ?_)
            refine c_slot_in hE hR4 (k := 4) (by decide) ⟨_, rfl, ?_⟩
            refine wm_astore_n (lv' := [(2, .ref (E.2.2.1 (116 + 4))), (1, .int 4), (0, .ref (E.2.2.1 134))]) C d_Shelf_keepCells_13 rfl (by decide) rfl ?_
            refine wm_aload_n C d_Shelf_keepCells_14 rfl (j := 0) rfl ?_
            refine wm_ifnull C d_Shelf_keepCells_15 ?_
            refine wm_aload_n C d_Shelf_keepCells_18 rfl (j := 0) rfl ?_
            refine wm_getN C co_Code (rp_code hR4 (show 4 < 9 by decide)) 4 (by decide) fl_Shelf_28 rfl d_Shelf_keepCells_19 ?_
            refine wm_aload_n C d_Shelf_keepCells_22 rfl (j := 0) rfl ?_
            refine wm_getN C co_Code (rp_code hR4 (show 4 < 9 by decide)) 3 (by decide) fl_Shelf_32 rfl d_Shelf_keepCells_23 ?_
            refine wm_callVN (d2 := 1) (mc := 0) (ms := 0) C mo_Row_becomeLike co_Row ml_Shelf_35 [.ref (E.2.2.1 (2 * (8 + 4 * 4)))] [] rfl (rp_row hR4 (rb9 (show 4 < 9 by decide))) rfl (by decide) (Nat.le_of_ble_eq_true rfl) (Nat.le_refl _) (Nat.le_refl _) d_Shelf_keepCells_26 (cy_kv ?_)
            refine c_like hE hR4 (rb9 (show 4 < 9 by decide)) (rb8 (show 4 < 9 by decide)) (by omega) (fun M5 hR5 => ⟨rfl, ?_⟩)
            refine wm_iinc (v := 5) (lv' := [(1, .int 5), (2, .ref (E.2.2.1 (116 + 4))), (0, .ref (E.2.2.1 134))]) C d_Shelf_keepCells_29 (k := 1) rfl (by decide) (by decide) rfl ?_
            refine wm_goto (tgt := 2) C d_Shelf_keepCells_32 (by decide) ?_
            refine wm_iload_n C d_Shelf_keepCells_2 rfl (j := 0) rfl ?_
            refine wm_bipush (v := 8) C d_Shelf_keepCells_3 (by decide) ?_
            refine wm_icmp_ge (tgt := 35) C d_Shelf_keepCells_5 (by decide) (fun (h_5_6 : 8 ≤ 5) => ?_) (fun (h_5_6 : ¬ 8 ≤ 5) => ?_)
            · exact absurd h_5_6 (by decide)
            · refine wm_aload_n C d_Shelf_keepCells_8 rfl (j := 2) rfl ?_
              refine wm_iload_n C d_Shelf_keepCells_9 rfl (j := 0) rfl ?_
              refine wm_callV (d2 := 0) (mc := 0) (ms := 0) C mo_Shelf_slot co_Shelf ml_Shelf_20 [.int 5] [] rfl (rp_shelf hR5) rfl (by decide) (Nat.le_of_ble_eq_true rfl) (Nat.le_refl _) (Nat.le_refl _) d_Shelf_keepCells_10 (cy_ki ?_)
              refine c_slot_in hE hR5 (k := 5) (by decide) ⟨_, rfl, ?_⟩
              refine wm_astore_n (lv' := [(2, .ref (E.2.2.1 (116 + 5))), (1, .int 5), (0, .ref (E.2.2.1 134))]) C d_Shelf_keepCells_13 rfl (by decide) rfl ?_
              refine wm_aload_n C d_Shelf_keepCells_14 rfl (j := 0) rfl ?_
              refine wm_ifnull C d_Shelf_keepCells_15 ?_
              refine wm_aload_n C d_Shelf_keepCells_18 rfl (j := 0) rfl ?_
              refine wm_getN C co_Code (rp_code hR5 (show 5 < 9 by decide)) 4 (by decide) fl_Shelf_28 rfl d_Shelf_keepCells_19 ?_
              refine wm_aload_n C d_Shelf_keepCells_22 rfl (j := 0) rfl ?_
              refine wm_getN C co_Code (rp_code hR5 (show 5 < 9 by decide)) 3 (by decide) fl_Shelf_32 rfl d_Shelf_keepCells_23 ?_
              refine wm_callVN (d2 := 1) (mc := 0) (ms := 0) C mo_Row_becomeLike co_Row ml_Shelf_35 [.ref (E.2.2.1 (2 * (8 + 4 * 5)))] [] rfl (rp_row hR5 (rb9 (show 5 < 9 by decide))) rfl (by decide) (Nat.le_of_ble_eq_true rfl) (Nat.le_refl _) (Nat.le_refl _) d_Shelf_keepCells_26 (cy_kv ?_)
              refine c_like hE hR5 (rb9 (show 5 < 9 by decide)) (rb8 (show 5 < 9 by decide)) (by omega) (fun M6 hR6 => ⟨rfl, ?_⟩)
              refine wm_iinc (v := 6) (lv' := [(1, .int 6), (2, .ref (E.2.2.1 (116 + 5))), (0, .ref (E.2.2.1 134))]) C d_Shelf_keepCells_29 (k := 1) rfl (by decide) (by decide) rfl ?_
              refine wm_goto (tgt := 2) C d_Shelf_keepCells_32 (by decide) ?_
              refine wm_iload_n C d_Shelf_keepCells_2 rfl (j := 0) rfl ?_
              refine wm_bipush (v := 8) C d_Shelf_keepCells_3 (by decide) ?_
              refine wm_icmp_ge (tgt := 35) C d_Shelf_keepCells_5 (by decide) (fun (h_5_7 : 8 ≤ 6) => ?_) (fun (h_5_7 : ¬ 8 ≤ 6) => ?_)
              · exact absurd h_5_7 (by decide)
              · refine wm_aload_n C d_Shelf_keepCells_8 rfl (j := 2) rfl ?_
                refine wm_iload_n C d_Shelf_keepCells_9 rfl (j := 0) rfl ?_
                refine wm_callV (d2 := 0) (mc := 0) (ms := 0) C mo_Shelf_slot co_Shelf ml_Shelf_20 [.int 6] [] rfl (rp_shelf hR6) rfl (by decide) (Nat.le_of_ble_eq_true rfl) (Nat.le_refl _) (Nat.le_refl _) d_Shelf_keepCells_10 (cy_ki ?_)
                refine c_slot_in hE hR6 (k := 6) (by decide) ⟨_, rfl, ?_⟩
                refine wm_astore_n (lv' := [(2, .ref (E.2.2.1 (116 + 6))), (1, .int 6), (0, .ref (E.2.2.1 134))]) C d_Shelf_keepCells_13 rfl (by decide) rfl ?_
                refine wm_aload_n C d_Shelf_keepCells_14 rfl (j := 0) rfl ?_
                refine wm_ifnull C d_Shelf_keepCells_15 ?_
                refine wm_aload_n C d_Shelf_keepCells_18 rfl (j := 0) rfl ?_
                refine wm_getN C co_Code (rp_code hR6 (show 6 < 9 by decide)) 4 (by decide) fl_Shelf_28 rfl d_Shelf_keepCells_19 ?_
                refine wm_aload_n C d_Shelf_keepCells_22 rfl (j := 0) rfl ?_
                refine wm_getN C co_Code (rp_code hR6 (show 6 < 9 by decide)) 3 (by decide) fl_Shelf_32 rfl d_Shelf_keepCells_23 ?_
                refine wm_callVN (d2 := 1) (mc := 0) (ms := 0) C mo_Row_becomeLike co_Row ml_Shelf_35 [.ref (E.2.2.1 (2 * (8 + 4 * 6)))] [] rfl (rp_row hR6 (rb9 (show 6 < 9 by decide))) rfl (by decide) (Nat.le_of_ble_eq_true rfl) (Nat.le_refl _) (Nat.le_refl _) d_Shelf_keepCells_26 (cy_kv ?_)
                refine c_like hE hR6 (rb9 (show 6 < 9 by decide)) (rb8 (show 6 < 9 by decide)) (by omega) (fun M7 hR7 => ⟨rfl, ?_⟩)
                refine wm_iinc (v := 7) (lv' := [(1, .int 7), (2, .ref (E.2.2.1 (116 + 6))), (0, .ref (E.2.2.1 134))]) C d_Shelf_keepCells_29 (k := 1) rfl (by decide) (by decide) rfl ?_
                refine wm_goto (tgt := 2) C d_Shelf_keepCells_32 (by decide) ?_
                refine wm_iload_n C d_Shelf_keepCells_2 rfl (j := 0) rfl ?_
                refine wm_bipush (v := 8) C d_Shelf_keepCells_3 (by decide) ?_
                refine wm_icmp_ge (tgt := 35) C d_Shelf_keepCells_5 (by decide) (fun (h_5_8 : 8 ≤ 7) => ?_) (fun (h_5_8 : ¬ 8 ≤ 7) => ?_)
                · exact absurd h_5_8 (by decide)
                · refine wm_aload_n C d_Shelf_keepCells_8 rfl (j := 2) rfl ?_
                  refine wm_iload_n C d_Shelf_keepCells_9 rfl (j := 0) rfl ?_
                  refine wm_callV (d2 := 0) (mc := 0) (ms := 0) C mo_Shelf_slot co_Shelf ml_Shelf_20 [.int 7] [] rfl (rp_shelf hR7) rfl (by decide) (Nat.le_of_ble_eq_true rfl) (Nat.le_refl _) (Nat.le_refl _) d_Shelf_keepCells_10 (cy_ki ?_)
                  refine c_slot_in hE hR7 (k := 7) (by decide) ⟨_, rfl, ?_⟩
                  refine wm_astore_n (lv' := [(2, .ref (E.2.2.1 (116 + 7))), (1, .int 7), (0, .ref (E.2.2.1 134))]) C d_Shelf_keepCells_13 rfl (by decide) rfl ?_
                  refine wm_aload_n C d_Shelf_keepCells_14 rfl (j := 0) rfl ?_
                  refine wm_ifnull C d_Shelf_keepCells_15 ?_
                  refine wm_aload_n C d_Shelf_keepCells_18 rfl (j := 0) rfl ?_
                  refine wm_getN C co_Code (rp_code hR7 (show 7 < 9 by decide)) 4 (by decide) fl_Shelf_28 rfl d_Shelf_keepCells_19 ?_
                  refine wm_aload_n C d_Shelf_keepCells_22 rfl (j := 0) rfl ?_
                  refine wm_getN C co_Code (rp_code hR7 (show 7 < 9 by decide)) 3 (by decide) fl_Shelf_32 rfl d_Shelf_keepCells_23 ?_
                  refine wm_callVN (d2 := 1) (mc := 0) (ms := 0) C mo_Row_becomeLike co_Row ml_Shelf_35 [.ref (E.2.2.1 (2 * (8 + 4 * 7)))] [] rfl (rp_row hR7 (rb9 (show 7 < 9 by decide))) rfl (by decide) (Nat.le_of_ble_eq_true rfl) (Nat.le_refl _) (Nat.le_refl _) d_Shelf_keepCells_26 (cy_kv ?_)
                  refine c_like hE hR7 (rb9 (show 7 < 9 by decide)) (rb8 (show 7 < 9 by decide)) (by omega) (fun M8 hR8 => ⟨rfl, ?_⟩)
                  refine wm_iinc (v := 8) (lv' := [(1, .int 8), (2, .ref (E.2.2.1 (116 + 7))), (0, .ref (E.2.2.1 134))]) C d_Shelf_keepCells_29 (k := 1) rfl (by decide) (by decide) rfl ?_
                  refine wm_goto (tgt := 2) C d_Shelf_keepCells_32 (by decide) ?_
                  refine wm_iload_n C d_Shelf_keepCells_2 rfl (j := 0) rfl ?_
                  refine wm_bipush (v := 8) C d_Shelf_keepCells_3 (by decide) ?_
                  refine wm_icmp_ge (tgt := 35) C d_Shelf_keepCells_5 (by decide) (fun (h_5_9 : 8 ≤ 8) => ?_) (fun (h_5_9 : ¬ 8 ≤ 8) => ?_)
                  · refine wm_vret C P d_Shelf_keepCells_35 ?_
                    have e : cy_Shelf_keepCells s = (cy_rlike (cy_rlike (cy_rlike (cy_rlike (cy_rlike (cy_rlike (cy_rlike (cy_rlike s (9 + 4 * 0) (8 + 4 * 0)) (9 + 4 * 1) (8 + 4 * 1)) (9 + 4 * 2) (8 + 4 * 2)) (9 + 4 * 3) (8 + 4 * 3)) (9 + 4 * 4) (8 + 4 * 4)) (9 + 4 * 5) (8 + 4 * 5)) (9 + 4 * 6) (8 + 4 * 6)) (9 + 4 * 7) (8 + 4 * 7)) := by rw [cy_Shelf_keepCells]
                    rw [e] at h
                    exact h _ hR8
                  · exact absurd h_5_9 (by decide)
def cy_Shelf_bringCellsBack (s : cy_S) : cy_S :=
  (cy_rlike (cy_rlike (cy_rlike (cy_rlike (cy_rlike (cy_rlike (cy_rlike (cy_rlike s (8 + 4 * 0) (9 + 4 * 0)) (8 + 4 * 1) (9 + 4 * 1)) (8 + 4 * 2) (9 + 4 * 2)) (8 + 4 * 3) (9 + 4 * 3)) (8 + 4 * 4) (9 + 4 * 4)) (8 + 4 * 5) (9 + 4 * 5)) (8 + 4 * 6) (9 + 4 * 6)) (8 + 4 * 7) (9 + 4 * 7))
set_option maxHeartbeats 4000000 in
theorem c_Shelf_bringCellsBack {G : cy_G} {E : cy_E} {s : cy_S} {M : cy_Hp} {post : Option Value → cy_Hp → Prop} (hE : cy_Eo G E) (hR : cy_R E s M)   (h : ∀ M', cy_R E (cy_Shelf_bringCellsBack s) M' → post none M') : cy_Ct G 2 m_Shelf_bringCellsBack [.ref (E.2.2.1 134)] M 0 0 post := by
  refine cy_Ct.of (by decide) (Nat.le_of_ble_eq_true rfl) ?_
  intro F C P _
  have C : cy_C G F R_Shelf b_Shelf_bringCellsBack 3 2 0 0 := C
  have P : cy_P G F none post 0 0 := P
  show WM G F 3 0 0 0 [(0, .ref (E.2.2.1 134))] [] M
  refine wm_iconst (v := 0) C d_Shelf_bringCellsBack_0 (by decide) ?_
  refine wm_istore_n (lv' := [(1, .int 0), (0, .ref (E.2.2.1 134))]) C d_Shelf_bringCellsBack_1 rfl (by decide) rfl ?_
  refine wm_iload_n C d_Shelf_bringCellsBack_2 rfl (j := 0) rfl ?_
  refine wm_bipush (v := 8) C d_Shelf_bringCellsBack_3 (by decide) ?_
  refine wm_icmp_ge (tgt := 35) C d_Shelf_bringCellsBack_5 (by decide) (fun (h_5 : 8 ≤ 0) => ?_) (fun (h_5 : ¬ 8 ≤ 0) => ?_)
  · exact absurd h_5 (by decide)
  · refine wm_aload_n C d_Shelf_bringCellsBack_8 rfl (j := 1) rfl ?_
    refine wm_iload_n C d_Shelf_bringCellsBack_9 rfl (j := 0) rfl ?_
    refine wm_callV (d2 := 0) (mc := 0) (ms := 0) C mo_Shelf_slot co_Shelf ml_Shelf_20 [.int 0] [] rfl (rp_shelf hR) rfl (by decide) (Nat.le_of_ble_eq_true rfl) (Nat.le_refl _) (Nat.le_refl _) d_Shelf_bringCellsBack_10 (cy_ki ?_)
    refine c_slot_in hE hR (k := 0) (by decide) ⟨_, rfl, ?_⟩
    refine wm_astore_n (lv' := [(2, .ref (E.2.2.1 (116 + 0))), (1, .int 0), (0, .ref (E.2.2.1 134))]) C d_Shelf_bringCellsBack_13 rfl (by decide) rfl ?_
    refine wm_aload_n C d_Shelf_bringCellsBack_14 rfl (j := 0) rfl ?_
    refine wm_ifnull C d_Shelf_bringCellsBack_15 ?_
    refine wm_aload_n C d_Shelf_bringCellsBack_18 rfl (j := 0) rfl ?_
    refine wm_getN C co_Code (rp_code hR (show 0 < 9 by decide)) 3 (by decide) fl_Shelf_32 rfl d_Shelf_bringCellsBack_19 ?_
    refine wm_aload_n C d_Shelf_bringCellsBack_22 rfl (j := 0) rfl ?_
    refine wm_getN C co_Code (rp_code hR (show 0 < 9 by decide)) 4 (by decide) fl_Shelf_28 rfl d_Shelf_bringCellsBack_23 ?_
    refine wm_callVN (d2 := 1) (mc := 0) (ms := 0) C mo_Row_becomeLike co_Row ml_Shelf_35 [.ref (E.2.2.1 (2 * (9 + 4 * 0)))] [] rfl (rp_row hR (rb8 (show 0 < 9 by decide))) rfl (by decide) (Nat.le_of_ble_eq_true rfl) (Nat.le_refl _) (Nat.le_refl _) d_Shelf_bringCellsBack_26 (cy_kv ?_)
    refine c_like hE hR (rb8 (show 0 < 9 by decide)) (rb9 (show 0 < 9 by decide)) (by omega) (fun M1 hR1 => ⟨rfl, ?_⟩)
    refine wm_iinc (v := 1) (lv' := [(1, .int 1), (2, .ref (E.2.2.1 (116 + 0))), (0, .ref (E.2.2.1 134))]) C d_Shelf_bringCellsBack_29 (k := 1) rfl (by decide) (by decide) rfl ?_
    refine wm_goto (tgt := 2) C d_Shelf_bringCellsBack_32 (by decide) ?_
    refine wm_iload_n C d_Shelf_bringCellsBack_2 rfl (j := 0) rfl ?_
    refine wm_bipush (v := 8) C d_Shelf_bringCellsBack_3 (by decide) ?_
    refine wm_icmp_ge (tgt := 35) C d_Shelf_bringCellsBack_5 (by decide) (fun (h_5_2 : 8 ≤ 1) => ?_) (fun (h_5_2 : ¬ 8 ≤ 1) => ?_)
    · exact absurd h_5_2 (by decide)
    · refine wm_aload_n C d_Shelf_bringCellsBack_8 rfl (j := 2) rfl ?_
      refine wm_iload_n C d_Shelf_bringCellsBack_9 rfl (j := 0) rfl ?_
      refine wm_callV (d2 := 0) (mc := 0) (ms := 0) C mo_Shelf_slot co_Shelf ml_Shelf_20 [.int 1] [] rfl (rp_shelf hR1) rfl (by decide) (Nat.le_of_ble_eq_true rfl) (Nat.le_refl _) (Nat.le_refl _) d_Shelf_bringCellsBack_10 (cy_ki ?_)
      refine c_slot_in hE hR1 (k := 1) (by decide) ⟨_, rfl, ?_⟩
      refine wm_astore_n (lv' := [(2, .ref (E.2.2.1 (116 + 1))), (1, .int 1), (0, .ref (E.2.2.1 134))]) C d_Shelf_bringCellsBack_13 rfl (by decide) rfl ?_
      refine wm_aload_n C d_Shelf_bringCellsBack_14 rfl (j := 0) rfl ?_
      refine wm_ifnull C d_Shelf_bringCellsBack_15 ?_
      refine wm_aload_n C d_Shelf_bringCellsBack_18 rfl (j := 0) rfl ?_
      refine wm_getN C co_Code (rp_code hR1 (show 1 < 9 by decide)) 3 (by decide) fl_Shelf_32 rfl d_Shelf_bringCellsBack_19 ?_
      refine wm_aload_n C d_Shelf_bringCellsBack_22 rfl (j := 0) rfl ?_
      refine wm_getN C co_Code (rp_code hR1 (show 1 < 9 by decide)) 4 (by decide) fl_Shelf_28 rfl d_Shelf_bringCellsBack_23 ?_
      refine wm_callVN (d2 := 1) (mc := 0) (ms := 0) C mo_Row_becomeLike co_Row ml_Shelf_35 [.ref (E.2.2.1 (2 * (9 + 4 * 1)))] [] rfl (rp_row hR1 (rb8 (show 1 < 9 by decide))) rfl (by decide) (Nat.le_of_ble_eq_true rfl) (Nat.le_refl _) (Nat.le_refl _) d_Shelf_bringCellsBack_26 (cy_kv ?_)
      refine c_like hE hR1 (rb8 (show 1 < 9 by decide)) (rb9 (show 1 < 9 by decide)) (by omega) (fun M2 hR2 => ⟨rfl, ?_⟩)
      refine wm_iinc (v := 2) (lv' := [(1, .int 2), (2, .ref (E.2.2.1 (116 + 1))), (0, .ref (E.2.2.1 134))]) C d_Shelf_bringCellsBack_29 (k := 1) rfl (by decide) (by decide) rfl ?_
      refine wm_goto (tgt := 2) C d_Shelf_bringCellsBack_32 (by decide) ?_
      refine wm_iload_n C d_Shelf_bringCellsBack_2 rfl (j := 0) rfl ?_
      refine wm_bipush (v := 8) C d_Shelf_bringCellsBack_3 (by decide) ?_
      refine wm_icmp_ge (tgt := 35) C d_Shelf_bringCellsBack_5 (by decide) (fun (h_5_3 : 8 ≤ 2) => ?_) (fun (h_5_3 : ¬ 8 ≤ 2) => ?_)
      · exact absurd h_5_3 (by decide)
      · refine wm_aload_n C d_Shelf_bringCellsBack_8 rfl (j := 2) rfl ?_
        refine wm_iload_n C d_Shelf_bringCellsBack_9 rfl (j := 0) rfl ?_
        refine wm_callV (d2 := 0) (mc := 0) (ms := 0) C mo_Shelf_slot co_Shelf ml_Shelf_20 [.int 2] [] rfl (rp_shelf hR2) rfl (by decide) (Nat.le_of_ble_eq_true rfl) (Nat.le_refl _) (Nat.le_refl _) d_Shelf_bringCellsBack_10 (cy_ki ?_)
        refine c_slot_in hE hR2 (k := 2) (by decide) ⟨_, rfl, ?_⟩
        refine wm_astore_n (lv' := [(2, .ref (E.2.2.1 (116 + 2))), (1, .int 2), (0, .ref (E.2.2.1 134))]) C d_Shelf_bringCellsBack_13 rfl (by decide) rfl ?_
        refine wm_aload_n C d_Shelf_bringCellsBack_14 rfl (j := 0) rfl ?_
        refine wm_ifnull C d_Shelf_bringCellsBack_15 ?_
        refine wm_aload_n C d_Shelf_bringCellsBack_18 rfl (j := 0) rfl ?_
        refine wm_getN C co_Code (rp_code hR2 (show 2 < 9 by decide)) 3 (by decide) fl_Shelf_32 rfl d_Shelf_bringCellsBack_19 ?_
        refine wm_aload_n C d_Shelf_bringCellsBack_22 rfl (j := 0) rfl ?_
        refine wm_getN C co_Code (rp_code hR2 (show 2 < 9 by decide)) 4 (by decide) fl_Shelf_28 rfl d_Shelf_bringCellsBack_23 ?_
        refine wm_callVN (d2 := 1) (mc := 0) (ms := 0) C mo_Row_becomeLike co_Row ml_Shelf_35 [.ref (E.2.2.1 (2 * (9 + 4 * 2)))] [] rfl (rp_row hR2 (rb8 (show 2 < 9 by decide))) rfl (by decide) (Nat.le_of_ble_eq_true rfl) (Nat.le_refl _) (Nat.le_refl _) d_Shelf_bringCellsBack_26 (cy_kv ?_)
        refine c_like hE hR2 (rb8 (show 2 < 9 by decide)) (rb9 (show 2 < 9 by decide)) (by omega) (fun M3 hR3 => ⟨rfl, ?_⟩)
        refine wm_iinc (v := 3) (lv' := [(1, .int 3), (2, .ref (E.2.2.1 (116 + 2))), (0, .ref (E.2.2.1 134))]) C d_Shelf_bringCellsBack_29 (k := 1) rfl (by decide) (by decide) rfl ?_
        refine wm_goto (tgt := 2) C d_Shelf_bringCellsBack_32 (by decide) ?_
        refine wm_iload_n C d_Shelf_bringCellsBack_2 rfl (j := 0) rfl ?_
        refine wm_bipush (v := 8) C d_Shelf_bringCellsBack_3 (by decide) ?_
        refine wm_icmp_ge (tgt := 35) C d_Shelf_bringCellsBack_5 (by decide) (fun (h_5_4 : 8 ≤ 3) => ?_) (fun (h_5_4 : ¬ 8 ≤ 3) => ?_)
        · exact absurd h_5_4 (by decide)
        · refine wm_aload_n C d_Shelf_bringCellsBack_8 rfl (j := 2) rfl ?_
          refine wm_iload_n C d_Shelf_bringCellsBack_9 rfl (j := 0) rfl ?_
          refine wm_callV (d2 := 0) (mc := 0) (ms := 0) C mo_Shelf_slot co_Shelf ml_Shelf_20 [.int 3] [] rfl (rp_shelf hR3) rfl (by decide) (Nat.le_of_ble_eq_true rfl) (Nat.le_refl _) (Nat.le_refl _) d_Shelf_bringCellsBack_10 (cy_ki ?_)
          refine c_slot_in hE hR3 (k := 3) (by decide) ⟨_, rfl, ?_⟩
          refine wm_astore_n (lv' := [(2, .ref (E.2.2.1 (116 + 3))), (1, .int 3), (0, .ref (E.2.2.1 134))]) C d_Shelf_bringCellsBack_13 rfl (by decide) rfl ?_
          refine wm_aload_n C d_Shelf_bringCellsBack_14 rfl (j := 0) rfl ?_
          refine wm_ifnull C d_Shelf_bringCellsBack_15 ?_
          refine wm_aload_n C d_Shelf_bringCellsBack_18 rfl (j := 0) rfl ?_
          refine wm_getN C co_Code (rp_code hR3 (show 3 < 9 by decide)) 3 (by decide) fl_Shelf_32 rfl d_Shelf_bringCellsBack_19 ?_
          refine wm_aload_n C d_Shelf_bringCellsBack_22 rfl (j := 0) rfl ?_
          refine wm_getN C co_Code (rp_code hR3 (show 3 < 9 by decide)) 4 (by decide) fl_Shelf_28 rfl d_Shelf_bringCellsBack_23 ?_
          refine wm_callVN (d2 := 1) (mc := 0) (ms := 0) C mo_Row_becomeLike co_Row ml_Shelf_35 [.ref (E.2.2.1 (2 * (9 + 4 * 3)))] [] rfl (rp_row hR3 (rb8 (show 3 < 9 by decide))) rfl (by decide) (Nat.le_of_ble_eq_true rfl) (Nat.le_refl _) (Nat.le_refl _) d_Shelf_bringCellsBack_26 (cy_kv ?_)
          refine c_like hE hR3 (rb8 (show 3 < 9 by decide)) (rb9 (show 3 < 9 by decide)) (by omega) (fun M4 hR4 => ⟨rfl, ?_⟩)
          refine wm_iinc (v := 4) (lv' := [(1, .int 4), (2, .ref (E.2.2.1 (116 + 3))), (0, .ref (E.2.2.1 134))]) C d_Shelf_bringCellsBack_29 (k := 1) rfl (by decide) (by decide) rfl ?_
          refine wm_goto (tgt := 2) C d_Shelf_bringCellsBack_32 (by decide) ?_
          refine wm_iload_n C d_Shelf_bringCellsBack_2 rfl (j := 0) rfl ?_
          refine wm_bipush (v := 8) C d_Shelf_bringCellsBack_3 (by decide) ?_
          refine wm_icmp_ge (tgt := 35) C d_Shelf_bringCellsBack_5 (by decide) (fun (h_5_5 : 8 ≤ 4) => ?_) (fun (h_5_5 : ¬ 8 ≤ 4) => ?_)
          · exact absurd h_5_5 (by decide)
          · refine wm_aload_n C d_Shelf_bringCellsBack_8 rfl (j := 2) rfl ?_
            refine wm_iload_n C d_Shelf_bringCellsBack_9 rfl (j := 0) rfl ?_
            refine wm_callV (d2 := 0) (mc := 0) (ms := 0) C mo_Shelf_slot co_Shelf ml_Shelf_20 [.int 4] [] rfl (rp_shelf hR4) rfl (by decide) (Nat.le_of_ble_eq_true rfl) (Nat.le_refl _) (Nat.le_refl _) d_Shelf_bringCellsBack_10 (cy_ki ?_)
            refine c_slot_in hE hR4 (k := 4) (by decide) ⟨_, rfl, ?_⟩
            refine wm_astore_n (lv' := [(2, .ref (E.2.2.1 (116 + 4))), (1, .int 4), (0, .ref (E.2.2.1 134))]) C d_Shelf_bringCellsBack_13 rfl (by decide) rfl ?_
            refine wm_aload_n C d_Shelf_bringCellsBack_14 rfl (j := 0) rfl ?_
            refine wm_ifnull C d_Shelf_bringCellsBack_15 ?_
            refine wm_aload_n C d_Shelf_bringCellsBack_18 rfl (j := 0) rfl ?_
            refine wm_getN C co_Code (rp_code hR4 (show 4 < 9 by decide)) 3 (by decide) fl_Shelf_32 rfl d_Shelf_bringCellsBack_19 ?_
            refine wm_aload_n C d_Shelf_bringCellsBack_22 rfl (j := 0) rfl ?_
            refine wm_getN C co_Code (rp_code hR4 (show 4 < 9 by decide)) 4 (by decide) fl_Shelf_28 rfl d_Shelf_bringCellsBack_23 ?_
            refine wm_callVN (d2 := 1) (mc := 0) (ms := 0) C mo_Row_becomeLike co_Row ml_Shelf_35 [.ref (E.2.2.1 (2 * (9 + 4 * 4)))] [] rfl (rp_row hR4 (rb8 (show 4 < 9 by decide))) rfl (by decide) (Nat.le_of_ble_eq_true rfl) (Nat.le_refl _) (Nat.le_refl _) d_Shelf_bringCellsBack_26 (cy_kv ?_)
            refine c_like hE hR4 (rb8 (show 4 < 9 by decide)) (rb9 (show 4 < 9 by decide)) (by omega) (fun M5 hR5 => ⟨rfl, ?_⟩)
            refine wm_iinc (v := 5) (lv' := [(1, .int 5), (2, .ref (E.2.2.1 (116 + 4))), (0, .ref (E.2.2.1 134))]) C d_Shelf_bringCellsBack_29 (k := 1) rfl (by decide) (by decide) rfl ?_
            refine wm_goto (tgt := 2) C d_Shelf_bringCellsBack_32 (by decide) ?_
            refine wm_iload_n C d_Shelf_bringCellsBack_2 rfl (j := 0) rfl ?_
            refine wm_bipush (v := 8) C d_Shelf_bringCellsBack_3 (by decide) ?_
            refine wm_icmp_ge (tgt := 35) C d_Shelf_bringCellsBack_5 (by decide) (fun (h_5_6 : 8 ≤ 5) => ?_) (fun (h_5_6 : ¬ 8 ≤ 5) => ?_)
            · exact absurd h_5_6 (by decide)
            · refine wm_aload_n C d_Shelf_bringCellsBack_8 rfl (j := 2) rfl ?_
              refine wm_iload_n C d_Shelf_bringCellsBack_9 rfl (j := 0) rfl ?_
              refine wm_callV (d2 := 0) (mc := 0) (ms := 0) C mo_Shelf_slot co_Shelf ml_Shelf_20 [.int 5] [] rfl (rp_shelf hR5) rfl (by decide) (Nat.le_of_ble_eq_true rfl) (Nat.le_refl _) (Nat.le_refl _) d_Shelf_bringCellsBack_10 (cy_ki ?_)
              refine c_slot_in hE hR5 (k := 5) (by decide) ⟨_, rfl, ?_⟩
              refine wm_astore_n (lv' := [(2, .ref (E.2.2.1 (116 + 5))), (1, .int 5), (0, .ref (E.2.2.1 134))]) C d_Shelf_bringCellsBack_13 rfl (by decide) rfl ?_
              refine wm_aload_n C d_Shelf_bringCellsBack_14 rfl (j := 0) rfl ?_
              refine wm_ifnull C d_Shelf_bringCellsBack_15 ?_
              refine wm_aload_n C d_Shelf_bringCellsBack_18 rfl (j := 0) rfl ?_
              refine wm_getN C co_Code (rp_code hR5 (show 5 < 9 by decide)) 3 (by decide) fl_Shelf_32 rfl d_Shelf_bringCellsBack_19 ?_
              refine wm_aload_n C d_Shelf_bringCellsBack_22 rfl (j := 0) rfl ?_
              refine wm_getN C co_Code (rp_code hR5 (show 5 < 9 by decide)) 4 (by decide) fl_Shelf_28 rfl d_Shelf_bringCellsBack_23 ?_
              refine wm_callVN (d2 := 1) (mc := 0) (ms := 0) C mo_Row_becomeLike co_Row ml_Shelf_35 [.ref (E.2.2.1 (2 * (9 + 4 * 5)))] [] rfl (rp_row hR5 (rb8 (show 5 < 9 by decide))) rfl (by decide) (Nat.le_of_ble_eq_true rfl) (Nat.le_refl _) (Nat.le_refl _) d_Shelf_bringCellsBack_26 (cy_kv ?_)
              refine c_like hE hR5 (rb8 (show 5 < 9 by decide)) (rb9 (show 5 < 9 by decide)) (by omega) (fun M6 hR6 => ⟨rfl, ?_⟩)
              refine wm_iinc (v := 6) (lv' := [(1, .int 6), (2, .ref (E.2.2.1 (116 + 5))), (0, .ref (E.2.2.1 134))]) C d_Shelf_bringCellsBack_29 (k := 1) rfl (by decide) (by decide) rfl ?_
              refine wm_goto (tgt := 2) C d_Shelf_bringCellsBack_32 (by decide) ?_
              refine wm_iload_n C d_Shelf_bringCellsBack_2 rfl (j := 0) rfl ?_
              refine wm_bipush (v := 8) C d_Shelf_bringCellsBack_3 (by decide) ?_
              refine wm_icmp_ge (tgt := 35) C d_Shelf_bringCellsBack_5 (by decide) (fun (h_5_7 : 8 ≤ 6) => ?_) (fun (h_5_7 : ¬ 8 ≤ 6) => ?_)
              · exact absurd h_5_7 (by decide)
              · refine wm_aload_n C d_Shelf_bringCellsBack_8 rfl (j := 2) rfl ?_
                refine wm_iload_n C d_Shelf_bringCellsBack_9 rfl (j := 0) rfl ?_
                refine wm_callV (d2 := 0) (mc := 0) (ms := 0) C mo_Shelf_slot co_Shelf ml_Shelf_20 [.int 6] [] rfl (rp_shelf hR6) rfl (by decide) (Nat.le_of_ble_eq_true rfl) (Nat.le_refl _) (Nat.le_refl _) d_Shelf_bringCellsBack_10 (cy_ki ?_)
                refine c_slot_in hE hR6 (k := 6) (by decide) ⟨_, rfl, ?_⟩
                refine wm_astore_n (lv' := [(2, .ref (E.2.2.1 (116 + 6))), (1, .int 6), (0, .ref (E.2.2.1 134))]) C d_Shelf_bringCellsBack_13 rfl (by decide) rfl ?_
                refine wm_aload_n C d_Shelf_bringCellsBack_14 rfl (j := 0) rfl ?_
                refine wm_ifnull C d_Shelf_bringCellsBack_15 ?_
                refine wm_aload_n C d_Shelf_bringCellsBack_18 rfl (j := 0) rfl ?_
                refine wm_getN C co_Code (rp_code hR6 (show 6 < 9 by decide)) 3 (by decide) fl_Shelf_32 rfl d_Shelf_bringCellsBack_19 ?_
                refine wm_aload_n C d_Shelf_bringCellsBack_22 rfl (j := 0) rfl ?_
                refine wm_getN C co_Code (rp_code hR6 (show 6 < 9 by decide)) 4 (by decide) fl_Shelf_28 rfl d_Shelf_bringCellsBack_23 ?_
                refine wm_callVN (d2 := 1) (mc := 0) (ms := 0) C mo_Row_becomeLike co_Row ml_Shelf_35 [.ref (E.2.2.1 (2 * (9 + 4 * 6)))] [] rfl (rp_row hR6 (rb8 (show 6 < 9 by decide))) rfl (by decide) (Nat.le_of_ble_eq_true rfl) (Nat.le_refl _) (Nat.le_refl _) d_Shelf_bringCellsBack_26 (cy_kv ?_)
                refine c_like hE hR6 (rb8 (show 6 < 9 by decide)) (rb9 (show 6 < 9 by decide)) (by omega) (fun M7 hR7 => ⟨rfl, ?_⟩)
                refine wm_iinc (v := 7) (lv' := [(1, .int 7), (2, .ref (E.2.2.1 (116 + 6))), (0, .ref (E.2.2.1 134))]) C d_Shelf_bringCellsBack_29 (k := 1) rfl (by decide) (by decide) rfl ?_
                refine wm_goto (tgt := 2) C d_Shelf_bringCellsBack_32 (by decide) ?_
                refine wm_iload_n C d_Shelf_bringCellsBack_2 rfl (j := 0) rfl ?_
                refine wm_bipush (v := 8) C d_Shelf_bringCellsBack_3 (by decide) ?_
                refine wm_icmp_ge (tgt := 35) C d_Shelf_bringCellsBack_5 (by decide) (fun (h_5_8 : 8 ≤ 7) => ?_) (fun (h_5_8 : ¬ 8 ≤ 7) => ?_)
                · exact absurd h_5_8 (by decide)
                · refine wm_aload_n C d_Shelf_bringCellsBack_8 rfl (j := 2) rfl ?_
                  refine wm_iload_n C d_Shelf_bringCellsBack_9 rfl (j := 0) rfl ?_
                  refine wm_callV (d2 := 0) (mc := 0) (ms := 0) C mo_Shelf_slot co_Shelf ml_Shelf_20 [.int 7] [] rfl (rp_shelf hR7) rfl (by decide) (Nat.le_of_ble_eq_true rfl) (Nat.le_refl _) (Nat.le_refl _) d_Shelf_bringCellsBack_10 (cy_ki ?_)
                  refine c_slot_in hE hR7 (k := 7) (by decide) ⟨_, rfl, ?_⟩
                  refine wm_astore_n (lv' := [(2, .ref (E.2.2.1 (116 + 7))), (1, .int 7), (0, .ref (E.2.2.1 134))]) C d_Shelf_bringCellsBack_13 rfl (by decide) rfl ?_
                  refine wm_aload_n C d_Shelf_bringCellsBack_14 rfl (j := 0) rfl ?_
                  refine wm_ifnull C d_Shelf_bringCellsBack_15 ?_
                  refine wm_aload_n C d_Shelf_bringCellsBack_18 rfl (j := 0) rfl ?_
                  refine wm_getN C co_Code (rp_code hR7 (show 7 < 9 by decide)) 3 (by decide) fl_Shelf_32 rfl d_Shelf_bringCellsBack_19 ?_
                  refine wm_aload_n C d_Shelf_bringCellsBack_22 rfl (j := 0) rfl ?_
                  refine wm_getN C co_Code (rp_code hR7 (show 7 < 9 by decide)) 4 (by decide) fl_Shelf_28 rfl d_Shelf_bringCellsBack_23 ?_
                  refine wm_callVN (d2 := 1) (mc := 0) (ms := 0) C mo_Row_becomeLike co_Row ml_Shelf_35 [.ref (E.2.2.1 (2 * (9 + 4 * 7)))] [] rfl (rp_row hR7 (rb8 (show 7 < 9 by decide))) rfl (by decide) (Nat.le_of_ble_eq_true rfl) (Nat.le_refl _) (Nat.le_refl _) d_Shelf_bringCellsBack_26 (cy_kv ?_)
                  refine c_like hE hR7 (rb8 (show 7 < 9 by decide)) (rb9 (show 7 < 9 by decide)) (by omega) (fun M8 hR8 => ⟨rfl, ?_⟩)
                  refine wm_iinc (v := 8) (lv' := [(1, .int 8), (2, .ref (E.2.2.1 (116 + 7))), (0, .ref (E.2.2.1 134))]) C d_Shelf_bringCellsBack_29 (k := 1) rfl (by decide) (by decide) rfl ?_
                  refine wm_goto (tgt := 2) C d_Shelf_bringCellsBack_32 (by decide) ?_
                  refine wm_iload_n C d_Shelf_bringCellsBack_2 rfl (j := 0) rfl ?_
                  refine wm_bipush (v := 8) C d_Shelf_bringCellsBack_3 (by decide) ?_
                  refine wm_icmp_ge (tgt := 35) C d_Shelf_bringCellsBack_5 (by decide) (fun (h_5_9 : 8 ≤ 8) => ?_) (fun (h_5_9 : ¬ 8 ≤ 8) => ?_)
                  · refine wm_vret C P d_Shelf_bringCellsBack_35 ?_
                    have e : cy_Shelf_bringCellsBack s = (cy_rlike (cy_rlike (cy_rlike (cy_rlike (cy_rlike (cy_rlike (cy_rlike (cy_rlike s (8 + 4 * 0) (9 + 4 * 0)) (8 + 4 * 1) (9 + 4 * 1)) (8 + 4 * 2) (9 + 4 * 2)) (8 + 4 * 3) (9 + 4 * 3)) (8 + 4 * 4) (9 + 4 * 4)) (8 + 4 * 5) (9 + 4 * 5)) (8 + 4 * 6) (9 + 4 * 6)) (8 + 4 * 7) (9 + 4 * 7)) := by rw [cy_Shelf_bringCellsBack]
                    rw [e] at h
                    exact h _ hR8
                  · exact absurd h_5_9 (by decide)
def cy_Code_take (s : cy_S) (k : Nat) : cy_S :=
  (cy_rfill (cy_rlike (cy_rlike s (6 + 4 * k) 0) (7 + 4 * k) 2) (8 + 4 * k) 16 0)
set_option maxHeartbeats 4000000 in
theorem c_Code_take {G : cy_G} {E : cy_E} {s : cy_S} {M : cy_Hp} {post : Option Value → cy_Hp → Prop} (hE : cy_Eo G E) (hR : cy_R E s M) {k : Nat} (hk : k < 9)  (h : ∀ M', cy_R E (cy_Code_take s k) M' → post none M') : cy_Ct G 2 m_Code_take [.ref (E.2.2.1 (116 + k)), .ref (E.2.2.1 (2 * 0)), .ref (E.2.2.1 (2 * 2))] M 0 0 post := by
  refine cy_Ct.of (by decide) (Nat.le_of_ble_eq_true rfl) ?_
  intro F C P _
  have C : cy_C G F R_Code b_Code_take 3 2 0 0 := C
  have P : cy_P G F none post 0 0 := P
  show WM G F 3 0 0 0 [(0, .ref (E.2.2.1 (116 + k))), (1, .ref (E.2.2.1 (2 * 0))), (2, .ref (E.2.2.1 (2 * 2)))] [] M
  refine wm_aload_n C d_Code_take_0 rfl (j := 0) rfl ?_
  refine wm_get C co_Code (rp_code hR hk) 1 (by decide) fl_Code_20 rfl d_Code_take_1 ?_
  refine wm_aload_n C d_Code_take_4 rfl (j := 1) rfl ?_
  refine wm_callVN (d2 := 1) (mc := 0) (ms := 0) C mo_Row_becomeLike co_Row ml_Code_36 [.ref (E.2.2.1 (2 * 0))] [] rfl (rp_row hR (rb6 hk)) rfl (by decide) (Nat.le_of_ble_eq_true rfl) (Nat.le_refl _) (Nat.le_refl _) d_Code_take_5 (cy_kv ?_)
  refine c_like hE hR (rb6 hk) (by decide) (by omega) (fun M1 hR1 => ⟨rfl, ?_⟩)
  refine wm_aload_n C d_Code_take_8 rfl (j := 0) rfl ?_
  refine wm_get C co_Code (rp_code hR1 hk) 2 (by decide) fl_Code_24 rfl d_Code_take_9 ?_
  refine wm_aload_n C d_Code_take_12 rfl (j := 2) rfl ?_
  refine wm_callVN (d2 := 1) (mc := 0) (ms := 0) C mo_Row_becomeLike co_Row ml_Code_36 [.ref (E.2.2.1 (2 * 2))] [] rfl (rp_row hR1 (rb7 hk)) rfl (by decide) (Nat.le_of_ble_eq_true rfl) (Nat.le_refl _) (Nat.le_refl _) d_Code_take_13 (cy_kv ?_)
  refine c_like hE hR1 (rb7 hk) (by decide) (by omega) (fun M2 hR2 => ⟨rfl, ?_⟩)
  refine wm_aload_n C d_Code_take_16 rfl (j := 0) rfl ?_
  refine wm_get C co_Code (rp_code hR2 hk) 3 (by decide) fl_Code_27 rfl d_Code_take_17 ?_
  refine wm_bipush (v := 16) C d_Code_take_20 (by decide) ?_
  refine wm_iconst (v := 0) C d_Code_take_22 (by decide) ?_
  refine wm_callVN (d2 := 1) (mc := 0) (ms := 0) C mo_Row_become co_Row ml_Code_40 [.int 16, .int 0] [] rfl (rp_row hR2 (rb8 hk)) rfl (by decide) (Nat.le_of_ble_eq_true rfl) (Nat.le_refl _) (Nat.le_refl _) d_Code_take_23 (cy_kv ?_)
  refine c_fill hE hR2 (rb8 hk) _ _ (fun M3 hR3 => ⟨rfl, ?_⟩)
  refine wm_vret C P d_Code_take_26 ?_
  have e : cy_Code_take s k = (cy_rfill (cy_rlike (cy_rlike s (6 + 4 * k) 0) (7 + 4 * k) 2) (8 + 4 * k) 16 0) := by rw [cy_Code_take]
  rw [e] at h
  exact h _ hR3
def cy_Run_start (s : cy_S) (k : Nat) (b : Int32) : cy_S :=
  if (cy_Run_isHeld s) = 0 then
    (cy_s_done (cy_s_reason (cy_s_result (cy_s_status (cy_s_begun (cy_s_work (cy_Frame_enter (cy_rcut (cy_rlike (cy_Shelf_keepCells s) 4 0) 5 0) 0 k b) 0) 1) 1) 0) 0) 0)
  else
    (cy_s_done (cy_s_reason (cy_s_result (cy_s_status (cy_s_begun (cy_s_work (cy_Frame_enter (cy_rcut (cy_rlike (cy_Shelf_keepCells (cy_Shelf_bringCellsBack s)) 4 0) 5 0) 0 k b) 0) 1) 1) 0) 0) 0)
set_option maxHeartbeats 4000000 in
theorem c_Run_start {G : cy_G} {E : cy_E} {s : cy_S} {M : cy_Hp} {post : Option Value → cy_Hp → Prop} (hE : cy_Eo G E) (hR : cy_R E s M)  {k : Nat} (hk : k < 9) (b : Int32) (h : ∀ M', cy_R E (cy_Run_start s k b) M' → post none M') : cy_Ct G 3 m_Run_start [.ref (E.2.2.1 136), .ref (E.2.2.1 (116 + k)), .int b, .ref (E.2.2.1 (2 * 0))] M 0 0 post := by
  refine cy_Ct.of (by decide) (Nat.le_of_ble_eq_true rfl) ?_
  intro F C P _
  have C : cy_C G F R_Run b_Run_start 4 3 0 0 := C
  have P : cy_P G F none post 0 0 := P
  show WM G F 4 0 0 0 [(0, .ref (E.2.2.1 136)), (1, .ref (E.2.2.1 (116 + k))), (2, .int b), (3, .ref (E.2.2.1 (2 * 0)))] [] M
  refine wm_aload_n C d_Run_start_0 rfl (j := 0) rfl ?_
  refine wm_callV (d2 := 0) (mc := 0) (ms := 0) C mo_Run_isHeld co_Run ml_Run_53 [] [] rfl (rp_run hR) rfl (by decide) (Nat.le_of_ble_eq_true rfl) (Nat.le_refl _) (Nat.le_refl _) d_Run_start_1 (cy_ki ?_)
  refine c_Run_isHeld hE hR   ⟨_, rfl, ?_⟩
  refine wm_if_eq (tgt := 14) C d_Run_start_4 (by decide) (fun (h_4 : (cy_Run_isHeld s) = 0) => ?_) (fun (h_4 : ¬ (cy_Run_isHeld s) = 0) => ?_)
  · refine wm_aload_n C d_Run_start_14 rfl (j := 0) rfl ?_
    refine wm_get C co_Run (rp_run hR) 0 (by decide) fl_Run_9 rfl d_Run_start_15 ?_
    refine wm_callVN (d2 := 2) (mc := 0) (ms := 0) C mo_Shelf_keepCells co_Shelf ml_Run_62 [] [] rfl (rp_shelf hR) rfl (by decide) (Nat.le_of_ble_eq_true rfl) (Nat.le_refl _) (Nat.le_refl _) d_Run_start_18 (cy_kv ?_)
    refine c_Shelf_keepCells hE hR   (fun M1 hR1 => ⟨rfl, ?_⟩)
    refine wm_aload_n C d_Run_start_21 rfl (j := 0) rfl ?_
    refine wm_get C co_Run (rp_run hR1) 2 (by decide) fl_Run_20 rfl d_Run_start_22 ?_
    refine wm_aload_n C d_Run_start_25 rfl (j := 3) rfl ?_
    refine wm_callVN (d2 := 1) (mc := 0) (ms := 0) C mo_Row_becomeLike co_Row ml_Run_65 [.ref (E.2.2.1 (2 * 0))] [] rfl (rp_row hR1 (by decide)) rfl (by decide) (Nat.le_of_ble_eq_true rfl) (Nat.le_refl _) (Nat.le_refl _) d_Run_start_26 (cy_kv ?_)
    refine c_like hE hR1 (by decide) (by decide) (by omega) (fun M2 hR2 => ⟨rfl, ?_⟩)
    refine wm_aload_n C d_Run_start_29 rfl (j := 0) rfl ?_
    refine wm_get C co_Run (rp_run hR2) 3 (by decide) fl_Run_24 rfl d_Run_start_30 ?_
    refine wm_iconst (v := 0) C d_Run_start_33 (by decide) ?_
    refine wm_callVN (d2 := 1) (mc := 0) (ms := 0) C mo_Row_shorten co_Row ml_Run_69 [.int 0] [] rfl (rp_row hR2 (by decide)) rfl (by decide) (Nat.le_of_ble_eq_true rfl) (Nat.le_refl _) (Nat.le_refl _) d_Run_start_34 (cy_kv ?_)
    refine c_cut hE hR2 (by decide) _ (fun M3 hR3 => ⟨rfl, ?_⟩)
    refine wm_aload_n C d_Run_start_37 rfl (j := 0) rfl ?_
    refine wm_get C co_Run (rp_run hR3) 1 (by decide) fl_Run_35 rfl d_Run_start_38 ?_
    refine wm_aload_n C d_Run_start_41 rfl (j := 1) rfl ?_
    refine wm_iload_n C d_Run_start_42 rfl (j := 2) rfl ?_
    refine wm_callVN (d2 := 2) (mc := 0) (ms := 0) C mo_Frame_enter co_Frame ml_Run_72 [.ref (E.2.2.1 (116 + k)), .int b] [] rfl (rp_frame hR3 (show 0 < 8 by decide)) rfl (by decide) (Nat.le_of_ble_eq_true rfl) (Nat.le_refl _) (Nat.le_refl _) d_Run_start_43 (cy_kv ?_)
    refine c_Frame_enter hE hR3 (show 0 < 8 by decide) hk _ (fun M4 hR4 => ⟨rfl, ?_⟩)
    refine wm_aload_n C d_Run_start_46 rfl (j := 0) rfl ?_
    refine wm_aload_n C d_Run_start_47 rfl (j := 0) rfl ?_
    refine wm_get C co_Run (rp_run hR4) 1 (by decide) fl_Run_35 rfl d_Run_start_48 ?_
    refine wm_put C co_Run (rp_run hR4) 4 (by decide) fl_Run_39 rfl rfl rfl (Nat.le_of_ble_eq_true rfl) d_Run_start_51 ?_
    refine wm_gen (rp_p_work hE hR4 (show 0 < 8 by decide)) (fun M5 hR5 => ?_)
    refine wm_aload_n C d_Run_start_54 rfl (j := 0) rfl ?_
    refine wm_iconst (v := 1) C d_Run_start_55 (by decide) ?_
    refine wm_put C co_Run (rp_run hR5) 5 (by decide) fl_Run_45 rfl rfl rfl (Nat.le_of_ble_eq_true rfl) d_Run_start_56 ?_
    refine wm_gen (rp_p_begun hE hR5 1) (fun M6 hR6 => ?_)
    refine wm_aload_n C d_Run_start_59 rfl (j := 0) rfl ?_
    refine wm_iconst (v := 1) C d_Run_start_60 (by decide) ?_
    refine wm_put C co_Run (rp_run hR6) 6 (by decide) fl_Run_49 rfl rfl rfl (Nat.le_of_ble_eq_true rfl) d_Run_start_61 ?_
    refine wm_gen (rp_p_status hE hR6 1) (fun M7 hR7 => ?_)
    refine wm_aload_n C d_Run_start_64 rfl (j := 0) rfl ?_
    refine wm_iconst (v := 0) C d_Run_start_65 (by decide) ?_
    refine wm_put C co_Run (rp_run hR7) 7 (by decide) fl_Run_76 rfl rfl rfl (Nat.le_of_ble_eq_true rfl) d_Run_start_66 ?_
    refine wm_gen (rp_p_result hE hR7 0) (fun M8 hR8 => ?_)
    refine wm_aload_n C d_Run_start_69 rfl (j := 0) rfl ?_
    refine wm_iconst (v := 0) C d_Run_start_70 (by decide) ?_
    refine wm_put C co_Run (rp_run hR8) 8 (by decide) fl_Run_79 rfl rfl rfl (Nat.le_of_ble_eq_true rfl) d_Run_start_71 ?_
    refine wm_gen (rp_p_reason hE hR8 0) (fun M9 hR9 => ?_)
    refine wm_aload_n C d_Run_start_74 rfl (j := 0) rfl ?_
    refine wm_iconst (v := 0) C d_Run_start_75 (by decide) ?_
    refine wm_put C co_Run (rp_run hR9) 9 (by decide) fl_Run_82 rfl rfl rfl (Nat.le_of_ble_eq_true rfl) d_Run_start_76 ?_
    refine wm_gen (rp_p_done hE hR9 0) (fun M10 hR10 => ?_)
    refine wm_vret C P d_Run_start_79 ?_
    have e : cy_Run_start s k b = (cy_s_done (cy_s_reason (cy_s_result (cy_s_status (cy_s_begun (cy_s_work (cy_Frame_enter (cy_rcut (cy_rlike (cy_Shelf_keepCells s) 4 0) 5 0) 0 k b) 0) 1) 1) 0) 0) 0) := by rw [cy_Run_start, if_pos h_4]
    rw [e] at h
    exact h _ hR10
  · refine wm_aload_n C d_Run_start_7 rfl (j := 0) rfl ?_
    refine wm_get C co_Run (rp_run hR) 0 (by decide) fl_Run_9 rfl d_Run_start_8 ?_
    refine wm_callVN (d2 := 2) (mc := 0) (ms := 0) C mo_Shelf_bringCellsBack co_Shelf ml_Run_57 [] [] rfl (rp_shelf hR) rfl (by decide) (Nat.le_of_ble_eq_true rfl) (Nat.le_refl _) (Nat.le_refl _) d_Run_start_11 (cy_kv ?_)
    refine c_Shelf_bringCellsBack hE hR   (fun M11 hR11 => ⟨rfl, ?_⟩)
    refine wm_aload_n C d_Run_start_14 rfl (j := 0) rfl ?_
    refine wm_get C co_Run (rp_run hR11) 0 (by decide) fl_Run_9 rfl d_Run_start_15 ?_
    refine wm_callVN (d2 := 2) (mc := 0) (ms := 0) C mo_Shelf_keepCells co_Shelf ml_Run_62 [] [] rfl (rp_shelf hR11) rfl (by decide) (Nat.le_of_ble_eq_true rfl) (Nat.le_refl _) (Nat.le_refl _) d_Run_start_18 (cy_kv ?_)
    refine c_Shelf_keepCells hE hR11   (fun M12 hR12 => ⟨rfl, ?_⟩)
    refine wm_aload_n C d_Run_start_21 rfl (j := 0) rfl ?_
    refine wm_get C co_Run (rp_run hR12) 2 (by decide) fl_Run_20 rfl d_Run_start_22 ?_
    refine wm_aload_n C d_Run_start_25 rfl (j := 3) rfl ?_
    refine wm_callVN (d2 := 1) (mc := 0) (ms := 0) C mo_Row_becomeLike co_Row ml_Run_65 [.ref (E.2.2.1 (2 * 0))] [] rfl (rp_row hR12 (by decide)) rfl (by decide) (Nat.le_of_ble_eq_true rfl) (Nat.le_refl _) (Nat.le_refl _) d_Run_start_26 (cy_kv ?_)
    refine c_like hE hR12 (by decide) (by decide) (by omega) (fun M13 hR13 => ⟨rfl, ?_⟩)
    refine wm_aload_n C d_Run_start_29 rfl (j := 0) rfl ?_
    refine wm_get C co_Run (rp_run hR13) 3 (by decide) fl_Run_24 rfl d_Run_start_30 ?_
    refine wm_iconst (v := 0) C d_Run_start_33 (by decide) ?_
    refine wm_callVN (d2 := 1) (mc := 0) (ms := 0) C mo_Row_shorten co_Row ml_Run_69 [.int 0] [] rfl (rp_row hR13 (by decide)) rfl (by decide) (Nat.le_of_ble_eq_true rfl) (Nat.le_refl _) (Nat.le_refl _) d_Run_start_34 (cy_kv ?_)
    refine c_cut hE hR13 (by decide) _ (fun M14 hR14 => ⟨rfl, ?_⟩)
    refine wm_aload_n C d_Run_start_37 rfl (j := 0) rfl ?_
    refine wm_get C co_Run (rp_run hR14) 1 (by decide) fl_Run_35 rfl d_Run_start_38 ?_
    refine wm_aload_n C d_Run_start_41 rfl (j := 1) rfl ?_
    refine wm_iload_n C d_Run_start_42 rfl (j := 2) rfl ?_
    refine wm_callVN (d2 := 2) (mc := 0) (ms := 0) C mo_Frame_enter co_Frame ml_Run_72 [.ref (E.2.2.1 (116 + k)), .int b] [] rfl (rp_frame hR14 (show 0 < 8 by decide)) rfl (by decide) (Nat.le_of_ble_eq_true rfl) (Nat.le_refl _) (Nat.le_refl _) d_Run_start_43 (cy_kv ?_)
    refine c_Frame_enter hE hR14 (show 0 < 8 by decide) hk _ (fun M15 hR15 => ⟨rfl, ?_⟩)
    refine wm_aload_n C d_Run_start_46 rfl (j := 0) rfl ?_
    refine wm_aload_n C d_Run_start_47 rfl (j := 0) rfl ?_
    refine wm_get C co_Run (rp_run hR15) 1 (by decide) fl_Run_35 rfl d_Run_start_48 ?_
    refine wm_put C co_Run (rp_run hR15) 4 (by decide) fl_Run_39 rfl rfl rfl (Nat.le_of_ble_eq_true rfl) d_Run_start_51 ?_
    refine wm_gen (rp_p_work hE hR15 (show 0 < 8 by decide)) (fun M16 hR16 => ?_)
    refine wm_aload_n C d_Run_start_54 rfl (j := 0) rfl ?_
    refine wm_iconst (v := 1) C d_Run_start_55 (by decide) ?_
    refine wm_put C co_Run (rp_run hR16) 5 (by decide) fl_Run_45 rfl rfl rfl (Nat.le_of_ble_eq_true rfl) d_Run_start_56 ?_
    refine wm_gen (rp_p_begun hE hR16 1) (fun M17 hR17 => ?_)
    refine wm_aload_n C d_Run_start_59 rfl (j := 0) rfl ?_
    refine wm_iconst (v := 1) C d_Run_start_60 (by decide) ?_
    refine wm_put C co_Run (rp_run hR17) 6 (by decide) fl_Run_49 rfl rfl rfl (Nat.le_of_ble_eq_true rfl) d_Run_start_61 ?_
    refine wm_gen (rp_p_status hE hR17 1) (fun M18 hR18 => ?_)
    refine wm_aload_n C d_Run_start_64 rfl (j := 0) rfl ?_
    refine wm_iconst (v := 0) C d_Run_start_65 (by decide) ?_
    refine wm_put C co_Run (rp_run hR18) 7 (by decide) fl_Run_76 rfl rfl rfl (Nat.le_of_ble_eq_true rfl) d_Run_start_66 ?_
    refine wm_gen (rp_p_result hE hR18 0) (fun M19 hR19 => ?_)
    refine wm_aload_n C d_Run_start_69 rfl (j := 0) rfl ?_
    refine wm_iconst (v := 0) C d_Run_start_70 (by decide) ?_
    refine wm_put C co_Run (rp_run hR19) 8 (by decide) fl_Run_79 rfl rfl rfl (Nat.le_of_ble_eq_true rfl) d_Run_start_71 ?_
    refine wm_gen (rp_p_reason hE hR19 0) (fun M20 hR20 => ?_)
    refine wm_aload_n C d_Run_start_74 rfl (j := 0) rfl ?_
    refine wm_iconst (v := 0) C d_Run_start_75 (by decide) ?_
    refine wm_put C co_Run (rp_run hR20) 9 (by decide) fl_Run_82 rfl rfl rfl (Nat.le_of_ble_eq_true rfl) d_Run_start_76 ?_
    refine wm_gen (rp_p_done hE hR20 0) (fun M21 hR21 => ?_)
    refine wm_vret C P d_Run_start_79 ?_
    have e : cy_Run_start s k b = (cy_s_done (cy_s_reason (cy_s_result (cy_s_status (cy_s_begun (cy_s_work (cy_Frame_enter (cy_rcut (cy_rlike (cy_Shelf_keepCells (cy_Shelf_bringCellsBack s)) 4 0) 5 0) 0 k b) 0) 1) 1) 0) 0) 0) := by rw [cy_Run_start, if_neg h_4]
    rw [e] at h
    exact h _ hR21
def cy_Yard_addBytes (s : cy_S) (four : Int32) : cy_S :=
  (cy_radd (cy_radd (cy_radd (cy_radd s 0 (((four.toUInt32 >>> ((24 : Int32).toUInt32 &&& Int32.toUInt32 31)).toInt32) &&& 255)) 0 (((four.toUInt32 >>> ((16 : Int32).toUInt32 &&& Int32.toUInt32 31)).toInt32) &&& 255)) 0 (((four.toUInt32 >>> ((8 : Int32).toUInt32 &&& Int32.toUInt32 31)).toInt32) &&& 255)) 0 (((four.toUInt32 >>> ((0 : Int32).toUInt32 &&& Int32.toUInt32 31)).toInt32) &&& 255))
set_option maxHeartbeats 4000000 in
theorem c_Yard_addBytes {G : cy_G} {E : cy_E} {s : cy_S} {M : cy_Hp} {post : Option Value → cy_Hp → Prop} (hE : cy_Eo G E) (hR : cy_R E s M)  (four : Int32) (h : ∀ M', cy_R E (cy_Yard_addBytes s four) M' → post none M') : cy_Ct G 1 m_Yard_addBytes [.ref (E.2.2.1 133), .int four] M 0 0 post := by
  refine cy_Ct.of (by decide) (Nat.le_of_ble_eq_true rfl) ?_
  intro F C P _
  have C : cy_C G F R_Yard b_Yard_addBytes 3 1 0 0 := C
  have P : cy_P G F none post 0 0 := P
  show WM G F 3 0 0 0 [(0, .ref (E.2.2.1 133)), (1, .int four)] [] M
  refine wm_bipush (v := 24) C d_Yard_addBytes_0 (by decide) ?_
  refine wm_istore_n (lv' := [(2, .int 24), (0, .ref (E.2.2.1 133)), (1, .int four)]) C d_Yard_addBytes_2 rfl (by decide) rfl ?_
  refine wm_iload_n C d_Yard_addBytes_3 rfl (j := 0) rfl ?_
  refine wm_if_lt (tgt := 27) C d_Yard_addBytes_4 (by decide) (fun (h_4 : 24 < 0) => ?_) (fun (h_4 : ¬ 24 < 0) => ?_)
  · exact absurd h_4 (by decide)
  · refine wm_aload_n C d_Yard_addBytes_7 rfl (j := 1) rfl ?_
    refine wm_get C co_Yard (rp_yard hR) 0 (by decide) fl_Yard_14 rfl d_Yard_addBytes_8 ?_
    refine wm_iload_n C d_Yard_addBytes_11 rfl (j := 2) rfl ?_
    refine wm_iload_n C d_Yard_addBytes_12 rfl (j := 0) rfl ?_
    refine wm_iushr C d_Yard_addBytes_13 rfl ?_
    refine wm_sipush (v := 255) C d_Yard_addBytes_14 (by decide) ?_
    refine wm_iand C d_Yard_addBytes_17 ?_
    refine wm_callVN (d2 := 0) (mc := 0) (ms := 0) C mo_Row_add co_Row ml_Yard_48 [.int (((four.toUInt32 >>> ((24 : Int32).toUInt32 &&& Int32.toUInt32 31)).toInt32) &&& 255)] [] rfl (rp_row hR (by decide)) rfl (by decide) (Nat.le_of_ble_eq_true rfl) (Nat.le_refl _) (Nat.le_refl _) d_Yard_addBytes_18 (cy_kv ?_)
    refine c_add hE hR (by decide) _ (fun M1 hR1 => ⟨rfl, ?_⟩)
    refine wm_iinc (v := 16) (lv' := [(2, .int 16), (0, .ref (E.2.2.1 133)), (1, .int four)]) C d_Yard_addBytes_21 (k := 0) rfl (by decide) (by decide) rfl ?_
    refine wm_goto (tgt := 3) C d_Yard_addBytes_24 (by decide) ?_
    refine wm_iload_n C d_Yard_addBytes_3 rfl (j := 0) rfl ?_
    refine wm_if_lt (tgt := 27) C d_Yard_addBytes_4 (by decide) (fun (h_4_2 : 16 < 0) => ?_) (fun (h_4_2 : ¬ 16 < 0) => ?_)
    · exact absurd h_4_2 (by decide)
    · refine wm_aload_n C d_Yard_addBytes_7 rfl (j := 1) rfl ?_
      refine wm_get C co_Yard (rp_yard hR1) 0 (by decide) fl_Yard_14 rfl d_Yard_addBytes_8 ?_
      refine wm_iload_n C d_Yard_addBytes_11 rfl (j := 2) rfl ?_
      refine wm_iload_n C d_Yard_addBytes_12 rfl (j := 0) rfl ?_
      refine wm_iushr C d_Yard_addBytes_13 rfl ?_
      refine wm_sipush (v := 255) C d_Yard_addBytes_14 (by decide) ?_
      refine wm_iand C d_Yard_addBytes_17 ?_
      refine wm_callVN (d2 := 0) (mc := 0) (ms := 0) C mo_Row_add co_Row ml_Yard_48 [.int (((four.toUInt32 >>> ((16 : Int32).toUInt32 &&& Int32.toUInt32 31)).toInt32) &&& 255)] [] rfl (rp_row hR1 (by decide)) rfl (by decide) (Nat.le_of_ble_eq_true rfl) (Nat.le_refl _) (Nat.le_refl _) d_Yard_addBytes_18 (cy_kv ?_)
      refine c_add hE hR1 (by decide) _ (fun M2 hR2 => ⟨rfl, ?_⟩)
      refine wm_iinc (v := 8) (lv' := [(2, .int 8), (0, .ref (E.2.2.1 133)), (1, .int four)]) C d_Yard_addBytes_21 (k := 0) rfl (by decide) (by decide) rfl ?_
      refine wm_goto (tgt := 3) C d_Yard_addBytes_24 (by decide) ?_
      refine wm_iload_n C d_Yard_addBytes_3 rfl (j := 0) rfl ?_
      refine wm_if_lt (tgt := 27) C d_Yard_addBytes_4 (by decide) (fun (h_4_3 : 8 < 0) => ?_) (fun (h_4_3 : ¬ 8 < 0) => ?_)
      · exact absurd h_4_3 (by decide)
      · refine wm_aload_n C d_Yard_addBytes_7 rfl (j := 1) rfl ?_
        refine wm_get C co_Yard (rp_yard hR2) 0 (by decide) fl_Yard_14 rfl d_Yard_addBytes_8 ?_
        refine wm_iload_n C d_Yard_addBytes_11 rfl (j := 2) rfl ?_
        refine wm_iload_n C d_Yard_addBytes_12 rfl (j := 0) rfl ?_
        refine wm_iushr C d_Yard_addBytes_13 rfl ?_
        refine wm_sipush (v := 255) C d_Yard_addBytes_14 (by decide) ?_
        refine wm_iand C d_Yard_addBytes_17 ?_
        refine wm_callVN (d2 := 0) (mc := 0) (ms := 0) C mo_Row_add co_Row ml_Yard_48 [.int (((four.toUInt32 >>> ((8 : Int32).toUInt32 &&& Int32.toUInt32 31)).toInt32) &&& 255)] [] rfl (rp_row hR2 (by decide)) rfl (by decide) (Nat.le_of_ble_eq_true rfl) (Nat.le_refl _) (Nat.le_refl _) d_Yard_addBytes_18 (cy_kv ?_)
        refine c_add hE hR2 (by decide) _ (fun M3 hR3 => ⟨rfl, ?_⟩)
        refine wm_iinc (v := 0) (lv' := [(2, .int 0), (0, .ref (E.2.2.1 133)), (1, .int four)]) C d_Yard_addBytes_21 (k := 0) rfl (by decide) (by decide) rfl ?_
        refine wm_goto (tgt := 3) C d_Yard_addBytes_24 (by decide) ?_
        refine wm_iload_n C d_Yard_addBytes_3 rfl (j := 0) rfl ?_
        refine wm_if_lt (tgt := 27) C d_Yard_addBytes_4 (by decide) (fun (h_4_4 : 0 < 0) => ?_) (fun (h_4_4 : ¬ 0 < 0) => ?_)
        · exact absurd h_4_4 (by decide)
        · refine wm_aload_n C d_Yard_addBytes_7 rfl (j := 1) rfl ?_
          refine wm_get C co_Yard (rp_yard hR3) 0 (by decide) fl_Yard_14 rfl d_Yard_addBytes_8 ?_
          refine wm_iload_n C d_Yard_addBytes_11 rfl (j := 2) rfl ?_
          refine wm_iload_n C d_Yard_addBytes_12 rfl (j := 0) rfl ?_
          refine wm_iushr C d_Yard_addBytes_13 rfl ?_
          refine wm_sipush (v := 255) C d_Yard_addBytes_14 (by decide) ?_
          refine wm_iand C d_Yard_addBytes_17 ?_
          refine wm_callVN (d2 := 0) (mc := 0) (ms := 0) C mo_Row_add co_Row ml_Yard_48 [.int (((four.toUInt32 >>> ((0 : Int32).toUInt32 &&& Int32.toUInt32 31)).toInt32) &&& 255)] [] rfl (rp_row hR3 (by decide)) rfl (by decide) (Nat.le_of_ble_eq_true rfl) (Nat.le_refl _) (Nat.le_refl _) d_Yard_addBytes_18 (cy_kv ?_)
          refine c_add hE hR3 (by decide) _ (fun M4 hR4 => ⟨rfl, ?_⟩)
          refine wm_iinc (v := (-8)) (lv' := [(2, .int (-8)), (0, .ref (E.2.2.1 133)), (1, .int four)]) C d_Yard_addBytes_21 (k := 0) rfl (by decide) (by decide) rfl ?_
          refine wm_goto (tgt := 3) C d_Yard_addBytes_24 (by decide) ?_
          refine wm_iload_n C d_Yard_addBytes_3 rfl (j := 0) rfl ?_
          refine wm_if_lt (tgt := 27) C d_Yard_addBytes_4 (by decide) (fun (h_4_5 : (-8) < 0) => ?_) (fun (h_4_5 : ¬ (-8) < 0) => ?_)
          · refine wm_vret C P d_Yard_addBytes_27 ?_
            have e : cy_Yard_addBytes s four = (cy_radd (cy_radd (cy_radd (cy_radd s 0 (((four.toUInt32 >>> ((24 : Int32).toUInt32 &&& Int32.toUInt32 31)).toInt32) &&& 255)) 0 (((four.toUInt32 >>> ((16 : Int32).toUInt32 &&& Int32.toUInt32 31)).toInt32) &&& 255)) 0 (((four.toUInt32 >>> ((8 : Int32).toUInt32 &&& Int32.toUInt32 31)).toInt32) &&& 255)) 0 (((four.toUInt32 >>> ((0 : Int32).toUInt32 &&& Int32.toUInt32 31)).toInt32) &&& 255)) := by rw [cy_Yard_addBytes]
            rw [e] at h
            exact h _ hR4
          · exact absurd h_4_5 (by decide)
def cy_Yard_feed (s : cy_S) (a : Int32) (b : Int32) (c : Int32) (d : Int32) (e : Int32) : Int32 × cy_S :=
  if ((nI (s.1 0).length) + 20) ≤ 300 then
    (nI ((cy_Yard_addBytes (cy_Yard_addBytes (cy_Yard_addBytes (cy_Yard_addBytes (cy_Yard_addBytes s a) b) c) d) e).1 0).length, (cy_Yard_addBytes (cy_Yard_addBytes (cy_Yard_addBytes (cy_Yard_addBytes (cy_Yard_addBytes s a) b) c) d) e))
  else
    ((-1), s)
set_option maxHeartbeats 4000000 in
theorem c_Yard_feed {G : cy_G} {E : cy_E} {s : cy_S} {M : cy_Hp} {post : Option Value → cy_Hp → Prop} (hE : cy_Eo G E) (hR : cy_R E s M)  (a : Int32) (b : Int32) (c : Int32) (d : Int32) (e : Int32) (h : ∀ M', cy_R E (cy_Yard_feed s a b c d e).2 M' → post (some (.int (cy_Yard_feed s a b c d e).1)) M') : cy_Ct G 2 m_Yard_feed [.ref (E.2.2.1 133), .int a, .int b, .int c, .int d, .int e] M 0 0 post := by
  refine cy_Ct.of (by decide) (Nat.le_of_ble_eq_true rfl) ?_
  intro F C P _
  have C : cy_C G F R_Yard b_Yard_feed 6 2 0 0 := C
  have P : cy_P G F (some .int) post 0 0 := P
  show WM G F 6 0 0 0 [(0, .ref (E.2.2.1 133)), (1, .int a), (2, .int b), (3, .int c), (4, .int d), (5, .int e)] [] M
  refine wm_aload_n C d_Yard_feed_0 rfl (j := 0) rfl ?_
  refine wm_get C co_Yard (rp_yard hR) 0 (by decide) fl_Yard_14 rfl d_Yard_feed_1 ?_
  refine wm_getN C co_Row (rp_row hR (by decide)) 1 (by decide) fl_Yard_41 rfl d_Yard_feed_4 ?_
  refine wm_bipush (v := 20) C d_Yard_feed_7 (by decide) ?_
  refine wm_iadd C d_Yard_feed_9 ?_
  refine wm_sipush (v := 300) C d_Yard_feed_10 (by decide) ?_
  refine wm_icmp_le (tgt := 18) C d_Yard_feed_13 (by decide) (fun (h_13 : ((nI (s.1 0).length) + 20) ≤ 300) => ?_) (fun (h_13 : ¬ ((nI (s.1 0).length) + 20) ≤ 300) => ?_)
  · refine wm_aload_n C d_Yard_feed_18 rfl (j := 0) rfl ?_
    refine wm_iload_n C d_Yard_feed_19 rfl (j := 1) rfl ?_
    refine wm_callV (d2 := 1) (mc := 0) (ms := 0) C mo_Yard_addBytes co_Yard ml_Yard_45 [.int a] [] rfl (rp_yard hR) rfl (by decide) (Nat.le_of_ble_eq_true rfl) (Nat.le_refl _) (Nat.le_refl _) d_Yard_feed_20 (cy_kv ?_)
    refine c_Yard_addBytes hE hR  _ (fun M1 hR1 => ⟨rfl, ?_⟩)
    refine wm_aload_n C d_Yard_feed_23 rfl (j := 0) rfl ?_
    refine wm_iload_n C d_Yard_feed_24 rfl (j := 2) rfl ?_
    refine wm_callV (d2 := 1) (mc := 0) (ms := 0) C mo_Yard_addBytes co_Yard ml_Yard_45 [.int b] [] rfl (rp_yard hR1) rfl (by decide) (Nat.le_of_ble_eq_true rfl) (Nat.le_refl _) (Nat.le_refl _) d_Yard_feed_25 (cy_kv ?_)
    refine c_Yard_addBytes hE hR1  _ (fun M2 hR2 => ⟨rfl, ?_⟩)
    refine wm_aload_n C d_Yard_feed_28 rfl (j := 0) rfl ?_
    refine wm_iload_n C d_Yard_feed_29 rfl (j := 3) rfl ?_
    refine wm_callV (d2 := 1) (mc := 0) (ms := 0) C mo_Yard_addBytes co_Yard ml_Yard_45 [.int c] [] rfl (rp_yard hR2) rfl (by decide) (Nat.le_of_ble_eq_true rfl) (Nat.le_refl _) (Nat.le_refl _) d_Yard_feed_30 (cy_kv ?_)
    refine c_Yard_addBytes hE hR2  _ (fun M3 hR3 => ⟨rfl, ?_⟩)
    refine wm_aload_n C d_Yard_feed_33 rfl (j := 0) rfl ?_
    refine wm_iload C d_Yard_feed_34 (j := 4) rfl ?_
    refine wm_callV (d2 := 1) (mc := 0) (ms := 0) C mo_Yard_addBytes co_Yard ml_Yard_45 [.int d] [] rfl (rp_yard hR3) rfl (by decide) (Nat.le_of_ble_eq_true rfl) (Nat.le_refl _) (Nat.le_refl _) d_Yard_feed_36 (cy_kv ?_)
    refine c_Yard_addBytes hE hR3  _ (fun M4 hR4 => ⟨rfl, ?_⟩)
    refine wm_aload_n C d_Yard_feed_39 rfl (j := 0) rfl ?_
    refine wm_iload C d_Yard_feed_40 (j := 5) rfl ?_
    refine wm_callV (d2 := 1) (mc := 0) (ms := 0) C mo_Yard_addBytes co_Yard ml_Yard_45 [.int e] [] rfl (rp_yard hR4) rfl (by decide) (Nat.le_of_ble_eq_true rfl) (Nat.le_refl _) (Nat.le_refl _) d_Yard_feed_42 (cy_kv ?_)
    refine c_Yard_addBytes hE hR4  _ (fun M5 hR5 => ⟨rfl, ?_⟩)
    refine wm_aload_n C d_Yard_feed_45 rfl (j := 0) rfl ?_
    refine wm_get C co_Yard (rp_yard hR5) 0 (by decide) fl_Yard_14 rfl d_Yard_feed_46 ?_
    refine wm_getN C co_Row (rp_row hR5 (by decide)) 1 (by decide) fl_Yard_41 rfl d_Yard_feed_49 ?_
    refine wm_iret C P d_Yard_feed_52 ?_
    have e : cy_Yard_feed s a b c d e = (nI ((cy_Yard_addBytes (cy_Yard_addBytes (cy_Yard_addBytes (cy_Yard_addBytes (cy_Yard_addBytes s a) b) c) d) e).1 0).length, (cy_Yard_addBytes (cy_Yard_addBytes (cy_Yard_addBytes (cy_Yard_addBytes (cy_Yard_addBytes s a) b) c) d) e)) := by rw [cy_Yard_feed, if_pos h_13]
    rw [e] at h
    exact h _ hR5
  · refine wm_iconst (v := -1) C d_Yard_feed_16 (by decide) ?_
    refine wm_iret C P d_Yard_feed_17 ?_
    have e : cy_Yard_feed s a b c d e = ((-1), s) := by rw [cy_Yard_feed, if_neg h_13]
    rw [e] at h
    exact h _ hR
def cy_Yard_end (s : cy_S) (n : Int32) : Int32 × cy_S :=
  if n < 0 then
    ((-1), s)
  else
    if n ≤ (nI (s.1 0).length) then
      (n, (cy_rcut s 0 n))
    else
      ((-1), s)
set_option maxHeartbeats 4000000 in
theorem c_Yard_end {G : cy_G} {E : cy_E} {s : cy_S} {M : cy_Hp} {post : Option Value → cy_Hp → Prop} (hE : cy_Eo G E) (hR : cy_R E s M)  (n : Int32) (h : ∀ M', cy_R E (cy_Yard_end s n).2 M' → post (some (.int (cy_Yard_end s n).1)) M') : cy_Ct G 2 m_Yard_end [.ref (E.2.2.1 133), .int n] M 0 0 post := by
  refine cy_Ct.of (by decide) (Nat.le_of_ble_eq_true rfl) ?_
  intro F C P _
  have C : cy_C G F R_Yard b_Yard_end 2 2 0 0 := C
  have P : cy_P G F (some .int) post 0 0 := P
  show WM G F 2 0 0 0 [(0, .ref (E.2.2.1 133)), (1, .int n)] [] M
  refine wm_iload_n C d_Yard_end_0 rfl (j := 1) rfl ?_
  refine wm_if_lt (tgt := 15) C d_Yard_end_1 (by decide) (fun (h_1 : n < 0) => ?_) (fun (h_1 : ¬ n < 0) => ?_)
  · refine wm_iconst (v := -1) C d_Yard_end_15 (by decide) ?_
    refine wm_iret C P d_Yard_end_16 ?_
    have e : cy_Yard_end s n = ((-1), s) := by rw [cy_Yard_end, if_pos h_1]
    rw [e] at h
    exact h _ hR
  · refine wm_iload_n C d_Yard_end_4 rfl (j := 1) rfl ?_
    refine wm_aload_n C d_Yard_end_5 rfl (j := 0) rfl ?_
    refine wm_get C co_Yard (rp_yard hR) 0 (by decide) fl_Yard_14 rfl d_Yard_end_6 ?_
    refine wm_getN C co_Row (rp_row hR (by decide)) 1 (by decide) fl_Yard_41 rfl d_Yard_end_9 ?_
    refine wm_icmp_le (tgt := 17) C d_Yard_end_12 (by decide) (fun (h_12 : n ≤ (nI (s.1 0).length)) => ?_) (fun (h_12 : ¬ n ≤ (nI (s.1 0).length)) => ?_)
    · refine wm_aload_n C d_Yard_end_17 rfl (j := 0) rfl ?_
      refine wm_get C co_Yard (rp_yard hR) 0 (by decide) fl_Yard_14 rfl d_Yard_end_18 ?_
      refine wm_iload_n C d_Yard_end_21 rfl (j := 1) rfl ?_
      refine wm_callVN (d2 := 1) (mc := 0) (ms := 0) C mo_Row_shorten co_Row ml_Yard_51 [.int n] [] rfl (rp_row hR (by decide)) rfl (by decide) (Nat.le_of_ble_eq_true rfl) (Nat.le_refl _) (Nat.le_refl _) d_Yard_end_22 (cy_kv ?_)
      refine c_cut hE hR (by decide) _ (fun M1 hR1 => ⟨rfl, ?_⟩)
      refine wm_iload_n C d_Yard_end_25 rfl (j := 1) rfl ?_
      refine wm_iret C P d_Yard_end_26 ?_
      have e : cy_Yard_end s n = (n, (cy_rcut s 0 n)) := by rw [cy_Yard_end, if_neg h_1, if_pos h_12]
      rw [e] at h
      exact h _ hR1
    · refine wm_iconst (v := -1) C d_Yard_end_15 (by decide) ?_
      refine wm_iret C P d_Yard_end_16 ?_
      have e : cy_Yard_end s n = ((-1), s) := by rw [cy_Yard_end, if_neg h_1, if_neg h_12]
      rw [e] at h
      exact h _ hR
def cy_Yard_poke (s : cy_S) (i : Int32) (v : Int32) : Int32 × cy_S :=
  (cy_rat s 0 i (-1), (cy_rput s 0 i (v &&& 255)))
set_option maxHeartbeats 4000000 in
theorem c_Yard_poke {G : cy_G} {E : cy_E} {s : cy_S} {M : cy_Hp} {post : Option Value → cy_Hp → Prop} (hE : cy_Eo G E) (hR : cy_R E s M)  (i : Int32) (v : Int32) (h : ∀ M', cy_R E (cy_Yard_poke s i v).2 M' → post (some (.int (cy_Yard_poke s i v).1)) M') : cy_Ct G 1 m_Yard_poke [.ref (E.2.2.1 133), .int i, .int v] M 0 0 post := by
  refine cy_Ct.of (by decide) (Nat.le_of_ble_eq_true rfl) ?_
  intro F C P _
  have C : cy_C G F R_Yard b_Yard_poke 4 1 0 0 := C
  have P : cy_P G F (some .int) post 0 0 := P
  show WM G F 4 0 0 0 [(0, .ref (E.2.2.1 133)), (1, .int i), (2, .int v)] [] M
  refine wm_aload_n C d_Yard_poke_0 rfl (j := 0) rfl ?_
  refine wm_get C co_Yard (rp_yard hR) 0 (by decide) fl_Yard_14 rfl d_Yard_poke_1 ?_
  refine wm_iload_n C d_Yard_poke_4 rfl (j := 1) rfl ?_
  refine wm_iconst (v := -1) C d_Yard_poke_5 (by decide) ?_
  refine wm_callVN (d2 := 0) (mc := 0) (ms := 0) C mo_Row_at co_Row ml_Yard_54 [.int i, .int (-1)] [] rfl (rp_row hR (by decide)) rfl (by decide) (Nat.le_of_ble_eq_true rfl) (Nat.le_refl _) (Nat.le_refl _) d_Yard_poke_6 (cy_ki ?_)
  refine c_at hE hR (by decide) _ _ ⟨_, rfl, ?_⟩
  refine wm_istore_n (lv' := [(3, .int (cy_rat s 0 i (-1))), (0, .ref (E.2.2.1 133)), (1, .int i), (2, .int v)]) C d_Yard_poke_9 rfl (by decide) rfl ?_
  refine wm_aload_n C d_Yard_poke_10 rfl (j := 1) rfl ?_
  refine wm_get C co_Yard (rp_yard hR) 0 (by decide) fl_Yard_14 rfl d_Yard_poke_11 ?_
  refine wm_iload_n C d_Yard_poke_14 rfl (j := 2) rfl ?_
  refine wm_iload_n C d_Yard_poke_15 rfl (j := 3) rfl ?_
  refine wm_sipush (v := 255) C d_Yard_poke_16 (by decide) ?_
  refine wm_iand C d_Yard_poke_19 ?_
  refine wm_callVN (d2 := 0) (mc := 0) (ms := 0) C mo_Row_put co_Row ml_Yard_58 [.int i, .int (v &&& 255)] [] rfl (rp_row hR (by decide)) rfl (by decide) (Nat.le_of_ble_eq_true rfl) (Nat.le_refl _) (Nat.le_refl _) d_Yard_poke_20 (cy_kv ?_)
  refine c_put hE hR (by decide) _ _ (fun M1 hR1 => ⟨rfl, ?_⟩)
  refine wm_iload_n C d_Yard_poke_23 rfl (j := 0) rfl ?_
  refine wm_iret C P d_Yard_poke_24 ?_
  have e : cy_Yard_poke s i v = (cy_rat s 0 i (-1), (cy_rput s 0 i (v &&& 255))) := by rw [cy_Yard_poke]
  rw [e] at h
  exact h _ hR1
def cy_Yard_begin (s : cy_S) (k : Int32) (b : Int32) : Int32 × cy_S :=
  if cy_no s k then
    ((-1), s)
  else
    if b < 0 then
      ((-1), s)
    else
      if b < 3 then
        (1, (cy_rcut (cy_Run_start s k.toNatClampNeg b) 0 0))
      else
        ((-1), s)
set_option maxHeartbeats 4000000 in
theorem c_Yard_begin {G : cy_G} {E : cy_E} {s : cy_S} {M : cy_Hp} {post : Option Value → cy_Hp → Prop} (hE : cy_Eo G E) (hR : cy_R E s M)  (k : Int32) (b : Int32) (h : ∀ M', cy_R E (cy_Yard_begin s k b).2 M' → post (some (.int (cy_Yard_begin s k b).1)) M') : cy_Ct G 4 m_Yard_begin [.ref (E.2.2.1 133), .int k, .int b] M 0 0 post := by
  refine cy_Ct.of (by decide) (Nat.le_of_ble_eq_true rfl) ?_
  intro F C P _
  have C : cy_C G F R_Yard b_Yard_begin 4 4 0 0 := C
  have P : cy_P G F (some .int) post 0 0 := P
  show WM G F 4 0 0 0 [(0, .ref (E.2.2.1 133)), (1, .int k), (2, .int b)] [] M
  refine wm_aload_n C d_Yard_begin_0 rfl (j := 0) rfl ?_
  refine wm_get C co_Yard (rp_yard hR) 1 (by decide) fl_Yard_21 rfl d_Yard_begin_1 ?_
  refine wm_iload_n C d_Yard_begin_4 rfl (j := 1) rfl ?_
  refine wm_callVN (d2 := 1) (mc := 0) (ms := 0) C mo_Shelf_taken co_Shelf ml_Yard_86 [.int k] [] rfl (rp_shelf hR) rfl (by decide) (Nat.le_of_ble_eq_true rfl) (Nat.le_refl _) (Nat.le_refl _) d_Yard_begin_5 (cy_ki ?_)
  refine c_taken hE hR _ (fun (g_5 : cy_no s k) => ⟨_, rfl, ?_⟩) (fun (g_5 : ¬ cy_no s k) => ⟨_, rfl, ?_⟩)
  · refine wm_astore_nN (lv' := [(3, .null), (0, .ref (E.2.2.1 133)), (1, .int k), (2, .int b)]) C d_Yard_begin_8 rfl (by decide) rfl ?_
    refine wm_aload_nN C d_Yard_begin_9 rfl (j := 0) rfl ?_
    refine wm_ifnullN (tgt := 22) C d_Yard_begin_10 (by decide) ?_
    refine wm_iconst (v := -1) C d_Yard_begin_22 (by decide) ?_
    refine wm_iret C P d_Yard_begin_23 ?_
    have e : cy_Yard_begin s k b = ((-1), s) := by rw [cy_Yard_begin, if_pos g_5]
    rw [e] at h
    exact h _ hR
  · refine wm_astore_n (lv' := [(3, .ref (E.2.2.1 (116 + k.toNatClampNeg))), (0, .ref (E.2.2.1 133)), (1, .int k), (2, .int b)]) C d_Yard_begin_8 rfl (by decide) rfl ?_
    refine wm_aload_n C d_Yard_begin_9 rfl (j := 0) rfl ?_
    refine wm_ifnull C d_Yard_begin_10 ?_
    refine wm_iload_n C d_Yard_begin_13 rfl (j := 3) rfl ?_
    refine wm_if_lt (tgt := 22) C d_Yard_begin_14 (by decide) (fun (h_14 : b < 0) => ?_) (fun (h_14 : ¬ b < 0) => ?_)
    · refine wm_iconst (v := -1) C d_Yard_begin_22 (by decide) ?_
      refine wm_iret C P d_Yard_begin_23 ?_
      have e : cy_Yard_begin s k b = ((-1), s) := by rw [cy_Yard_begin, if_neg g_5, if_pos h_14]
      rw [e] at h
      exact h _ hR
    · refine wm_iload_n C d_Yard_begin_17 rfl (j := 3) rfl ?_
      refine wm_iconst (v := 3) C d_Yard_begin_18 (by decide) ?_
      refine wm_icmp_lt (tgt := 24) C d_Yard_begin_19 (by decide) (fun (h_19 : b < 3) => ?_) (fun (h_19 : ¬ b < 3) => ?_)
      · refine wm_aload_n C d_Yard_begin_24 rfl (j := 1) rfl ?_
        refine wm_get C co_Yard (rp_yard hR) 3 (by decide) fl_Yard_37 rfl d_Yard_begin_25 ?_
        refine wm_aload_n C d_Yard_begin_28 rfl (j := 0) rfl ?_
        refine wm_iload_n C d_Yard_begin_29 rfl (j := 3) rfl ?_
        refine wm_aload_n C d_Yard_begin_30 rfl (j := 1) rfl ?_
        refine wm_get C co_Yard (rp_yard hR) 0 (by decide) fl_Yard_14 rfl d_Yard_begin_31 ?_
        refine wm_callVN (d2 := 3) (mc := 0) (ms := 0) C mo_Run_start co_Run ml_Yard_89 [.ref (E.2.2.1 (116 + k.toNatClampNeg)), .int b, .ref (E.2.2.1 (2 * 0))] [] rfl (rp_run hR) rfl (by decide) (Nat.le_of_ble_eq_true rfl) (Nat.le_refl _) (Nat.le_refl _) d_Yard_begin_34 (cy_kv ?_)
        refine c_Run_start hE hR (cy_no_lt g_5) _ (fun M1 hR1 => ⟨rfl, ?_⟩)
        refine wm_aload_n C d_Yard_begin_37 rfl (j := 1) rfl ?_
        refine wm_get C co_Yard (rp_yard hR1) 0 (by decide) fl_Yard_14 rfl d_Yard_begin_38 ?_
        refine wm_iconst (v := 0) C d_Yard_begin_41 (by decide) ?_
        refine wm_callVN (d2 := 1) (mc := 0) (ms := 0) C mo_Row_shorten co_Row ml_Yard_51 [.int 0] [] rfl (rp_row hR1 (by decide)) rfl (by decide) (Nat.le_of_ble_eq_true rfl) (Nat.le_refl _) (Nat.le_refl _) d_Yard_begin_42 (cy_kv ?_)
        refine c_cut hE hR1 (by decide) _ (fun M2 hR2 => ⟨rfl, ?_⟩)
        refine wm_iconst (v := 1) C d_Yard_begin_45 (by decide) ?_
        refine wm_iret C P d_Yard_begin_46 ?_
        have e : cy_Yard_begin s k b = (1, (cy_rcut (cy_Run_start s k.toNatClampNeg b) 0 0)) := by rw [cy_Yard_begin, if_neg g_5, if_neg h_14, if_pos h_19]
        rw [e] at h
        exact h _ hR2
      · refine wm_iconst (v := -1) C d_Yard_begin_22 (by decide) ?_
        refine wm_iret C P d_Yard_begin_23 ?_
        have e : cy_Yard_begin s k b = ((-1), s) := by rw [cy_Yard_begin, if_neg g_5, if_neg h_14, if_neg h_19]
        rw [e] at h
        exact h _ hR
def cy_Yard_state (s : cy_S) (what : Int32) : Int32 :=
  cy_Run_tell s what
set_option maxHeartbeats 4000000 in
theorem c_Yard_state {G : cy_G} {E : cy_E} {s : cy_S} {M : cy_Hp} {post : Option Value → cy_Hp → Prop} (hE : cy_Eo G E) (hR : cy_R E s M)  (what : Int32) (h : post (some (.int (cy_Yard_state s what))) M) : cy_Ct G 1 m_Yard_state [.ref (E.2.2.1 133), .int what] M 0 0 post := by
  refine cy_Ct.of (by decide) (Nat.le_of_ble_eq_true rfl) ?_
  intro F C P _
  have C : cy_C G F R_Yard b_Yard_state 2 1 0 0 := C
  have P : cy_P G F (some .int) post 0 0 := P
  show WM G F 2 0 0 0 [(0, .ref (E.2.2.1 133)), (1, .int what)] [] M
  refine wm_aload_n C d_Yard_state_0 rfl (j := 0) rfl ?_
  refine wm_get C co_Yard (rp_yard hR) 3 (by decide) fl_Yard_37 rfl d_Yard_state_1 ?_
  refine wm_iload_n C d_Yard_state_4 rfl (j := 1) rfl ?_
  refine wm_callVN (d2 := 0) (mc := 0) (ms := 0) C mo_Run_tell co_Run ml_Yard_97 [.int what] [] rfl (rp_run hR) rfl (by decide) (Nat.le_of_ble_eq_true rfl) (Nat.le_refl _) (Nat.le_refl _) d_Yard_state_5 (cy_ki ?_)
  refine c_Run_tell hE hR  _ ⟨_, rfl, ?_⟩
  refine wm_iret C P d_Yard_state_8 ?_
  have e : cy_Yard_state s what = cy_Run_tell s what := by rw [cy_Yard_state]
  rw [e] at h
  exact h
def cy_Yard_stack (s : cy_S) (i : Int32) : Int32 :=
  if (cy_Run_isHeld s) = 0 then
    0
  else
    cy_rat s (42 + 2 * s.2.2.1.1) i 0
set_option maxHeartbeats 4000000 in
theorem c_Yard_stack {G : cy_G} {E : cy_E} {s : cy_S} {M : cy_Hp} {post : Option Value → cy_Hp → Prop} (hE : cy_Eo G E) (hR : cy_R E s M)  (i : Int32) (h : post (some (.int (cy_Yard_stack s i))) M) : cy_Ct G 1 m_Yard_stack [.ref (E.2.2.1 133), .int i] M 0 0 post := by
  refine cy_Ct.of (by decide) (Nat.le_of_ble_eq_true rfl) ?_
  intro F C P _
  have C : cy_C G F R_Yard b_Yard_stack 2 1 0 0 := C
  have P : cy_P G F (some .int) post 0 0 := P
  show WM G F 2 0 0 0 [(0, .ref (E.2.2.1 133)), (1, .int i)] [] M
  refine wm_aload_n C d_Yard_stack_0 rfl (j := 0) rfl ?_
  refine wm_get C co_Yard (rp_yard hR) 3 (by decide) fl_Yard_37 rfl d_Yard_stack_1 ?_
  refine wm_callVN (d2 := 0) (mc := 0) (ms := 0) C mo_Run_isHeld co_Run ml_Yard_66 [] [] rfl (rp_run hR) rfl (by decide) (Nat.le_of_ble_eq_true rfl) (Nat.le_refl _) (Nat.le_refl _) d_Yard_stack_4 (cy_ki ?_)
  refine c_Run_isHeld hE hR   ⟨_, rfl, ?_⟩
  refine wm_if_eq (tgt := 28) C d_Yard_stack_7 (by decide) (fun (h_7 : (cy_Run_isHeld s) = 0) => ?_) (fun (h_7 : ¬ (cy_Run_isHeld s) = 0) => ?_)
  · refine wm_iconst (v := 0) C d_Yard_stack_28 (by decide) ?_
    refine wm_iret C P d_Yard_stack_29 ?_
    have e : cy_Yard_stack s i = 0 := by rw [cy_Yard_stack, if_pos h_7]
    rw [e] at h
    exact h
  · refine wm_aload_n C d_Yard_stack_10 rfl (j := 0) rfl ?_
    refine wm_get C co_Yard (rp_yard hR) 3 (by decide) fl_Yard_37 rfl d_Yard_stack_11 ?_
    refine wm_getN C co_Run (rp_run hR) 4 (by decide) fl_Yard_100 rfl d_Yard_stack_14 ?_
    refine wm_getN C co_Frame (rp_frame hR (rp_work (s := s) hR)) 3 (by decide) fl_Yard_104 rfl d_Yard_stack_17 ?_
    refine wm_iload_n C d_Yard_stack_20 rfl (j := 1) rfl ?_
    refine wm_iconst (v := 0) C d_Yard_stack_21 (by decide) ?_
    refine wm_callVN (d2 := 0) (mc := 0) (ms := 0) C mo_Row_at co_Row ml_Yard_54 [.int i, .int 0] [] rfl (rp_row hR (rb42 (rp_work (s := s) hR))) rfl (by decide) (Nat.le_of_ble_eq_true rfl) (Nat.le_refl _) (Nat.le_refl _) d_Yard_stack_22 (cy_ki ?_)
    refine c_at hE hR (rb42 (rp_work (s := s) hR)) _ _ ⟨_, rfl, ?_⟩
    refine wm_goto (tgt := 29) C d_Yard_stack_25 (by decide) ?_
    refine wm_iret C P d_Yard_stack_29 ?_
    have e : cy_Yard_stack s i = cy_rat s (42 + 2 * s.2.2.1.1) i 0 := by rw [cy_Yard_stack, if_neg h_7]
    rw [e] at h
    exact h
def cy_Yard_local (s : cy_S) (i : Int32) : Int32 :=
  if (cy_Run_isHeld s) = 0 then
    0
  else
    cy_rat s (43 + 2 * s.2.2.1.1) i 0
set_option maxHeartbeats 4000000 in
theorem c_Yard_local {G : cy_G} {E : cy_E} {s : cy_S} {M : cy_Hp} {post : Option Value → cy_Hp → Prop} (hE : cy_Eo G E) (hR : cy_R E s M)  (i : Int32) (h : post (some (.int (cy_Yard_local s i))) M) : cy_Ct G 1 m_Yard_local [.ref (E.2.2.1 133), .int i] M 0 0 post := by
  refine cy_Ct.of (by decide) (Nat.le_of_ble_eq_true rfl) ?_
  intro F C P _
  have C : cy_C G F R_Yard b_Yard_local 2 1 0 0 := C
  have P : cy_P G F (some .int) post 0 0 := P
  show WM G F 2 0 0 0 [(0, .ref (E.2.2.1 133)), (1, .int i)] [] M
  refine wm_aload_n C d_Yard_local_0 rfl (j := 0) rfl ?_
  refine wm_get C co_Yard (rp_yard hR) 3 (by decide) fl_Yard_37 rfl d_Yard_local_1 ?_
  refine wm_callVN (d2 := 0) (mc := 0) (ms := 0) C mo_Run_isHeld co_Run ml_Yard_66 [] [] rfl (rp_run hR) rfl (by decide) (Nat.le_of_ble_eq_true rfl) (Nat.le_refl _) (Nat.le_refl _) d_Yard_local_4 (cy_ki ?_)
  refine c_Run_isHeld hE hR   ⟨_, rfl, ?_⟩
  refine wm_if_eq (tgt := 28) C d_Yard_local_7 (by decide) (fun (h_7 : (cy_Run_isHeld s) = 0) => ?_) (fun (h_7 : ¬ (cy_Run_isHeld s) = 0) => ?_)
  · refine wm_iconst (v := 0) C d_Yard_local_28 (by decide) ?_
    refine wm_iret C P d_Yard_local_29 ?_
    have e : cy_Yard_local s i = 0 := by rw [cy_Yard_local, if_pos h_7]
    rw [e] at h
    exact h
  · refine wm_aload_n C d_Yard_local_10 rfl (j := 0) rfl ?_
    refine wm_get C co_Yard (rp_yard hR) 3 (by decide) fl_Yard_37 rfl d_Yard_local_11 ?_
    refine wm_getN C co_Run (rp_run hR) 4 (by decide) fl_Yard_100 rfl d_Yard_local_14 ?_
    refine wm_getN C co_Frame (rp_frame hR (rp_work (s := s) hR)) 4 (by decide) fl_Yard_109 rfl d_Yard_local_17 ?_
    refine wm_iload_n C d_Yard_local_20 rfl (j := 1) rfl ?_
    refine wm_iconst (v := 0) C d_Yard_local_21 (by decide) ?_
    refine wm_callVN (d2 := 0) (mc := 0) (ms := 0) C mo_Row_at co_Row ml_Yard_54 [.int i, .int 0] [] rfl (rp_row hR (rb43 (rp_work (s := s) hR))) rfl (by decide) (Nat.le_of_ble_eq_true rfl) (Nat.le_refl _) (Nat.le_refl _) d_Yard_local_22 (cy_ki ?_)
    refine c_at hE hR (rb43 (rp_work (s := s) hR)) _ _ ⟨_, rfl, ?_⟩
    refine wm_goto (tgt := 29) C d_Yard_local_25 (by decide) ?_
    refine wm_iret C P d_Yard_local_29 ?_
    have e : cy_Yard_local s i = cy_rat s (43 + 2 * s.2.2.1.1) i 0 := by rw [cy_Yard_local, if_neg h_7]
    rw [e] at h
    exact h
def cy_Yard_cell (s : cy_S) (k : Int32) (i : Int32) : Int32 :=
  if cy_no s k then
    0
  else
    cy_rat s (8 + 4 * k.toNatClampNeg) i 0
set_option maxHeartbeats 4000000 in
theorem c_Yard_cell {G : cy_G} {E : cy_E} {s : cy_S} {M : cy_Hp} {post : Option Value → cy_Hp → Prop} (hE : cy_Eo G E) (hR : cy_R E s M)  (k : Int32) (i : Int32) (h : post (some (.int (cy_Yard_cell s k i))) M) : cy_Ct G 3 m_Yard_cell [.ref (E.2.2.1 133), .int k, .int i] M 0 0 post := by
  refine cy_Ct.of (by decide) (Nat.le_of_ble_eq_true rfl) ?_
  intro F C P _
  have C : cy_C G F R_Yard b_Yard_cell 4 3 0 0 := C
  have P : cy_P G F (some .int) post 0 0 := P
  show WM G F 4 0 0 0 [(0, .ref (E.2.2.1 133)), (1, .int k), (2, .int i)] [] M
  refine wm_aload_n C d_Yard_cell_0 rfl (j := 0) rfl ?_
  refine wm_get C co_Yard (rp_yard hR) 1 (by decide) fl_Yard_21 rfl d_Yard_cell_1 ?_
  refine wm_iload_n C d_Yard_cell_4 rfl (j := 1) rfl ?_
  refine wm_callVN (d2 := 1) (mc := 0) (ms := 0) C mo_Shelf_taken co_Shelf ml_Yard_86 [.int k] [] rfl (rp_shelf hR) rfl (by decide) (Nat.le_of_ble_eq_true rfl) (Nat.le_refl _) (Nat.le_refl _) d_Yard_cell_5 (cy_ki ?_)
  refine c_taken hE hR _ (fun (g_5 : cy_no s k) => ⟨_, rfl, ?_⟩) (fun (g_5 : ¬ cy_no s k) => ⟨_, rfl, ?_⟩)
  · refine wm_astore_nN (lv' := [(3, .null), (0, .ref (E.2.2.1 133)), (1, .int k), (2, .int i)]) C d_Yard_cell_8 rfl (by decide) rfl ?_
    refine wm_aload_nN C d_Yard_cell_9 rfl (j := 0) rfl ?_
    refine wm_ifnonnullN C d_Yard_cell_10 ?_
    refine wm_iconst (v := 0) C d_Yard_cell_13 (by decide) ?_
    refine wm_goto (tgt := 26) C d_Yard_cell_14 (by decide) ?_
    refine wm_iret C P d_Yard_cell_26 ?_
    have e : cy_Yard_cell s k i = 0 := by rw [cy_Yard_cell, if_pos g_5]
    rw [e] at h
    exact h
  · refine wm_astore_n (lv' := [(3, .ref (E.2.2.1 (116 + k.toNatClampNeg))), (0, .ref (E.2.2.1 133)), (1, .int k), (2, .int i)]) C d_Yard_cell_8 rfl (by decide) rfl ?_
    refine wm_aload_n C d_Yard_cell_9 rfl (j := 0) rfl ?_
    refine wm_ifnonnull (tgt := 17) C d_Yard_cell_10 (by decide) ?_
    refine wm_aload_n C d_Yard_cell_17 rfl (j := 0) rfl ?_
    refine wm_getN C co_Code (rp_code hR (cy_no_lt g_5)) 3 (by decide) fl_Yard_112 rfl d_Yard_cell_18 ?_
    refine wm_iload_n C d_Yard_cell_21 rfl (j := 3) rfl ?_
    refine wm_iconst (v := 0) C d_Yard_cell_22 (by decide) ?_
    refine wm_callVN (d2 := 0) (mc := 0) (ms := 0) C mo_Row_at co_Row ml_Yard_54 [.int i, .int 0] [] rfl (rp_row hR (rb8 (cy_no_lt g_5))) rfl (by decide) (Nat.le_of_ble_eq_true rfl) (Nat.le_refl _) (Nat.le_refl _) d_Yard_cell_23 (cy_ki ?_)
    refine c_at hE hR (rb8 (cy_no_lt g_5)) _ _ ⟨_, rfl, ?_⟩
    refine wm_iret C P d_Yard_cell_26 ?_
    have e : cy_Yard_cell s k i = cy_rat s (8 + 4 * k.toNatClampNeg) i 0 := by rw [cy_Yard_cell, if_neg g_5]
    rw [e] at h
    exact h
def cy_Yard_out (s : cy_S) (i : Int32) : Int32 :=
  cy_rat s 5 i (-1)
set_option maxHeartbeats 4000000 in
theorem c_Yard_out {G : cy_G} {E : cy_E} {s : cy_S} {M : cy_Hp} {post : Option Value → cy_Hp → Prop} (hE : cy_Eo G E) (hR : cy_R E s M)  (i : Int32) (h : post (some (.int (cy_Yard_out s i))) M) : cy_Ct G 1 m_Yard_out [.ref (E.2.2.1 133), .int i] M 0 0 post := by
  refine cy_Ct.of (by decide) (Nat.le_of_ble_eq_true rfl) ?_
  intro F C P _
  have C : cy_C G F R_Yard b_Yard_out 2 1 0 0 := C
  have P : cy_P G F (some .int) post 0 0 := P
  show WM G F 2 0 0 0 [(0, .ref (E.2.2.1 133)), (1, .int i)] [] M
  refine wm_aload_n C d_Yard_out_0 rfl (j := 0) rfl ?_
  refine wm_get C co_Yard (rp_yard hR) 3 (by decide) fl_Yard_37 rfl d_Yard_out_1 ?_
  refine wm_getN C co_Run (rp_run hR) 3 (by decide) fl_Yard_115 rfl d_Yard_out_4 ?_
  refine wm_iload_n C d_Yard_out_7 rfl (j := 1) rfl ?_
  refine wm_iconst (v := -1) C d_Yard_out_8 (by decide) ?_
  refine wm_callVN (d2 := 0) (mc := 0) (ms := 0) C mo_Row_at co_Row ml_Yard_54 [.int i, .int (-1)] [] rfl (rp_row hR (by decide)) rfl (by decide) (Nat.le_of_ble_eq_true rfl) (Nat.le_refl _) (Nat.le_refl _) d_Yard_out_9 (cy_ki ?_)
  refine c_at hE hR (by decide) _ _ ⟨_, rfl, ?_⟩
  refine wm_iret C P d_Yard_out_12 ?_
  have e : cy_Yard_out s i = cy_rat s 5 i (-1) := by rw [cy_Yard_out]
  rw [e] at h
  exact h
def cy_Yard_height (s : cy_S) (k : Int32) (p : Int32) : Int32 :=
  if cy_no s k then
    (-1)
  else
    cy_rat s (7 + 4 * k.toNatClampNeg) p (-1)
set_option maxHeartbeats 4000000 in
theorem c_Yard_height {G : cy_G} {E : cy_E} {s : cy_S} {M : cy_Hp} {post : Option Value → cy_Hp → Prop} (hE : cy_Eo G E) (hR : cy_R E s M)  (k : Int32) (p : Int32) (h : post (some (.int (cy_Yard_height s k p))) M) : cy_Ct G 3 m_Yard_height [.ref (E.2.2.1 133), .int k, .int p] M 0 0 post := by
  refine cy_Ct.of (by decide) (Nat.le_of_ble_eq_true rfl) ?_
  intro F C P _
  have C : cy_C G F R_Yard b_Yard_height 4 3 0 0 := C
  have P : cy_P G F (some .int) post 0 0 := P
  show WM G F 4 0 0 0 [(0, .ref (E.2.2.1 133)), (1, .int k), (2, .int p)] [] M
  refine wm_aload_n C d_Yard_height_0 rfl (j := 0) rfl ?_
  refine wm_get C co_Yard (rp_yard hR) 1 (by decide) fl_Yard_21 rfl d_Yard_height_1 ?_
  refine wm_iload_n C d_Yard_height_4 rfl (j := 1) rfl ?_
  refine wm_callVN (d2 := 1) (mc := 0) (ms := 0) C mo_Shelf_taken co_Shelf ml_Yard_86 [.int k] [] rfl (rp_shelf hR) rfl (by decide) (Nat.le_of_ble_eq_true rfl) (Nat.le_refl _) (Nat.le_refl _) d_Yard_height_5 (cy_ki ?_)
  refine c_taken hE hR _ (fun (g_5 : cy_no s k) => ⟨_, rfl, ?_⟩) (fun (g_5 : ¬ cy_no s k) => ⟨_, rfl, ?_⟩)
  · refine wm_astore_nN (lv' := [(3, .null), (0, .ref (E.2.2.1 133)), (1, .int k), (2, .int p)]) C d_Yard_height_8 rfl (by decide) rfl ?_
    refine wm_aload_nN C d_Yard_height_9 rfl (j := 0) rfl ?_
    refine wm_ifnonnullN C d_Yard_height_10 ?_
    refine wm_iconst (v := -1) C d_Yard_height_13 (by decide) ?_
    refine wm_goto (tgt := 26) C d_Yard_height_14 (by decide) ?_
    refine wm_iret C P d_Yard_height_26 ?_
    have e : cy_Yard_height s k p = (-1) := by rw [cy_Yard_height, if_pos g_5]
    rw [e] at h
    exact h
  · refine wm_astore_n (lv' := [(3, .ref (E.2.2.1 (116 + k.toNatClampNeg))), (0, .ref (E.2.2.1 133)), (1, .int k), (2, .int p)]) C d_Yard_height_8 rfl (by decide) rfl ?_
    refine wm_aload_n C d_Yard_height_9 rfl (j := 0) rfl ?_
    refine wm_ifnonnull (tgt := 17) C d_Yard_height_10 (by decide) ?_
    refine wm_aload_n C d_Yard_height_17 rfl (j := 0) rfl ?_
    refine wm_getN C co_Code (rp_code hR (cy_no_lt g_5)) 2 (by decide) fl_Yard_118 rfl d_Yard_height_18 ?_
    refine wm_iload_n C d_Yard_height_21 rfl (j := 3) rfl ?_
    refine wm_iconst (v := -1) C d_Yard_height_22 (by decide) ?_
    refine wm_callVN (d2 := 0) (mc := 0) (ms := 0) C mo_Row_at co_Row ml_Yard_54 [.int p, .int (-1)] [] rfl (rp_row hR (rb7 (cy_no_lt g_5))) rfl (by decide) (Nat.le_of_ble_eq_true rfl) (Nat.le_refl _) (Nat.le_refl _) d_Yard_height_23 (cy_ki ?_)
    refine c_at hE hR (rb7 (cy_no_lt g_5)) _ _ ⟨_, rfl, ?_⟩
    refine wm_iret C P d_Yard_height_26 ?_
    have e : cy_Yard_height s k p = cy_rat s (7 + 4 * k.toNatClampNeg) p (-1) := by rw [cy_Yard_height, if_neg g_5]
    rw [e] at h
    exact h
def cy_Yard_size (s : cy_S) (k : Int32) : Int32 :=
  if cy_no s k then
    (-1)
  else
    nI (s.1 (6 + 4 * k.toNatClampNeg)).length
set_option maxHeartbeats 4000000 in
theorem c_Yard_size {G : cy_G} {E : cy_E} {s : cy_S} {M : cy_Hp} {post : Option Value → cy_Hp → Prop} (hE : cy_Eo G E) (hR : cy_R E s M)  (k : Int32) (h : post (some (.int (cy_Yard_size s k))) M) : cy_Ct G 3 m_Yard_size [.ref (E.2.2.1 133), .int k] M 0 0 post := by
  refine cy_Ct.of (by decide) (Nat.le_of_ble_eq_true rfl) ?_
  intro F C P _
  have C : cy_C G F R_Yard b_Yard_size 3 3 0 0 := C
  have P : cy_P G F (some .int) post 0 0 := P
  show WM G F 3 0 0 0 [(0, .ref (E.2.2.1 133)), (1, .int k)] [] M
  refine wm_aload_n C d_Yard_size_0 rfl (j := 0) rfl ?_
  refine wm_get C co_Yard (rp_yard hR) 1 (by decide) fl_Yard_21 rfl d_Yard_size_1 ?_
  refine wm_iload_n C d_Yard_size_4 rfl (j := 1) rfl ?_
  refine wm_callVN (d2 := 1) (mc := 0) (ms := 0) C mo_Shelf_taken co_Shelf ml_Yard_86 [.int k] [] rfl (rp_shelf hR) rfl (by decide) (Nat.le_of_ble_eq_true rfl) (Nat.le_refl _) (Nat.le_refl _) d_Yard_size_5 (cy_ki ?_)
  refine c_taken hE hR _ (fun (g_5 : cy_no s k) => ⟨_, rfl, ?_⟩) (fun (g_5 : ¬ cy_no s k) => ⟨_, rfl, ?_⟩)
  · refine wm_astore_nN (lv' := [(2, .null), (0, .ref (E.2.2.1 133)), (1, .int k)]) C d_Yard_size_8 rfl (by decide) rfl ?_
    refine wm_aload_nN C d_Yard_size_9 rfl (j := 0) rfl ?_
    refine wm_ifnonnullN C d_Yard_size_10 ?_
    refine wm_iconst (v := -1) C d_Yard_size_13 (by decide) ?_
    refine wm_goto (tgt := 24) C d_Yard_size_14 (by decide) ?_
    refine wm_iret C P d_Yard_size_24 ?_
    have e : cy_Yard_size s k = (-1) := by rw [cy_Yard_size, if_pos g_5]
    rw [e] at h
    exact h
  · refine wm_astore_n (lv' := [(2, .ref (E.2.2.1 (116 + k.toNatClampNeg))), (0, .ref (E.2.2.1 133)), (1, .int k)]) C d_Yard_size_8 rfl (by decide) rfl ?_
    refine wm_aload_n C d_Yard_size_9 rfl (j := 0) rfl ?_
    refine wm_ifnonnull (tgt := 17) C d_Yard_size_10 (by decide) ?_
    refine wm_aload_n C d_Yard_size_17 rfl (j := 0) rfl ?_
    refine wm_getN C co_Code (rp_code hR (cy_no_lt g_5)) 1 (by decide) fl_Yard_119 rfl d_Yard_size_18 ?_
    refine wm_getN C co_Row (rp_row hR (rb6 (cy_no_lt g_5))) 1 (by decide) fl_Yard_41 rfl d_Yard_size_21 ?_
    refine wm_iret C P d_Yard_size_24 ?_
    have e : cy_Yard_size s k = nI (s.1 (6 + 4 * k.toNatClampNeg)).length := by rw [cy_Yard_size, if_neg g_5]
    rw [e] at h
    exact h
end
section
theorem cy_n0 {n p : Int32} (h : n.toInt ≤ p.toInt + ((0 : Nat) : Int)) : n ≤ p := by
  rw [Int32.le_iff_toInt_le]; omega
theorem cy_inc {n p : Int32} (h : ¬ n ≤ p) : (p + 1).toInt = p.toInt + 1 := by
  rw [Int32.le_iff_toInt_le] at h
  have h1 := n.toInt_lt
  have h2 := p.le_toInt
  rw [Int32.toInt_add, show (1 : Int32).toInt = 1 from rfl]
  exact Int.bmod_eq_of_le (by omega) (by omega)
theorem cy_n1 {n p : Int32} {q : Nat} (h : n.toInt ≤ p.toInt + ((q + 1 : Nat) : Int)) (h2 : ¬ n ≤ p) : n.toInt ≤ (p + 1).toInt + (q : Int) := by
  rw [cy_inc h2]; omega
theorem cy_n2 {n p : Int32} {q : Nat} (hn : n.toInt < 2 ^ 31 - 1) (h : n.toInt ≤ p.toInt + ((q + 1 : Nat) : Int)) (h2 : ¬ n ≤ p) : n.toInt ≤ (p + 1 + 1).toInt + (q : Int) := by
  have e1 := cy_inc h2
  have h3 := h2
  rw [Int32.le_iff_toInt_le] at h3
  have h4 := p.le_toInt
  have e2 : (p + 1 + 1).toInt = p.toInt + 2 := by
    rw [Int32.toInt_add, e1, show (1 : Int32).toInt = 1 from rfl]
    rw [Int.bmod_eq_of_le (by omega) (by omega)]
    omega
  rw [e2]; omega
theorem cy_fuel (n p : Int32) : n.toInt ≤ p.toInt + (((n.toInt - p.toInt).toNat : Nat) : Int) := by omega
def cy_Survey_clear (s : cy_S) (n : Int32) : cy_S :=
  (cy_s_searchFrom (cy_s_lastStart (cy_s_instructions (cy_rfill (cy_rfill (cy_rfill s 1 n 0) 2 n (-1)) 3 n 0) 0) 3) n)
set_option maxHeartbeats 4000000 in
theorem c_Survey_clear {G : cy_G} {E : cy_E} {s : cy_S} {M : cy_Hp} {post : Option Value → cy_Hp → Prop} (hE : cy_Eo G E) (hR : cy_R E s M)  (n : Int32) (h : ∀ M', cy_R E (cy_Survey_clear s n) M' → post none M') : cy_Ct G 2 m_Survey_clear [.ref (E.2.2.1 135), .int n] M 0 0 post := by
  refine cy_Ct.of (by decide) (Nat.le_of_ble_eq_true rfl) ?_
  intro F C P _
  have C : cy_C G F R_Survey b_Survey_clear 2 2 0 0 := C
  have P : cy_P G F none post 0 0 := P
  show WM G F 2 0 0 0 [(0, .ref (E.2.2.1 135)), (1, .int n)] [] M
  refine wm_aload_n C d_Survey_clear_0 rfl (j := 0) rfl ?_
  refine wm_get C co_Survey (rp_survey hR) 0 (by decide) fl_Survey_14 rfl d_Survey_clear_1 ?_
  refine wm_iload_n C d_Survey_clear_4 rfl (j := 1) rfl ?_
  refine wm_iconst (v := 0) C d_Survey_clear_5 (by decide) ?_
  refine wm_callVN (d2 := 1) (mc := 0) (ms := 0) C mo_Row_become co_Row ml_Survey_47 [.int n, .int 0] [] rfl (rp_row hR (by decide)) rfl (by decide) (Nat.le_of_ble_eq_true rfl) (Nat.le_refl _) (Nat.le_refl _) d_Survey_clear_6 (cy_kv ?_)
  refine c_fill hE hR (by decide) _ _ (fun M1 hR1 => ⟨rfl, ?_⟩)
  refine wm_aload_n C d_Survey_clear_9 rfl (j := 0) rfl ?_
  refine wm_get C co_Survey (rp_survey hR1) 1 (by decide) fl_Survey_20 rfl d_Survey_clear_10 ?_
  refine wm_iload_n C d_Survey_clear_13 rfl (j := 1) rfl ?_
  refine wm_iconst (v := -1) C d_Survey_clear_14 (by decide) ?_
  refine wm_callVN (d2 := 1) (mc := 0) (ms := 0) C mo_Row_become co_Row ml_Survey_47 [.int n, .int (-1)] [] rfl (rp_row hR1 (by decide)) rfl (by decide) (Nat.le_of_ble_eq_true rfl) (Nat.le_refl _) (Nat.le_refl _) d_Survey_clear_15 (cy_kv ?_)
  refine c_fill hE hR1 (by decide) _ _ (fun M2 hR2 => ⟨rfl, ?_⟩)
  refine wm_aload_n C d_Survey_clear_18 rfl (j := 0) rfl ?_
  refine wm_get C co_Survey (rp_survey hR2) 2 (by decide) fl_Survey_23 rfl d_Survey_clear_19 ?_
  refine wm_iload_n C d_Survey_clear_22 rfl (j := 1) rfl ?_
  refine wm_iconst (v := 0) C d_Survey_clear_23 (by decide) ?_
  refine wm_callVN (d2 := 1) (mc := 0) (ms := 0) C mo_Row_become co_Row ml_Survey_47 [.int n, .int 0] [] rfl (rp_row hR2 (by decide)) rfl (by decide) (Nat.le_of_ble_eq_true rfl) (Nat.le_refl _) (Nat.le_refl _) d_Survey_clear_24 (cy_kv ?_)
  refine c_fill hE hR2 (by decide) _ _ (fun M3 hR3 => ⟨rfl, ?_⟩)
  refine wm_aload_n C d_Survey_clear_27 rfl (j := 0) rfl ?_
  refine wm_iconst (v := 0) C d_Survey_clear_28 (by decide) ?_
  refine wm_put C co_Survey (rp_survey hR3) 3 (by decide) fl_Survey_51 rfl rfl rfl (Nat.le_of_ble_eq_true rfl) d_Survey_clear_29 ?_
  refine wm_gen (rp_p_instructions hE hR3 0) (fun M4 hR4 => ?_)
  refine wm_aload_n C d_Survey_clear_32 rfl (j := 0) rfl ?_
  refine wm_iconst (v := 3) C d_Survey_clear_33 (by decide) ?_
  refine wm_put C co_Survey (rp_survey hR4) 4 (by decide) fl_Survey_54 rfl rfl rfl (Nat.le_of_ble_eq_true rfl) d_Survey_clear_34 ?_
  refine wm_gen (rp_p_lastStart hE hR4 3) (fun M5 hR5 => ?_)
  refine wm_aload_n C d_Survey_clear_37 rfl (j := 0) rfl ?_
  refine wm_iload_n C d_Survey_clear_38 rfl (j := 1) rfl ?_
  refine wm_put C co_Survey (rp_survey hR5) 5 (by decide) fl_Survey_57 rfl rfl rfl (Nat.le_of_ble_eq_true rfl) d_Survey_clear_39 ?_
  refine wm_gen (rp_p_searchFrom hE hR5 n) (fun M6 hR6 => ?_)
  refine wm_vret C P d_Survey_clear_42 ?_
  have e : cy_Survey_clear s n = (cy_s_searchFrom (cy_s_lastStart (cy_s_instructions (cy_rfill (cy_rfill (cy_rfill s 1 n 0) 2 n (-1)) 3 n 0) 0) 3) n) := by rw [cy_Survey_clear]
  rw [e] at h
  exact h _ hR6
def cy_Survey_readingFault (s : cy_S) (p : Int32) : Int32 :=
  if (cy_Yard_isInstruction (cy_rat s 0 p (-1))) = 0 then
    cy_Survey_fault 2 p
  else
    if (cy_Yard_hasOperand (cy_rat s 0 p (-1))) = 0 then
      0
    else
      if (cy_rhas s 0 (p + 1)) = 0 then
        cy_Survey_fault 3 p
      else
        if (cy_rat s 0 (p + 1) 0) ≤ (cy_Yard_operandMost (cy_rat s 0 p (-1))) then
          0
        else
          cy_Survey_fault 4 p
set_option maxHeartbeats 4000000 in
theorem c_Survey_readingFault {G : cy_G} {E : cy_E} {s : cy_S} {M : cy_Hp} {post : Option Value → cy_Hp → Prop} (hE : cy_Eo G E) (hR : cy_R E s M)  (p : Int32) (h : post (some (.int (cy_Survey_readingFault s p))) M) : cy_Ct G 3 m_Survey_readingFault [.ref (E.2.2.1 (2 * 0)), .int p] M 0 0 post := by
  refine cy_Ct.of (by decide) (Nat.le_of_ble_eq_true rfl) ?_
  intro F C P _
  have C : cy_C G F R_Survey b_Survey_readingFault 3 3 0 0 := C
  have P : cy_P G F (some .int) post 0 0 := P
  show WM G F 3 0 0 0 [(0, .ref (E.2.2.1 (2 * 0))), (1, .int p)] [] M
  refine wm_aload_n C d_Survey_readingFault_0 rfl (j := 0) rfl ?_
  refine wm_iload_n C d_Survey_readingFault_1 rfl (j := 1) rfl ?_
  refine wm_iconst (v := -1) C d_Survey_readingFault_2 (by decide) ?_
  refine wm_callVN (d2 := 0) (mc := 0) (ms := 0) C mo_Row_at co_Row ml_Survey_67 [.int p, .int (-1)] [] rfl (rp_row hR (by decide)) rfl (by decide) (Nat.le_of_ble_eq_true rfl) (Nat.le_refl _) (Nat.le_refl _) d_Survey_readingFault_3 (cy_ki ?_)
  refine c_at hE hR (by decide) _ _ ⟨_, rfl, ?_⟩
  refine wm_istore_n (lv' := [(2, .int (cy_rat s 0 p (-1))), (0, .ref (E.2.2.1 (2 * 0))), (1, .int p)]) C d_Survey_readingFault_6 rfl (by decide) rfl ?_
  refine wm_iload_n C d_Survey_readingFault_7 rfl (j := 0) rfl ?_
  refine wm_callSN (d2 := 0) (mc := 0) (ms := 0) C mo_Yard_isInstruction ml_Survey_77 [.int (cy_rat s 0 p (-1))] [] rfl rfl (by decide) (Nat.le_of_ble_eq_true rfl) (Nat.le_refl _) (Nat.le_refl _) d_Survey_readingFault_8 (cy_ki ?_)
  refine c_Yard_isInstruction hE hR  _ ⟨_, rfl, ?_⟩
  refine wm_if_ne (tgt := 20) C d_Survey_readingFault_11 (by decide) (fun (h_11 : ¬ (cy_Yard_isInstruction (cy_rat s 0 p (-1))) = 0) => ?_) (fun (h_11 : (cy_Yard_isInstruction (cy_rat s 0 p (-1))) = 0) => ?_)
  · refine wm_iload_n C d_Survey_readingFault_20 rfl (j := 0) rfl ?_
    refine wm_callSN (d2 := 2) (mc := 0) (ms := 0) C mo_Yard_hasOperand ml_Survey_70 [.int (cy_rat s 0 p (-1))] [] rfl rfl (by decide) (Nat.le_of_ble_eq_true rfl) (Nat.le_refl _) (Nat.le_refl _) d_Survey_readingFault_21 (cy_ki ?_)
    refine c_Yard_hasOperand hE hR  _ ⟨_, rfl, ?_⟩
    refine wm_if_ne (tgt := 29) C d_Survey_readingFault_24 (by decide) (fun (h_24 : ¬ (cy_Yard_hasOperand (cy_rat s 0 p (-1))) = 0) => ?_) (fun (h_24 : (cy_Yard_hasOperand (cy_rat s 0 p (-1))) = 0) => ?_)
    · refine wm_aload_n C d_Survey_readingFault_29 rfl (j := 1) rfl ?_
      refine wm_iload_n C d_Survey_readingFault_30 rfl (j := 2) rfl ?_
      refine wm_iconst (v := 1) C d_Survey_readingFault_31 (by decide) ?_
      refine wm_iadd C d_Survey_readingFault_32 ?_
      refine wm_callVN (d2 := 0) (mc := 0) (ms := 0) C mo_Row_has co_Row ml_Survey_80 [.int (p + 1)] [] rfl (rp_row hR (by decide)) rfl (by decide) (Nat.le_of_ble_eq_true rfl) (Nat.le_refl _) (Nat.le_refl _) d_Survey_readingFault_33 (cy_ki ?_)
      refine c_has hE hR (by decide) _ ⟨_, rfl, ?_⟩
      refine wm_if_ne (tgt := 45) C d_Survey_readingFault_36 (by decide) (fun (h_36 : ¬ (cy_rhas s 0 (p + 1)) = 0) => ?_) (fun (h_36 : (cy_rhas s 0 (p + 1)) = 0) => ?_)
      · refine wm_aload_n C d_Survey_readingFault_45 rfl (j := 1) rfl ?_
        refine wm_iload_n C d_Survey_readingFault_46 rfl (j := 2) rfl ?_
        refine wm_iconst (v := 1) C d_Survey_readingFault_47 (by decide) ?_
        refine wm_iadd C d_Survey_readingFault_48 ?_
        refine wm_iconst (v := 0) C d_Survey_readingFault_49 (by decide) ?_
        refine wm_callVN (d2 := 0) (mc := 0) (ms := 0) C mo_Row_at co_Row ml_Survey_67 [.int (p + 1), .int 0] [] rfl (rp_row hR (by decide)) rfl (by decide) (Nat.le_of_ble_eq_true rfl) (Nat.le_refl _) (Nat.le_refl _) d_Survey_readingFault_50 (cy_ki ?_)
        refine c_at hE hR (by decide) _ _ ⟨_, rfl, ?_⟩
        refine wm_iload_n C d_Survey_readingFault_53 rfl (j := 0) rfl ?_
        refine wm_callSN (d2 := 1) (mc := 0) (ms := 0) C mo_Yard_operandMost ml_Survey_83 [.int (cy_rat s 0 p (-1))] [.int (cy_rat s 0 (p + 1) 0)] rfl rfl (by decide) (Nat.le_of_ble_eq_true rfl) (Nat.le_refl _) (Nat.le_refl _) d_Survey_readingFault_54 (cy_ki ?_)
        refine c_Yard_operandMost hE hR  _ ⟨_, rfl, ?_⟩
        refine wm_icmp_le (tgt := 68) C d_Survey_readingFault_57 (by decide) (fun (h_57 : (cy_rat s 0 (p + 1) 0) ≤ (cy_Yard_operandMost (cy_rat s 0 p (-1)))) => ?_) (fun (h_57 : ¬ (cy_rat s 0 (p + 1) 0) ≤ (cy_Yard_operandMost (cy_rat s 0 p (-1)))) => ?_)
        · refine wm_iconst (v := 0) C d_Survey_readingFault_68 (by decide) ?_
          refine wm_iret C P d_Survey_readingFault_69 ?_
          have e : cy_Survey_readingFault s p = 0 := by rw [cy_Survey_readingFault, if_neg h_11, if_neg h_24, if_neg h_36, if_pos h_57]
          rw [e] at h
          exact h
        · refine wm_iconst (v := 4) C d_Survey_readingFault_60 (by decide) ?_
          refine wm_iload_n C d_Survey_readingFault_61 rfl (j := 2) rfl ?_
          refine wm_callS (d2 := 0) (mc := 0) (ms := 0) C mo_Survey_fault ml_Survey_30 [.int 4, .int p] [] rfl rfl (by decide) (Nat.le_of_ble_eq_true rfl) (Nat.le_refl _) (Nat.le_refl _) d_Survey_readingFault_62 (cy_ki ?_)
          refine c_Survey_fault hE hR  _ _ ⟨_, rfl, ?_⟩
          refine wm_goto (tgt := 69) C d_Survey_readingFault_65 (by decide) ?_
          refine wm_iret C P d_Survey_readingFault_69 ?_
          have e : cy_Survey_readingFault s p = cy_Survey_fault 4 p := by rw [cy_Survey_readingFault, if_neg h_11, if_neg h_24, if_neg h_36, if_neg h_57]
          rw [e] at h
          exact h
      · refine wm_iconst (v := 3) C d_Survey_readingFault_39 (by decide) ?_
        refine wm_iload_n C d_Survey_readingFault_40 rfl (j := 2) rfl ?_
        refine wm_callS (d2 := 0) (mc := 0) (ms := 0) C mo_Survey_fault ml_Survey_30 [.int 3, .int p] [] rfl rfl (by decide) (Nat.le_of_ble_eq_true rfl) (Nat.le_refl _) (Nat.le_refl _) d_Survey_readingFault_41 (cy_ki ?_)
        refine c_Survey_fault hE hR  _ _ ⟨_, rfl, ?_⟩
        refine wm_iret C P d_Survey_readingFault_44 ?_
        have e : cy_Survey_readingFault s p = cy_Survey_fault 3 p := by rw [cy_Survey_readingFault, if_neg h_11, if_neg h_24, if_pos h_36]
        rw [e] at h
        exact h
    · refine wm_iconst (v := 0) C d_Survey_readingFault_27 (by decide) ?_
      refine wm_iret C P d_Survey_readingFault_28 ?_
      have e : cy_Survey_readingFault s p = 0 := by rw [cy_Survey_readingFault, if_neg h_11, if_pos h_24]
      rw [e] at h
      exact h
  · refine wm_iconst (v := 2) C d_Survey_readingFault_14 (by decide) ?_
    refine wm_iload_n C d_Survey_readingFault_15 rfl (j := 2) rfl ?_
    refine wm_callS (d2 := 0) (mc := 0) (ms := 0) C mo_Survey_fault ml_Survey_30 [.int 2, .int p] [] rfl rfl (by decide) (Nat.le_of_ble_eq_true rfl) (Nat.le_refl _) (Nat.le_refl _) d_Survey_readingFault_16 (cy_ki ?_)
    refine c_Survey_fault hE hR  _ _ ⟨_, rfl, ?_⟩
    refine wm_iret C P d_Survey_readingFault_19 ?_
    have e : cy_Survey_readingFault s p = cy_Survey_fault 2 p := by rw [cy_Survey_readingFault, if_pos h_11]
    rw [e] at h
    exact h
def cy_Survey_tellsPlace (s : cy_S) (p : Int32) : Int32 :=
  if p < 3 then
    1
  else
    if (cy_rat s 1 (p - 1) 0) = 1 then
      if (cy_Yard_isJump (cy_rat s 0 (p - 1) (-1))) = 0 then
        0
      else
        1
    else
      0
set_option maxHeartbeats 4000000 in
theorem c_Survey_tellsPlace {G : cy_G} {E : cy_E} {s : cy_S} {M : cy_Hp} {post : Option Value → cy_Hp → Prop} (hE : cy_Eo G E) (hR : cy_R E s M)  (p : Int32) (h : post (some (.int (cy_Survey_tellsPlace s p))) M) : cy_Ct G 1 m_Survey_tellsPlace [.ref (E.2.2.1 135), .ref (E.2.2.1 (2 * 0)), .int p] M 0 0 post := by
  refine cy_Ct.of (by decide) (Nat.le_of_ble_eq_true rfl) ?_
  intro F C P _
  have C : cy_C G F R_Survey b_Survey_tellsPlace 3 1 0 0 := C
  have P : cy_P G F (some .boolean) post 0 0 := P
  show WM G F 3 0 0 0 [(0, .ref (E.2.2.1 135)), (1, .ref (E.2.2.1 (2 * 0))), (2, .int p)] [] M
  refine wm_iload_n C d_Survey_tellsPlace_0 rfl (j := 2) rfl ?_
  refine wm_iconst (v := 3) C d_Survey_tellsPlace_1 (by decide) ?_
  refine wm_icmp_lt (tgt := 34) C d_Survey_tellsPlace_2 (by decide) (fun (h_2 : p < 3) => ?_) (fun (h_2 : ¬ p < 3) => ?_)
  · refine wm_iconst (v := 1) C d_Survey_tellsPlace_34 (by decide) ?_
    refine wm_goto (tgt := 39) C d_Survey_tellsPlace_35 (by decide) ?_
    refine wm_zret C P rfl d_Survey_tellsPlace_39 ?_
    have e : cy_Survey_tellsPlace s p = 1 := by rw [cy_Survey_tellsPlace, if_pos h_2]
    rw [e] at h
    exact h
  · refine wm_aload_n C d_Survey_tellsPlace_5 rfl (j := 0) rfl ?_
    refine wm_get C co_Survey (rp_survey hR) 0 (by decide) fl_Survey_14 rfl d_Survey_tellsPlace_6 ?_
    refine wm_iload_n C d_Survey_tellsPlace_9 rfl (j := 2) rfl ?_
    refine wm_iconst (v := 1) C d_Survey_tellsPlace_10 (by decide) ?_
    refine wm_isub C d_Survey_tellsPlace_11 ?_
    refine wm_iconst (v := 0) C d_Survey_tellsPlace_12 (by decide) ?_
    refine wm_callVN (d2 := 0) (mc := 0) (ms := 0) C mo_Row_at co_Row ml_Survey_67 [.int (p - 1), .int 0] [] rfl (rp_row hR (by decide)) rfl (by decide) (Nat.le_of_ble_eq_true rfl) (Nat.le_refl _) (Nat.le_refl _) d_Survey_tellsPlace_13 (cy_ki ?_)
    refine c_at hE hR (by decide) _ _ ⟨_, rfl, ?_⟩
    refine wm_iconst (v := 1) C d_Survey_tellsPlace_16 (by decide) ?_
    refine wm_icmp_ne (tgt := 38) C d_Survey_tellsPlace_17 (by decide) (fun (h_17 : ¬ (cy_rat s 1 (p - 1) 0) = 1) => ?_) (fun (h_17 : (cy_rat s 1 (p - 1) 0) = 1) => ?_)
    · refine wm_iconst (v := 0) C d_Survey_tellsPlace_38 (by decide) ?_
      refine wm_zret C P rfl d_Survey_tellsPlace_39 ?_
      have e : cy_Survey_tellsPlace s p = 0 := by rw [cy_Survey_tellsPlace, if_neg h_2, if_neg h_17]
      rw [e] at h
      exact h
    · refine wm_aload_n C d_Survey_tellsPlace_20 rfl (j := 1) rfl ?_
      refine wm_iload_n C d_Survey_tellsPlace_21 rfl (j := 2) rfl ?_
      refine wm_iconst (v := 1) C d_Survey_tellsPlace_22 (by decide) ?_
      refine wm_isub C d_Survey_tellsPlace_23 ?_
      refine wm_iconst (v := -1) C d_Survey_tellsPlace_24 (by decide) ?_
      refine wm_callVN (d2 := 0) (mc := 0) (ms := 0) C mo_Row_at co_Row ml_Survey_67 [.int (p - 1), .int (-1)] [] rfl (rp_row hR (by decide)) rfl (by decide) (Nat.le_of_ble_eq_true rfl) (Nat.le_refl _) (Nat.le_refl _) d_Survey_tellsPlace_25 (cy_ki ?_)
      refine c_at hE hR (by decide) _ _ ⟨_, rfl, ?_⟩
      refine wm_callSN (d2 := 0) (mc := 0) (ms := 0) C mo_Yard_isJump ml_Survey_91 [.int (cy_rat s 0 (p - 1) (-1))] [] rfl rfl (by decide) (Nat.le_of_ble_eq_true rfl) (Nat.le_refl _) (Nat.le_refl _) d_Survey_tellsPlace_28 (cy_ki ?_)
      refine c_Yard_isJump hE hR  _ ⟨_, rfl, ?_⟩
      refine wm_if_eq (tgt := 38) C d_Survey_tellsPlace_31 (by decide) (fun (h_31 : (cy_Yard_isJump (cy_rat s 0 (p - 1) (-1))) = 0) => ?_) (fun (h_31 : ¬ (cy_Yard_isJump (cy_rat s 0 (p - 1) (-1))) = 0) => ?_)
      · refine wm_iconst (v := 0) C d_Survey_tellsPlace_38 (by decide) ?_
        refine wm_zret C P rfl d_Survey_tellsPlace_39 ?_
        have e : cy_Survey_tellsPlace s p = 0 := by rw [cy_Survey_tellsPlace, if_neg h_2, if_pos h_17, if_pos h_31]
        rw [e] at h
        exact h
      · refine wm_iconst (v := 1) C d_Survey_tellsPlace_34 (by decide) ?_
        refine wm_goto (tgt := 39) C d_Survey_tellsPlace_35 (by decide) ?_
        refine wm_zret C P rfl d_Survey_tellsPlace_39 ?_
        have e : cy_Survey_tellsPlace s p = 1 := by rw [cy_Survey_tellsPlace, if_neg h_2, if_pos h_17, if_neg h_31]
        rw [e] at h
        exact h
def cy_Survey_comeTo (s : cy_S) (p : Int32) (height : Int32) : Int32 × cy_S :=
  if (cy_rat s 2 p (-1)) = (-1) then
    (0, (cy_s_searchFrom (cy_rput (cy_rput s 2 p height) 3 p 1) (if p < s.2.2.2.2.2 then p else s.2.2.2.2.2)))
  else
    if (cy_rat s 2 p (-1)) = height then
      (0, s)
    else
      (cy_Survey_fault 8 p, s)
set_option maxHeartbeats 4000000 in
theorem c_Survey_comeTo {G : cy_G} {E : cy_E} {s : cy_S} {M : cy_Hp} {post : Option Value → cy_Hp → Prop} (hE : cy_Eo G E) (hR : cy_R E s M)  (p : Int32) (height : Int32) (h : ∀ M', cy_R E (cy_Survey_comeTo s p height).2 M' → post (some (.int (cy_Survey_comeTo s p height).1)) M') : cy_Ct G 1 m_Survey_comeTo [.ref (E.2.2.1 135), .int p, .int height] M 0 0 post := by
  refine cy_Ct.of (by decide) (Nat.le_of_ble_eq_true rfl) ?_
  intro F C P _
  have C : cy_C G F R_Survey b_Survey_comeTo 4 1 0 0 := C
  have P : cy_P G F (some .int) post 0 0 := P
  show WM G F 4 0 0 0 [(0, .ref (E.2.2.1 135)), (1, .int p), (2, .int height)] [] M
  refine wm_aload_n C d_Survey_comeTo_0 rfl (j := 0) rfl ?_
  refine wm_get C co_Survey (rp_survey hR) 1 (by decide) fl_Survey_20 rfl d_Survey_comeTo_1 ?_
  refine wm_iload_n C d_Survey_comeTo_4 rfl (j := 1) rfl ?_
  refine wm_iconst (v := -1) C d_Survey_comeTo_5 (by decide) ?_
  refine wm_callVN (d2 := 0) (mc := 0) (ms := 0) C mo_Row_at co_Row ml_Survey_67 [.int p, .int (-1)] [] rfl (rp_row hR (by decide)) rfl (by decide) (Nat.le_of_ble_eq_true rfl) (Nat.le_refl _) (Nat.le_refl _) d_Survey_comeTo_6 (cy_ki ?_)
  refine c_at hE hR (by decide) _ _ ⟨_, rfl, ?_⟩
  refine wm_istore_n (lv' := [(3, .int (cy_rat s 2 p (-1))), (0, .ref (E.2.2.1 135)), (1, .int p), (2, .int height)]) C d_Survey_comeTo_9 rfl (by decide) rfl ?_
  refine wm_iload_n C d_Survey_comeTo_10 rfl (j := 0) rfl ?_
  refine wm_iconst (v := -1) C d_Survey_comeTo_11 (by decide) ?_
  refine wm_icmp_ne (tgt := 47) C d_Survey_comeTo_12 (by decide) (fun (h_12 : ¬ (cy_rat s 2 p (-1)) = (-1)) => ?_) (fun (h_12 : (cy_rat s 2 p (-1)) = (-1)) => ?_)
  · refine wm_iload_n C d_Survey_comeTo_47 rfl (j := 0) rfl ?_
    refine wm_iload_n C d_Survey_comeTo_48 rfl (j := 3) rfl ?_
    refine wm_icmp_ne (tgt := 56) C d_Survey_comeTo_49 (by decide) (fun (h_49 : ¬ (cy_rat s 2 p (-1)) = height) => ?_) (fun (h_49 : (cy_rat s 2 p (-1)) = height) => ?_)
    · refine wm_bipush (v := 8) C d_Survey_comeTo_56 (by decide) ?_
      refine wm_iload_n C d_Survey_comeTo_58 rfl (j := 2) rfl ?_
      refine wm_callS (d2 := 0) (mc := 0) (ms := 0) C mo_Survey_fault ml_Survey_30 [.int 8, .int p] [] rfl rfl (by decide) (Nat.le_of_ble_eq_true rfl) (Nat.le_refl _) (Nat.le_refl _) d_Survey_comeTo_59 (cy_ki ?_)
      refine c_Survey_fault hE hR  _ _ ⟨_, rfl, ?_⟩
      refine wm_iret C P d_Survey_comeTo_62 ?_
      have e : cy_Survey_comeTo s p height = (cy_Survey_fault 8 p, s) := by rw [cy_Survey_comeTo, if_neg h_12, if_neg h_49]
      rw [e] at h
      exact h _ hR
    · refine wm_iconst (v := 0) C d_Survey_comeTo_52 (by decide) ?_
      refine wm_goto (tgt := 62) C d_Survey_comeTo_53 (by decide) ?_
      refine wm_iret C P d_Survey_comeTo_62 ?_
      have e : cy_Survey_comeTo s p height = (0, s) := by rw [cy_Survey_comeTo, if_neg h_12, if_pos h_49]
      rw [e] at h
      exact h _ hR
  · refine wm_aload_n C d_Survey_comeTo_15 rfl (j := 1) rfl ?_
    refine wm_get C co_Survey (rp_survey hR) 1 (by decide) fl_Survey_20 rfl d_Survey_comeTo_16 ?_
    refine wm_iload_n C d_Survey_comeTo_19 rfl (j := 2) rfl ?_
    refine wm_iload_n C d_Survey_comeTo_20 rfl (j := 3) rfl ?_
    refine wm_callVN (d2 := 0) (mc := 0) (ms := 0) C mo_Row_put co_Row ml_Survey_64 [.int p, .int height] [] rfl (rp_row hR (by decide)) rfl (by decide) (Nat.le_of_ble_eq_true rfl) (Nat.le_refl _) (Nat.le_refl _) d_Survey_comeTo_21 (cy_kv ?_)
    refine c_put hE hR (by decide) _ _ (fun M1 hR1 => ⟨rfl, ?_⟩)
    refine wm_aload_n C d_Survey_comeTo_24 rfl (j := 1) rfl ?_
    refine wm_get C co_Survey (rp_survey hR1) 2 (by decide) fl_Survey_23 rfl d_Survey_comeTo_25 ?_
    refine wm_iload_n C d_Survey_comeTo_28 rfl (j := 2) rfl ?_
    refine wm_iconst (v := 1) C d_Survey_comeTo_29 (by decide) ?_
    refine wm_callVN (d2 := 0) (mc := 0) (ms := 0) C mo_Row_put co_Row ml_Survey_64 [.int p, .int 1] [] rfl (rp_row hR1 (by decide)) rfl (by decide) (Nat.le_of_ble_eq_true rfl) (Nat.le_refl _) (Nat.le_refl _) d_Survey_comeTo_30 (cy_kv ?_)
    refine c_put hE hR1 (by decide) _ _ (fun M2 hR2 => ⟨rfl, ?_⟩)
    refine wm_aload_n C d_Survey_comeTo_33 rfl (j := 1) rfl ?_
    refine wm_aload_n C d_Survey_comeTo_34 rfl (j := 1) rfl ?_
    refine wm_get C co_Survey (rp_survey hR2) 5 (by decide) fl_Survey_57 rfl d_Survey_comeTo_35 ?_
    refine wm_iload_n C d_Survey_comeTo_38 rfl (j := 2) rfl ?_
    refine wm_mmin C ml_Survey_110 mm_min_s mm_i mm_min_c (by decide) (Nat.le_of_ble_eq_true rfl) (Nat.zero_le _) (Nat.zero_le _) d_Survey_comeTo_39 ?_
    refine wm_put C co_Survey (rp_survey hR2) 5 (by decide) fl_Survey_57 rfl rfl rfl (Nat.le_of_ble_eq_true rfl) d_Survey_comeTo_42 ?_
    refine wm_gen (rp_p_searchFrom hE hR2 (if p < s.2.2.2.2.2 then p else s.2.2.2.2.2)) (fun M3 hR3 => ?_)
    refine wm_iconst (v := 0) C d_Survey_comeTo_45 (by decide) ?_
    refine wm_iret C P d_Survey_comeTo_46 ?_
    have e : cy_Survey_comeTo s p height = (0, (cy_s_searchFrom (cy_rput (cy_rput s 2 p height) 3 p 1) (if p < s.2.2.2.2.2 then p else s.2.2.2.2.2))) := by rw [cy_Survey_comeTo, if_pos h_12]
    rw [e] at h
    exact h _ hR3
def cy_Survey_goThrough (s : cy_S) (p : Int32) : Int32 × cy_S :=
  if ((cy_rat (cy_rput s 3 p 0) 2 p 0) - (cy_Yard_takes (cy_rat (cy_rput s 3 p 0) 0 p (-1)))) < 0 then
    (cy_Survey_fault 7 p, (cy_rput s 3 p 0))
  else
    if (((cy_rat (cy_rput s 3 p 0) 2 p 0) - (cy_Yard_takes (cy_rat (cy_rput s 3 p 0) 0 p (-1)))) + (cy_Yard_gives (cy_rat (cy_rput s 3 p 0) 0 p (-1)))) ≤ 8 then
      if (cy_Yard_isEnding (cy_rat (cy_rput s 3 p 0) 0 p (-1))) = 0 then
        if (cy_Yard_hasOperand (cy_rat (cy_rput s 3 p 0) 0 p (-1))) = 0 then
          if (cy_Yard_isJump (cy_rat (cy_rput s 3 p 0) 0 p (-1))) = 0 then
            cy_Survey_comeTo (cy_rput s 3 p 0) (p + 1) (((cy_rat (cy_rput s 3 p 0) 2 p 0) - (cy_Yard_takes (cy_rat (cy_rput s 3 p 0) 0 p (-1)))) + (cy_Yard_gives (cy_rat (cy_rput s 3 p 0) 0 p (-1))))
          else
            if (cy_rat (cy_rput s 3 p 0) 0 p (-1)) = 16 then
              cy_Survey_comeTo (cy_rput s 3 p 0) (cy_rat (cy_rput s 3 p 0) 0 (p + 1) (-1)) (((cy_rat (cy_rput s 3 p 0) 2 p 0) - (cy_Yard_takes (cy_rat (cy_rput s 3 p 0) 0 p (-1)))) + (cy_Yard_gives (cy_rat (cy_rput s 3 p 0) 0 p (-1))))
            else
              if ((cy_Survey_comeTo (cy_rput s 3 p 0) (if cy_rat (cy_rput s 3 p 0) 0 (p + 1) (-1) < p + 1 then cy_rat (cy_rput s 3 p 0) 0 (p + 1) (-1) else p + 1) (((cy_rat (cy_rput s 3 p 0) 2 p 0) - (cy_Yard_takes (cy_rat (cy_rput s 3 p 0) 0 p (-1)))) + (cy_Yard_gives (cy_rat (cy_rput s 3 p 0) 0 p (-1))))).1) = 0 then
                cy_Survey_comeTo ((cy_Survey_comeTo (cy_rput s 3 p 0) (if cy_rat (cy_rput s 3 p 0) 0 (p + 1) (-1) < p + 1 then cy_rat (cy_rput s 3 p 0) 0 (p + 1) (-1) else p + 1) (((cy_rat (cy_rput s 3 p 0) 2 p 0) - (cy_Yard_takes (cy_rat (cy_rput s 3 p 0) 0 p (-1)))) + (cy_Yard_gives (cy_rat (cy_rput s 3 p 0) 0 p (-1))))).2) (if p + 1 < cy_rat (cy_rput s 3 p 0) 0 (p + 1) (-1) then cy_rat (cy_rput s 3 p 0) 0 (p + 1) (-1) else p + 1) (((cy_rat (cy_rput s 3 p 0) 2 p 0) - (cy_Yard_takes (cy_rat (cy_rput s 3 p 0) 0 p (-1)))) + (cy_Yard_gives (cy_rat (cy_rput s 3 p 0) 0 p (-1))))
              else
                cy_Survey_comeTo (cy_rput s 3 p 0) (if cy_rat (cy_rput s 3 p 0) 0 (p + 1) (-1) < p + 1 then cy_rat (cy_rput s 3 p 0) 0 (p + 1) (-1) else p + 1) (((cy_rat (cy_rput s 3 p 0) 2 p 0) - (cy_Yard_takes (cy_rat (cy_rput s 3 p 0) 0 p (-1)))) + (cy_Yard_gives (cy_rat (cy_rput s 3 p 0) 0 p (-1))))
        else
          if (cy_Yard_isJump (cy_rat (cy_rput s 3 p 0) 0 p (-1))) = 0 then
            cy_Survey_comeTo (cy_rput s 3 p 0) (p + 2) (((cy_rat (cy_rput s 3 p 0) 2 p 0) - (cy_Yard_takes (cy_rat (cy_rput s 3 p 0) 0 p (-1)))) + (cy_Yard_gives (cy_rat (cy_rput s 3 p 0) 0 p (-1))))
          else
            if (cy_rat (cy_rput s 3 p 0) 0 p (-1)) = 16 then
              cy_Survey_comeTo (cy_rput s 3 p 0) (cy_rat (cy_rput s 3 p 0) 0 (p + 1) (-1)) (((cy_rat (cy_rput s 3 p 0) 2 p 0) - (cy_Yard_takes (cy_rat (cy_rput s 3 p 0) 0 p (-1)))) + (cy_Yard_gives (cy_rat (cy_rput s 3 p 0) 0 p (-1))))
            else
              if ((cy_Survey_comeTo (cy_rput s 3 p 0) (if cy_rat (cy_rput s 3 p 0) 0 (p + 1) (-1) < p + 2 then cy_rat (cy_rput s 3 p 0) 0 (p + 1) (-1) else p + 2) (((cy_rat (cy_rput s 3 p 0) 2 p 0) - (cy_Yard_takes (cy_rat (cy_rput s 3 p 0) 0 p (-1)))) + (cy_Yard_gives (cy_rat (cy_rput s 3 p 0) 0 p (-1))))).1) = 0 then
                cy_Survey_comeTo ((cy_Survey_comeTo (cy_rput s 3 p 0) (if cy_rat (cy_rput s 3 p 0) 0 (p + 1) (-1) < p + 2 then cy_rat (cy_rput s 3 p 0) 0 (p + 1) (-1) else p + 2) (((cy_rat (cy_rput s 3 p 0) 2 p 0) - (cy_Yard_takes (cy_rat (cy_rput s 3 p 0) 0 p (-1)))) + (cy_Yard_gives (cy_rat (cy_rput s 3 p 0) 0 p (-1))))).2) (if p + 2 < cy_rat (cy_rput s 3 p 0) 0 (p + 1) (-1) then cy_rat (cy_rput s 3 p 0) 0 (p + 1) (-1) else p + 2) (((cy_rat (cy_rput s 3 p 0) 2 p 0) - (cy_Yard_takes (cy_rat (cy_rput s 3 p 0) 0 p (-1)))) + (cy_Yard_gives (cy_rat (cy_rput s 3 p 0) 0 p (-1))))
              else
                cy_Survey_comeTo (cy_rput s 3 p 0) (if cy_rat (cy_rput s 3 p 0) 0 (p + 1) (-1) < p + 2 then cy_rat (cy_rput s 3 p 0) 0 (p + 1) (-1) else p + 2) (((cy_rat (cy_rput s 3 p 0) 2 p 0) - (cy_Yard_takes (cy_rat (cy_rput s 3 p 0) 0 p (-1)))) + (cy_Yard_gives (cy_rat (cy_rput s 3 p 0) 0 p (-1))))
      else
        (0, (cy_rput s 3 p 0))
    else
      (cy_Survey_fault 7 p, (cy_rput s 3 p 0))
set_option maxHeartbeats 4000000 in
theorem c_Survey_goThrough {G : cy_G} {E : cy_E} {s : cy_S} {M : cy_Hp} {post : Option Value → cy_Hp → Prop} (hE : cy_Eo G E) (hR : cy_R E s M)  (p : Int32) (h : ∀ M', cy_R E (cy_Survey_goThrough s p).2 M' → post (some (.int (cy_Survey_goThrough s p).1)) M') : cy_Ct G 3 m_Survey_goThrough [.ref (E.2.2.1 135), .ref (E.2.2.1 (2 * 0)), .int p] M 0 0 post := by
  refine cy_Ct.of (by decide) (Nat.le_of_ble_eq_true rfl) ?_
  intro F C P _
  have C : cy_C G F R_Survey b_Survey_goThrough 9 3 0 0 := C
  have P : cy_P G F (some .int) post 0 0 := P
  show WM G F 9 0 0 0 [(0, .ref (E.2.2.1 135)), (1, .ref (E.2.2.1 (2 * 0))), (2, .int p)] [] M
  refine wm_aload_n C d_Survey_goThrough_0 rfl (j := 0) rfl ?_
  refine wm_get C co_Survey (rp_survey hR) 2 (by decide) fl_Survey_23 rfl d_Survey_goThrough_1 ?_
  refine wm_iload_n C d_Survey_goThrough_4 rfl (j := 2) rfl ?_
  refine wm_iconst (v := 0) C d_Survey_goThrough_5 (by decide) ?_
  refine wm_callVN (d2 := 0) (mc := 0) (ms := 0) C mo_Row_put co_Row ml_Survey_64 [.int p, .int 0] [] rfl (rp_row hR (by decide)) rfl (by decide) (Nat.le_of_ble_eq_true rfl) (Nat.le_refl _) (Nat.le_refl _) d_Survey_goThrough_6 (cy_kv ?_)
  refine c_put hE hR (by decide) _ _ (fun M1 hR1 => ⟨rfl, ?_⟩)
  refine wm_aload_n C d_Survey_goThrough_9 rfl (j := 1) rfl ?_
  refine wm_iload_n C d_Survey_goThrough_10 rfl (j := 2) rfl ?_
  refine wm_iconst (v := -1) C d_Survey_goThrough_11 (by decide) ?_
  refine wm_callVN (d2 := 0) (mc := 0) (ms := 0) C mo_Row_at co_Row ml_Survey_67 [.int p, .int (-1)] [] rfl (rp_row hR1 (by decide)) rfl (by decide) (Nat.le_of_ble_eq_true rfl) (Nat.le_refl _) (Nat.le_refl _) d_Survey_goThrough_12 (cy_ki ?_)
  refine c_at hE hR1 (by decide) _ _ ⟨_, rfl, ?_⟩
  refine wm_istore_n (lv' := [(3, .int (cy_rat (cy_rput s 3 p 0) 0 p (-1))), (0, .ref (E.2.2.1 135)), (1, .ref (E.2.2.1 (2 * 0))), (2, .int p)]) C d_Survey_goThrough_15 rfl (by decide) rfl ?_
  refine wm_aload_n C d_Survey_goThrough_16 rfl (j := 1) rfl ?_
  refine wm_get C co_Survey (rp_survey hR1) 1 (by decide) fl_Survey_20 rfl d_Survey_goThrough_17 ?_
  refine wm_iload_n C d_Survey_goThrough_20 rfl (j := 3) rfl ?_
  refine wm_iconst (v := 0) C d_Survey_goThrough_21 (by decide) ?_
  refine wm_callVN (d2 := 0) (mc := 0) (ms := 0) C mo_Row_at co_Row ml_Survey_67 [.int p, .int 0] [] rfl (rp_row hR1 (by decide)) rfl (by decide) (Nat.le_of_ble_eq_true rfl) (Nat.le_refl _) (Nat.le_refl _) d_Survey_goThrough_22 (cy_ki ?_)
  refine c_at hE hR1 (by decide) _ _ ⟨_, rfl, ?_⟩
  refine wm_iload_n C d_Survey_goThrough_25 rfl (j := 0) rfl ?_
  refine wm_callSN (d2 := 0) (mc := 0) (ms := 0) C mo_Yard_takes ml_Survey_104 [.int (cy_rat (cy_rput s 3 p 0) 0 p (-1))] [.int (cy_rat (cy_rput s 3 p 0) 2 p 0)] rfl rfl (by decide) (Nat.le_of_ble_eq_true rfl) (Nat.le_refl _) (Nat.le_refl _) d_Survey_goThrough_26 (cy_ki ?_)
  refine c_Yard_takes hE hR1  _ ⟨_, rfl, ?_⟩
  refine wm_isub C d_Survey_goThrough_29 ?_
  refine wm_istore (lv' := [(4, .int ((cy_rat (cy_rput s 3 p 0) 2 p 0) - (cy_Yard_takes (cy_rat (cy_rput s 3 p 0) 0 p (-1))))), (3, .int (cy_rat (cy_rput s 3 p 0) 0 p (-1))), (0, .ref (E.2.2.1 135)), (1, .ref (E.2.2.1 (2 * 0))), (2, .int p)]) C d_Survey_goThrough_30 (by decide) rfl ?_
  refine wm_iload C d_Survey_goThrough_32 (j := 0) rfl ?_
  refine wm_iload_n C d_Survey_goThrough_34 rfl (j := 1) rfl ?_
  refine wm_callSN (d2 := 0) (mc := 0) (ms := 0) C mo_Yard_gives ml_Survey_107 [.int (cy_rat (cy_rput s 3 p 0) 0 p (-1))] [.int ((cy_rat (cy_rput s 3 p 0) 2 p 0) - (cy_Yard_takes (cy_rat (cy_rput s 3 p 0) 0 p (-1))))] rfl rfl (by decide) (Nat.le_of_ble_eq_true rfl) (Nat.le_refl _) (Nat.le_refl _) d_Survey_goThrough_35 (cy_ki ?_)
  refine c_Yard_gives hE hR1  _ ⟨_, rfl, ?_⟩
  refine wm_iadd C d_Survey_goThrough_38 ?_
  refine wm_istore (lv' := [(5, .int (((cy_rat (cy_rput s 3 p 0) 2 p 0) - (cy_Yard_takes (cy_rat (cy_rput s 3 p 0) 0 p (-1)))) + (cy_Yard_gives (cy_rat (cy_rput s 3 p 0) 0 p (-1))))), (4, .int ((cy_rat (cy_rput s 3 p 0) 2 p 0) - (cy_Yard_takes (cy_rat (cy_rput s 3 p 0) 0 p (-1))))), (3, .int (cy_rat (cy_rput s 3 p 0) 0 p (-1))), (0, .ref (E.2.2.1 135)), (1, .ref (E.2.2.1 (2 * 0))), (2, .int p)]) C d_Survey_goThrough_39 (by decide) rfl ?_
  refine wm_iload C d_Survey_goThrough_41 (j := 1) rfl ?_
  refine wm_if_lt (tgt := 53) C d_Survey_goThrough_43 (by decide) (fun (h_43 : ((cy_rat (cy_rput s 3 p 0) 2 p 0) - (cy_Yard_takes (cy_rat (cy_rput s 3 p 0) 0 p (-1)))) < 0) => ?_) (fun (h_43 : ¬ ((cy_rat (cy_rput s 3 p 0) 2 p 0) - (cy_Yard_takes (cy_rat (cy_rput s 3 p 0) 0 p (-1)))) < 0) => ?_)
  · refine wm_bipush (v := 7) C d_Survey_goThrough_53 (by decide) ?_
    refine wm_iload_n C d_Survey_goThrough_55 rfl (j := 5) rfl ?_
    refine wm_callS (d2 := 0) (mc := 0) (ms := 0) C mo_Survey_fault ml_Survey_30 [.int 7, .int p] [] rfl rfl (by decide) (Nat.le_of_ble_eq_true rfl) (Nat.le_refl _) (Nat.le_refl _) d_Survey_goThrough_56 (cy_ki ?_)
    refine c_Survey_fault hE hR1  _ _ ⟨_, rfl, ?_⟩
    refine wm_iret C P d_Survey_goThrough_59 ?_
    have e : cy_Survey_goThrough s p = (cy_Survey_fault 7 p, (cy_rput s 3 p 0)) := by rw [cy_Survey_goThrough, if_pos h_43]
    rw [e] at h
    exact h _ hR1
  · refine wm_iload C d_Survey_goThrough_46 (j := 0) rfl ?_
    refine wm_bipush (v := 8) C d_Survey_goThrough_48 (by decide) ?_
    refine wm_icmp_le (tgt := 60) C d_Survey_goThrough_50 (by decide) (fun (h_50 : (((cy_rat (cy_rput s 3 p 0) 2 p 0) - (cy_Yard_takes (cy_rat (cy_rput s 3 p 0) 0 p (-1)))) + (cy_Yard_gives (cy_rat (cy_rput s 3 p 0) 0 p (-1)))) ≤ 8) => ?_) (fun (h_50 : ¬ (((cy_rat (cy_rput s 3 p 0) 2 p 0) - (cy_Yard_takes (cy_rat (cy_rput s 3 p 0) 0 p (-1)))) + (cy_Yard_gives (cy_rat (cy_rput s 3 p 0) 0 p (-1)))) ≤ 8) => ?_)
    · refine wm_iload_n C d_Survey_goThrough_60 rfl (j := 2) rfl ?_
      refine wm_callSN (d2 := 0) (mc := 0) (ms := 0) C mo_Yard_isEnding ml_Survey_74 [.int (cy_rat (cy_rput s 3 p 0) 0 p (-1))] [] rfl rfl (by decide) (Nat.le_of_ble_eq_true rfl) (Nat.le_refl _) (Nat.le_refl _) d_Survey_goThrough_61 (cy_ki ?_)
      refine c_Yard_isEnding hE hR1  _ ⟨_, rfl, ?_⟩
      refine wm_if_eq (tgt := 69) C d_Survey_goThrough_64 (by decide) (fun (h_64 : (cy_Yard_isEnding (cy_rat (cy_rput s 3 p 0) 0 p (-1))) = 0) => ?_) (fun (h_64 : ¬ (cy_Yard_isEnding (cy_rat (cy_rput s 3 p 0) 0 p (-1))) = 0) => ?_)
      · refine wm_iload_n C d_Survey_goThrough_69 rfl (j := 5) rfl ?_
        refine wm_iload_n C d_Survey_goThrough_70 rfl (j := 2) rfl ?_
        refine wm_callSN (d2 := 2) (mc := 0) (ms := 0) C mo_Yard_hasOperand ml_Survey_70 [.int (cy_rat (cy_rput s 3 p 0) 0 p (-1))] [.int p] rfl rfl (by decide) (Nat.le_of_ble_eq_true rfl) (Nat.le_refl _) (Nat.le_refl _) d_Survey_goThrough_71 (cy_ki ?_)
        refine c_Yard_hasOperand hE hR1  _ ⟨_, rfl, ?_⟩
        refine wm_if_eq (tgt := 81) C d_Survey_goThrough_74 (by decide) (fun (h_74 : (cy_Yard_hasOperand (cy_rat (cy_rput s 3 p 0) 0 p (-1))) = 0) => ?_) (fun (h_74 : ¬ (cy_Yard_hasOperand (cy_rat (cy_rput s 3 p 0) 0 p (-1))) = 0) => ?_)
        · refine wm_iconst (v := 1) C d_Survey_goThrough_81 (by decide) ?_
          refine wm_iadd C d_Survey_goThrough_82 ?_
          refine wm_istore (lv' := [(6, .int (p + 1)), (5, .int (((cy_rat (cy_rput s 3 p 0) 2 p 0) - (cy_Yard_takes (cy_rat (cy_rput s 3 p 0) 0 p (-1)))) + (cy_Yard_gives (cy_rat (cy_rput s 3 p 0) 0 p (-1))))), (4, .int ((cy_rat (cy_rput s 3 p 0) 2 p 0) - (cy_Yard_takes (cy_rat (cy_rput s 3 p 0) 0 p (-1))))), (3, .int (cy_rat (cy_rput s 3 p 0) 0 p (-1))), (0, .ref (E.2.2.1 135)), (1, .ref (E.2.2.1 (2 * 0))), (2, .int p)]) C d_Survey_goThrough_83 (by decide) rfl ?_
          refine wm_iload_n C d_Survey_goThrough_85 rfl (j := 3) rfl ?_
          refine wm_callSN (d2 := 0) (mc := 0) (ms := 0) C mo_Yard_isJump ml_Survey_91 [.int (cy_rat (cy_rput s 3 p 0) 0 p (-1))] [] rfl rfl (by decide) (Nat.le_of_ble_eq_true rfl) (Nat.le_refl _) (Nat.le_refl _) d_Survey_goThrough_86 (cy_ki ?_)
          refine c_Yard_isJump hE hR1  _ ⟨_, rfl, ?_⟩
          refine wm_if_ne (tgt := 101) C d_Survey_goThrough_89 (by decide) (fun (h_89 : ¬ (cy_Yard_isJump (cy_rat (cy_rput s 3 p 0) 0 p (-1))) = 0) => ?_) (fun (h_89 : (cy_Yard_isJump (cy_rat (cy_rput s 3 p 0) 0 p (-1))) = 0) => ?_)
          · refine wm_aload_n C d_Survey_goThrough_101 rfl (j := 5) rfl ?_
            refine wm_iload_n C d_Survey_goThrough_102 rfl (j := 6) rfl ?_
            refine wm_iconst (v := 1) C d_Survey_goThrough_103 (by decide) ?_
            refine wm_iadd C d_Survey_goThrough_104 ?_
            refine wm_iconst (v := -1) C d_Survey_goThrough_105 (by decide) ?_
            refine wm_callVN (d2 := 0) (mc := 0) (ms := 0) C mo_Row_at co_Row ml_Survey_67 [.int (p + 1), .int (-1)] [] rfl (rp_row hR1 (by decide)) rfl (by decide) (Nat.le_of_ble_eq_true rfl) (Nat.le_refl _) (Nat.le_refl _) d_Survey_goThrough_106 (cy_ki ?_)
            refine c_at hE hR1 (by decide) _ _ ⟨_, rfl, ?_⟩
            refine wm_istore (lv' := [(7, .int (cy_rat (cy_rput s 3 p 0) 0 (p + 1) (-1))), (6, .int (p + 1)), (5, .int (((cy_rat (cy_rput s 3 p 0) 2 p 0) - (cy_Yard_takes (cy_rat (cy_rput s 3 p 0) 0 p (-1)))) + (cy_Yard_gives (cy_rat (cy_rput s 3 p 0) 0 p (-1))))), (4, .int ((cy_rat (cy_rput s 3 p 0) 2 p 0) - (cy_Yard_takes (cy_rat (cy_rput s 3 p 0) 0 p (-1))))), (3, .int (cy_rat (cy_rput s 3 p 0) 0 p (-1))), (0, .ref (E.2.2.1 135)), (1, .ref (E.2.2.1 (2 * 0))), (2, .int p)]) C d_Survey_goThrough_109 (by decide) rfl ?_
            refine wm_iload_n C d_Survey_goThrough_111 rfl (j := 4) rfl ?_
            refine wm_bipush (v := 16) C d_Survey_goThrough_112 (by decide) ?_
            refine wm_icmp_ne (tgt := 126) C d_Survey_goThrough_114 (by decide) (fun (h_114 : ¬ (cy_rat (cy_rput s 3 p 0) 0 p (-1)) = 16) => ?_) (fun (h_114 : (cy_rat (cy_rput s 3 p 0) 0 p (-1)) = 16) => ?_)
            · refine wm_aload_n C d_Survey_goThrough_126 rfl (j := 5) rfl ?_
              refine wm_iload C d_Survey_goThrough_127 (j := 1) rfl ?_
              refine wm_iload C d_Survey_goThrough_129 (j := 0) rfl ?_
              refine wm_mmin C ml_Survey_110 mm_min_s mm_i mm_min_c (by decide) (Nat.le_of_ble_eq_true rfl) (Nat.zero_le _) (Nat.zero_le _) d_Survey_goThrough_131 ?_
              refine wm_iload C d_Survey_goThrough_134 (j := 2) rfl ?_
              refine wm_callV (d2 := 1) (mc := 0) (ms := 0) C mo_Survey_comeTo co_Survey ml_Survey_94 [.int (if cy_rat (cy_rput s 3 p 0) 0 (p + 1) (-1) < p + 1 then cy_rat (cy_rput s 3 p 0) 0 (p + 1) (-1) else p + 1), .int (((cy_rat (cy_rput s 3 p 0) 2 p 0) - (cy_Yard_takes (cy_rat (cy_rput s 3 p 0) 0 p (-1)))) + (cy_Yard_gives (cy_rat (cy_rput s 3 p 0) 0 p (-1))))] [] rfl (rp_survey hR1) rfl (by decide) (Nat.le_of_ble_eq_true rfl) (Nat.le_refl _) (Nat.le_refl _) d_Survey_goThrough_136 (cy_ki ?_)
              refine c_Survey_comeTo hE hR1  _ _ (fun M2 hR2 => ⟨_, rfl, ?_⟩)
              refine wm_istore (lv' := [(8, .int ((cy_Survey_comeTo (cy_rput s 3 p 0) (if cy_rat (cy_rput s 3 p 0) 0 (p + 1) (-1) < p + 1 then cy_rat (cy_rput s 3 p 0) 0 (p + 1) (-1) else p + 1) (((cy_rat (cy_rput s 3 p 0) 2 p 0) - (cy_Yard_takes (cy_rat (cy_rput s 3 p 0) 0 p (-1)))) + (cy_Yard_gives (cy_rat (cy_rput s 3 p 0) 0 p (-1))))).1)), (7, .int (cy_rat (cy_rput s 3 p 0) 0 (p + 1) (-1))), (6, .int (p + 1)), (5, .int (((cy_rat (cy_rput s 3 p 0) 2 p 0) - (cy_Yard_takes (cy_rat (cy_rput s 3 p 0) 0 p (-1)))) + (cy_Yard_gives (cy_rat (cy_rput s 3 p 0) 0 p (-1))))), (4, .int ((cy_rat (cy_rput s 3 p 0) 2 p 0) - (cy_Yard_takes (cy_rat (cy_rput s 3 p 0) 0 p (-1))))), (3, .int (cy_rat (cy_rput s 3 p 0) 0 p (-1))), (0, .ref (E.2.2.1 135)), (1, .ref (E.2.2.1 (2 * 0))), (2, .int p)]) C d_Survey_goThrough_139 (by decide) rfl ?_
              refine wm_iload C d_Survey_goThrough_141 (j := 0) rfl ?_
              refine wm_if_eq (tgt := 151) C d_Survey_goThrough_143 (by decide) (fun (h_143 : ((cy_Survey_comeTo (cy_rput s 3 p 0) (if cy_rat (cy_rput s 3 p 0) 0 (p + 1) (-1) < p + 1 then cy_rat (cy_rput s 3 p 0) 0 (p + 1) (-1) else p + 1) (((cy_rat (cy_rput s 3 p 0) 2 p 0) - (cy_Yard_takes (cy_rat (cy_rput s 3 p 0) 0 p (-1)))) + (cy_Yard_gives (cy_rat (cy_rput s 3 p 0) 0 p (-1))))).1) = 0) => ?_) (fun (h_143 : ¬ ((cy_Survey_comeTo (cy_rput s 3 p 0) (if cy_rat (cy_rput s 3 p 0) 0 (p + 1) (-1) < p + 1 then cy_rat (cy_rput s 3 p 0) 0 (p + 1) (-1) else p + 1) (((cy_rat (cy_rput s 3 p 0) 2 p 0) - (cy_Yard_takes (cy_rat (cy_rput s 3 p 0) 0 p (-1)))) + (cy_Yard_gives (cy_rat (cy_rput s 3 p 0) 0 p (-1))))).1) = 0) => ?_)
              · refine wm_aload_n C d_Survey_goThrough_151 rfl (j := 6) rfl ?_
                refine wm_iload C d_Survey_goThrough_152 (j := 2) rfl ?_
                refine wm_iload C d_Survey_goThrough_154 (j := 1) rfl ?_
                refine wm_mmax C ml_Survey_115 mm_max_s mm_i mm_max_c (by decide) (Nat.le_of_ble_eq_true rfl) (Nat.zero_le _) (Nat.zero_le _) d_Survey_goThrough_156 ?_
                refine wm_iload C d_Survey_goThrough_159 (j := 3) rfl ?_
                refine wm_callV (d2 := 1) (mc := 0) (ms := 0) C mo_Survey_comeTo co_Survey ml_Survey_94 [.int (if p + 1 < cy_rat (cy_rput s 3 p 0) 0 (p + 1) (-1) then cy_rat (cy_rput s 3 p 0) 0 (p + 1) (-1) else p + 1), .int (((cy_rat (cy_rput s 3 p 0) 2 p 0) - (cy_Yard_takes (cy_rat (cy_rput s 3 p 0) 0 p (-1)))) + (cy_Yard_gives (cy_rat (cy_rput s 3 p 0) 0 p (-1))))] [] rfl (rp_survey hR2) rfl (by decide) (Nat.le_of_ble_eq_true rfl) (Nat.le_refl _) (Nat.le_refl _) d_Survey_goThrough_161 (cy_ki ?_)
                refine c_Survey_comeTo hE hR2  _ _ (fun M3 hR3 => ⟨_, rfl, ?_⟩)
                refine wm_iret C P d_Survey_goThrough_164 ?_
                have e : cy_Survey_goThrough s p = cy_Survey_comeTo ((cy_Survey_comeTo (cy_rput s 3 p 0) (if cy_rat (cy_rput s 3 p 0) 0 (p + 1) (-1) < p + 1 then cy_rat (cy_rput s 3 p 0) 0 (p + 1) (-1) else p + 1) (((cy_rat (cy_rput s 3 p 0) 2 p 0) - (cy_Yard_takes (cy_rat (cy_rput s 3 p 0) 0 p (-1)))) + (cy_Yard_gives (cy_rat (cy_rput s 3 p 0) 0 p (-1))))).2) (if p + 1 < cy_rat (cy_rput s 3 p 0) 0 (p + 1) (-1) then cy_rat (cy_rput s 3 p 0) 0 (p + 1) (-1) else p + 1) (((cy_rat (cy_rput s 3 p 0) 2 p 0) - (cy_Yard_takes (cy_rat (cy_rput s 3 p 0) 0 p (-1)))) + (cy_Yard_gives (cy_rat (cy_rput s 3 p 0) 0 p (-1)))) := by rw [cy_Survey_goThrough, if_neg h_43, if_pos h_50, if_pos h_64, if_pos h_74, if_neg h_89, if_neg h_114, if_pos h_143]
                rw [e] at h
                exact h _ hR3
              · refine wm_iload C d_Survey_goThrough_146 (j := 0) rfl ?_
                refine wm_goto (tgt := 164) C d_Survey_goThrough_148 (by decide) ?_
                refine wm_iret C P d_Survey_goThrough_164 ?_
                have e : cy_Survey_goThrough s p = cy_Survey_comeTo (cy_rput s 3 p 0) (if cy_rat (cy_rput s 3 p 0) 0 (p + 1) (-1) < p + 1 then cy_rat (cy_rput s 3 p 0) 0 (p + 1) (-1) else p + 1) (((cy_rat (cy_rput s 3 p 0) 2 p 0) - (cy_Yard_takes (cy_rat (cy_rput s 3 p 0) 0 p (-1)))) + (cy_Yard_gives (cy_rat (cy_rput s 3 p 0) 0 p (-1)))) := by rw [cy_Survey_goThrough, if_neg h_43, if_pos h_50, if_pos h_64, if_pos h_74, if_neg h_89, if_neg h_114, if_neg h_143]
                rw [e] at h
                exact h _ hR2
            · refine wm_aload_n C d_Survey_goThrough_117 rfl (j := 5) rfl ?_
              refine wm_iload C d_Survey_goThrough_118 (j := 0) rfl ?_
              refine wm_iload C d_Survey_goThrough_120 (j := 2) rfl ?_
              refine wm_callV (d2 := 1) (mc := 0) (ms := 0) C mo_Survey_comeTo co_Survey ml_Survey_94 [.int (cy_rat (cy_rput s 3 p 0) 0 (p + 1) (-1)), .int (((cy_rat (cy_rput s 3 p 0) 2 p 0) - (cy_Yard_takes (cy_rat (cy_rput s 3 p 0) 0 p (-1)))) + (cy_Yard_gives (cy_rat (cy_rput s 3 p 0) 0 p (-1))))] [] rfl (rp_survey hR1) rfl (by decide) (Nat.le_of_ble_eq_true rfl) (Nat.le_refl _) (Nat.le_refl _) d_Survey_goThrough_122 (cy_ki ?_)
              refine c_Survey_comeTo hE hR1  _ _ (fun M4 hR4 => ⟨_, rfl, ?_⟩)
              refine wm_iret C P d_Survey_goThrough_125 ?_
              have e : cy_Survey_goThrough s p = cy_Survey_comeTo (cy_rput s 3 p 0) (cy_rat (cy_rput s 3 p 0) 0 (p + 1) (-1)) (((cy_rat (cy_rput s 3 p 0) 2 p 0) - (cy_Yard_takes (cy_rat (cy_rput s 3 p 0) 0 p (-1)))) + (cy_Yard_gives (cy_rat (cy_rput s 3 p 0) 0 p (-1)))) := by rw [cy_Survey_goThrough, if_neg h_43, if_pos h_50, if_pos h_64, if_pos h_74, if_neg h_89, if_pos h_114]
              rw [e] at h
              exact h _ hR4
          · refine wm_aload_n C d_Survey_goThrough_92 rfl (j := 4) rfl ?_
            refine wm_iload C d_Survey_goThrough_93 (j := 0) rfl ?_
            refine wm_iload C d_Survey_goThrough_95 (j := 1) rfl ?_
            refine wm_callV (d2 := 1) (mc := 0) (ms := 0) C mo_Survey_comeTo co_Survey ml_Survey_94 [.int (p + 1), .int (((cy_rat (cy_rput s 3 p 0) 2 p 0) - (cy_Yard_takes (cy_rat (cy_rput s 3 p 0) 0 p (-1)))) + (cy_Yard_gives (cy_rat (cy_rput s 3 p 0) 0 p (-1))))] [] rfl (rp_survey hR1) rfl (by decide) (Nat.le_of_ble_eq_true rfl) (Nat.le_refl _) (Nat.le_refl _) d_Survey_goThrough_97 (cy_ki ?_)
            refine c_Survey_comeTo hE hR1  _ _ (fun M5 hR5 => ⟨_, rfl, ?_⟩)
            refine wm_iret C P d_Survey_goThrough_100 ?_
            have e : cy_Survey_goThrough s p = cy_Survey_comeTo (cy_rput s 3 p 0) (p + 1) (((cy_rat (cy_rput s 3 p 0) 2 p 0) - (cy_Yard_takes (cy_rat (cy_rput s 3 p 0) 0 p (-1)))) + (cy_Yard_gives (cy_rat (cy_rput s 3 p 0) 0 p (-1)))) := by rw [cy_Survey_goThrough, if_neg h_43, if_pos h_50, if_pos h_64, if_pos h_74, if_pos h_89]
            rw [e] at h
            exact h _ hR5
        · refine wm_iconst (v := 2) C d_Survey_goThrough_77 (by decide) ?_
          refine wm_goto (tgt := 82) C d_Survey_goThrough_78 (by decide) ?_
          refine wm_iadd C d_Survey_goThrough_82 ?_
          refine wm_istore (lv' := [(6, .int (p + 2)), (5, .int (((cy_rat (cy_rput s 3 p 0) 2 p 0) - (cy_Yard_takes (cy_rat (cy_rput s 3 p 0) 0 p (-1)))) + (cy_Yard_gives (cy_rat (cy_rput s 3 p 0) 0 p (-1))))), (4, .int ((cy_rat (cy_rput s 3 p 0) 2 p 0) - (cy_Yard_takes (cy_rat (cy_rput s 3 p 0) 0 p (-1))))), (3, .int (cy_rat (cy_rput s 3 p 0) 0 p (-1))), (0, .ref (E.2.2.1 135)), (1, .ref (E.2.2.1 (2 * 0))), (2, .int p)]) C d_Survey_goThrough_83 (by decide) rfl ?_
          refine wm_iload_n C d_Survey_goThrough_85 rfl (j := 3) rfl ?_
          refine wm_callSN (d2 := 0) (mc := 0) (ms := 0) C mo_Yard_isJump ml_Survey_91 [.int (cy_rat (cy_rput s 3 p 0) 0 p (-1))] [] rfl rfl (by decide) (Nat.le_of_ble_eq_true rfl) (Nat.le_refl _) (Nat.le_refl _) d_Survey_goThrough_86 (cy_ki ?_)
          refine c_Yard_isJump hE hR1  _ ⟨_, rfl, ?_⟩
          refine wm_if_ne (tgt := 101) C d_Survey_goThrough_89 (by decide) (fun (h_89_8 : ¬ (cy_Yard_isJump (cy_rat (cy_rput s 3 p 0) 0 p (-1))) = 0) => ?_) (fun (h_89_8 : (cy_Yard_isJump (cy_rat (cy_rput s 3 p 0) 0 p (-1))) = 0) => ?_)
          · refine wm_aload_n C d_Survey_goThrough_101 rfl (j := 5) rfl ?_
            refine wm_iload_n C d_Survey_goThrough_102 rfl (j := 6) rfl ?_
            refine wm_iconst (v := 1) C d_Survey_goThrough_103 (by decide) ?_
            refine wm_iadd C d_Survey_goThrough_104 ?_
            refine wm_iconst (v := -1) C d_Survey_goThrough_105 (by decide) ?_
            refine wm_callVN (d2 := 0) (mc := 0) (ms := 0) C mo_Row_at co_Row ml_Survey_67 [.int (p + 1), .int (-1)] [] rfl (rp_row hR1 (by decide)) rfl (by decide) (Nat.le_of_ble_eq_true rfl) (Nat.le_refl _) (Nat.le_refl _) d_Survey_goThrough_106 (cy_ki ?_)
            refine c_at hE hR1 (by decide) _ _ ⟨_, rfl, ?_⟩
            refine wm_istore (lv' := [(7, .int (cy_rat (cy_rput s 3 p 0) 0 (p + 1) (-1))), (6, .int (p + 2)), (5, .int (((cy_rat (cy_rput s 3 p 0) 2 p 0) - (cy_Yard_takes (cy_rat (cy_rput s 3 p 0) 0 p (-1)))) + (cy_Yard_gives (cy_rat (cy_rput s 3 p 0) 0 p (-1))))), (4, .int ((cy_rat (cy_rput s 3 p 0) 2 p 0) - (cy_Yard_takes (cy_rat (cy_rput s 3 p 0) 0 p (-1))))), (3, .int (cy_rat (cy_rput s 3 p 0) 0 p (-1))), (0, .ref (E.2.2.1 135)), (1, .ref (E.2.2.1 (2 * 0))), (2, .int p)]) C d_Survey_goThrough_109 (by decide) rfl ?_
            refine wm_iload_n C d_Survey_goThrough_111 rfl (j := 4) rfl ?_
            refine wm_bipush (v := 16) C d_Survey_goThrough_112 (by decide) ?_
            refine wm_icmp_ne (tgt := 126) C d_Survey_goThrough_114 (by decide) (fun (h_114_9 : ¬ (cy_rat (cy_rput s 3 p 0) 0 p (-1)) = 16) => ?_) (fun (h_114_9 : (cy_rat (cy_rput s 3 p 0) 0 p (-1)) = 16) => ?_)
            · refine wm_aload_n C d_Survey_goThrough_126 rfl (j := 5) rfl ?_
              refine wm_iload C d_Survey_goThrough_127 (j := 1) rfl ?_
              refine wm_iload C d_Survey_goThrough_129 (j := 0) rfl ?_
              refine wm_mmin C ml_Survey_110 mm_min_s mm_i mm_min_c (by decide) (Nat.le_of_ble_eq_true rfl) (Nat.zero_le _) (Nat.zero_le _) d_Survey_goThrough_131 ?_
              refine wm_iload C d_Survey_goThrough_134 (j := 2) rfl ?_
              refine wm_callV (d2 := 1) (mc := 0) (ms := 0) C mo_Survey_comeTo co_Survey ml_Survey_94 [.int (if cy_rat (cy_rput s 3 p 0) 0 (p + 1) (-1) < p + 2 then cy_rat (cy_rput s 3 p 0) 0 (p + 1) (-1) else p + 2), .int (((cy_rat (cy_rput s 3 p 0) 2 p 0) - (cy_Yard_takes (cy_rat (cy_rput s 3 p 0) 0 p (-1)))) + (cy_Yard_gives (cy_rat (cy_rput s 3 p 0) 0 p (-1))))] [] rfl (rp_survey hR1) rfl (by decide) (Nat.le_of_ble_eq_true rfl) (Nat.le_refl _) (Nat.le_refl _) d_Survey_goThrough_136 (cy_ki ?_)
              refine c_Survey_comeTo hE hR1  _ _ (fun M6 hR6 => ⟨_, rfl, ?_⟩)
              refine wm_istore (lv' := [(8, .int ((cy_Survey_comeTo (cy_rput s 3 p 0) (if cy_rat (cy_rput s 3 p 0) 0 (p + 1) (-1) < p + 2 then cy_rat (cy_rput s 3 p 0) 0 (p + 1) (-1) else p + 2) (((cy_rat (cy_rput s 3 p 0) 2 p 0) - (cy_Yard_takes (cy_rat (cy_rput s 3 p 0) 0 p (-1)))) + (cy_Yard_gives (cy_rat (cy_rput s 3 p 0) 0 p (-1))))).1)), (7, .int (cy_rat (cy_rput s 3 p 0) 0 (p + 1) (-1))), (6, .int (p + 2)), (5, .int (((cy_rat (cy_rput s 3 p 0) 2 p 0) - (cy_Yard_takes (cy_rat (cy_rput s 3 p 0) 0 p (-1)))) + (cy_Yard_gives (cy_rat (cy_rput s 3 p 0) 0 p (-1))))), (4, .int ((cy_rat (cy_rput s 3 p 0) 2 p 0) - (cy_Yard_takes (cy_rat (cy_rput s 3 p 0) 0 p (-1))))), (3, .int (cy_rat (cy_rput s 3 p 0) 0 p (-1))), (0, .ref (E.2.2.1 135)), (1, .ref (E.2.2.1 (2 * 0))), (2, .int p)]) C d_Survey_goThrough_139 (by decide) rfl ?_
              refine wm_iload C d_Survey_goThrough_141 (j := 0) rfl ?_
              refine wm_if_eq (tgt := 151) C d_Survey_goThrough_143 (by decide) (fun (h_143_10 : ((cy_Survey_comeTo (cy_rput s 3 p 0) (if cy_rat (cy_rput s 3 p 0) 0 (p + 1) (-1) < p + 2 then cy_rat (cy_rput s 3 p 0) 0 (p + 1) (-1) else p + 2) (((cy_rat (cy_rput s 3 p 0) 2 p 0) - (cy_Yard_takes (cy_rat (cy_rput s 3 p 0) 0 p (-1)))) + (cy_Yard_gives (cy_rat (cy_rput s 3 p 0) 0 p (-1))))).1) = 0) => ?_) (fun (h_143_10 : ¬ ((cy_Survey_comeTo (cy_rput s 3 p 0) (if cy_rat (cy_rput s 3 p 0) 0 (p + 1) (-1) < p + 2 then cy_rat (cy_rput s 3 p 0) 0 (p + 1) (-1) else p + 2) (((cy_rat (cy_rput s 3 p 0) 2 p 0) - (cy_Yard_takes (cy_rat (cy_rput s 3 p 0) 0 p (-1)))) + (cy_Yard_gives (cy_rat (cy_rput s 3 p 0) 0 p (-1))))).1) = 0) => ?_)
              · refine wm_aload_n C d_Survey_goThrough_151 rfl (j := 6) rfl ?_
                refine wm_iload C d_Survey_goThrough_152 (j := 2) rfl ?_
                refine wm_iload C d_Survey_goThrough_154 (j := 1) rfl ?_
                refine wm_mmax C ml_Survey_115 mm_max_s mm_i mm_max_c (by decide) (Nat.le_of_ble_eq_true rfl) (Nat.zero_le _) (Nat.zero_le _) d_Survey_goThrough_156 ?_
                refine wm_iload C d_Survey_goThrough_159 (j := 3) rfl ?_
                refine wm_callV (d2 := 1) (mc := 0) (ms := 0) C mo_Survey_comeTo co_Survey ml_Survey_94 [.int (if p + 2 < cy_rat (cy_rput s 3 p 0) 0 (p + 1) (-1) then cy_rat (cy_rput s 3 p 0) 0 (p + 1) (-1) else p + 2), .int (((cy_rat (cy_rput s 3 p 0) 2 p 0) - (cy_Yard_takes (cy_rat (cy_rput s 3 p 0) 0 p (-1)))) + (cy_Yard_gives (cy_rat (cy_rput s 3 p 0) 0 p (-1))))] [] rfl (rp_survey hR6) rfl (by decide) (Nat.le_of_ble_eq_true rfl) (Nat.le_refl _) (Nat.le_refl _) d_Survey_goThrough_161 (cy_ki ?_)
                refine c_Survey_comeTo hE hR6  _ _ (fun M7 hR7 => ⟨_, rfl, ?_⟩)
                refine wm_iret C P d_Survey_goThrough_164 ?_
                have e : cy_Survey_goThrough s p = cy_Survey_comeTo ((cy_Survey_comeTo (cy_rput s 3 p 0) (if cy_rat (cy_rput s 3 p 0) 0 (p + 1) (-1) < p + 2 then cy_rat (cy_rput s 3 p 0) 0 (p + 1) (-1) else p + 2) (((cy_rat (cy_rput s 3 p 0) 2 p 0) - (cy_Yard_takes (cy_rat (cy_rput s 3 p 0) 0 p (-1)))) + (cy_Yard_gives (cy_rat (cy_rput s 3 p 0) 0 p (-1))))).2) (if p + 2 < cy_rat (cy_rput s 3 p 0) 0 (p + 1) (-1) then cy_rat (cy_rput s 3 p 0) 0 (p + 1) (-1) else p + 2) (((cy_rat (cy_rput s 3 p 0) 2 p 0) - (cy_Yard_takes (cy_rat (cy_rput s 3 p 0) 0 p (-1)))) + (cy_Yard_gives (cy_rat (cy_rput s 3 p 0) 0 p (-1)))) := by rw [cy_Survey_goThrough, if_neg h_43, if_pos h_50, if_pos h_64, if_neg h_74, if_neg h_89_8, if_neg h_114_9, if_pos h_143_10]
                rw [e] at h
                exact h _ hR7
              · refine wm_iload C d_Survey_goThrough_146 (j := 0) rfl ?_
                refine wm_goto (tgt := 164) C d_Survey_goThrough_148 (by decide) ?_
                refine wm_iret C P d_Survey_goThrough_164 ?_
                have e : cy_Survey_goThrough s p = cy_Survey_comeTo (cy_rput s 3 p 0) (if cy_rat (cy_rput s 3 p 0) 0 (p + 1) (-1) < p + 2 then cy_rat (cy_rput s 3 p 0) 0 (p + 1) (-1) else p + 2) (((cy_rat (cy_rput s 3 p 0) 2 p 0) - (cy_Yard_takes (cy_rat (cy_rput s 3 p 0) 0 p (-1)))) + (cy_Yard_gives (cy_rat (cy_rput s 3 p 0) 0 p (-1)))) := by rw [cy_Survey_goThrough, if_neg h_43, if_pos h_50, if_pos h_64, if_neg h_74, if_neg h_89_8, if_neg h_114_9, if_neg h_143_10]
                rw [e] at h
                exact h _ hR6
            · refine wm_aload_n C d_Survey_goThrough_117 rfl (j := 5) rfl ?_
              refine wm_iload C d_Survey_goThrough_118 (j := 0) rfl ?_
              refine wm_iload C d_Survey_goThrough_120 (j := 2) rfl ?_
              refine wm_callV (d2 := 1) (mc := 0) (ms := 0) C mo_Survey_comeTo co_Survey ml_Survey_94 [.int (cy_rat (cy_rput s 3 p 0) 0 (p + 1) (-1)), .int (((cy_rat (cy_rput s 3 p 0) 2 p 0) - (cy_Yard_takes (cy_rat (cy_rput s 3 p 0) 0 p (-1)))) + (cy_Yard_gives (cy_rat (cy_rput s 3 p 0) 0 p (-1))))] [] rfl (rp_survey hR1) rfl (by decide) (Nat.le_of_ble_eq_true rfl) (Nat.le_refl _) (Nat.le_refl _) d_Survey_goThrough_122 (cy_ki ?_)
              refine c_Survey_comeTo hE hR1  _ _ (fun M8 hR8 => ⟨_, rfl, ?_⟩)
              refine wm_iret C P d_Survey_goThrough_125 ?_
              have e : cy_Survey_goThrough s p = cy_Survey_comeTo (cy_rput s 3 p 0) (cy_rat (cy_rput s 3 p 0) 0 (p + 1) (-1)) (((cy_rat (cy_rput s 3 p 0) 2 p 0) - (cy_Yard_takes (cy_rat (cy_rput s 3 p 0) 0 p (-1)))) + (cy_Yard_gives (cy_rat (cy_rput s 3 p 0) 0 p (-1)))) := by rw [cy_Survey_goThrough, if_neg h_43, if_pos h_50, if_pos h_64, if_neg h_74, if_neg h_89_8, if_pos h_114_9]
              rw [e] at h
              exact h _ hR8
          · refine wm_aload_n C d_Survey_goThrough_92 rfl (j := 4) rfl ?_
            refine wm_iload C d_Survey_goThrough_93 (j := 0) rfl ?_
            refine wm_iload C d_Survey_goThrough_95 (j := 1) rfl ?_
            refine wm_callV (d2 := 1) (mc := 0) (ms := 0) C mo_Survey_comeTo co_Survey ml_Survey_94 [.int (p + 2), .int (((cy_rat (cy_rput s 3 p 0) 2 p 0) - (cy_Yard_takes (cy_rat (cy_rput s 3 p 0) 0 p (-1)))) + (cy_Yard_gives (cy_rat (cy_rput s 3 p 0) 0 p (-1))))] [] rfl (rp_survey hR1) rfl (by decide) (Nat.le_of_ble_eq_true rfl) (Nat.le_refl _) (Nat.le_refl _) d_Survey_goThrough_97 (cy_ki ?_)
            refine c_Survey_comeTo hE hR1  _ _ (fun M9 hR9 => ⟨_, rfl, ?_⟩)
            refine wm_iret C P d_Survey_goThrough_100 ?_
            have e : cy_Survey_goThrough s p = cy_Survey_comeTo (cy_rput s 3 p 0) (p + 2) (((cy_rat (cy_rput s 3 p 0) 2 p 0) - (cy_Yard_takes (cy_rat (cy_rput s 3 p 0) 0 p (-1)))) + (cy_Yard_gives (cy_rat (cy_rput s 3 p 0) 0 p (-1)))) := by rw [cy_Survey_goThrough, if_neg h_43, if_pos h_50, if_pos h_64, if_neg h_74, if_pos h_89_8]
            rw [e] at h
            exact h _ hR9
      · refine wm_iconst (v := 0) C d_Survey_goThrough_67 (by decide) ?_
        refine wm_iret C P d_Survey_goThrough_68 ?_
        have e : cy_Survey_goThrough s p = (0, (cy_rput s 3 p 0)) := by rw [cy_Survey_goThrough, if_neg h_43, if_pos h_50, if_neg h_64]
        rw [e] at h
        exact h _ hR1
    · refine wm_bipush (v := 7) C d_Survey_goThrough_53 (by decide) ?_
      refine wm_iload_n C d_Survey_goThrough_55 rfl (j := 5) rfl ?_
      refine wm_callS (d2 := 0) (mc := 0) (ms := 0) C mo_Survey_fault ml_Survey_30 [.int 7, .int p] [] rfl rfl (by decide) (Nat.le_of_ble_eq_true rfl) (Nat.le_refl _) (Nat.le_refl _) d_Survey_goThrough_56 (cy_ki ?_)
      refine c_Survey_fault hE hR1  _ _ ⟨_, rfl, ?_⟩
      refine wm_iret C P d_Survey_goThrough_59 ?_
      have e : cy_Survey_goThrough s p = (cy_Survey_fault 7 p, (cy_rput s 3 p 0)) := by rw [cy_Survey_goThrough, if_neg h_43, if_neg h_50]
      rw [e] at h
      exact h _ hR1
theorem cy_len2 {E : cy_E} {s : cy_S} {M : cy_Hp} (h : cy_R E s M) {r : Nat} (hr : r < 58) : (nI (s.1 r).length).toInt < 2 ^ 31 - 1 := by
  obtain ⟨f, h1, h2, h3, h4⟩ := h.1 r hr
  have hc : cy_cap r ≤ 300 := by
    unfold cy_cap
    repeat' split
    all_goals omega
  rw [nI_toInt (by omega)]; omega
def cy_Survey_readInstructions_l : Nat → cy_S → Int32 → Int32 × cy_S
  | 0, s, _ => (0, s)
  | q + 1, s, p =>
    if (nI (s.1 0).length) ≤ p then
      if (cy_rat s 0 s.2.2.2.2.1 0) = 16 then
        (0, s)
      else
        if (cy_Yard_isEnding (cy_rat s 0 s.2.2.2.2.1 0)) = 0 then
          (cy_Survey_fault 5 s.2.2.2.2.1, s)
        else
          (0, s)
    else
      if (cy_Survey_readingFault s p) = 0 then
        if (cy_Yard_hasOperand (cy_rat (cy_s_lastStart (cy_s_instructions (cy_rput s 1 p 1) (s.2.2.2.1 + 1)) p) 0 p (-1))) = 0 then
          cy_Survey_readInstructions_l q (cy_s_lastStart (cy_s_instructions (cy_rput s 1 p 1) (s.2.2.2.1 + 1)) p) (p + 1)
        else
          cy_Survey_readInstructions_l q (cy_s_lastStart (cy_s_instructions (cy_rput s 1 p 1) (s.2.2.2.1 + 1)) p) ((p + 1) + 1)
      else
        (cy_Survey_readingFault s p, s)
set_option maxHeartbeats 4000000 in
theorem l_Survey_readInstructions {G : cy_G} {E : cy_E} {post : Option Value → cy_Hp → Prop} {F : cy_F} (hE : cy_Eo G E) (C : cy_C G F R_Survey b_Survey_readInstructions 4 4 0 0) (P : cy_P G F (some .int) post 0 0) : ∀ (q : Nat) (s : cy_S) (p : Int32) (M : cy_Hp), cy_R E s M → (nI (s.1 0).length).toInt ≤ p.toInt + ((q : Nat) : Int) → (∀ M', cy_R E (cy_Survey_readInstructions_l (q + 1) s p).2 M' → post (some (.int (cy_Survey_readInstructions_l (q + 1) s p).1)) M') → WM G F 4 0 0 2 [(2, .int p), (0, .ref (E.2.2.1 135)), (1, .ref (E.2.2.1 (2 * 0)))] [] M := by
  intro q
  induction q with
  | zero =>
    intro s p M hR hb h
    refine wm_iload_n C d_Survey_readInstructions_2 rfl (j := 0) rfl ?_
    refine wm_aload_n C d_Survey_readInstructions_3 rfl (j := 2) rfl ?_
    refine wm_getN C co_Row (rp_row hR (by decide)) 1 (by decide) fl_Survey_26 rfl d_Survey_readInstructions_4 ?_
    refine wm_icmp_ge (tgt := 67) C d_Survey_readInstructions_7 (by decide) (fun (h_7 : (nI (s.1 0).length) ≤ p) => ?_) (fun (h_7 : ¬ (nI (s.1 0).length) ≤ p) => ?_)
    · refine wm_aload_n C d_Survey_readInstructions_67 rfl (j := 2) rfl ?_
      refine wm_aload_n C d_Survey_readInstructions_68 rfl (j := 1) rfl ?_
      refine wm_get C co_Survey (rp_survey hR) 4 (by decide) fl_Survey_54 rfl d_Survey_readInstructions_69 ?_
      refine wm_iconst (v := 0) C d_Survey_readInstructions_72 (by decide) ?_
      refine wm_callVN (d2 := 0) (mc := 0) (ms := 0) C mo_Row_at co_Row ml_Survey_67 [.int s.2.2.2.2.1, .int 0] [] rfl (rp_row hR (by decide)) rfl (by decide) (Nat.le_of_ble_eq_true rfl) (Nat.le_refl _) (Nat.le_refl _) d_Survey_readInstructions_73 (cy_ki ?_)
      refine c_at hE hR (by decide) _ _ ⟨_, rfl, ?_⟩
      refine wm_istore_n (lv' := [(2, .int (cy_rat s 0 s.2.2.2.2.1 0)), (0, .ref (E.2.2.1 135)), (1, .ref (E.2.2.1 (2 * 0)))]) C d_Survey_readInstructions_76 rfl (by decide) rfl ?_
      refine wm_iload_n C d_Survey_readInstructions_77 rfl (j := 0) rfl ?_
      refine wm_bipush (v := 16) C d_Survey_readInstructions_78 (by decide) ?_
      refine wm_icmp_eq (tgt := 90) C d_Survey_readInstructions_80 (by decide) (fun (h_80 : (cy_rat s 0 s.2.2.2.2.1 0) = 16) => ?_) (fun (h_80 : ¬ (cy_rat s 0 s.2.2.2.2.1 0) = 16) => ?_)
      · refine wm_iconst (v := 0) C d_Survey_readInstructions_90 (by decide) ?_
        refine wm_goto (tgt := 102) C d_Survey_readInstructions_91 (by decide) ?_
        refine wm_iret C P d_Survey_readInstructions_102 ?_
        have e : cy_Survey_readInstructions_l (0 + 1) s p = (0, s) := by rw [cy_Survey_readInstructions_l, if_pos h_7, if_pos h_80]
        rw [e] at h
        exact h _ hR
      · refine wm_iload_n C d_Survey_readInstructions_83 rfl (j := 0) rfl ?_
        refine wm_callSN (d2 := 0) (mc := 0) (ms := 0) C mo_Yard_isEnding ml_Survey_74 [.int (cy_rat s 0 s.2.2.2.2.1 0)] [] rfl rfl (by decide) (Nat.le_of_ble_eq_true rfl) (Nat.le_refl _) (Nat.le_refl _) d_Survey_readInstructions_84 (cy_ki ?_)
        refine c_Yard_isEnding hE hR  _ ⟨_, rfl, ?_⟩
        refine wm_if_eq (tgt := 94) C d_Survey_readInstructions_87 (by decide) (fun (h_87 : (cy_Yard_isEnding (cy_rat s 0 s.2.2.2.2.1 0)) = 0) => ?_) (fun (h_87 : ¬ (cy_Yard_isEnding (cy_rat s 0 s.2.2.2.2.1 0)) = 0) => ?_)
        · refine wm_iconst (v := 5) C d_Survey_readInstructions_94 (by decide) ?_
          refine wm_aload_n C d_Survey_readInstructions_95 rfl (j := 1) rfl ?_
          refine wm_get C co_Survey (rp_survey hR) 4 (by decide) fl_Survey_54 rfl d_Survey_readInstructions_96 ?_
          refine wm_callS (d2 := 0) (mc := 0) (ms := 0) C mo_Survey_fault ml_Survey_30 [.int 5, .int s.2.2.2.2.1] [] rfl rfl (by decide) (Nat.le_of_ble_eq_true rfl) (Nat.le_refl _) (Nat.le_refl _) d_Survey_readInstructions_99 (cy_ki ?_)
          refine c_Survey_fault hE hR  _ _ ⟨_, rfl, ?_⟩
          refine wm_iret C P d_Survey_readInstructions_102 ?_
          have e : cy_Survey_readInstructions_l (0 + 1) s p = (cy_Survey_fault 5 s.2.2.2.2.1, s) := by rw [cy_Survey_readInstructions_l, if_pos h_7, if_neg h_80, if_pos h_87]
          rw [e] at h
          exact h _ hR
        · refine wm_iconst (v := 0) C d_Survey_readInstructions_90 (by decide) ?_
          refine wm_goto (tgt := 102) C d_Survey_readInstructions_91 (by decide) ?_
          refine wm_iret C P d_Survey_readInstructions_102 ?_
          have e : cy_Survey_readInstructions_l (0 + 1) s p = (0, s) := by rw [cy_Survey_readInstructions_l, if_pos h_7, if_neg h_80, if_neg h_87]
          rw [e] at h
          exact h _ hR
    · exact absurd (cy_n0 hb) h_7
  | succ q ih =>
    intro s p M hR hb h
    refine wm_iload_n C d_Survey_readInstructions_2 rfl (j := 0) rfl ?_
    refine wm_aload_n C d_Survey_readInstructions_3 rfl (j := 2) rfl ?_
    refine wm_getN C co_Row (rp_row hR (by decide)) 1 (by decide) fl_Survey_26 rfl d_Survey_readInstructions_4 ?_
    refine wm_icmp_ge (tgt := 67) C d_Survey_readInstructions_7 (by decide) (fun (h_7 : (nI (s.1 0).length) ≤ p) => ?_) (fun (h_7 : ¬ (nI (s.1 0).length) ≤ p) => ?_)
    · refine wm_aload_n C d_Survey_readInstructions_67 rfl (j := 2) rfl ?_
      refine wm_aload_n C d_Survey_readInstructions_68 rfl (j := 1) rfl ?_
      refine wm_get C co_Survey (rp_survey hR) 4 (by decide) fl_Survey_54 rfl d_Survey_readInstructions_69 ?_
      refine wm_iconst (v := 0) C d_Survey_readInstructions_72 (by decide) ?_
      refine wm_callVN (d2 := 0) (mc := 0) (ms := 0) C mo_Row_at co_Row ml_Survey_67 [.int s.2.2.2.2.1, .int 0] [] rfl (rp_row hR (by decide)) rfl (by decide) (Nat.le_of_ble_eq_true rfl) (Nat.le_refl _) (Nat.le_refl _) d_Survey_readInstructions_73 (cy_ki ?_)
      refine c_at hE hR (by decide) _ _ ⟨_, rfl, ?_⟩
      refine wm_istore_n (lv' := [(2, .int (cy_rat s 0 s.2.2.2.2.1 0)), (0, .ref (E.2.2.1 135)), (1, .ref (E.2.2.1 (2 * 0)))]) C d_Survey_readInstructions_76 rfl (by decide) rfl ?_
      refine wm_iload_n C d_Survey_readInstructions_77 rfl (j := 0) rfl ?_
      refine wm_bipush (v := 16) C d_Survey_readInstructions_78 (by decide) ?_
      refine wm_icmp_eq (tgt := 90) C d_Survey_readInstructions_80 (by decide) (fun (h_80 : (cy_rat s 0 s.2.2.2.2.1 0) = 16) => ?_) (fun (h_80 : ¬ (cy_rat s 0 s.2.2.2.2.1 0) = 16) => ?_)
      · refine wm_iconst (v := 0) C d_Survey_readInstructions_90 (by decide) ?_
        refine wm_goto (tgt := 102) C d_Survey_readInstructions_91 (by decide) ?_
        refine wm_iret C P d_Survey_readInstructions_102 ?_
        have e : cy_Survey_readInstructions_l (q + 1 + 1) s p = (0, s) := by rw [cy_Survey_readInstructions_l, if_pos h_7, if_pos h_80]
        rw [e] at h
        exact h _ hR
      · refine wm_iload_n C d_Survey_readInstructions_83 rfl (j := 0) rfl ?_
        refine wm_callSN (d2 := 0) (mc := 0) (ms := 0) C mo_Yard_isEnding ml_Survey_74 [.int (cy_rat s 0 s.2.2.2.2.1 0)] [] rfl rfl (by decide) (Nat.le_of_ble_eq_true rfl) (Nat.le_refl _) (Nat.le_refl _) d_Survey_readInstructions_84 (cy_ki ?_)
        refine c_Yard_isEnding hE hR  _ ⟨_, rfl, ?_⟩
        refine wm_if_eq (tgt := 94) C d_Survey_readInstructions_87 (by decide) (fun (h_87 : (cy_Yard_isEnding (cy_rat s 0 s.2.2.2.2.1 0)) = 0) => ?_) (fun (h_87 : ¬ (cy_Yard_isEnding (cy_rat s 0 s.2.2.2.2.1 0)) = 0) => ?_)
        · refine wm_iconst (v := 5) C d_Survey_readInstructions_94 (by decide) ?_
          refine wm_aload_n C d_Survey_readInstructions_95 rfl (j := 1) rfl ?_
          refine wm_get C co_Survey (rp_survey hR) 4 (by decide) fl_Survey_54 rfl d_Survey_readInstructions_96 ?_
          refine wm_callS (d2 := 0) (mc := 0) (ms := 0) C mo_Survey_fault ml_Survey_30 [.int 5, .int s.2.2.2.2.1] [] rfl rfl (by decide) (Nat.le_of_ble_eq_true rfl) (Nat.le_refl _) (Nat.le_refl _) d_Survey_readInstructions_99 (cy_ki ?_)
          refine c_Survey_fault hE hR  _ _ ⟨_, rfl, ?_⟩
          refine wm_iret C P d_Survey_readInstructions_102 ?_
          have e : cy_Survey_readInstructions_l (q + 1 + 1) s p = (cy_Survey_fault 5 s.2.2.2.2.1, s) := by rw [cy_Survey_readInstructions_l, if_pos h_7, if_neg h_80, if_pos h_87]
          rw [e] at h
          exact h _ hR
        · refine wm_iconst (v := 0) C d_Survey_readInstructions_90 (by decide) ?_
          refine wm_goto (tgt := 102) C d_Survey_readInstructions_91 (by decide) ?_
          refine wm_iret C P d_Survey_readInstructions_102 ?_
          have e : cy_Survey_readInstructions_l (q + 1 + 1) s p = (0, s) := by rw [cy_Survey_readInstructions_l, if_pos h_7, if_neg h_80, if_neg h_87]
          rw [e] at h
          exact h _ hR
    · refine wm_aload_n C d_Survey_readInstructions_10 rfl (j := 2) rfl ?_
      refine wm_iload_n C d_Survey_readInstructions_11 rfl (j := 0) rfl ?_
      refine wm_callS (d2 := 3) (mc := 0) (ms := 0) C mo_Survey_readingFault ml_Survey_60 [.ref (E.2.2.1 (2 * 0)), .int p] [] rfl rfl (by decide) (Nat.le_of_ble_eq_true rfl) (Nat.le_refl _) (Nat.le_refl _) d_Survey_readInstructions_12 (cy_ki ?_)
      refine c_Survey_readingFault hE hR  _ ⟨_, rfl, ?_⟩
      refine wm_istore_n (lv' := [(3, .int (cy_Survey_readingFault s p)), (2, .int p), (0, .ref (E.2.2.1 135)), (1, .ref (E.2.2.1 (2 * 0)))]) C d_Survey_readInstructions_15 rfl (by decide) rfl ?_
      refine wm_iload_n C d_Survey_readInstructions_16 rfl (j := 0) rfl ?_
      refine wm_if_eq (tgt := 22) C d_Survey_readInstructions_17 (by decide) (fun (h_17 : (cy_Survey_readingFault s p) = 0) => ?_) (fun (h_17 : ¬ (cy_Survey_readingFault s p) = 0) => ?_)
      · refine wm_aload_n C d_Survey_readInstructions_22 rfl (j := 2) rfl ?_
        refine wm_get C co_Survey (rp_survey hR) 0 (by decide) fl_Survey_14 rfl d_Survey_readInstructions_23 ?_
        refine wm_iload_n C d_Survey_readInstructions_26 rfl (j := 1) rfl ?_
        refine wm_iconst (v := 1) C d_Survey_readInstructions_27 (by decide) ?_
        refine wm_callVN (d2 := 0) (mc := 0) (ms := 0) C mo_Row_put co_Row ml_Survey_64 [.int p, .int 1] [] rfl (rp_row hR (by decide)) rfl (by decide) (Nat.le_of_ble_eq_true rfl) (Nat.le_refl _) (Nat.le_refl _) d_Survey_readInstructions_28 (cy_kv ?_)
        refine c_put hE hR (by decide) _ _ (fun M1 hR1 => ⟨rfl, ?_⟩)
        refine wm_aload_n C d_Survey_readInstructions_31 rfl (j := 2) rfl ?_
        refine wm_dup C d_Survey_readInstructions_32 rfl ?_
        refine wm_get C co_Survey (rp_survey hR1) 3 (by decide) fl_Survey_51 rfl d_Survey_readInstructions_33 ?_
        refine wm_iconst (v := 1) C d_Survey_readInstructions_36 (by decide) ?_
        refine wm_iadd C d_Survey_readInstructions_37 ?_
        refine wm_put C co_Survey (rp_survey hR1) 3 (by decide) fl_Survey_51 rfl rfl rfl (Nat.le_of_ble_eq_true rfl) d_Survey_readInstructions_38 ?_
        refine wm_gen (rp_p_instructions hE hR1 (s.2.2.2.1 + 1)) (fun M2 hR2 => ?_)
        refine wm_aload_n C d_Survey_readInstructions_41 rfl (j := 2) rfl ?_
        refine wm_iload_n C d_Survey_readInstructions_42 rfl (j := 1) rfl ?_
        refine wm_put C co_Survey (rp_survey hR2) 4 (by decide) fl_Survey_54 rfl rfl rfl (Nat.le_of_ble_eq_true rfl) d_Survey_readInstructions_43 ?_
        refine wm_gen (rp_p_lastStart hE hR2 p) (fun M3 hR3 => ?_)
        refine wm_aload_n C d_Survey_readInstructions_46 rfl (j := 3) rfl ?_
        refine wm_iload_n C d_Survey_readInstructions_47 rfl (j := 1) rfl ?_
        refine wm_iconst (v := -1) C d_Survey_readInstructions_48 (by decide) ?_
        refine wm_callVN (d2 := 0) (mc := 0) (ms := 0) C mo_Row_at co_Row ml_Survey_67 [.int p, .int (-1)] [] rfl (rp_row hR3 (by decide)) rfl (by decide) (Nat.le_of_ble_eq_true rfl) (Nat.le_refl _) (Nat.le_refl _) d_Survey_readInstructions_49 (cy_ki ?_)
        refine c_at hE hR3 (by decide) _ _ ⟨_, rfl, ?_⟩
        refine wm_callSN (d2 := 2) (mc := 0) (ms := 0) C mo_Yard_hasOperand ml_Survey_70 [.int (cy_rat (cy_s_lastStart (cy_s_instructions (cy_rput s 1 p 1) (s.2.2.2.1 + 1)) p) 0 p (-1))] [] rfl rfl (by decide) (Nat.le_of_ble_eq_true rfl) (Nat.le_refl _) (Nat.le_refl _) d_Survey_readInstructions_52 (cy_ki ?_)
        refine c_Yard_hasOperand hE hR3  _ ⟨_, rfl, ?_⟩
        refine wm_if_eq (tgt := 61) C d_Survey_readInstructions_55 (by decide) (fun (h_55 : (cy_Yard_hasOperand (cy_rat (cy_s_lastStart (cy_s_instructions (cy_rput s 1 p 1) (s.2.2.2.1 + 1)) p) 0 p (-1))) = 0) => ?_) (fun (h_55 : ¬ (cy_Yard_hasOperand (cy_rat (cy_s_lastStart (cy_s_instructions (cy_rput s 1 p 1) (s.2.2.2.1 + 1)) p) 0 p (-1))) = 0) => ?_)
        · refine wm_iinc (v := p + 1) (lv' := [(2, .int (p + 1)), (3, .int (cy_Survey_readingFault s p)), (0, .ref (E.2.2.1 135)), (1, .ref (E.2.2.1 (2 * 0)))]) C d_Survey_readInstructions_61 (k := 1) rfl rfl (by decide) rfl ?_
          refine wm_goto (tgt := 2) C d_Survey_readInstructions_64 (by decide) ?_
          have e : cy_Survey_readInstructions_l (q + 1 + 1) s p = cy_Survey_readInstructions_l (q + 1) (cy_s_lastStart (cy_s_instructions (cy_rput s 1 p 1) (s.2.2.2.1 + 1)) p) (p + 1) := by rw [cy_Survey_readInstructions_l, if_neg h_7, if_pos h_17, if_pos h_55]
          rw [e] at h
          exact wm_sub [(2, .int (p + 1)), (0, .ref (E.2.2.1 135)), (1, .ref (E.2.2.1 (2 * 0)))] (by simp) (ih (cy_s_lastStart (cy_s_instructions (cy_rput s 1 p 1) (s.2.2.2.1 + 1)) p) (p + 1) _ hR3 (cy_n1 hb h_7) h)
        · refine wm_iinc (v := p + 1) (lv' := [(2, .int (p + 1)), (3, .int (cy_Survey_readingFault s p)), (0, .ref (E.2.2.1 135)), (1, .ref (E.2.2.1 (2 * 0)))]) C d_Survey_readInstructions_58 (k := 1) rfl rfl (by decide) rfl ?_
          refine wm_iinc (v := (p + 1) + 1) (lv' := [(2, .int ((p + 1) + 1)), (3, .int (cy_Survey_readingFault s p)), (0, .ref (E.2.2.1 135)), (1, .ref (E.2.2.1 (2 * 0)))]) C d_Survey_readInstructions_61 (k := 0) rfl rfl (by decide) rfl ?_
          refine wm_goto (tgt := 2) C d_Survey_readInstructions_64 (by decide) ?_
          have e : cy_Survey_readInstructions_l (q + 1 + 1) s p = cy_Survey_readInstructions_l (q + 1) (cy_s_lastStart (cy_s_instructions (cy_rput s 1 p 1) (s.2.2.2.1 + 1)) p) ((p + 1) + 1) := by rw [cy_Survey_readInstructions_l, if_neg h_7, if_pos h_17, if_neg h_55]
          rw [e] at h
          exact wm_sub [(2, .int ((p + 1) + 1)), (0, .ref (E.2.2.1 135)), (1, .ref (E.2.2.1 (2 * 0)))] (by simp) (ih (cy_s_lastStart (cy_s_instructions (cy_rput s 1 p 1) (s.2.2.2.1 + 1)) p) ((p + 1) + 1) _ hR3 (cy_n2 (cy_len2 hR (by decide)) hb h_7) h)
      · refine wm_iload_n C d_Survey_readInstructions_20 rfl (j := 0) rfl ?_
        refine wm_iret C P d_Survey_readInstructions_21 ?_
        have e : cy_Survey_readInstructions_l (q + 1 + 1) s p = (cy_Survey_readingFault s p, s) := by rw [cy_Survey_readInstructions_l, if_neg h_7, if_neg h_17]
        rw [e] at h
        exact h _ hR
def cy_Survey_readInstructions (s : cy_S) : Int32 × cy_S :=
  cy_Survey_readInstructions_l (((nI (s.1 0).length).toInt - (3 : Int32).toInt).toNat + 1) s 3
set_option maxHeartbeats 4000000 in
theorem c_Survey_readInstructions {G : cy_G} {E : cy_E} {s : cy_S} {M : cy_Hp} {post : Option Value → cy_Hp → Prop} (hE : cy_Eo G E) (hR : cy_R E s M)   (h : ∀ M', cy_R E (cy_Survey_readInstructions s).2 M' → post (some (.int (cy_Survey_readInstructions s).1)) M') : cy_Ct G 4 m_Survey_readInstructions [.ref (E.2.2.1 135), .ref (E.2.2.1 (2 * 0))] M 0 0 post := by
  refine cy_Ct.of (by decide) (Nat.le_of_ble_eq_true rfl) ?_
  intro F C P _
  have C : cy_C G F R_Survey b_Survey_readInstructions 4 4 0 0 := C
  have P : cy_P G F (some .int) post 0 0 := P
  show WM G F 4 0 0 0 [(0, .ref (E.2.2.1 135)), (1, .ref (E.2.2.1 (2 * 0)))] [] M
  refine wm_iconst (v := 3) C d_Survey_readInstructions_0 (by decide) ?_
  refine wm_istore_n (lv' := [(2, .int 3), (0, .ref (E.2.2.1 135)), (1, .ref (E.2.2.1 (2 * 0)))]) C d_Survey_readInstructions_1 rfl (by decide) rfl ?_
  have e : cy_Survey_readInstructions s = cy_Survey_readInstructions_l (((nI (s.1 0).length).toInt - (3 : Int32).toInt).toNat + 1) s 3 := by rw [cy_Survey_readInstructions]
  rw [e] at h
  exact wm_sub [(2, .int 3), (0, .ref (E.2.2.1 135)), (1, .ref (E.2.2.1 (2 * 0)))] (by simp) (l_Survey_readInstructions hE C P _ _ _ _ hR (cy_fuel _ _) h)
def cy_Survey_lookAtPlaces_l : Nat → cy_S → Int32 → Int32
  | 0, s, _ => 0
  | q + 1, s, p =>
    if (nI (s.1 0).length) ≤ p then
      0
    else
      if (cy_Survey_tellsPlace s p) = 0 then
        cy_Survey_lookAtPlaces_l q s (p + 1)
      else
        if (cy_rat s 1 (cy_rat s 0 p (-1)) 0) = 0 then
          cy_Survey_fault 6 p
        else
          cy_Survey_lookAtPlaces_l q s (p + 1)
set_option maxHeartbeats 4000000 in
theorem l_Survey_lookAtPlaces {G : cy_G} {E : cy_E} {post : Option Value → cy_Hp → Prop} {F : cy_F} (hE : cy_Eo G E) (C : cy_C G F R_Survey b_Survey_lookAtPlaces 3 2 0 0) (P : cy_P G F (some .int) post 0 0) : ∀ (q : Nat) (s : cy_S) (p : Int32) (M : cy_Hp), cy_R E s M → (nI (s.1 0).length).toInt ≤ p.toInt + ((q : Nat) : Int) → (post (some (.int (cy_Survey_lookAtPlaces_l (q + 1) s p))) M) → WM G F 3 0 0 2 [(2, .int p), (0, .ref (E.2.2.1 135)), (1, .ref (E.2.2.1 (2 * 0)))] [] M := by
  intro q
  induction q with
  | zero =>
    intro s p M hR hb h
    refine wm_iload_n C d_Survey_lookAtPlaces_2 rfl (j := 0) rfl ?_
    refine wm_aload_n C d_Survey_lookAtPlaces_3 rfl (j := 2) rfl ?_
    refine wm_getN C co_Row (rp_row hR (by decide)) 1 (by decide) fl_Survey_26 rfl d_Survey_lookAtPlaces_4 ?_
    refine wm_icmp_ge (tgt := 49) C d_Survey_lookAtPlaces_7 (by decide) (fun (h_7 : (nI (s.1 0).length) ≤ p) => ?_) (fun (h_7 : ¬ (nI (s.1 0).length) ≤ p) => ?_)
    · refine wm_iconst (v := 0) C d_Survey_lookAtPlaces_49 (by decide) ?_
      refine wm_iret C P d_Survey_lookAtPlaces_50 ?_
      have e : cy_Survey_lookAtPlaces_l (0 + 1) s p = 0 := by rw [cy_Survey_lookAtPlaces_l, if_pos h_7]
      rw [e] at h
      exact h
    · exact absurd (cy_n0 hb) h_7
  | succ q ih =>
    intro s p M hR hb h
    refine wm_iload_n C d_Survey_lookAtPlaces_2 rfl (j := 0) rfl ?_
    refine wm_aload_n C d_Survey_lookAtPlaces_3 rfl (j := 2) rfl ?_
    refine wm_getN C co_Row (rp_row hR (by decide)) 1 (by decide) fl_Survey_26 rfl d_Survey_lookAtPlaces_4 ?_
    refine wm_icmp_ge (tgt := 49) C d_Survey_lookAtPlaces_7 (by decide) (fun (h_7 : (nI (s.1 0).length) ≤ p) => ?_) (fun (h_7 : ¬ (nI (s.1 0).length) ≤ p) => ?_)
    · refine wm_iconst (v := 0) C d_Survey_lookAtPlaces_49 (by decide) ?_
      refine wm_iret C P d_Survey_lookAtPlaces_50 ?_
      have e : cy_Survey_lookAtPlaces_l (q + 1 + 1) s p = 0 := by rw [cy_Survey_lookAtPlaces_l, if_pos h_7]
      rw [e] at h
      exact h
    · refine wm_aload_n C d_Survey_lookAtPlaces_10 rfl (j := 1) rfl ?_
      refine wm_aload_n C d_Survey_lookAtPlaces_11 rfl (j := 2) rfl ?_
      refine wm_iload_n C d_Survey_lookAtPlaces_12 rfl (j := 0) rfl ?_
      refine wm_callV (d2 := 1) (mc := 0) (ms := 0) C mo_Survey_tellsPlace co_Survey ml_Survey_87 [.ref (E.2.2.1 (2 * 0)), .int p] [] rfl (rp_survey hR) rfl (by decide) (Nat.le_of_ble_eq_true rfl) (Nat.le_refl _) (Nat.le_refl _) d_Survey_lookAtPlaces_13 (cy_ki ?_)
      refine c_Survey_tellsPlace hE hR  _ ⟨_, rfl, ?_⟩
      refine wm_if_eq (tgt := 43) C d_Survey_lookAtPlaces_16 (by decide) (fun (h_16 : (cy_Survey_tellsPlace s p) = 0) => ?_) (fun (h_16 : ¬ (cy_Survey_tellsPlace s p) = 0) => ?_)
      · refine wm_iinc (v := p + 1) (lv' := [(2, .int (p + 1)), (0, .ref (E.2.2.1 135)), (1, .ref (E.2.2.1 (2 * 0)))]) C d_Survey_lookAtPlaces_43 (k := 0) rfl rfl (by decide) rfl ?_
        refine wm_goto (tgt := 2) C d_Survey_lookAtPlaces_46 (by decide) ?_
        have e : cy_Survey_lookAtPlaces_l (q + 1 + 1) s p = cy_Survey_lookAtPlaces_l (q + 1) s (p + 1) := by rw [cy_Survey_lookAtPlaces_l, if_neg h_7, if_pos h_16]
        rw [e] at h
        exact wm_sub [(2, .int (p + 1)), (0, .ref (E.2.2.1 135)), (1, .ref (E.2.2.1 (2 * 0)))] (by simp) (ih s (p + 1) _ hR (cy_n1 hb h_7) h)
      · refine wm_aload_n C d_Survey_lookAtPlaces_19 rfl (j := 1) rfl ?_
        refine wm_get C co_Survey (rp_survey hR) 0 (by decide) fl_Survey_14 rfl d_Survey_lookAtPlaces_20 ?_
        refine wm_aload_n C d_Survey_lookAtPlaces_23 rfl (j := 2) rfl ?_
        refine wm_iload_n C d_Survey_lookAtPlaces_24 rfl (j := 0) rfl ?_
        refine wm_iconst (v := -1) C d_Survey_lookAtPlaces_25 (by decide) ?_
        refine wm_callVN (d2 := 0) (mc := 0) (ms := 0) C mo_Row_at co_Row ml_Survey_67 [.int p, .int (-1)] [.ref (E.2.2.1 (2 * 1))] rfl (rp_row hR (by decide)) rfl (by decide) (Nat.le_of_ble_eq_true rfl) (Nat.le_refl _) (Nat.le_refl _) d_Survey_lookAtPlaces_26 (cy_ki ?_)
        refine c_at hE hR (by decide) _ _ ⟨_, rfl, ?_⟩
        refine wm_iconst (v := 0) C d_Survey_lookAtPlaces_29 (by decide) ?_
        refine wm_callVN (d2 := 0) (mc := 0) (ms := 0) C mo_Row_at co_Row ml_Survey_67 [.int (cy_rat s 0 p (-1)), .int 0] [] rfl (rp_row hR (by decide)) rfl (by decide) (Nat.le_of_ble_eq_true rfl) (Nat.le_refl _) (Nat.le_refl _) d_Survey_lookAtPlaces_30 (cy_ki ?_)
        refine c_at hE hR (by decide) _ _ ⟨_, rfl, ?_⟩
        refine wm_if_ne (tgt := 43) C d_Survey_lookAtPlaces_33 (by decide) (fun (h_33 : ¬ (cy_rat s 1 (cy_rat s 0 p (-1)) 0) = 0) => ?_) (fun (h_33 : (cy_rat s 1 (cy_rat s 0 p (-1)) 0) = 0) => ?_)
        · refine wm_iinc (v := p + 1) (lv' := [(2, .int (p + 1)), (0, .ref (E.2.2.1 135)), (1, .ref (E.2.2.1 (2 * 0)))]) C d_Survey_lookAtPlaces_43 (k := 0) rfl rfl (by decide) rfl ?_
          refine wm_goto (tgt := 2) C d_Survey_lookAtPlaces_46 (by decide) ?_
          have e : cy_Survey_lookAtPlaces_l (q + 1 + 1) s p = cy_Survey_lookAtPlaces_l (q + 1) s (p + 1) := by rw [cy_Survey_lookAtPlaces_l, if_neg h_7, if_neg h_16, if_neg h_33]
          rw [e] at h
          exact wm_sub [(2, .int (p + 1)), (0, .ref (E.2.2.1 135)), (1, .ref (E.2.2.1 (2 * 0)))] (by simp) (ih s (p + 1) _ hR (cy_n1 hb h_7) h)
        · refine wm_bipush (v := 6) C d_Survey_lookAtPlaces_36 (by decide) ?_
          refine wm_iload_n C d_Survey_lookAtPlaces_38 rfl (j := 0) rfl ?_
          refine wm_callS (d2 := 0) (mc := 0) (ms := 0) C mo_Survey_fault ml_Survey_30 [.int 6, .int p] [] rfl rfl (by decide) (Nat.le_of_ble_eq_true rfl) (Nat.le_refl _) (Nat.le_refl _) d_Survey_lookAtPlaces_39 (cy_ki ?_)
          refine c_Survey_fault hE hR  _ _ ⟨_, rfl, ?_⟩
          refine wm_iret C P d_Survey_lookAtPlaces_42 ?_
          have e : cy_Survey_lookAtPlaces_l (q + 1 + 1) s p = cy_Survey_fault 6 p := by rw [cy_Survey_lookAtPlaces_l, if_neg h_7, if_neg h_16, if_pos h_33]
          rw [e] at h
          exact h
def cy_Survey_lookAtPlaces (s : cy_S) : Int32 :=
  cy_Survey_lookAtPlaces_l (((nI (s.1 0).length).toInt - (0 : Int32).toInt).toNat + 1) s 0
set_option maxHeartbeats 4000000 in
theorem c_Survey_lookAtPlaces {G : cy_G} {E : cy_E} {s : cy_S} {M : cy_Hp} {post : Option Value → cy_Hp → Prop} (hE : cy_Eo G E) (hR : cy_R E s M)   (h : post (some (.int (cy_Survey_lookAtPlaces s))) M) : cy_Ct G 2 m_Survey_lookAtPlaces [.ref (E.2.2.1 135), .ref (E.2.2.1 (2 * 0))] M 0 0 post := by
  refine cy_Ct.of (by decide) (Nat.le_of_ble_eq_true rfl) ?_
  intro F C P _
  have C : cy_C G F R_Survey b_Survey_lookAtPlaces 3 2 0 0 := C
  have P : cy_P G F (some .int) post 0 0 := P
  show WM G F 3 0 0 0 [(0, .ref (E.2.2.1 135)), (1, .ref (E.2.2.1 (2 * 0)))] [] M
  refine wm_iconst (v := 0) C d_Survey_lookAtPlaces_0 (by decide) ?_
  refine wm_istore_n (lv' := [(2, .int 0), (0, .ref (E.2.2.1 135)), (1, .ref (E.2.2.1 (2 * 0)))]) C d_Survey_lookAtPlaces_1 rfl (by decide) rfl ?_
  have e : cy_Survey_lookAtPlaces s = cy_Survey_lookAtPlaces_l (((nI (s.1 0).length).toInt - (0 : Int32).toInt).toNat + 1) s 0 := by rw [cy_Survey_lookAtPlaces]
  rw [e] at h
  exact wm_sub [(2, .int 0), (0, .ref (E.2.2.1 135)), (1, .ref (E.2.2.1 (2 * 0)))] (by simp) (l_Survey_lookAtPlaces hE C P _ _ _ _ hR (cy_fuel _ _) h)
def cy_Survey_leastWaiting_l : Nat → cy_S → Int32 → Int32 × cy_S
  | 0, s, _ => (-1, s)
  | q + 1, s, p =>
    if (nI (s.1 3).length) ≤ p then
      ((-1), s)
    else
      if (cy_rat s 3 p 0) = 1 then
        (p, (cy_s_searchFrom s p))
      else
        cy_Survey_leastWaiting_l q s (p + 1)
set_option maxHeartbeats 4000000 in
theorem l_Survey_leastWaiting {G : cy_G} {E : cy_E} {post : Option Value → cy_Hp → Prop} {F : cy_F} (hE : cy_Eo G E) (C : cy_C G F R_Survey b_Survey_leastWaiting 2 1 0 0) (P : cy_P G F (some .int) post 0 0) : ∀ (q : Nat) (s : cy_S) (p : Int32) (M : cy_Hp), cy_R E s M → (nI (s.1 3).length).toInt ≤ p.toInt + ((q : Nat) : Int) → (∀ M', cy_R E (cy_Survey_leastWaiting_l (q + 1) s p).2 M' → post (some (.int (cy_Survey_leastWaiting_l (q + 1) s p).1)) M') → WM G F 2 0 0 5 [(1, .int p), (0, .ref (E.2.2.1 135))] [] M := by
  intro q
  induction q with
  | zero =>
    intro s p M hR hb h
    refine wm_iload_n C d_Survey_leastWaiting_5 rfl (j := 0) rfl ?_
    refine wm_aload_n C d_Survey_leastWaiting_6 rfl (j := 1) rfl ?_
    refine wm_get C co_Survey (rp_survey hR) 2 (by decide) fl_Survey_23 rfl d_Survey_leastWaiting_7 ?_
    refine wm_getN C co_Row (rp_row hR (by decide)) 1 (by decide) fl_Survey_26 rfl d_Survey_leastWaiting_10 ?_
    refine wm_icmp_ge (tgt := 42) C d_Survey_leastWaiting_13 (by decide) (fun (h_13 : (nI (s.1 3).length) ≤ p) => ?_) (fun (h_13 : ¬ (nI (s.1 3).length) ≤ p) => ?_)
    · refine wm_iconst (v := -1) C d_Survey_leastWaiting_42 (by decide) ?_
      refine wm_iret C P d_Survey_leastWaiting_43 ?_
      have e : cy_Survey_leastWaiting_l (0 + 1) s p = ((-1), s) := by rw [cy_Survey_leastWaiting_l, if_pos h_13]
      rw [e] at h
      exact h _ hR
    · exact absurd (cy_n0 hb) h_13
  | succ q ih =>
    intro s p M hR hb h
    refine wm_iload_n C d_Survey_leastWaiting_5 rfl (j := 0) rfl ?_
    refine wm_aload_n C d_Survey_leastWaiting_6 rfl (j := 1) rfl ?_
    refine wm_get C co_Survey (rp_survey hR) 2 (by decide) fl_Survey_23 rfl d_Survey_leastWaiting_7 ?_
    refine wm_getN C co_Row (rp_row hR (by decide)) 1 (by decide) fl_Survey_26 rfl d_Survey_leastWaiting_10 ?_
    refine wm_icmp_ge (tgt := 42) C d_Survey_leastWaiting_13 (by decide) (fun (h_13 : (nI (s.1 3).length) ≤ p) => ?_) (fun (h_13 : ¬ (nI (s.1 3).length) ≤ p) => ?_)
    · refine wm_iconst (v := -1) C d_Survey_leastWaiting_42 (by decide) ?_
      refine wm_iret C P d_Survey_leastWaiting_43 ?_
      have e : cy_Survey_leastWaiting_l (q + 1 + 1) s p = ((-1), s) := by rw [cy_Survey_leastWaiting_l, if_pos h_13]
      rw [e] at h
      exact h _ hR
    · refine wm_aload_n C d_Survey_leastWaiting_16 rfl (j := 1) rfl ?_
      refine wm_get C co_Survey (rp_survey hR) 2 (by decide) fl_Survey_23 rfl d_Survey_leastWaiting_17 ?_
      refine wm_iload_n C d_Survey_leastWaiting_20 rfl (j := 0) rfl ?_
      refine wm_iconst (v := 0) C d_Survey_leastWaiting_21 (by decide) ?_
      refine wm_callVN (d2 := 0) (mc := 0) (ms := 0) C mo_Row_at co_Row ml_Survey_67 [.int p, .int 0] [] rfl (rp_row hR (by decide)) rfl (by decide) (Nat.le_of_ble_eq_true rfl) (Nat.le_refl _) (Nat.le_refl _) d_Survey_leastWaiting_22 (cy_ki ?_)
      refine c_at hE hR (by decide) _ _ ⟨_, rfl, ?_⟩
      refine wm_iconst (v := 1) C d_Survey_leastWaiting_25 (by decide) ?_
      refine wm_icmp_ne (tgt := 36) C d_Survey_leastWaiting_26 (by decide) (fun (h_26 : ¬ (cy_rat s 3 p 0) = 1) => ?_) (fun (h_26 : (cy_rat s 3 p 0) = 1) => ?_)
      · refine wm_iinc (v := p + 1) (lv' := [(1, .int (p + 1)), (0, .ref (E.2.2.1 135))]) C d_Survey_leastWaiting_36 (k := 0) rfl rfl (by decide) rfl ?_
        refine wm_goto (tgt := 5) C d_Survey_leastWaiting_39 (by decide) ?_
        have e : cy_Survey_leastWaiting_l (q + 1 + 1) s p = cy_Survey_leastWaiting_l (q + 1) s (p + 1) := by rw [cy_Survey_leastWaiting_l, if_neg h_13, if_neg h_26]
        rw [e] at h
        exact wm_sub [(1, .int (p + 1)), (0, .ref (E.2.2.1 135))] (by simp) (ih s (p + 1) _ hR (cy_n1 hb h_13) h)
      · refine wm_aload_n C d_Survey_leastWaiting_29 rfl (j := 1) rfl ?_
        refine wm_iload_n C d_Survey_leastWaiting_30 rfl (j := 0) rfl ?_
        refine wm_put C co_Survey (rp_survey hR) 5 (by decide) fl_Survey_57 rfl rfl rfl (Nat.le_of_ble_eq_true rfl) d_Survey_leastWaiting_31 ?_
        refine wm_gen (rp_p_searchFrom hE hR p) (fun M1 hR1 => ?_)
        refine wm_iload_n C d_Survey_leastWaiting_34 rfl (j := 0) rfl ?_
        refine wm_iret C P d_Survey_leastWaiting_35 ?_
        have e : cy_Survey_leastWaiting_l (q + 1 + 1) s p = (p, (cy_s_searchFrom s p)) := by rw [cy_Survey_leastWaiting_l, if_neg h_13, if_pos h_26]
        rw [e] at h
        exact h _ hR1
def cy_Survey_leastWaiting (s : cy_S) : Int32 × cy_S :=
  cy_Survey_leastWaiting_l (((nI (s.1 3).length).toInt - s.2.2.2.2.2.toInt).toNat + 1) s s.2.2.2.2.2
set_option maxHeartbeats 4000000 in
theorem c_Survey_leastWaiting {G : cy_G} {E : cy_E} {s : cy_S} {M : cy_Hp} {post : Option Value → cy_Hp → Prop} (hE : cy_Eo G E) (hR : cy_R E s M)   (h : ∀ M', cy_R E (cy_Survey_leastWaiting s).2 M' → post (some (.int (cy_Survey_leastWaiting s).1)) M') : cy_Ct G 1 m_Survey_leastWaiting [.ref (E.2.2.1 135)] M 0 0 post := by
  refine cy_Ct.of (by decide) (Nat.le_of_ble_eq_true rfl) ?_
  intro F C P _
  have C : cy_C G F R_Survey b_Survey_leastWaiting 2 1 0 0 := C
  have P : cy_P G F (some .int) post 0 0 := P
  show WM G F 2 0 0 0 [(0, .ref (E.2.2.1 135))] [] M
  refine wm_aload_n C d_Survey_leastWaiting_0 rfl (j := 0) rfl ?_
  refine wm_get C co_Survey (rp_survey hR) 5 (by decide) fl_Survey_57 rfl d_Survey_leastWaiting_1 ?_
  refine wm_istore_n (lv' := [(1, .int s.2.2.2.2.2), (0, .ref (E.2.2.1 135))]) C d_Survey_leastWaiting_4 rfl (by decide) rfl ?_
  have e : cy_Survey_leastWaiting s = cy_Survey_leastWaiting_l (((nI (s.1 3).length).toInt - s.2.2.2.2.2.toInt).toNat + 1) s s.2.2.2.2.2 := by rw [cy_Survey_leastWaiting]
  rw [e] at h
  exact wm_sub [(1, .int s.2.2.2.2.2), (0, .ref (E.2.2.1 135))] (by simp) (l_Survey_leastWaiting hE C P _ _ _ _ hR (cy_fuel _ _) h)
end
section
def cy_Survey_goThroughAll_l : Nat → cy_S → Int32 → Int32 × cy_S
  | 0, s, _ => (0, s)
  | q + 1, s, p =>
    if 256 ≤ p then
      (0, s)
    else
      if ((cy_Survey_leastWaiting s).1) = (-1) then
        (0, (cy_Survey_leastWaiting s).2)
      else
        if ((cy_Survey_goThrough ((cy_Survey_leastWaiting s).2) ((cy_Survey_leastWaiting s).1)).1) = 0 then
          cy_Survey_goThroughAll_l q ((cy_Survey_goThrough ((cy_Survey_leastWaiting s).2) ((cy_Survey_leastWaiting s).1)).2) (p + 1)
        else
          cy_Survey_goThrough ((cy_Survey_leastWaiting s).2) ((cy_Survey_leastWaiting s).1)
set_option maxHeartbeats 4000000 in
theorem l_Survey_goThroughAll {G : cy_G} {E : cy_E} {post : Option Value → cy_Hp → Prop} {F : cy_F} (hE : cy_Eo G E) (C : cy_C G F R_Survey b_Survey_goThroughAll 5 4 0 0) (P : cy_P G F (some .int) post 0 0) : ∀ (q : Nat) (s : cy_S) (p : Int32) (M : cy_Hp), cy_R E s M → (256 : Int32).toInt ≤ p.toInt + ((q : Nat) : Int) → (∀ M', cy_R E (cy_Survey_goThroughAll_l (q + 1) s p).2 M' → post (some (.int (cy_Survey_goThroughAll_l (q + 1) s p).1)) M') → WM G F 5 0 0 27 [(2, .int p), (0, .ref (E.2.2.1 135)), (1, .ref (E.2.2.1 (2 * 0)))] [] M := by
  intro q
  induction q with
  | zero =>
    intro s p M hR hb h
    refine wm_iload_n C d_Survey_goThroughAll_27 rfl (j := 0) rfl ?_
    refine wm_sipush (v := 256) C d_Survey_goThroughAll_28 (by decide) ?_
    refine wm_icmp_ge (tgt := 68) C d_Survey_goThroughAll_31 (by decide) (fun (h_31 : 256 ≤ p) => ?_) (fun (h_31 : ¬ 256 ≤ p) => ?_)
    · refine wm_iconst (v := 0) C d_Survey_goThroughAll_68 (by decide) ?_
      refine wm_iret C P d_Survey_goThroughAll_69 ?_
      have e : cy_Survey_goThroughAll_l (0 + 1) s p = (0, s) := by rw [cy_Survey_goThroughAll_l, if_pos h_31]
      rw [e] at h
      exact h _ hR
    · exact absurd (cy_n0 hb) h_31
  | succ q ih =>
    intro s p M hR hb h
    refine wm_iload_n C d_Survey_goThroughAll_27 rfl (j := 0) rfl ?_
    refine wm_sipush (v := 256) C d_Survey_goThroughAll_28 (by decide) ?_
    refine wm_icmp_ge (tgt := 68) C d_Survey_goThroughAll_31 (by decide) (fun (h_31 : 256 ≤ p) => ?_) (fun (h_31 : ¬ 256 ≤ p) => ?_)
    · refine wm_iconst (v := 0) C d_Survey_goThroughAll_68 (by decide) ?_
      refine wm_iret C P d_Survey_goThroughAll_69 ?_
      have e : cy_Survey_goThroughAll_l (q + 1 + 1) s p = (0, s) := by rw [cy_Survey_goThroughAll_l, if_pos h_31]
      rw [e] at h
      exact h _ hR
    · refine wm_aload_n C d_Survey_goThroughAll_34 rfl (j := 1) rfl ?_
      refine wm_callV (d2 := 1) (mc := 0) (ms := 0) C mo_Survey_leastWaiting co_Survey ml_Survey_97 [] [] rfl (rp_survey hR) rfl (by decide) (Nat.le_of_ble_eq_true rfl) (Nat.le_refl _) (Nat.le_refl _) d_Survey_goThroughAll_35 (cy_ki ?_)
      refine c_Survey_leastWaiting hE hR   (fun M1 hR1 => ⟨_, rfl, ?_⟩)
      refine wm_istore_n (lv' := [(3, .int ((cy_Survey_leastWaiting s).1)), (2, .int p), (0, .ref (E.2.2.1 135)), (1, .ref (E.2.2.1 (2 * 0)))]) C d_Survey_goThroughAll_38 rfl (by decide) rfl ?_
      refine wm_iload_n C d_Survey_goThroughAll_39 rfl (j := 0) rfl ?_
      refine wm_iconst (v := -1) C d_Survey_goThroughAll_40 (by decide) ?_
      refine wm_icmp_ne (tgt := 46) C d_Survey_goThroughAll_41 (by decide) (fun (h_41 : ¬ ((cy_Survey_leastWaiting s).1) = (-1)) => ?_) (fun (h_41 : ((cy_Survey_leastWaiting s).1) = (-1)) => ?_)
      · refine wm_aload_n C d_Survey_goThroughAll_46 rfl (j := 2) rfl ?_
        refine wm_aload_n C d_Survey_goThroughAll_47 rfl (j := 3) rfl ?_
        refine wm_iload_n C d_Survey_goThroughAll_48 rfl (j := 0) rfl ?_
        refine wm_callV (d2 := 3) (mc := 0) (ms := 0) C mo_Survey_goThrough co_Survey ml_Survey_101 [.ref (E.2.2.1 (2 * 0)), .int ((cy_Survey_leastWaiting s).1)] [] rfl (rp_survey hR1) rfl (by decide) (Nat.le_of_ble_eq_true rfl) (Nat.le_refl _) (Nat.le_refl _) d_Survey_goThroughAll_49 (cy_ki ?_)
        refine c_Survey_goThrough hE hR1  _ (fun M2 hR2 => ⟨_, rfl, ?_⟩)
        refine wm_istore (lv' := [(4, .int ((cy_Survey_goThrough ((cy_Survey_leastWaiting s).2) ((cy_Survey_leastWaiting s).1)).1)), (3, .int ((cy_Survey_leastWaiting s).1)), (2, .int p), (0, .ref (E.2.2.1 135)), (1, .ref (E.2.2.1 (2 * 0)))]) C d_Survey_goThroughAll_52 (by decide) rfl ?_
        refine wm_iload C d_Survey_goThroughAll_54 (j := 0) rfl ?_
        refine wm_if_eq (tgt := 62) C d_Survey_goThroughAll_56 (by decide) (fun (h_56 : ((cy_Survey_goThrough ((cy_Survey_leastWaiting s).2) ((cy_Survey_leastWaiting s).1)).1) = 0) => ?_) (fun (h_56 : ¬ ((cy_Survey_goThrough ((cy_Survey_leastWaiting s).2) ((cy_Survey_leastWaiting s).1)).1) = 0) => ?_)
        · refine wm_iinc (v := p + 1) (lv' := [(2, .int (p + 1)), (4, .int ((cy_Survey_goThrough ((cy_Survey_leastWaiting s).2) ((cy_Survey_leastWaiting s).1)).1)), (3, .int ((cy_Survey_leastWaiting s).1)), (0, .ref (E.2.2.1 135)), (1, .ref (E.2.2.1 (2 * 0)))]) C d_Survey_goThroughAll_62 (k := 2) rfl rfl (by decide) rfl ?_
          refine wm_goto (tgt := 27) C d_Survey_goThroughAll_65 (by decide) ?_
          have e : cy_Survey_goThroughAll_l (q + 1 + 1) s p = cy_Survey_goThroughAll_l (q + 1) ((cy_Survey_goThrough ((cy_Survey_leastWaiting s).2) ((cy_Survey_leastWaiting s).1)).2) (p + 1) := by rw [cy_Survey_goThroughAll_l, if_neg h_31, if_neg h_41, if_pos h_56]
          rw [e] at h
          exact wm_sub [(2, .int (p + 1)), (0, .ref (E.2.2.1 135)), (1, .ref (E.2.2.1 (2 * 0)))] (by simp) (ih ((cy_Survey_goThrough ((cy_Survey_leastWaiting s).2) ((cy_Survey_leastWaiting s).1)).2) (p + 1) _ hR2 (cy_n1 hb h_31) h)
        · refine wm_iload C d_Survey_goThroughAll_59 (j := 0) rfl ?_
          refine wm_iret C P d_Survey_goThroughAll_61 ?_
          have e : cy_Survey_goThroughAll_l (q + 1 + 1) s p = cy_Survey_goThrough ((cy_Survey_leastWaiting s).2) ((cy_Survey_leastWaiting s).1) := by rw [cy_Survey_goThroughAll_l, if_neg h_31, if_neg h_41, if_neg h_56]
          rw [e] at h
          exact h _ hR2
      · refine wm_iconst (v := 0) C d_Survey_goThroughAll_44 (by decide) ?_
        refine wm_iret C P d_Survey_goThroughAll_45 ?_
        have e : cy_Survey_goThroughAll_l (q + 1 + 1) s p = (0, (cy_Survey_leastWaiting s).2) := by rw [cy_Survey_goThroughAll_l, if_neg h_31, if_pos h_41]
        rw [e] at h
        exact h _ hR1
def cy_Survey_goThroughAll (s : cy_S) : Int32 × cy_S :=
  cy_Survey_goThroughAll_l (((256 : Int32).toInt - (0 : Int32).toInt).toNat + 1) ((cy_Survey_comeTo ((cy_Survey_comeTo ((cy_Survey_comeTo s (cy_rat s 0 0 (-1)) 0).2) (cy_rat ((cy_Survey_comeTo s (cy_rat s 0 0 (-1)) 0).2) 0 1 (-1)) 0).2) (cy_rat ((cy_Survey_comeTo ((cy_Survey_comeTo s (cy_rat s 0 0 (-1)) 0).2) (cy_rat ((cy_Survey_comeTo s (cy_rat s 0 0 (-1)) 0).2) 0 1 (-1)) 0).2) 0 2 (-1)) 0).2) 0
set_option maxHeartbeats 4000000 in
theorem c_Survey_goThroughAll {G : cy_G} {E : cy_E} {s : cy_S} {M : cy_Hp} {post : Option Value → cy_Hp → Prop} (hE : cy_Eo G E) (hR : cy_R E s M)   (h : ∀ M', cy_R E (cy_Survey_goThroughAll s).2 M' → post (some (.int (cy_Survey_goThroughAll s).1)) M') : cy_Ct G 4 m_Survey_goThroughAll [.ref (E.2.2.1 135), .ref (E.2.2.1 (2 * 0))] M 0 0 post := by
  refine cy_Ct.of (by decide) (Nat.le_of_ble_eq_true rfl) ?_
  intro F C P _
  have C : cy_C G F R_Survey b_Survey_goThroughAll 5 4 0 0 := C
  have P : cy_P G F (some .int) post 0 0 := P
  show WM G F 5 0 0 0 [(0, .ref (E.2.2.1 135)), (1, .ref (E.2.2.1 (2 * 0)))] [] M
  refine wm_iconst (v := 0) C d_Survey_goThroughAll_0 (by decide) ?_
  refine wm_istore_n (lv' := [(2, .int 0), (0, .ref (E.2.2.1 135)), (1, .ref (E.2.2.1 (2 * 0)))]) C d_Survey_goThroughAll_1 rfl (by decide) rfl ?_
  refine wm_iload_n C d_Survey_goThroughAll_2 rfl (j := 0) rfl ?_
  refine wm_iconst (v := 3) C d_Survey_goThroughAll_3 (by decide) ?_
  refine wm_icmp_ge (tgt := 25) C d_Survey_goThroughAll_4 (by decide) (fun (h_4 : 3 ≤ 0) => ?_) (fun (h_4 : ¬ 3 ≤ 0) => ?_)
  · exact absurd h_4 (by decide)
  · refine wm_aload_n C d_Survey_goThroughAll_7 rfl (j := 1) rfl ?_
    refine wm_aload_n C d_Survey_goThroughAll_8 rfl (j := 2) rfl ?_
    refine wm_iload_n C d_Survey_goThroughAll_9 rfl (j := 0) rfl ?_
    refine wm_iconst (v := -1) C d_Survey_goThroughAll_10 (by decide) ?_
    refine wm_callVN (d2 := 0) (mc := 0) (ms := 0) C mo_Row_at co_Row ml_Survey_67 [.int 0, .int (-1)] [.ref (E.2.2.1 135)] rfl (rp_row hR (by decide)) rfl (by decide) (Nat.le_of_ble_eq_true rfl) (Nat.le_refl _) (Nat.le_refl _) d_Survey_goThroughAll_11 (cy_ki ?_)
    refine c_at hE hR (by decide) _ _ ⟨_, rfl, ?_⟩
    refine wm_iconst (v := 0) C d_Survey_goThroughAll_14 (by decide) ?_
    refine wm_callV (d2 := 1) (mc := 0) (ms := 0) C mo_Survey_comeTo co_Survey ml_Survey_94 [.int (cy_rat s 0 0 (-1)), .int 0] [] rfl (rp_survey hR) rfl (by decide) (Nat.le_of_ble_eq_true rfl) (Nat.le_refl _) (Nat.le_refl _) d_Survey_goThroughAll_15 (cy_ki ?_)
    refine c_Survey_comeTo hE hR  _ _ (fun M1 hR1 => ⟨_, rfl, ?_⟩)
    refine wm_pop C d_Survey_goThroughAll_18 rfl ?_
    refine wm_iinc (v := 1) (lv' := [(2, .int 1), (0, .ref (E.2.2.1 135)), (1, .ref (E.2.2.1 (2 * 0)))]) C d_Survey_goThroughAll_19 (k := 0) rfl (by decide) (by decide) rfl ?_
    refine wm_goto (tgt := 2) C d_Survey_goThroughAll_22 (by decide) ?_
    refine wm_iload_n C d_Survey_goThroughAll_2 rfl (j := 0) rfl ?_
    refine wm_iconst (v := 3) C d_Survey_goThroughAll_3 (by decide) ?_
    refine wm_icmp_ge (tgt := 25) C d_Survey_goThroughAll_4 (by decide) (fun (h_4_2 : 3 ≤ 1) => ?_) (fun (h_4_2 : ¬ 3 ≤ 1) => ?_)
    · exact absurd h_4_2 (by decide)
    · refine wm_aload_n C d_Survey_goThroughAll_7 rfl (j := 1) rfl ?_
      refine wm_aload_n C d_Survey_goThroughAll_8 rfl (j := 2) rfl ?_
      refine wm_iload_n C d_Survey_goThroughAll_9 rfl (j := 0) rfl ?_
      refine wm_iconst (v := -1) C d_Survey_goThroughAll_10 (by decide) ?_
      refine wm_callVN (d2 := 0) (mc := 0) (ms := 0) C mo_Row_at co_Row ml_Survey_67 [.int 1, .int (-1)] [.ref (E.2.2.1 135)] rfl (rp_row hR1 (by decide)) rfl (by decide) (Nat.le_of_ble_eq_true rfl) (Nat.le_refl _) (Nat.le_refl _) d_Survey_goThroughAll_11 (cy_ki ?_)
      refine c_at hE hR1 (by decide) _ _ ⟨_, rfl, ?_⟩
      refine wm_iconst (v := 0) C d_Survey_goThroughAll_14 (by decide) ?_
      refine wm_callV (d2 := 1) (mc := 0) (ms := 0) C mo_Survey_comeTo co_Survey ml_Survey_94 [.int (cy_rat ((cy_Survey_comeTo s (cy_rat s 0 0 (-1)) 0).2) 0 1 (-1)), .int 0] [] rfl (rp_survey hR1) rfl (by decide) (Nat.le_of_ble_eq_true rfl) (Nat.le_refl _) (Nat.le_refl _) d_Survey_goThroughAll_15 (cy_ki ?_)
      refine c_Survey_comeTo hE hR1  _ _ (fun M2 hR2 => ⟨_, rfl, ?_⟩)
      refine wm_pop C d_Survey_goThroughAll_18 rfl ?_
      refine wm_iinc (v := 2) (lv' := [(2, .int 2), (0, .ref (E.2.2.1 135)), (1, .ref (E.2.2.1 (2 * 0)))]) C d_Survey_goThroughAll_19 (k := 0) rfl (by decide) (by decide) rfl ?_
      refine wm_goto (tgt := 2) C d_Survey_goThroughAll_22 (by decide) ?_
      refine wm_iload_n C d_Survey_goThroughAll_2 rfl (j := 0) rfl ?_
      refine wm_iconst (v := 3) C d_Survey_goThroughAll_3 (by decide) ?_
      refine wm_icmp_ge (tgt := 25) C d_Survey_goThroughAll_4 (by decide) (fun (h_4_3 : 3 ≤ 2) => ?_) (fun (h_4_3 : ¬ 3 ≤ 2) => ?_)
      · exact absurd h_4_3 (by decide)
      · refine wm_aload_n C d_Survey_goThroughAll_7 rfl (j := 1) rfl ?_
        refine wm_aload_n C d_Survey_goThroughAll_8 rfl (j := 2) rfl ?_
        refine wm_iload_n C d_Survey_goThroughAll_9 rfl (j := 0) rfl ?_
        refine wm_iconst (v := -1) C d_Survey_goThroughAll_10 (by decide) ?_
        refine wm_callVN (d2 := 0) (mc := 0) (ms := 0) C mo_Row_at co_Row ml_Survey_67 [.int 2, .int (-1)] [.ref (E.2.2.1 135)] rfl (rp_row hR2 (by decide)) rfl (by decide) (Nat.le_of_ble_eq_true rfl) (Nat.le_refl _) (Nat.le_refl _) d_Survey_goThroughAll_11 (cy_ki ?_)
        refine c_at hE hR2 (by decide) _ _ ⟨_, rfl, ?_⟩
        refine wm_iconst (v := 0) C d_Survey_goThroughAll_14 (by decide) ?_
        refine wm_callV (d2 := 1) (mc := 0) (ms := 0) C mo_Survey_comeTo co_Survey ml_Survey_94 [.int (cy_rat ((cy_Survey_comeTo ((cy_Survey_comeTo s (cy_rat s 0 0 (-1)) 0).2) (cy_rat ((cy_Survey_comeTo s (cy_rat s 0 0 (-1)) 0).2) 0 1 (-1)) 0).2) 0 2 (-1)), .int 0] [] rfl (rp_survey hR2) rfl (by decide) (Nat.le_of_ble_eq_true rfl) (Nat.le_refl _) (Nat.le_refl _) d_Survey_goThroughAll_15 (cy_ki ?_)
        refine c_Survey_comeTo hE hR2  _ _ (fun M3 hR3 => ⟨_, rfl, ?_⟩)
        refine wm_pop C d_Survey_goThroughAll_18 rfl ?_
        refine wm_iinc (v := 3) (lv' := [(2, .int 3), (0, .ref (E.2.2.1 135)), (1, .ref (E.2.2.1 (2 * 0)))]) C d_Survey_goThroughAll_19 (k := 0) rfl (by decide) (by decide) rfl ?_
        refine wm_goto (tgt := 2) C d_Survey_goThroughAll_22 (by decide) ?_
        refine wm_iload_n C d_Survey_goThroughAll_2 rfl (j := 0) rfl ?_
        refine wm_iconst (v := 3) C d_Survey_goThroughAll_3 (by decide) ?_
        refine wm_icmp_ge (tgt := 25) C d_Survey_goThroughAll_4 (by decide) (fun (h_4_4 : 3 ≤ 3) => ?_) (fun (h_4_4 : ¬ 3 ≤ 3) => ?_)
        · refine wm_iconst (v := 0) C d_Survey_goThroughAll_25 (by decide) ?_
          refine wm_istore_n (lv' := [(2, .int 0), (0, .ref (E.2.2.1 135)), (1, .ref (E.2.2.1 (2 * 0)))]) C d_Survey_goThroughAll_26 rfl (by decide) rfl ?_
          have e : cy_Survey_goThroughAll s = cy_Survey_goThroughAll_l (((256 : Int32).toInt - (0 : Int32).toInt).toNat + 1) ((cy_Survey_comeTo ((cy_Survey_comeTo ((cy_Survey_comeTo s (cy_rat s 0 0 (-1)) 0).2) (cy_rat ((cy_Survey_comeTo s (cy_rat s 0 0 (-1)) 0).2) 0 1 (-1)) 0).2) (cy_rat ((cy_Survey_comeTo ((cy_Survey_comeTo s (cy_rat s 0 0 (-1)) 0).2) (cy_rat ((cy_Survey_comeTo s (cy_rat s 0 0 (-1)) 0).2) 0 1 (-1)) 0).2) 0 2 (-1)) 0).2) 0 := by rw [cy_Survey_goThroughAll]
          rw [e] at h
          exact wm_sub [(2, .int 0), (0, .ref (E.2.2.1 135)), (1, .ref (E.2.2.1 (2 * 0)))] (by simp) (l_Survey_goThroughAll hE C P _ _ _ _ hR3 (cy_fuel _ _) h)
        · exact absurd h_4_4 (by decide)
def cy_Survey_lookOver (s : cy_S) : Int32 × cy_S :=
  if (nI (s.1 0).length) < 4 then
    (cy_Survey_fault 1 (nI (s.1 0).length), s)
  else
    if (nI (s.1 0).length) ≤ 256 then
      if ((cy_Survey_readInstructions (cy_Survey_clear s (nI (s.1 0).length))).1) = 0 then
        if (cy_Survey_lookAtPlaces ((cy_Survey_readInstructions (cy_Survey_clear s (nI (s.1 0).length))).2)) = 0 then
          cy_Survey_goThroughAll ((cy_Survey_readInstructions (cy_Survey_clear s (nI (s.1 0).length))).2)
        else
          (cy_Survey_lookAtPlaces ((cy_Survey_readInstructions (cy_Survey_clear s (nI (s.1 0).length))).2), (cy_Survey_readInstructions (cy_Survey_clear s (nI (s.1 0).length))).2)
      else
        cy_Survey_readInstructions (cy_Survey_clear s (nI (s.1 0).length))
    else
      (cy_Survey_fault 1 (nI (s.1 0).length), s)
set_option maxHeartbeats 4000000 in
theorem c_Survey_lookOver {G : cy_G} {E : cy_E} {s : cy_S} {M : cy_Hp} {post : Option Value → cy_Hp → Prop} (hE : cy_Eo G E) (hR : cy_R E s M)   (h : ∀ M', cy_R E (cy_Survey_lookOver s).2 M' → post (some (.int (cy_Survey_lookOver s).1)) M') : cy_Ct G 5 m_Survey_lookOver [.ref (E.2.2.1 135), .ref (E.2.2.1 (2 * 0))] M 0 0 post := by
  refine cy_Ct.of (by decide) (Nat.le_of_ble_eq_true rfl) ?_
  intro F C P _
  have C : cy_C G F R_Survey b_Survey_lookOver 3 5 0 0 := C
  have P : cy_P G F (some .int) post 0 0 := P
  show WM G F 3 0 0 0 [(0, .ref (E.2.2.1 135)), (1, .ref (E.2.2.1 (2 * 0)))] [] M
  refine wm_aload_n C d_Survey_lookOver_0 rfl (j := 1) rfl ?_
  refine wm_getN C co_Row (rp_row hR (by decide)) 1 (by decide) fl_Survey_26 rfl d_Survey_lookOver_1 ?_
  refine wm_iconst (v := 4) C d_Survey_lookOver_4 (by decide) ?_
  refine wm_icmp_lt (tgt := 18) C d_Survey_lookOver_5 (by decide) (fun (h_5 : (nI (s.1 0).length) < 4) => ?_) (fun (h_5 : ¬ (nI (s.1 0).length) < 4) => ?_)
  · refine wm_iconst (v := 1) C d_Survey_lookOver_18 (by decide) ?_
    refine wm_aload_n C d_Survey_lookOver_19 rfl (j := 1) rfl ?_
    refine wm_getN C co_Row (rp_row hR (by decide)) 1 (by decide) fl_Survey_26 rfl d_Survey_lookOver_20 ?_
    refine wm_callS (d2 := 0) (mc := 0) (ms := 0) C mo_Survey_fault ml_Survey_30 [.int 1, .int (nI (s.1 0).length)] [] rfl rfl (by decide) (Nat.le_of_ble_eq_true rfl) (Nat.le_refl _) (Nat.le_refl _) d_Survey_lookOver_23 (cy_ki ?_)
    refine c_Survey_fault hE hR  _ _ ⟨_, rfl, ?_⟩
    refine wm_iret C P d_Survey_lookOver_26 ?_
    have e : cy_Survey_lookOver s = (cy_Survey_fault 1 (nI (s.1 0).length), s) := by rw [cy_Survey_lookOver, if_pos h_5]
    rw [e] at h
    exact h _ hR
  · refine wm_aload_n C d_Survey_lookOver_8 rfl (j := 1) rfl ?_
    refine wm_getN C co_Row (rp_row hR (by decide)) 1 (by decide) fl_Survey_26 rfl d_Survey_lookOver_9 ?_
    refine wm_sipush (v := 256) C d_Survey_lookOver_12 (by decide) ?_
    refine wm_icmp_le (tgt := 27) C d_Survey_lookOver_15 (by decide) (fun (h_15 : (nI (s.1 0).length) ≤ 256) => ?_) (fun (h_15 : ¬ (nI (s.1 0).length) ≤ 256) => ?_)
    · refine wm_aload_n C d_Survey_lookOver_27 rfl (j := 0) rfl ?_
      refine wm_aload_n C d_Survey_lookOver_28 rfl (j := 1) rfl ?_
      refine wm_getN C co_Row (rp_row hR (by decide)) 1 (by decide) fl_Survey_26 rfl d_Survey_lookOver_29 ?_
      refine wm_callV (d2 := 2) (mc := 0) (ms := 0) C mo_Survey_clear co_Survey ml_Survey_34 [.int (nI (s.1 0).length)] [] rfl (rp_survey hR) rfl (by decide) (Nat.le_of_ble_eq_true rfl) (Nat.le_refl _) (Nat.le_refl _) d_Survey_lookOver_32 (cy_kv ?_)
      refine c_Survey_clear hE hR  _ (fun M1 hR1 => ⟨rfl, ?_⟩)
      refine wm_aload_n C d_Survey_lookOver_35 rfl (j := 0) rfl ?_
      refine wm_aload_n C d_Survey_lookOver_36 rfl (j := 1) rfl ?_
      refine wm_callV (d2 := 4) (mc := 0) (ms := 0) C mo_Survey_readInstructions co_Survey ml_Survey_37 [.ref (E.2.2.1 (2 * 0))] [] rfl (rp_survey hR1) rfl (by decide) (Nat.le_of_ble_eq_true rfl) (Nat.le_refl _) (Nat.le_refl _) d_Survey_lookOver_37 (cy_ki ?_)
      refine c_Survey_readInstructions hE hR1   (fun M2 hR2 => ⟨_, rfl, ?_⟩)
      refine wm_istore_n (lv' := [(2, .int ((cy_Survey_readInstructions (cy_Survey_clear s (nI (s.1 0).length))).1)), (0, .ref (E.2.2.1 135)), (1, .ref (E.2.2.1 (2 * 0)))]) C d_Survey_lookOver_40 rfl (by decide) rfl ?_
      refine wm_iload_n C d_Survey_lookOver_41 rfl (j := 0) rfl ?_
      refine wm_if_ne (tgt := 51) C d_Survey_lookOver_42 (by decide) (fun (h_42 : ¬ ((cy_Survey_readInstructions (cy_Survey_clear s (nI (s.1 0).length))).1) = 0) => ?_) (fun (h_42 : ((cy_Survey_readInstructions (cy_Survey_clear s (nI (s.1 0).length))).1) = 0) => ?_)
      · refine wm_iload_n C d_Survey_lookOver_51 rfl (j := 0) rfl ?_
        refine wm_if_ne (tgt := 61) C d_Survey_lookOver_52 (by decide) (fun (h_52 : ¬ ((cy_Survey_readInstructions (cy_Survey_clear s (nI (s.1 0).length))).1) = 0) => ?_) (fun (h_52 : ((cy_Survey_readInstructions (cy_Survey_clear s (nI (s.1 0).length))).1) = 0) => ?_)
        · refine wm_iload_n C d_Survey_lookOver_61 rfl (j := 0) rfl ?_
          refine wm_iret C P d_Survey_lookOver_62 ?_
          have e : cy_Survey_lookOver s = cy_Survey_readInstructions (cy_Survey_clear s (nI (s.1 0).length)) := by rw [cy_Survey_lookOver, if_neg h_5, if_pos h_15, if_neg h_42]
          rw [e] at h
          exact h _ hR2
        · exact absurd h_52 h_42
      · refine wm_aload_n C d_Survey_lookOver_45 rfl (j := 1) rfl ?_
        refine wm_aload_n C d_Survey_lookOver_46 rfl (j := 2) rfl ?_
        refine wm_callV (d2 := 2) (mc := 0) (ms := 0) C mo_Survey_lookAtPlaces co_Survey ml_Survey_41 [.ref (E.2.2.1 (2 * 0))] [] rfl (rp_survey hR2) rfl (by decide) (Nat.le_of_ble_eq_true rfl) (Nat.le_refl _) (Nat.le_refl _) d_Survey_lookOver_47 (cy_ki ?_)
        refine c_Survey_lookAtPlaces hE hR2   ⟨_, rfl, ?_⟩
        refine wm_istore_n (lv' := [(2, .int (cy_Survey_lookAtPlaces ((cy_Survey_readInstructions (cy_Survey_clear s (nI (s.1 0).length))).2))), (0, .ref (E.2.2.1 135)), (1, .ref (E.2.2.1 (2 * 0)))]) C d_Survey_lookOver_50 rfl (by decide) rfl ?_
        refine wm_iload_n C d_Survey_lookOver_51 rfl (j := 0) rfl ?_
        refine wm_if_ne (tgt := 61) C d_Survey_lookOver_52 (by decide) (fun (h_52_5 : ¬ (cy_Survey_lookAtPlaces ((cy_Survey_readInstructions (cy_Survey_clear s (nI (s.1 0).length))).2)) = 0) => ?_) (fun (h_52_5 : (cy_Survey_lookAtPlaces ((cy_Survey_readInstructions (cy_Survey_clear s (nI (s.1 0).length))).2)) = 0) => ?_)
        · refine wm_iload_n C d_Survey_lookOver_61 rfl (j := 0) rfl ?_
          refine wm_iret C P d_Survey_lookOver_62 ?_
          have e : cy_Survey_lookOver s = (cy_Survey_lookAtPlaces ((cy_Survey_readInstructions (cy_Survey_clear s (nI (s.1 0).length))).2), (cy_Survey_readInstructions (cy_Survey_clear s (nI (s.1 0).length))).2) := by rw [cy_Survey_lookOver, if_neg h_5, if_pos h_15, if_pos h_42, if_neg h_52_5]
          rw [e] at h
          exact h _ hR2
        · refine wm_aload_n C d_Survey_lookOver_55 rfl (j := 1) rfl ?_
          refine wm_aload_n C d_Survey_lookOver_56 rfl (j := 2) rfl ?_
          refine wm_callV (d2 := 4) (mc := 0) (ms := 0) C mo_Survey_goThroughAll co_Survey ml_Survey_44 [.ref (E.2.2.1 (2 * 0))] [] rfl (rp_survey hR2) rfl (by decide) (Nat.le_of_ble_eq_true rfl) (Nat.le_refl _) (Nat.le_refl _) d_Survey_lookOver_57 (cy_ki ?_)
          refine c_Survey_goThroughAll hE hR2   (fun M3 hR3 => ⟨_, rfl, ?_⟩)
          refine wm_istore_n (lv' := [(2, .int ((cy_Survey_goThroughAll ((cy_Survey_readInstructions (cy_Survey_clear s (nI (s.1 0).length))).2)).1)), (0, .ref (E.2.2.1 135)), (1, .ref (E.2.2.1 (2 * 0)))]) C d_Survey_lookOver_60 rfl (by decide) rfl ?_
          refine wm_iload_n C d_Survey_lookOver_61 rfl (j := 0) rfl ?_
          refine wm_iret C P d_Survey_lookOver_62 ?_
          have e : cy_Survey_lookOver s = cy_Survey_goThroughAll ((cy_Survey_readInstructions (cy_Survey_clear s (nI (s.1 0).length))).2) := by rw [cy_Survey_lookOver, if_neg h_5, if_pos h_15, if_pos h_42, if_pos h_52_5]
          rw [e] at h
          exact h _ hR3
    · refine wm_iconst (v := 1) C d_Survey_lookOver_18 (by decide) ?_
      refine wm_aload_n C d_Survey_lookOver_19 rfl (j := 1) rfl ?_
      refine wm_getN C co_Row (rp_row hR (by decide)) 1 (by decide) fl_Survey_26 rfl d_Survey_lookOver_20 ?_
      refine wm_callS (d2 := 0) (mc := 0) (ms := 0) C mo_Survey_fault ml_Survey_30 [.int 1, .int (nI (s.1 0).length)] [] rfl rfl (by decide) (Nat.le_of_ble_eq_true rfl) (Nat.le_refl _) (Nat.le_refl _) d_Survey_lookOver_23 (cy_ki ?_)
      refine c_Survey_fault hE hR  _ _ ⟨_, rfl, ?_⟩
      refine wm_iret C P d_Survey_lookOver_26 ?_
      have e : cy_Survey_lookOver s = (cy_Survey_fault 1 (nI (s.1 0).length), s) := by rw [cy_Survey_lookOver, if_neg h_5, if_neg h_15]
      rw [e] at h
      exact h _ hR
end
section
def cy_Run_advance_l : Nat → cy_S → Int32 → Int32 → Int32 × cy_S
  | 0, s, _, _ => (0, s)
  | q + 1, s, p, n =>
    if n ≤ p then
      if s.2.2.1.2.2.1 = 2 then
        ((cy_Shelf_bringCellsBack s).2.2.1.2.2.1, (cy_Shelf_bringCellsBack s))
      else
        (s.2.2.1.2.2.1, s)
    else
      if s.2.2.1.2.2.1 = 1 then
        cy_Run_advance_l q (cy_Run_step s) (p + 1) n
      else
        if s.2.2.1.2.2.1 = 2 then
          ((cy_Shelf_bringCellsBack s).2.2.1.2.2.1, (cy_Shelf_bringCellsBack s))
        else
          (s.2.2.1.2.2.1, s)
set_option maxHeartbeats 4000000 in
theorem l_Run_advance {G : cy_G} {E : cy_E} {post : Option Value → cy_Hp → Prop} {F : cy_F} (hE : cy_Eo G E) (C : cy_C G F R_Run b_Run_advance 3 6 0 0) (P : cy_P G F (some .int) post 0 0) : ∀ (q : Nat) (s : cy_S) (p : Int32) (n : Int32) (M : cy_Hp), cy_R E s M → n.toInt ≤ p.toInt + ((q : Nat) : Int) → (∀ M', cy_R E (cy_Run_advance_l (q + 1) s p n).2 M' → post (some (.int (cy_Run_advance_l (q + 1) s p n).1)) M') → WM G F 3 0 0 2 [(2, .int p), (0, .ref (E.2.2.1 136)), (1, .int n)] [] M := by
  intro q
  induction q with
  | zero =>
    intro s p n M hR hb h
    refine wm_iload_n C d_Run_advance_2 rfl (j := 0) rfl ?_
    refine wm_iload_n C d_Run_advance_3 rfl (j := 2) rfl ?_
    refine wm_icmp_ge (tgt := 25) C d_Run_advance_4 (by decide) (fun (h_4 : n ≤ p) => ?_) (fun (h_4 : ¬ n ≤ p) => ?_)
    · refine wm_aload_n C d_Run_advance_25 rfl (j := 1) rfl ?_
      refine wm_get C co_Run (rp_run hR) 6 (by decide) fl_Run_49 rfl d_Run_advance_26 ?_
      refine wm_iconst (v := 2) C d_Run_advance_29 (by decide) ?_
      refine wm_icmp_ne (tgt := 40) C d_Run_advance_30 (by decide) (fun (h_30 : ¬ s.2.2.1.2.2.1 = 2) => ?_) (fun (h_30 : s.2.2.1.2.2.1 = 2) => ?_)
      · refine wm_aload_n C d_Run_advance_40 rfl (j := 1) rfl ?_
        refine wm_get C co_Run (rp_run hR) 6 (by decide) fl_Run_49 rfl d_Run_advance_41 ?_
        refine wm_iret C P d_Run_advance_44 ?_
        have e : cy_Run_advance_l (0 + 1) s p n = (s.2.2.1.2.2.1, s) := by rw [cy_Run_advance_l, if_pos h_4, if_neg h_30]
        rw [e] at h
        exact h _ hR
      · refine wm_aload_n C d_Run_advance_33 rfl (j := 1) rfl ?_
        refine wm_get C co_Run (rp_run hR) 0 (by decide) fl_Run_9 rfl d_Run_advance_34 ?_
        refine wm_callVN (d2 := 2) (mc := 0) (ms := 0) C mo_Shelf_bringCellsBack co_Shelf ml_Run_57 [] [] rfl (rp_shelf hR) rfl (by decide) (Nat.le_of_ble_eq_true rfl) (Nat.le_refl _) (Nat.le_refl _) d_Run_advance_37 (cy_kv ?_)
        refine c_Shelf_bringCellsBack hE hR   (fun M1 hR1 => ⟨rfl, ?_⟩)
        refine wm_aload_n C d_Run_advance_40 rfl (j := 1) rfl ?_
        refine wm_get C co_Run (rp_run hR1) 6 (by decide) fl_Run_49 rfl d_Run_advance_41 ?_
        refine wm_iret C P d_Run_advance_44 ?_
        have e : cy_Run_advance_l (0 + 1) s p n = ((cy_Shelf_bringCellsBack s).2.2.1.2.2.1, (cy_Shelf_bringCellsBack s)) := by rw [cy_Run_advance_l, if_pos h_4, if_pos h_30]
        rw [e] at h
        exact h _ hR1
    · exact absurd (cy_n0 hb) h_4
  | succ q ih =>
    intro s p n M hR hb h
    refine wm_iload_n C d_Run_advance_2 rfl (j := 0) rfl ?_
    refine wm_iload_n C d_Run_advance_3 rfl (j := 2) rfl ?_
    refine wm_icmp_ge (tgt := 25) C d_Run_advance_4 (by decide) (fun (h_4 : n ≤ p) => ?_) (fun (h_4 : ¬ n ≤ p) => ?_)
    · refine wm_aload_n C d_Run_advance_25 rfl (j := 1) rfl ?_
      refine wm_get C co_Run (rp_run hR) 6 (by decide) fl_Run_49 rfl d_Run_advance_26 ?_
      refine wm_iconst (v := 2) C d_Run_advance_29 (by decide) ?_
      refine wm_icmp_ne (tgt := 40) C d_Run_advance_30 (by decide) (fun (h_30 : ¬ s.2.2.1.2.2.1 = 2) => ?_) (fun (h_30 : s.2.2.1.2.2.1 = 2) => ?_)
      · refine wm_aload_n C d_Run_advance_40 rfl (j := 1) rfl ?_
        refine wm_get C co_Run (rp_run hR) 6 (by decide) fl_Run_49 rfl d_Run_advance_41 ?_
        refine wm_iret C P d_Run_advance_44 ?_
        have e : cy_Run_advance_l (q + 1 + 1) s p n = (s.2.2.1.2.2.1, s) := by rw [cy_Run_advance_l, if_pos h_4, if_neg h_30]
        rw [e] at h
        exact h _ hR
      · refine wm_aload_n C d_Run_advance_33 rfl (j := 1) rfl ?_
        refine wm_get C co_Run (rp_run hR) 0 (by decide) fl_Run_9 rfl d_Run_advance_34 ?_
        refine wm_callVN (d2 := 2) (mc := 0) (ms := 0) C mo_Shelf_bringCellsBack co_Shelf ml_Run_57 [] [] rfl (rp_shelf hR) rfl (by decide) (Nat.le_of_ble_eq_true rfl) (Nat.le_refl _) (Nat.le_refl _) d_Run_advance_37 (cy_kv ?_)
        refine c_Shelf_bringCellsBack hE hR   (fun M1 hR1 => ⟨rfl, ?_⟩)
        refine wm_aload_n C d_Run_advance_40 rfl (j := 1) rfl ?_
        refine wm_get C co_Run (rp_run hR1) 6 (by decide) fl_Run_49 rfl d_Run_advance_41 ?_
        refine wm_iret C P d_Run_advance_44 ?_
        have e : cy_Run_advance_l (q + 1 + 1) s p n = ((cy_Shelf_bringCellsBack s).2.2.1.2.2.1, (cy_Shelf_bringCellsBack s)) := by rw [cy_Run_advance_l, if_pos h_4, if_pos h_30]
        rw [e] at h
        exact h _ hR1
    · refine wm_aload_n C d_Run_advance_7 rfl (j := 1) rfl ?_
      refine wm_get C co_Run (rp_run hR) 6 (by decide) fl_Run_49 rfl d_Run_advance_8 ?_
      refine wm_iconst (v := 1) C d_Run_advance_11 (by decide) ?_
      refine wm_icmp_ne (tgt := 25) C d_Run_advance_12 (by decide) (fun (h_12 : ¬ s.2.2.1.2.2.1 = 1) => ?_) (fun (h_12 : s.2.2.1.2.2.1 = 1) => ?_)
      · refine wm_aload_n C d_Run_advance_25 rfl (j := 1) rfl ?_
        refine wm_get C co_Run (rp_run hR) 6 (by decide) fl_Run_49 rfl d_Run_advance_26 ?_
        refine wm_iconst (v := 2) C d_Run_advance_29 (by decide) ?_
        refine wm_icmp_ne (tgt := 40) C d_Run_advance_30 (by decide) (fun (h_30_4 : ¬ s.2.2.1.2.2.1 = 2) => ?_) (fun (h_30_4 : s.2.2.1.2.2.1 = 2) => ?_)
        · refine wm_aload_n C d_Run_advance_40 rfl (j := 1) rfl ?_
          refine wm_get C co_Run (rp_run hR) 6 (by decide) fl_Run_49 rfl d_Run_advance_41 ?_
          refine wm_iret C P d_Run_advance_44 ?_
          have e : cy_Run_advance_l (q + 1 + 1) s p n = (s.2.2.1.2.2.1, s) := by rw [cy_Run_advance_l, if_neg h_4, if_neg h_12, if_neg h_30_4]
          rw [e] at h
          exact h _ hR
        · refine wm_aload_n C d_Run_advance_33 rfl (j := 1) rfl ?_
          refine wm_get C co_Run (rp_run hR) 0 (by decide) fl_Run_9 rfl d_Run_advance_34 ?_
          refine wm_callVN (d2 := 2) (mc := 0) (ms := 0) C mo_Shelf_bringCellsBack co_Shelf ml_Run_57 [] [] rfl (rp_shelf hR) rfl (by decide) (Nat.le_of_ble_eq_true rfl) (Nat.le_refl _) (Nat.le_refl _) d_Run_advance_37 (cy_kv ?_)
          refine c_Shelf_bringCellsBack hE hR   (fun M2 hR2 => ⟨rfl, ?_⟩)
          refine wm_aload_n C d_Run_advance_40 rfl (j := 1) rfl ?_
          refine wm_get C co_Run (rp_run hR2) 6 (by decide) fl_Run_49 rfl d_Run_advance_41 ?_
          refine wm_iret C P d_Run_advance_44 ?_
          have e : cy_Run_advance_l (q + 1 + 1) s p n = ((cy_Shelf_bringCellsBack s).2.2.1.2.2.1, (cy_Shelf_bringCellsBack s)) := by rw [cy_Run_advance_l, if_neg h_4, if_neg h_12, if_pos h_30_4]
          rw [e] at h
          exact h _ hR2
      · refine wm_aload_n C d_Run_advance_15 rfl (j := 1) rfl ?_
        refine wm_callV (d2 := 5) (mc := 0) (ms := 0) C mo_Run_step co_Run ml_Run_85 [] [] rfl (rp_run hR) rfl (by decide) (Nat.le_of_ble_eq_true rfl) (Nat.le_refl _) (Nat.le_refl _) d_Run_advance_16 (cy_kv ?_)
        refine c_Run_step hE hR   (fun M3 hR3 => ⟨rfl, ?_⟩)
        refine wm_iinc (v := p + 1) (lv' := [(2, .int (p + 1)), (0, .ref (E.2.2.1 136)), (1, .int n)]) C d_Run_advance_19 (k := 0) rfl rfl (by decide) rfl ?_
        refine wm_goto (tgt := 2) C d_Run_advance_22 (by decide) ?_
        have e : cy_Run_advance_l (q + 1 + 1) s p n = cy_Run_advance_l (q + 1) (cy_Run_step s) (p + 1) n := by rw [cy_Run_advance_l, if_neg h_4, if_pos h_12]
        rw [e] at h
        exact wm_sub [(2, .int (p + 1)), (0, .ref (E.2.2.1 136)), (1, .int n)] (by simp) (ih (cy_Run_step s) (p + 1) n _ hR3 (cy_n1 hb h_4) h)
def cy_Run_advance (s : cy_S) (n : Int32) : Int32 × cy_S :=
  cy_Run_advance_l ((n.toInt - (0 : Int32).toInt).toNat + 1) s 0 n
set_option maxHeartbeats 4000000 in
theorem c_Run_advance {G : cy_G} {E : cy_E} {s : cy_S} {M : cy_Hp} {post : Option Value → cy_Hp → Prop} (hE : cy_Eo G E) (hR : cy_R E s M)  (n : Int32) (h : ∀ M', cy_R E (cy_Run_advance s n).2 M' → post (some (.int (cy_Run_advance s n).1)) M') : cy_Ct G 6 m_Run_advance [.ref (E.2.2.1 136), .int n] M 0 0 post := by
  refine cy_Ct.of (by decide) (Nat.le_of_ble_eq_true rfl) ?_
  intro F C P _
  have C : cy_C G F R_Run b_Run_advance 3 6 0 0 := C
  have P : cy_P G F (some .int) post 0 0 := P
  show WM G F 3 0 0 0 [(0, .ref (E.2.2.1 136)), (1, .int n)] [] M
  refine wm_iconst (v := 0) C d_Run_advance_0 (by decide) ?_
  refine wm_istore_n (lv' := [(2, .int 0), (0, .ref (E.2.2.1 136)), (1, .int n)]) C d_Run_advance_1 rfl (by decide) rfl ?_
  have e : cy_Run_advance s n = cy_Run_advance_l ((n.toInt - (0 : Int32).toInt).toNat + 1) s 0 n := by rw [cy_Run_advance]
  rw [e] at h
  exact wm_sub [(2, .int 0), (0, .ref (E.2.2.1 136)), (1, .int n)] (by simp) (l_Run_advance hE C P _ _ _ _ _ hR (cy_fuel _ _) h)
def cy_Yard_load (s : cy_S) (k : Int32) : Int32 × cy_S :=
  if cy_bad k then
    ((-1), s)
  else
    if (cy_Run_isHeld s) = 0 then
      if ((cy_Survey_lookOver s).1) = 0 then
        ((cy_Code_take ((cy_Survey_lookOver s).2) k.toNatClampNeg).2.2.2.1, (cy_rcut (cy_Code_take ((cy_Survey_lookOver s).2) k.toNatClampNeg) 0 0))
      else
        ((cy_Survey_lookOver s).1, (cy_rcut ((cy_Survey_lookOver s).2) 0 0))
    else
      ((-1), s)
set_option maxHeartbeats 4000000 in
theorem c_Yard_load {G : cy_G} {E : cy_E} {s : cy_S} {M : cy_Hp} {post : Option Value → cy_Hp → Prop} (hE : cy_Eo G E) (hR : cy_R E s M)  (k : Int32) (h : ∀ M', cy_R E (cy_Yard_load s k).2 M' → post (some (.int (cy_Yard_load s k).1)) M') : cy_Ct G 6 m_Yard_load [.ref (E.2.2.1 133), .int k] M 0 0 post := by
  refine cy_Ct.of (by decide) (Nat.le_of_ble_eq_true rfl) ?_
  intro F C P _
  have C : cy_C G F R_Yard b_Yard_load 4 6 0 0 := C
  have P : cy_P G F (some .int) post 0 0 := P
  show WM G F 4 0 0 0 [(0, .ref (E.2.2.1 133)), (1, .int k)] [] M
  refine wm_aload_n C d_Yard_load_0 rfl (j := 0) rfl ?_
  refine wm_get C co_Yard (rp_yard hR) 1 (by decide) fl_Yard_21 rfl d_Yard_load_1 ?_
  refine wm_iload_n C d_Yard_load_4 rfl (j := 1) rfl ?_
  refine wm_callVN (d2 := 0) (mc := 0) (ms := 0) C mo_Shelf_slot co_Shelf ml_Yard_62 [.int k] [] rfl (rp_shelf hR) rfl (by decide) (Nat.le_of_ble_eq_true rfl) (Nat.le_refl _) (Nat.le_refl _) d_Yard_load_5 (cy_ki ?_)
  refine c_slot hE hR _ (fun (g_5 : cy_bad k) => ⟨_, rfl, ?_⟩) (fun (g_5 : ¬ cy_bad k) => ⟨_, rfl, ?_⟩)
  · refine wm_astore_nN (lv' := [(2, .null), (0, .ref (E.2.2.1 133)), (1, .int k)]) C d_Yard_load_8 rfl (by decide) rfl ?_
    refine wm_aload_nN C d_Yard_load_9 rfl (j := 0) rfl ?_
    refine wm_ifnullN (tgt := 23) C d_Yard_load_10 (by decide) ?_
    refine wm_iconst (v := -1) C d_Yard_load_23 (by decide) ?_
    refine wm_iret C P d_Yard_load_24 ?_
    have e : cy_Yard_load s k = ((-1), s) := by rw [cy_Yard_load, if_pos g_5]
    rw [e] at h
    exact h _ hR
  · refine wm_astore_n (lv' := [(2, .ref (E.2.2.1 (116 + k.toNatClampNeg))), (0, .ref (E.2.2.1 133)), (1, .int k)]) C d_Yard_load_8 rfl (by decide) rfl ?_
    refine wm_aload_n C d_Yard_load_9 rfl (j := 0) rfl ?_
    refine wm_ifnull C d_Yard_load_10 ?_
    refine wm_aload_n C d_Yard_load_13 rfl (j := 1) rfl ?_
    refine wm_get C co_Yard (rp_yard hR) 3 (by decide) fl_Yard_37 rfl d_Yard_load_14 ?_
    refine wm_callVN (d2 := 0) (mc := 0) (ms := 0) C mo_Run_isHeld co_Run ml_Yard_66 [] [] rfl (rp_run hR) rfl (by decide) (Nat.le_of_ble_eq_true rfl) (Nat.le_refl _) (Nat.le_refl _) d_Yard_load_17 (cy_ki ?_)
    refine c_Run_isHeld hE hR   ⟨_, rfl, ?_⟩
    refine wm_if_eq (tgt := 25) C d_Yard_load_20 (by decide) (fun (h_20 : (cy_Run_isHeld s) = 0) => ?_) (fun (h_20 : ¬ (cy_Run_isHeld s) = 0) => ?_)
    · refine wm_aload_n C d_Yard_load_25 rfl (j := 1) rfl ?_
      refine wm_get C co_Yard (rp_yard hR) 2 (by decide) fl_Yard_28 rfl d_Yard_load_26 ?_
      refine wm_aload_n C d_Yard_load_29 rfl (j := 1) rfl ?_
      refine wm_get C co_Yard (rp_yard hR) 0 (by decide) fl_Yard_14 rfl d_Yard_load_30 ?_
      refine wm_callVN (d2 := 5) (mc := 0) (ms := 0) C mo_Survey_lookOver co_Survey ml_Yard_70 [.ref (E.2.2.1 (2 * 0))] [] rfl (rp_survey hR) rfl (by decide) (Nat.le_of_ble_eq_true rfl) (Nat.le_refl _) (Nat.le_refl _) d_Yard_load_33 (cy_ki ?_)
      refine c_Survey_lookOver hE hR   (fun M1 hR1 => ⟨_, rfl, ?_⟩)
      refine wm_istore_n (lv' := [(3, .int ((cy_Survey_lookOver s).1)), (2, .ref (E.2.2.1 (116 + k.toNatClampNeg))), (0, .ref (E.2.2.1 133)), (1, .int k)]) C d_Yard_load_36 rfl (by decide) rfl ?_
      refine wm_iload_n C d_Yard_load_37 rfl (j := 0) rfl ?_
      refine wm_if_ne (tgt := 56) C d_Yard_load_38 (by decide) (fun (h_38 : ¬ ((cy_Survey_lookOver s).1) = 0) => ?_) (fun (h_38 : ((cy_Survey_lookOver s).1) = 0) => ?_)
      · refine wm_aload_n C d_Yard_load_56 rfl (j := 2) rfl ?_
        refine wm_get C co_Yard (rp_yard hR1) 0 (by decide) fl_Yard_14 rfl d_Yard_load_57 ?_
        refine wm_iconst (v := 0) C d_Yard_load_60 (by decide) ?_
        refine wm_callVN (d2 := 1) (mc := 0) (ms := 0) C mo_Row_shorten co_Row ml_Yard_51 [.int 0] [] rfl (rp_row hR1 (by decide)) rfl (by decide) (Nat.le_of_ble_eq_true rfl) (Nat.le_refl _) (Nat.le_refl _) d_Yard_load_61 (cy_kv ?_)
        refine c_cut hE hR1 (by decide) _ (fun M2 hR2 => ⟨rfl, ?_⟩)
        refine wm_iload_n C d_Yard_load_64 rfl (j := 0) rfl ?_
        refine wm_if_ne (tgt := 78) C d_Yard_load_65 (by decide) (fun (h_65 : ¬ ((cy_Survey_lookOver s).1) = 0) => ?_) (fun (h_65 : ((cy_Survey_lookOver s).1) = 0) => ?_)
        · refine wm_iload_n C d_Yard_load_78 rfl (j := 0) rfl ?_
          refine wm_iret C P d_Yard_load_79 ?_
          have e : cy_Yard_load s k = ((cy_Survey_lookOver s).1, (cy_rcut ((cy_Survey_lookOver s).2) 0 0)) := by rw [cy_Yard_load, if_neg g_5, if_pos h_20, if_neg h_38]
          rw [e] at h
          exact h _ hR2
        · exact absurd h_65 h_38
      · refine wm_aload_n C d_Yard_load_41 rfl (j := 1) rfl ?_
        refine wm_aload_n C d_Yard_load_42 rfl (j := 2) rfl ?_
        refine wm_get C co_Yard (rp_yard hR1) 0 (by decide) fl_Yard_14 rfl d_Yard_load_43 ?_
        refine wm_aload_n C d_Yard_load_46 rfl (j := 2) rfl ?_
        refine wm_get C co_Yard (rp_yard hR1) 2 (by decide) fl_Yard_28 rfl d_Yard_load_47 ?_
        refine wm_getN C co_Survey (rp_survey hR1) 1 (by decide) fl_Yard_74 rfl d_Yard_load_50 ?_
        refine wm_callVN (d2 := 2) (mc := 0) (ms := 0) C mo_Code_take co_Code ml_Yard_77 [.ref (E.2.2.1 (2 * 0)), .ref (E.2.2.1 (2 * 2))] [] rfl (rp_code hR1 (cy_bad_lt g_5)) rfl (by decide) (Nat.le_of_ble_eq_true rfl) (Nat.le_refl _) (Nat.le_refl _) d_Yard_load_53 (cy_kv ?_)
        refine c_Code_take hE hR1 (cy_bad_lt g_5)  (fun M3 hR3 => ⟨rfl, ?_⟩)
        refine wm_aload_n C d_Yard_load_56 rfl (j := 2) rfl ?_
        refine wm_get C co_Yard (rp_yard hR3) 0 (by decide) fl_Yard_14 rfl d_Yard_load_57 ?_
        refine wm_iconst (v := 0) C d_Yard_load_60 (by decide) ?_
        refine wm_callVN (d2 := 1) (mc := 0) (ms := 0) C mo_Row_shorten co_Row ml_Yard_51 [.int 0] [] rfl (rp_row hR3 (by decide)) rfl (by decide) (Nat.le_of_ble_eq_true rfl) (Nat.le_refl _) (Nat.le_refl _) d_Yard_load_61 (cy_kv ?_)
        refine c_cut hE hR3 (by decide) _ (fun M4 hR4 => ⟨rfl, ?_⟩)
        refine wm_iload_n C d_Yard_load_64 rfl (j := 0) rfl ?_
        refine wm_if_ne (tgt := 78) C d_Yard_load_65 (by decide) (fun (h_65_4 : ¬ ((cy_Survey_lookOver s).1) = 0) => ?_) (fun (h_65_4 : ((cy_Survey_lookOver s).1) = 0) => ?_)
        · exact absurd h_38 h_65_4
        · refine wm_aload_n C d_Yard_load_68 rfl (j := 2) rfl ?_
          refine wm_get C co_Yard (rp_yard hR4) 2 (by decide) fl_Yard_28 rfl d_Yard_load_69 ?_
          refine wm_getN C co_Survey (rp_survey hR4) 3 (by decide) fl_Yard_83 rfl d_Yard_load_72 ?_
          refine wm_goto (tgt := 79) C d_Yard_load_75 (by decide) ?_
          refine wm_iret C P d_Yard_load_79 ?_
          have e : cy_Yard_load s k = ((cy_Code_take ((cy_Survey_lookOver s).2) k.toNatClampNeg).2.2.2.1, (cy_rcut (cy_Code_take ((cy_Survey_lookOver s).2) k.toNatClampNeg) 0 0)) := by rw [cy_Yard_load, if_neg g_5, if_pos h_20, if_pos h_38]
          rw [e] at h
          exact h _ hR4
    · refine wm_iconst (v := -1) C d_Yard_load_23 (by decide) ?_
      refine wm_iret C P d_Yard_load_24 ?_
      have e : cy_Yard_load s k = ((-1), s) := by rw [cy_Yard_load, if_neg g_5, if_neg h_20]
      rw [e] at h
      exact h _ hR
def cy_Yard_go (s : cy_S) (n : Int32) : Int32 × cy_S :=
  if n < 0 then
    ((-1), s)
  else
    if 2001 < n then
      ((-1), s)
    else
      if (cy_Run_isHeld s) = 0 then
        ((-1), s)
      else
        cy_Run_advance s n
set_option maxHeartbeats 4000000 in
theorem c_Yard_go {G : cy_G} {E : cy_E} {s : cy_S} {M : cy_Hp} {post : Option Value → cy_Hp → Prop} (hE : cy_Eo G E) (hR : cy_R E s M)  (n : Int32) (h : ∀ M', cy_R E (cy_Yard_go s n).2 M' → post (some (.int (cy_Yard_go s n).1)) M') : cy_Ct G 7 m_Yard_go [.ref (E.2.2.1 133), .int n] M 0 0 post := by
  refine cy_Ct.of (by decide) (Nat.le_of_ble_eq_true rfl) ?_
  intro F C P _
  have C : cy_C G F R_Yard b_Yard_go 2 7 0 0 := C
  have P : cy_P G F (some .int) post 0 0 := P
  show WM G F 2 0 0 0 [(0, .ref (E.2.2.1 133)), (1, .int n)] [] M
  refine wm_iload_n C d_Yard_go_0 rfl (j := 1) rfl ?_
  refine wm_if_lt (tgt := 21) C d_Yard_go_1 (by decide) (fun (h_1 : n < 0) => ?_) (fun (h_1 : ¬ n < 0) => ?_)
  · refine wm_iconst (v := -1) C d_Yard_go_21 (by decide) ?_
    refine wm_iret C P d_Yard_go_22 ?_
    have e : cy_Yard_go s n = ((-1), s) := by rw [cy_Yard_go, if_pos h_1]
    rw [e] at h
    exact h _ hR
  · refine wm_iload_n C d_Yard_go_4 rfl (j := 1) rfl ?_
    refine wm_sipush (v := 2001) C d_Yard_go_5 (by decide) ?_
    refine wm_icmp_gt (tgt := 21) C d_Yard_go_8 (by decide) (fun (h_8 : 2001 < n) => ?_) (fun (h_8 : ¬ 2001 < n) => ?_)
    · refine wm_iconst (v := -1) C d_Yard_go_21 (by decide) ?_
      refine wm_iret C P d_Yard_go_22 ?_
      have e : cy_Yard_go s n = ((-1), s) := by rw [cy_Yard_go, if_neg h_1, if_pos h_8]
      rw [e] at h
      exact h _ hR
    · refine wm_aload_n C d_Yard_go_11 rfl (j := 0) rfl ?_
      refine wm_get C co_Yard (rp_yard hR) 3 (by decide) fl_Yard_37 rfl d_Yard_go_12 ?_
      refine wm_callVN (d2 := 0) (mc := 0) (ms := 0) C mo_Run_isHeld co_Run ml_Yard_66 [] [] rfl (rp_run hR) rfl (by decide) (Nat.le_of_ble_eq_true rfl) (Nat.le_refl _) (Nat.le_refl _) d_Yard_go_15 (cy_ki ?_)
      refine c_Run_isHeld hE hR   ⟨_, rfl, ?_⟩
      refine wm_if_ne (tgt := 23) C d_Yard_go_18 (by decide) (fun (h_18 : ¬ (cy_Run_isHeld s) = 0) => ?_) (fun (h_18 : (cy_Run_isHeld s) = 0) => ?_)
      · refine wm_aload_n C d_Yard_go_23 rfl (j := 0) rfl ?_
        refine wm_get C co_Yard (rp_yard hR) 3 (by decide) fl_Yard_37 rfl d_Yard_go_24 ?_
        refine wm_iload_n C d_Yard_go_27 rfl (j := 1) rfl ?_
        refine wm_callVN (d2 := 6) (mc := 0) (ms := 0) C mo_Run_advance co_Run ml_Yard_93 [.int n] [] rfl (rp_run hR) rfl (by decide) (Nat.le_of_ble_eq_true rfl) (Nat.le_refl _) (Nat.le_refl _) d_Yard_go_28 (cy_ki ?_)
        refine c_Run_advance hE hR  _ (fun M1 hR1 => ⟨_, rfl, ?_⟩)
        refine wm_iret C P d_Yard_go_31 ?_
        have e : cy_Yard_go s n = cy_Run_advance s n := by rw [cy_Yard_go, if_neg h_1, if_neg h_8, if_neg h_18]
        rw [e] at h
        exact h _ hR1
      · refine wm_iconst (v := -1) C d_Yard_go_21 (by decide) ?_
        refine wm_iret C P d_Yard_go_22 ?_
        have e : cy_Yard_go s n = ((-1), s) := by rw [cy_Yard_go, if_neg h_1, if_neg h_8, if_pos h_18]
        rw [e] at h
        exact h _ hR
end
