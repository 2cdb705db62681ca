section
-- ===== PART A: goes FIRST, ahead of the names: the tables' words, and 'selects' of the private methods out of them =====
/-- a private method of a class that the tables say can be made, by its rows of tables_1 -/
def lw_okq (q : MethodName × Nat) : Prop := (q.1.cls ≠ "java/lang/invoke/MethodHandle" ∧ q.1.cls ≠ "java/lang/invoke/VarHandle") ∧ Cond.instantiable q.1.cls q.2 ∈ tables_1 ∧ Cond.privateMethod q.1 ∈ tables_1 ∧ Cond.instanceMethod q.1 ∈ tables_1
theorem lw_p0 : lw_okq (⟨"CodeYard", "addBytes", "(I)V"⟩, 4) := ⟨⟨by decide +kernel, by decide +kernel⟩, List.mem_of_getElem? (i := 11) (by decide +kernel), List.mem_of_getElem? (i := 210) (by decide +kernel), List.mem_of_getElem? (i := 211) (by decide +kernel)⟩
theorem lw_p1 : lw_okq (⟨"CodeYard$Row", "add", "(I)V"⟩, 2) := ⟨⟨by decide +kernel, by decide +kernel⟩, List.mem_of_getElem? (i := 19) (by decide +kernel), List.mem_of_getElem? (i := 214) (by decide +kernel), List.mem_of_getElem? (i := 215) (by decide +kernel)⟩
theorem lw_p2 : lw_okq (⟨"CodeYard$Row", "shorten", "(I)V"⟩, 2) := ⟨⟨by decide +kernel, by decide +kernel⟩, List.mem_of_getElem? (i := 19) (by decide +kernel), List.mem_of_getElem? (i := 222) (by decide +kernel), List.mem_of_getElem? (i := 223) (by decide +kernel)⟩
theorem lw_p3 : lw_okq (⟨"CodeYard$Row", "at", "(II)I"⟩, 2) := ⟨⟨by decide +kernel, by decide +kernel⟩, List.mem_of_getElem? (i := 19) (by decide +kernel), List.mem_of_getElem? (i := 233) (by decide +kernel), List.mem_of_getElem? (i := 234) (by decide +kernel)⟩
theorem lw_p4 : lw_okq (⟨"CodeYard$Row", "put", "(II)V"⟩, 2) := ⟨⟨by decide +kernel, by decide +kernel⟩, List.mem_of_getElem? (i := 19) (by decide +kernel), List.mem_of_getElem? (i := 237) (by decide +kernel), List.mem_of_getElem? (i := 238) (by decide +kernel)⟩
theorem lw_p5 : lw_okq (⟨"CodeYard$Shelf", "slot", "(I)LCodeYard$Code;"⟩, 1) := ⟨⟨by decide +kernel, by decide +kernel⟩, List.mem_of_getElem? (i := 40) (by decide +kernel), List.mem_of_getElem? (i := 245) (by decide +kernel), List.mem_of_getElem? (i := 246) (by decide +kernel)⟩
theorem lw_p6 : lw_okq (⟨"CodeYard$Run", "isHeld", "()Z"⟩, 10) := ⟨⟨by decide +kernel, by decide +kernel⟩, List.mem_of_getElem? (i := 112) (by decide +kernel), List.mem_of_getElem? (i := 249) (by decide +kernel), List.mem_of_getElem? (i := 250) (by decide +kernel)⟩
theorem lw_p7 : lw_okq (⟨"CodeYard$Survey", "lookOver", "(LCodeYard$Row;)I"⟩, 6) := ⟨⟨by decide +kernel, by decide +kernel⟩, List.mem_of_getElem? (i := 83) (by decide +kernel), List.mem_of_getElem? (i := 253) (by decide +kernel), List.mem_of_getElem? (i := 254) (by decide +kernel)⟩
theorem lw_p8 : lw_okq (⟨"CodeYard$Survey", "clear", "(I)V"⟩, 6) := ⟨⟨by decide +kernel, by decide +kernel⟩, List.mem_of_getElem? (i := 83) (by decide +kernel), List.mem_of_getElem? (i := 260) (by decide +kernel), List.mem_of_getElem? (i := 261) (by decide +kernel)⟩
theorem lw_p9 : lw_okq (⟨"CodeYard$Row", "become", "(II)V"⟩, 2) := ⟨⟨by decide +kernel, by decide +kernel⟩, List.mem_of_getElem? (i := 19) (by decide +kernel), List.mem_of_getElem? (i := 264) (by decide +kernel), List.mem_of_getElem? (i := 265) (by decide +kernel)⟩
theorem lw_p10 : lw_okq (⟨"CodeYard$Survey", "readInstructions", "(LCodeYard$Row;)I"⟩, 6) := ⟨⟨by decide +kernel, by decide +kernel⟩, List.mem_of_getElem? (i := 83) (by decide +kernel), List.mem_of_getElem? (i := 268) (by decide +kernel), List.mem_of_getElem? (i := 269) (by decide +kernel)⟩
theorem lw_p11 : lw_okq (⟨"CodeYard$Row", "has", "(I)Z"⟩, 2) := ⟨⟨by decide +kernel, by decide +kernel⟩, List.mem_of_getElem? (i := 19) (by decide +kernel), List.mem_of_getElem? (i := 288) (by decide +kernel), List.mem_of_getElem? (i := 289) (by decide +kernel)⟩
theorem lw_p12 : lw_okq (⟨"CodeYard$Survey", "lookAtPlaces", "(LCodeYard$Row;)I"⟩, 6) := ⟨⟨by decide +kernel, by decide +kernel⟩, List.mem_of_getElem? (i := 83) (by decide +kernel), List.mem_of_getElem? (i := 297) (by decide +kernel), List.mem_of_getElem? (i := 298) (by decide +kernel)⟩
theorem lw_p13 : lw_okq (⟨"CodeYard$Survey", "tellsPlace", "(LCodeYard$Row;I)Z"⟩, 6) := ⟨⟨by decide +kernel, by decide +kernel⟩, List.mem_of_getElem? (i := 83) (by decide +kernel), List.mem_of_getElem? (i := 301) (by decide +kernel), List.mem_of_getElem? (i := 302) (by decide +kernel)⟩
theorem lw_p14 : lw_okq (⟨"CodeYard$Survey", "goThroughAll", "(LCodeYard$Row;)I"⟩, 6) := ⟨⟨by decide +kernel, by decide +kernel⟩, List.mem_of_getElem? (i := 83) (by decide +kernel), List.mem_of_getElem? (i := 308) (by decide +kernel), List.mem_of_getElem? (i := 309) (by decide +kernel)⟩
theorem lw_p15 : lw_okq (⟨"CodeYard$Survey", "comeTo", "(II)I"⟩, 6) := ⟨⟨by decide +kernel, by decide +kernel⟩, List.mem_of_getElem? (i := 83) (by decide +kernel), List.mem_of_getElem? (i := 312) (by decide +kernel), List.mem_of_getElem? (i := 313) (by decide +kernel)⟩
def lw_privs_1 : List (MethodName × Nat) := [(⟨"CodeYard", "addBytes", "(I)V"⟩, 4), (⟨"CodeYard$Row", "add", "(I)V"⟩, 2), (⟨"CodeYard$Row", "shorten", "(I)V"⟩, 2), (⟨"CodeYard$Row", "at", "(II)I"⟩, 2), (⟨"CodeYard$Row", "put", "(II)V"⟩, 2), (⟨"CodeYard$Shelf", "slot", "(I)LCodeYard$Code;"⟩, 1), (⟨"CodeYard$Run", "isHeld", "()Z"⟩, 10), (⟨"CodeYard$Survey", "lookOver", "(LCodeYard$Row;)I"⟩, 6), (⟨"CodeYard$Survey", "clear", "(I)V"⟩, 6), (⟨"CodeYard$Row", "become", "(II)V"⟩, 2), (⟨"CodeYard$Survey", "readInstructions", "(LCodeYard$Row;)I"⟩, 6), (⟨"CodeYard$Row", "has", "(I)Z"⟩, 2), (⟨"CodeYard$Survey", "lookAtPlaces", "(LCodeYard$Row;)I"⟩, 6), (⟨"CodeYard$Survey", "tellsPlace", "(LCodeYard$Row;I)Z"⟩, 6), (⟨"CodeYard$Survey", "goThroughAll", "(LCodeYard$Row;)I"⟩, 6), (⟨"CodeYard$Survey", "comeTo", "(II)I"⟩, 6)]
theorem lw_r1 : ∀ q ∈ lw_privs_1, lw_okq q := List.forall_mem_cons.mpr ⟨lw_p0, List.forall_mem_cons.mpr ⟨lw_p1, List.forall_mem_cons.mpr ⟨lw_p2, List.forall_mem_cons.mpr ⟨lw_p3, List.forall_mem_cons.mpr ⟨lw_p4, List.forall_mem_cons.mpr ⟨lw_p5, List.forall_mem_cons.mpr ⟨lw_p6, List.forall_mem_cons.mpr ⟨lw_p7, List.forall_mem_cons.mpr ⟨lw_p8, List.forall_mem_cons.mpr ⟨lw_p9, List.forall_mem_cons.mpr ⟨lw_p10, List.forall_mem_cons.mpr ⟨lw_p11, List.forall_mem_cons.mpr ⟨lw_p12, List.forall_mem_cons.mpr ⟨lw_p13, List.forall_mem_cons.mpr ⟨lw_p14, List.forall_mem_cons.mpr ⟨lw_p15, fun _ h => absurd h List.not_mem_nil⟩⟩⟩⟩⟩⟩⟩⟩⟩⟩⟩⟩⟩⟩⟩⟩
theorem lw_p16 : lw_okq (⟨"CodeYard$Survey", "leastWaiting", "()I"⟩, 6) := ⟨⟨by decide +kernel, by decide +kernel⟩, List.mem_of_getElem? (i := 83) (by decide +kernel), List.mem_of_getElem? (i := 317) (by decide +kernel), List.mem_of_getElem? (i := 318) (by decide +kernel)⟩
theorem lw_p17 : lw_okq (⟨"CodeYard$Survey", "goThrough", "(LCodeYard$Row;I)I"⟩, 6) := ⟨⟨by decide +kernel, by decide +kernel⟩, List.mem_of_getElem? (i := 83) (by decide +kernel), List.mem_of_getElem? (i := 321) (by decide +kernel), List.mem_of_getElem? (i := 322) (by decide +kernel)⟩
theorem lw_p18 : lw_okq (⟨"CodeYard$Code", "take", "(LCodeYard$Row;LCodeYard$Row;)V"⟩, 5) := ⟨⟨by decide +kernel, by decide +kernel⟩, List.mem_of_getElem? (i := 47) (by decide +kernel), List.mem_of_getElem? (i := 336) (by decide +kernel), List.mem_of_getElem? (i := 337) (by decide +kernel)⟩
theorem lw_p19 : lw_okq (⟨"CodeYard$Row", "becomeLike", "(LCodeYard$Row;)V"⟩, 2) := ⟨⟨by decide +kernel, by decide +kernel⟩, List.mem_of_getElem? (i := 19) (by decide +kernel), List.mem_of_getElem? (i := 340) (by decide +kernel), List.mem_of_getElem? (i := 341) (by decide +kernel)⟩
theorem lw_p20 : lw_okq (⟨"CodeYard$Shelf", "taken", "(I)LCodeYard$Code;"⟩, 1) := ⟨⟨by decide +kernel, by decide +kernel⟩, List.mem_of_getElem? (i := 40) (by decide +kernel), List.mem_of_getElem? (i := 351) (by decide +kernel), List.mem_of_getElem? (i := 352) (by decide +kernel)⟩
theorem lw_p21 : lw_okq (⟨"CodeYard$Code", "isTaken", "()Z"⟩, 5) := ⟨⟨by decide +kernel, by decide +kernel⟩, List.mem_of_getElem? (i := 47) (by decide +kernel), List.mem_of_getElem? (i := 356) (by decide +kernel), List.mem_of_getElem? (i := 357) (by decide +kernel)⟩
theorem lw_p22 : lw_okq (⟨"CodeYard$Run", "start", "(LCodeYard$Code;ILCodeYard$Row;)V"⟩, 10) := ⟨⟨by decide +kernel, by decide +kernel⟩, List.mem_of_getElem? (i := 112) (by decide +kernel), List.mem_of_getElem? (i := 360) (by decide +kernel), List.mem_of_getElem? (i := 361) (by decide +kernel)⟩
theorem lw_p23 : lw_okq (⟨"CodeYard$Shelf", "bringCellsBack", "()V"⟩, 1) := ⟨⟨by decide +kernel, by decide +kernel⟩, List.mem_of_getElem? (i := 40) (by decide +kernel), List.mem_of_getElem? (i := 365) (by decide +kernel), List.mem_of_getElem? (i := 366) (by decide +kernel)⟩
theorem lw_p24 : lw_okq (⟨"CodeYard$Shelf", "keepCells", "()V"⟩, 1) := ⟨⟨by decide +kernel, by decide +kernel⟩, List.mem_of_getElem? (i := 40) (by decide +kernel), List.mem_of_getElem? (i := 370) (by decide +kernel), List.mem_of_getElem? (i := 371) (by decide +kernel)⟩
theorem lw_p25 : lw_okq (⟨"CodeYard$Frame", "enter", "(LCodeYard$Code;I)V"⟩, 7) := ⟨⟨by decide +kernel, by decide +kernel⟩, List.mem_of_getElem? (i := 122) (by decide +kernel), List.mem_of_getElem? (i := 376) (by decide +kernel), List.mem_of_getElem? (i := 377) (by decide +kernel)⟩
theorem lw_p26 : lw_okq (⟨"CodeYard$Run", "advance", "(I)I"⟩, 10) := ⟨⟨by decide +kernel, by decide +kernel⟩, List.mem_of_getElem? (i := 112) (by decide +kernel), List.mem_of_getElem? (i := 387) (by decide +kernel), List.mem_of_getElem? (i := 388) (by decide +kernel)⟩
theorem lw_p27 : lw_okq (⟨"CodeYard$Run", "step", "()V"⟩, 10) := ⟨⟨by decide +kernel, by decide +kernel⟩, List.mem_of_getElem? (i := 112) (by decide +kernel), List.mem_of_getElem? (i := 391) (by decide +kernel), List.mem_of_getElem? (i := 392) (by decide +kernel)⟩
theorem lw_p28 : lw_okq (⟨"CodeYard$Run", "fail", "(I)V"⟩, 10) := ⟨⟨by decide +kernel, by decide +kernel⟩, List.mem_of_getElem? (i := 112) (by decide +kernel), List.mem_of_getElem? (i := 395) (by decide +kernel), List.mem_of_getElem? (i := 396) (by decide +kernel)⟩
theorem lw_p29 : lw_okq (⟨"CodeYard$Frame", "nextByte", "()I"⟩, 7) := ⟨⟨by decide +kernel, by decide +kernel⟩, List.mem_of_getElem? (i := 122) (by decide +kernel), List.mem_of_getElem? (i := 399) (by decide +kernel), List.mem_of_getElem? (i := 400) (by decide +kernel)⟩
theorem lw_p30 : lw_okq (⟨"CodeYard$Run", "move", "(II)V"⟩, 10) := ⟨⟨by decide +kernel, by decide +kernel⟩, List.mem_of_getElem? (i := 112) (by decide +kernel), List.mem_of_getElem? (i := 404) (by decide +kernel), List.mem_of_getElem? (i := 405) (by decide +kernel)⟩
theorem lw_p31 : lw_okq (⟨"CodeYard$Row", "takeLast", "()I"⟩, 2) := ⟨⟨by decide +kernel, by decide +kernel⟩, List.mem_of_getElem? (i := 19) (by decide +kernel), List.mem_of_getElem? (i := 410) (by decide +kernel), List.mem_of_getElem? (i := 411) (by decide +kernel)⟩
def lw_privs_2 : List (MethodName × Nat) := [(⟨"CodeYard$Survey", "leastWaiting", "()I"⟩, 6), (⟨"CodeYard$Survey", "goThrough", "(LCodeYard$Row;I)I"⟩, 6), (⟨"CodeYard$Code", "take", "(LCodeYard$Row;LCodeYard$Row;)V"⟩, 5), (⟨"CodeYard$Row", "becomeLike", "(LCodeYard$Row;)V"⟩, 2), (⟨"CodeYard$Shelf", "taken", "(I)LCodeYard$Code;"⟩, 1), (⟨"CodeYard$Code", "isTaken", "()Z"⟩, 5), (⟨"CodeYard$Run", "start", "(LCodeYard$Code;ILCodeYard$Row;)V"⟩, 10), (⟨"CodeYard$Shelf", "bringCellsBack", "()V"⟩, 1), (⟨"CodeYard$Shelf", "keepCells", "()V"⟩, 1), (⟨"CodeYard$Frame", "enter", "(LCodeYard$Code;I)V"⟩, 7), (⟨"CodeYard$Run", "advance", "(I)I"⟩, 10), (⟨"CodeYard$Run", "step", "()V"⟩, 10), (⟨"CodeYard$Run", "fail", "(I)V"⟩, 10), (⟨"CodeYard$Frame", "nextByte", "()I"⟩, 7), (⟨"CodeYard$Run", "move", "(II)V"⟩, 10), (⟨"CodeYard$Row", "takeLast", "()I"⟩, 2)]
theorem lw_r2 : ∀ q ∈ lw_privs_2, lw_okq q := List.forall_mem_cons.mpr ⟨lw_p16, List.forall_mem_cons.mpr ⟨lw_p17, List.forall_mem_cons.mpr ⟨lw_p18, List.forall_mem_cons.mpr ⟨lw_p19, List.forall_mem_cons.mpr ⟨lw_p20, List.forall_mem_cons.mpr ⟨lw_p21, List.forall_mem_cons.mpr ⟨lw_p22, List.forall_mem_cons.mpr ⟨lw_p23, List.forall_mem_cons.mpr ⟨lw_p24, List.forall_mem_cons.mpr ⟨lw_p25, List.forall_mem_cons.mpr ⟨lw_p26, List.forall_mem_cons.mpr ⟨lw_p27, List.forall_mem_cons.mpr ⟨lw_p28, List.forall_mem_cons.mpr ⟨lw_p29, List.forall_mem_cons.mpr ⟨lw_p30, List.forall_mem_cons.mpr ⟨lw_p31, fun _ h => absurd h List.not_mem_nil⟩⟩⟩⟩⟩⟩⟩⟩⟩⟩⟩⟩⟩⟩⟩⟩
theorem lw_p32 : lw_okq (⟨"CodeYard$Run", "combine", "(I)V"⟩, 10) := ⟨⟨by decide +kernel, by decide +kernel⟩, List.mem_of_getElem? (i := 112) (by decide +kernel), List.mem_of_getElem? (i := 415) (by decide +kernel), List.mem_of_getElem? (i := 416) (by decide +kernel)⟩
theorem lw_p33 : lw_okq (⟨"CodeYard$Run", "rearrange", "(I)V"⟩, 10) := ⟨⟨by decide +kernel, by decide +kernel⟩, List.mem_of_getElem? (i := 112) (by decide +kernel), List.mem_of_getElem? (i := 422) (by decide +kernel), List.mem_of_getElem? (i := 423) (by decide +kernel)⟩
theorem lw_p34 : lw_okq (⟨"CodeYard$Run", "jump", "(II)V"⟩, 10) := ⟨⟨by decide +kernel, by decide +kernel⟩, List.mem_of_getElem? (i := 112) (by decide +kernel), List.mem_of_getElem? (i := 426) (by decide +kernel), List.mem_of_getElem? (i := 427) (by decide +kernel)⟩
theorem lw_p35 : lw_okq (⟨"CodeYard$Run", "doOther", "(II)V"⟩, 10) := ⟨⟨by decide +kernel, by decide +kernel⟩, List.mem_of_getElem? (i := 112) (by decide +kernel), List.mem_of_getElem? (i := 430) (by decide +kernel), List.mem_of_getElem? (i := 431) (by decide +kernel)⟩
theorem lw_p36 : lw_okq (⟨"CodeYard$Run", "readInput", "(I)V"⟩, 10) := ⟨⟨by decide +kernel, by decide +kernel⟩, List.mem_of_getElem? (i := 112) (by decide +kernel), List.mem_of_getElem? (i := 434) (by decide +kernel), List.mem_of_getElem? (i := 435) (by decide +kernel)⟩
theorem lw_p37 : lw_okq (⟨"CodeYard$Run", "putOut", "(I)V"⟩, 10) := ⟨⟨by decide +kernel, by decide +kernel⟩, List.mem_of_getElem? (i := 112) (by decide +kernel), List.mem_of_getElem? (i := 439) (by decide +kernel), List.mem_of_getElem? (i := 440) (by decide +kernel)⟩
theorem lw_p38 : lw_okq (⟨"CodeYard$Run", "finish", "(I)V"⟩, 10) := ⟨⟨by decide +kernel, by decide +kernel⟩, List.mem_of_getElem? (i := 112) (by decide +kernel), List.mem_of_getElem? (i := 443) (by decide +kernel), List.mem_of_getElem? (i := 444) (by decide +kernel)⟩
theorem lw_p39 : lw_okq (⟨"CodeYard$Run", "divide", "(I)V"⟩, 10) := ⟨⟨by decide +kernel, by decide +kernel⟩, List.mem_of_getElem? (i := 112) (by decide +kernel), List.mem_of_getElem? (i := 447) (by decide +kernel), List.mem_of_getElem? (i := 448) (by decide +kernel)⟩
theorem lw_p40 : lw_okq (⟨"CodeYard$Run", "callCode", "(LCodeYard$Code;I)V"⟩, 10) := ⟨⟨by decide +kernel, by decide +kernel⟩, List.mem_of_getElem? (i := 112) (by decide +kernel), List.mem_of_getElem? (i := 452) (by decide +kernel), List.mem_of_getElem? (i := 453) (by decide +kernel)⟩
theorem lw_p41 : lw_okq (⟨"CodeYard$Run", "tell", "(I)I"⟩, 10) := ⟨⟨by decide +kernel, by decide +kernel⟩, List.mem_of_getElem? (i := 112) (by decide +kernel), List.mem_of_getElem? (i := 460) (by decide +kernel), List.mem_of_getElem? (i := 461) (by decide +kernel)⟩
theorem lw_p42 : lw_okq (⟨"CodeYardModel", "putFour", "(I)V"⟩, 29) := ⟨⟨by decide +kernel, by decide +kernel⟩, List.mem_of_getElem? (i := 488) (by decide +kernel), List.mem_of_getElem? (i := 588) (by decide +kernel), List.mem_of_getElem? (i := 589) (by decide +kernel)⟩
theorem lw_p43 : lw_okq (⟨"CodeYardModel", "look", "()I"⟩, 29) := ⟨⟨by decide +kernel, by decide +kernel⟩, List.mem_of_getElem? (i := 488) (by decide +kernel), List.mem_of_getElem? (i := 604) (by decide +kernel), List.mem_of_getElem? (i := 605) (by decide +kernel)⟩
theorem lw_p44 : lw_okq (⟨"CodeYardModel", "bad", "(II)V"⟩, 29) := ⟨⟨by decide +kernel, by decide +kernel⟩, List.mem_of_getElem? (i := 488) (by decide +kernel), List.mem_of_getElem? (i := 608) (by decide +kernel), List.mem_of_getElem? (i := 609) (by decide +kernel)⟩
theorem lw_p45 : lw_okq (⟨"CodeYardModel", "at", "(I)I"⟩, 29) := ⟨⟨by decide +kernel, by decide +kernel⟩, List.mem_of_getElem? (i := 488) (by decide +kernel), List.mem_of_getElem? (i := 612) (by decide +kernel), List.mem_of_getElem? (i := 613) (by decide +kernel)⟩
theorem lw_p46 : lw_okq (⟨"CodeYardModel", "walk", "()V"⟩, 29) := ⟨⟨by decide +kernel, by decide +kernel⟩, List.mem_of_getElem? (i := 488) (by decide +kernel), List.mem_of_getElem? (i := 622) (by decide +kernel), List.mem_of_getElem? (i := 623) (by decide +kernel)⟩
theorem lw_p47 : lw_okq (⟨"CodeYardModel", "come", "(II)V"⟩, 29) := ⟨⟨by decide +kernel, by decide +kernel⟩, List.mem_of_getElem? (i := 488) (by decide +kernel), List.mem_of_getElem? (i := 626) (by decide +kernel), List.mem_of_getElem? (i := 627) (by decide +kernel)⟩
def lw_privs_3 : List (MethodName × Nat) := [(⟨"CodeYard$Run", "combine", "(I)V"⟩, 10), (⟨"CodeYard$Run", "rearrange", "(I)V"⟩, 10), (⟨"CodeYard$Run", "jump", "(II)V"⟩, 10), (⟨"CodeYard$Run", "doOther", "(II)V"⟩, 10), (⟨"CodeYard$Run", "readInput", "(I)V"⟩, 10), (⟨"CodeYard$Run", "putOut", "(I)V"⟩, 10), (⟨"CodeYard$Run", "finish", "(I)V"⟩, 10), (⟨"CodeYard$Run", "divide", "(I)V"⟩, 10), (⟨"CodeYard$Run", "callCode", "(LCodeYard$Code;I)V"⟩, 10), (⟨"CodeYard$Run", "tell", "(I)I"⟩, 10), (⟨"CodeYardModel", "putFour", "(I)V"⟩, 29), (⟨"CodeYardModel", "look", "()I"⟩, 29), (⟨"CodeYardModel", "bad", "(II)V"⟩, 29), (⟨"CodeYardModel", "at", "(I)I"⟩, 29), (⟨"CodeYardModel", "walk", "()V"⟩, 29), (⟨"CodeYardModel", "come", "(II)V"⟩, 29)]
theorem lw_r3 : ∀ q ∈ lw_privs_3, lw_okq q := List.forall_mem_cons.mpr ⟨lw_p32, List.forall_mem_cons.mpr ⟨lw_p33, List.forall_mem_cons.mpr ⟨lw_p34, List.forall_mem_cons.mpr ⟨lw_p35, List.forall_mem_cons.mpr ⟨lw_p36, List.forall_mem_cons.mpr ⟨lw_p37, List.forall_mem_cons.mpr ⟨lw_p38, List.forall_mem_cons.mpr ⟨lw_p39, List.forall_mem_cons.mpr ⟨lw_p40, List.forall_mem_cons.mpr ⟨lw_p41, List.forall_mem_cons.mpr ⟨lw_p42, List.forall_mem_cons.mpr ⟨lw_p43, List.forall_mem_cons.mpr ⟨lw_p44, List.forall_mem_cons.mpr ⟨lw_p45, List.forall_mem_cons.mpr ⟨lw_p46, List.forall_mem_cons.mpr ⟨lw_p47, fun _ h => absurd h List.not_mem_nil⟩⟩⟩⟩⟩⟩⟩⟩⟩⟩⟩⟩⟩⟩⟩⟩
theorem lw_p48 : lw_okq (⟨"CodeYardModel", "goThrough", "(I)V"⟩, 29) := ⟨⟨by decide +kernel, by decide +kernel⟩, List.mem_of_getElem? (i := 488) (by decide +kernel), List.mem_of_getElem? (i := 630) (by decide +kernel), List.mem_of_getElem? (i := 631) (by decide +kernel)⟩
theorem lw_p49 : lw_okq (⟨"CodeYardModel", "undo", "()V"⟩, 29) := ⟨⟨by decide +kernel, by decide +kernel⟩, List.mem_of_getElem? (i := 488) (by decide +kernel), List.mem_of_getElem? (i := 644) (by decide +kernel), List.mem_of_getElem? (i := 645) (by decide +kernel)⟩
theorem lw_p50 : lw_okq (⟨"CodeYardModel", "enter", "(II)V"⟩, 29) := ⟨⟨by decide +kernel, by decide +kernel⟩, List.mem_of_getElem? (i := 488) (by decide +kernel), List.mem_of_getElem? (i := 648) (by decide +kernel), List.mem_of_getElem? (i := 649) (by decide +kernel)⟩
theorem lw_p51 : lw_okq (⟨"CodeYardModel", "throwFor", "(I)V"⟩, 29) := ⟨⟨by decide +kernel, by decide +kernel⟩, List.mem_of_getElem? (i := 488) (by decide +kernel), List.mem_of_getElem? (i := 656) (by decide +kernel), List.mem_of_getElem? (i := 657) (by decide +kernel)⟩
theorem lw_p52 : lw_okq (⟨"CodeYardModel", "oneStep", "()V"⟩, 29) := ⟨⟨by decide +kernel, by decide +kernel⟩, List.mem_of_getElem? (i := 488) (by decide +kernel), List.mem_of_getElem? (i := 660) (by decide +kernel), List.mem_of_getElem? (i := 661) (by decide +kernel)⟩
theorem lw_p53 : lw_okq (⟨"CodeYardModel", "simple", "(IIII)V"⟩, 29) := ⟨⟨by decide +kernel, by decide +kernel⟩, List.mem_of_getElem? (i := 488) (by decide +kernel), List.mem_of_getElem? (i := 664) (by decide +kernel), List.mem_of_getElem? (i := 665) (by decide +kernel)⟩
theorem lw_p54 : lw_okq (⟨"CodeYardModel", "push", "(I)V"⟩, 29) := ⟨⟨by decide +kernel, by decide +kernel⟩, List.mem_of_getElem? (i := 488) (by decide +kernel), List.mem_of_getElem? (i := 668) (by decide +kernel), List.mem_of_getElem? (i := 669) (by decide +kernel)⟩
theorem lw_p55 : lw_okq (⟨"CodeYardModel", "pop", "()I"⟩, 29) := ⟨⟨by decide +kernel, by decide +kernel⟩, List.mem_of_getElem? (i := 488) (by decide +kernel), List.mem_of_getElem? (i := 672) (by decide +kernel), List.mem_of_getElem? (i := 673) (by decide +kernel)⟩
theorem lw_p56 : lw_okq (⟨"CodeYardModel", "works", "(I)V"⟩, 29) := ⟨⟨by decide +kernel, by decide +kernel⟩, List.mem_of_getElem? (i := 488) (by decide +kernel), List.mem_of_getElem? (i := 676) (by decide +kernel), List.mem_of_getElem? (i := 677) (by decide +kernel)⟩
theorem lw_p57 : lw_okq (⟨"CodeYardModel", "jumps", "(III)V"⟩, 29) := ⟨⟨by decide +kernel, by decide +kernel⟩, List.mem_of_getElem? (i := 488) (by decide +kernel), List.mem_of_getElem? (i := 680) (by decide +kernel), List.mem_of_getElem? (i := 681) (by decide +kernel)⟩
theorem lw_p58 : lw_okq (⟨"CodeYardModel", "bytes", "(I)V"⟩, 29) := ⟨⟨by decide +kernel, by decide +kernel⟩, List.mem_of_getElem? (i := 488) (by decide +kernel), List.mem_of_getElem? (i := 684) (by decide +kernel), List.mem_of_getElem? (i := 685) (by decide +kernel)⟩
theorem lw_p59 : lw_okq (⟨"CodeYardModel", "finish", "(I)V"⟩, 29) := ⟨⟨by decide +kernel, by decide +kernel⟩, List.mem_of_getElem? (i := 488) (by decide +kernel), List.mem_of_getElem? (i := 688) (by decide +kernel), List.mem_of_getElem? (i := 689) (by decide +kernel)⟩
theorem lw_p60 : lw_okq (⟨"CodeYardModel", "ends", "(I)V"⟩, 29) := ⟨⟨by decide +kernel, by decide +kernel⟩, List.mem_of_getElem? (i := 488) (by decide +kernel), List.mem_of_getElem? (i := 692) (by decide +kernel), List.mem_of_getElem? (i := 693) (by decide +kernel)⟩
theorem lw_p61 : lw_okq (⟨"CodeYardModel", "divide", "(I)V"⟩, 29) := ⟨⟨by decide +kernel, by decide +kernel⟩, List.mem_of_getElem? (i := 488) (by decide +kernel), List.mem_of_getElem? (i := 696) (by decide +kernel), List.mem_of_getElem? (i := 697) (by decide +kernel)⟩
theorem lw_p62 : lw_okq (⟨"CodeYardModel", "call", "(I)V"⟩, 29) := ⟨⟨by decide +kernel, by decide +kernel⟩, List.mem_of_getElem? (i := 488) (by decide +kernel), List.mem_of_getElem? (i := 700) (by decide +kernel), List.mem_of_getElem? (i := 701) (by decide +kernel)⟩
def lw_privs_4 : List (MethodName × Nat) := [(⟨"CodeYardModel", "goThrough", "(I)V"⟩, 29), (⟨"CodeYardModel", "undo", "()V"⟩, 29), (⟨"CodeYardModel", "enter", "(II)V"⟩, 29), (⟨"CodeYardModel", "throwFor", "(I)V"⟩, 29), (⟨"CodeYardModel", "oneStep", "()V"⟩, 29), (⟨"CodeYardModel", "simple", "(IIII)V"⟩, 29), (⟨"CodeYardModel", "push", "(I)V"⟩, 29), (⟨"CodeYardModel", "pop", "()I"⟩, 29), (⟨"CodeYardModel", "works", "(I)V"⟩, 29), (⟨"CodeYardModel", "jumps", "(III)V"⟩, 29), (⟨"CodeYardModel", "bytes", "(I)V"⟩, 29), (⟨"CodeYardModel", "finish", "(I)V"⟩, 29), (⟨"CodeYardModel", "ends", "(I)V"⟩, 29), (⟨"CodeYardModel", "divide", "(I)V"⟩, 29), (⟨"CodeYardModel", "call", "(I)V"⟩, 29)]
theorem lw_r4 : ∀ q ∈ lw_privs_4, lw_okq q := List.forall_mem_cons.mpr ⟨lw_p48, List.forall_mem_cons.mpr ⟨lw_p49, List.forall_mem_cons.mpr ⟨lw_p50, List.forall_mem_cons.mpr ⟨lw_p51, List.forall_mem_cons.mpr ⟨lw_p52, List.forall_mem_cons.mpr ⟨lw_p53, List.forall_mem_cons.mpr ⟨lw_p54, List.forall_mem_cons.mpr ⟨lw_p55, List.forall_mem_cons.mpr ⟨lw_p56, List.forall_mem_cons.mpr ⟨lw_p57, List.forall_mem_cons.mpr ⟨lw_p58, List.forall_mem_cons.mpr ⟨lw_p59, List.forall_mem_cons.mpr ⟨lw_p60, List.forall_mem_cons.mpr ⟨lw_p61, List.forall_mem_cons.mpr ⟨lw_p62, fun _ h => absurd h List.not_mem_nil⟩⟩⟩⟩⟩⟩⟩⟩⟩⟩⟩⟩⟩⟩⟩
def lw_privs : List (MethodName × Nat) := lw_privs_1 ++ (lw_privs_2 ++ (lw_privs_3 ++ (lw_privs_4)))
def lw_tbl : List Cond := k2_sels lw_privs ++ tables_1
theorem lw_privs_ok : ∀ q ∈ lw_privs, lw_okq q := by
  show ∀ q ∈ lw_privs_1 ++ (lw_privs_2 ++ (lw_privs_3 ++ (lw_privs_4))), lw_okq q
  exact List.forall_mem_append.mpr ⟨lw_r1, List.forall_mem_append.mpr ⟨lw_r2, List.forall_mem_append.mpr ⟨lw_r3, lw_r4⟩⟩⟩
end
section
def R_Row : String := "CodeYard$Row"
def F_Row : u_T := fun k => match k with
  | 0 => ("CodeYard$Row", "items", "[I", true)
  | _ => ("CodeYard$Row", "count", "I", false)
def t_Row : Nat → FieldType := fun k => match k with
  | 0 => .array .int
  | _ => .int
theorem n_Row : ∀ a, a < 2 → ∀ b, b < 2 → a ≠ b → (F_Row a).2.1 ≠ (F_Row b).2.1 := by decide +kernel
theorem t_Row_ok : ∀ k, k < 2 → parseFieldDescriptor (F_Row k).2.2.1 = some (t_Row k) := by decide +kernel
theorem i_Row : ∀ w ∈ u_ws R_Row F_Row 2, w ∈ lw_tbl := by decide +kernel
def R_Code : String := "CodeYard$Code"
def F_Code : u_T := fun k => match k with
  | 0 => ("CodeYard$Code", "number", "I", true)
  | 1 => ("CodeYard$Code", "bytes", "LCodeYard$Row;", true)
  | 2 => ("CodeYard$Code", "heights", "LCodeYard$Row;", true)
  | 3 => ("CodeYard$Code", "cells", "LCodeYard$Row;", true)
  | _ => ("CodeYard$Code", "cellsBefore", "LCodeYard$Row;", true)
def t_Code : Nat → FieldType := fun k => match k with
  | 0 => .int
  | 1 => .object "CodeYard$Row"
  | 2 => .object "CodeYard$Row"
  | 3 => .object "CodeYard$Row"
  | _ => .object "CodeYard$Row"
theorem n_Code : ∀ a, a < 5 → ∀ b, b < 5 → a ≠ b → (F_Code a).2.1 ≠ (F_Code b).2.1 := by decide +kernel
theorem t_Code_ok : ∀ k, k < 5 → parseFieldDescriptor (F_Code k).2.2.1 = some (t_Code k) := by decide +kernel
theorem i_Code : ∀ w ∈ u_ws R_Code F_Code 5, w ∈ lw_tbl := by decide +kernel
def R_Shelf : String := "CodeYard$Shelf"
def F_Shelf : u_T := fun k => match k with
  | _ => ("CodeYard$Shelf", "codes", "[LCodeYard$Code;", true)
def t_Shelf : Nat → FieldType := fun k => match k with
  | _ => .array (.object "CodeYard$Code")
theorem n_Shelf : ∀ a, a < 1 → ∀ b, b < 1 → a ≠ b → (F_Shelf a).2.1 ≠ (F_Shelf b).2.1 := by decide +kernel
theorem t_Shelf_ok : ∀ k, k < 1 → parseFieldDescriptor (F_Shelf k).2.2.1 = some (t_Shelf k) := by decide +kernel
theorem i_Shelf : ∀ w ∈ u_ws R_Shelf F_Shelf 1, w ∈ lw_tbl := by decide +kernel
def R_Survey : String := "CodeYard$Survey"
def F_Survey : u_T := fun k => match k with
  | 0 => ("CodeYard$Survey", "starts", "LCodeYard$Row;", true)
  | 1 => ("CodeYard$Survey", "heights", "LCodeYard$Row;", true)
  | 2 => ("CodeYard$Survey", "waiting", "LCodeYard$Row;", true)
  | 3 => ("CodeYard$Survey", "instructions", "I", false)
  | 4 => ("CodeYard$Survey", "lastStart", "I", false)
  | _ => ("CodeYard$Survey", "searchFrom", "I", false)
def t_Survey : Nat → FieldType := fun k => match k with
  | 0 => .object "CodeYard$Row"
  | 1 => .object "CodeYard$Row"
  | 2 => .object "CodeYard$Row"
  | 3 => .int
  | 4 => .int
  | _ => .int
theorem n_Survey : ∀ a, a < 6 → ∀ b, b < 6 → a ≠ b → (F_Survey a).2.1 ≠ (F_Survey b).2.1 := by decide +kernel
theorem t_Survey_ok : ∀ k, k < 6 → parseFieldDescriptor (F_Survey k).2.2.1 = some (t_Survey k) := by decide +kernel
theorem i_Survey : ∀ w ∈ u_ws R_Survey F_Survey 6, w ∈ lw_tbl := by decide +kernel
def R_Frame : String := "CodeYard$Frame"
def F_Frame : u_T := fun k => match k with
  | 0 => ("CodeYard$Frame", "level", "I", true)
  | 1 => ("CodeYard$Frame", "outer", "LCodeYard$Frame;", true)
  | 2 => ("CodeYard$Frame", "inner", "LCodeYard$Frame;", false)
  | 3 => ("CodeYard$Frame", "pile", "LCodeYard$Row;", true)
  | 4 => ("CodeYard$Frame", "locals", "LCodeYard$Row;", true)
  | 5 => ("CodeYard$Frame", "code", "LCodeYard$Code;", false)
  | _ => ("CodeYard$Frame", "place", "I", false)
def t_Frame : Nat → FieldType := fun k => match k with
  | 0 => .int
  | 1 => .object "CodeYard$Frame"
  | 2 => .object "CodeYard$Frame"
  | 3 => .object "CodeYard$Row"
  | 4 => .object "CodeYard$Row"
  | 5 => .object "CodeYard$Code"
  | _ => .int
theorem n_Frame : ∀ a, a < 7 → ∀ b, b < 7 → a ≠ b → (F_Frame a).2.1 ≠ (F_Frame b).2.1 := by decide +kernel
theorem t_Frame_ok : ∀ k, k < 7 → parseFieldDescriptor (F_Frame k).2.2.1 = some (t_Frame k) := by decide +kernel
theorem i_Frame : ∀ w ∈ u_ws R_Frame F_Frame 7, w ∈ lw_tbl := by decide +kernel
def R_Run : String := "CodeYard$Run"
def F_Run : u_T := fun k => match k with
  | 0 => ("CodeYard$Run", "shelf", "LCodeYard$Shelf;", true)
  | 1 => ("CodeYard$Run", "first", "LCodeYard$Frame;", true)
  | 2 => ("CodeYard$Run", "input", "LCodeYard$Row;", true)
  | 3 => ("CodeYard$Run", "output", "LCodeYard$Row;", true)
  | 4 => ("CodeYard$Run", "work", "LCodeYard$Frame;", false)
  | 5 => ("CodeYard$Run", "begun", "Z", false)
  | 6 => ("CodeYard$Run", "status", "I", false)
  | 7 => ("CodeYard$Run", "result", "I", false)
  | 8 => ("CodeYard$Run", "reason", "I", false)
  | _ => ("CodeYard$Run", "done", "I", false)
def t_Run : Nat → FieldType := fun k => match k with
  | 0 => .object "CodeYard$Shelf"
  | 1 => .object "CodeYard$Frame"
  | 2 => .object "CodeYard$Row"
  | 3 => .object "CodeYard$Row"
  | 4 => .object "CodeYard$Frame"
  | 5 => .boolean
  | 6 => .int
  | 7 => .int
  | 8 => .int
  | _ => .int
theorem n_Run : ∀ a, a < 10 → ∀ b, b < 10 → a ≠ b → (F_Run a).2.1 ≠ (F_Run b).2.1 := by decide +kernel
theorem t_Run_ok : ∀ k, k < 10 → parseFieldDescriptor (F_Run k).2.2.1 = some (t_Run k) := by decide +kernel
theorem i_Run : ∀ w ∈ u_ws R_Run F_Run 10, w ∈ lw_tbl := by decide +kernel
def R_Yard : String := "CodeYard"
def F_Yard : u_T := fun k => match k with
  | 0 => ("CodeYard", "tape", "LCodeYard$Row;", true)
  | 1 => ("CodeYard", "shelf", "LCodeYard$Shelf;", true)
  | 2 => ("CodeYard", "survey", "LCodeYard$Survey;", true)
  | _ => ("CodeYard", "run", "LCodeYard$Run;", true)
def t_Yard : Nat → FieldType := fun k => match k with
  | 0 => .object "CodeYard$Row"
  | 1 => .object "CodeYard$Shelf"
  | 2 => .object "CodeYard$Survey"
  | _ => .object "CodeYard$Run"
theorem n_Yard : ∀ a, a < 4 → ∀ b, b < 4 → a ≠ b → (F_Yard a).2.1 ≠ (F_Yard b).2.1 := by decide +kernel
theorem t_Yard_ok : ∀ k, k < 4 → parseFieldDescriptor (F_Yard k).2.2.1 = some (t_Yard k) := by decide +kernel
theorem i_Yard : ∀ w ∈ u_ws R_Yard F_Yard 4, w ∈ lw_tbl := by decide +kernel
def R_Model : String := "CodeYardModel"
def F_Model : u_T := fun k => match k with
  | 0 => ("CodeYardModel", "tape", "[B", true)
  | 1 => ("CodeYardModel", "taped", "I", false)
  | 2 => ("CodeYardModel", "code", "[B", true)
  | 3 => ("CodeYardModel", "size", "[I", true)
  | 4 => ("CodeYardModel", "heights", "[I", true)
  | 5 => ("CodeYardModel", "cells", "[I", true)
  | 6 => ("CodeYardModel", "before", "[I", true)
  | 7 => ("CodeYardModel", "n", "I", false)
  | 8 => ("CodeYardModel", "starts", "[Z", true)
  | 9 => ("CodeYardModel", "high", "[I", true)
  | 10 => ("CodeYardModel", "through", "[Z", true)
  | 11 => ("CodeYardModel", "fault", "I", false)
  | 12 => ("CodeYardModel", "faultPlace", "I", false)
  | 13 => ("CodeYardModel", "is", "Z", false)
  | 14 => ("CodeYardModel", "held", "Z", false)
  | 15 => ("CodeYardModel", "thrown", "Z", false)
  | 16 => ("CodeYardModel", "value", "I", false)
  | 17 => ("CodeYardModel", "reason", "I", false)
  | 18 => ("CodeYardModel", "done", "I", false)
  | 19 => ("CodeYardModel", "depth", "I", false)
  | 20 => ("CodeYardModel", "which", "[I", true)
  | 21 => ("CodeYardModel", "place", "[I", true)
  | 22 => ("CodeYardModel", "piled", "[I", true)
  | 23 => ("CodeYardModel", "pile", "[I", true)
  | 24 => ("CodeYardModel", "locals", "[I", true)
  | 25 => ("CodeYardModel", "input", "[B", true)
  | 26 => ("CodeYardModel", "inputSize", "I", false)
  | 27 => ("CodeYardModel", "out", "[B", true)
  | _ => ("CodeYardModel", "outSize", "I", false)
def t_Model : Nat → FieldType := fun k => match k with
  | 0 => .array .byte
  | 1 => .int
  | 2 => .array .byte
  | 3 => .array .int
  | 4 => .array .int
  | 5 => .array .int
  | 6 => .array .int
  | 7 => .int
  | 8 => .array .boolean
  | 9 => .array .int
  | 10 => .array .boolean
  | 11 => .int
  | 12 => .int
  | 13 => .boolean
  | 14 => .boolean
  | 15 => .boolean
  | 16 => .int
  | 17 => .int
  | 18 => .int
  | 19 => .int
  | 20 => .array .int
  | 21 => .array .int
  | 22 => .array .int
  | 23 => .array .int
  | 24 => .array .int
  | 25 => .array .byte
  | 26 => .int
  | 27 => .array .byte
  | _ => .int
theorem n_Model : ∀ a, a < 29 → ∀ b, b < 29 → a ≠ b → (F_Model a).2.1 ≠ (F_Model b).2.1 := by decide +kernel
theorem t_Model_ok : ∀ k, k < 29 → parseFieldDescriptor (F_Model k).2.2.1 = some (t_Model k) := by decide +kernel
theorem i_Model : ∀ w ∈ u_ws R_Model F_Model 29, w ∈ lw_tbl := by decide +kernel
def R_Law : String := "CodeYardLaw"
abbrev cy_cl : List vw_C := [(R_Row, F_Row, 2), (R_Code, F_Code, 5), (R_Shelf, F_Shelf, 1), (R_Survey, F_Survey, 6), (R_Frame, F_Frame, 7), (R_Run, F_Run, 10), (R_Yard, F_Yard, 4), (R_Model, F_Model, 29)]
def cy_AO : List String := ["CodeYard$Code"]
def cy_OM (j : Nat) : Int32 := ([255, 15, 15, 7, 7, -1, -1, -1, -1, -1, -1, -1, -1, -1, -1, -1, 255, 255, 255, -1, -1, -1, -1, -1, -1, -1, -1, 23] : List Int32).getD j 0
def cy_TK (j : Nat) : Int32 := ([0, 0, 1, 0, 1, 2, 2, 2, 2, 2, 2, 2, 2, 1, 1, 2, 0, 1, 2, 1, 0, 1, 1, 0, 0, 2, 2, 0] : List Int32).getD j 0
def cy_GV (j : Nat) : Int32 := ([1, 1, 0, 1, 0, 1, 1, 1, 1, 1, 1, 1, 1, 2, 0, 2, 0, 0, 0, 1, 1, 0, 0, 0, 0, 1, 1, 1] : List Int32).getD j 0
def cy_ST : List (String × String × String × Nat × (Nat → Value)) := [("CodeYard", "OPERAND_MOST", "[I", 28, fun j => .int (cy_OM j)), ("CodeYard", "TAKES", "[I", 28, fun j => .int (cy_TK j)), ("CodeYard", "GIVES", "[I", 28, fun j => .int (cy_GV j))]
abbrev b_Yard_init : ByteArray := prog_1_method_1_code
def y_Yard_init : MethodName := ⟨R_Yard, "<init>", "()V"⟩
abbrev m_Yard_init : MethodName × ByteArray × Nat × Option FieldType := (y_Yard_init, b_Yard_init, 1, none)
abbrev b_Row_init : ByteArray := prog_4_method_1_code
def y_Row_init : MethodName := ⟨R_Row, "<init>", "(I)V"⟩
abbrev m_Row_init : MethodName × ByteArray × Nat × Option FieldType := (y_Row_init, b_Row_init, 2, none)
abbrev b_Shelf_init : ByteArray := prog_6_method_1_code
def y_Shelf_init : MethodName := ⟨R_Shelf, "<init>", "()V"⟩
abbrev m_Shelf_init : MethodName × ByteArray × Nat × Option FieldType := (y_Shelf_init, b_Shelf_init, 2, none)
abbrev b_Code_init : ByteArray := prog_2_method_1_code
def y_Code_init : MethodName := ⟨R_Code, "<init>", "(I)V"⟩
abbrev m_Code_init : MethodName × ByteArray × Nat × Option FieldType := (y_Code_init, b_Code_init, 2, none)
abbrev b_Survey_init : ByteArray := prog_7_method_1_code
def y_Survey_init : MethodName := ⟨R_Survey, "<init>", "()V"⟩
abbrev m_Survey_init : MethodName × ByteArray × Nat × Option FieldType := (y_Survey_init, b_Survey_init, 1, none)
abbrev b_Run_init : ByteArray := prog_5_method_1_code
def y_Run_init : MethodName := ⟨R_Run, "<init>", "(LCodeYard$Shelf;)V"⟩
abbrev m_Run_init : MethodName × ByteArray × Nat × Option FieldType := (y_Run_init, b_Run_init, 6, none)
abbrev b_Frame_init : ByteArray := prog_3_method_1_code
def y_Frame_init : MethodName := ⟨R_Frame, "<init>", "(ILCodeYard$Frame;LCodeYard$Code;)V"⟩
abbrev m_Frame_init : MethodName × ByteArray × Nat × Option FieldType := (y_Frame_init, b_Frame_init, 4, none)
abbrev b_Yard_feed : ByteArray := prog_1_method_2_code
def y_Yard_feed : MethodName := ⟨R_Yard, "feed", "(IIIII)I"⟩
abbrev m_Yard_feed : MethodName × ByteArray × Nat × Option FieldType := (y_Yard_feed, b_Yard_feed, 6, (some .int))
abbrev b_Yard_addBytes : ByteArray := prog_1_method_3_code
def y_Yard_addBytes : MethodName := ⟨R_Yard, "addBytes", "(I)V"⟩
abbrev m_Yard_addBytes : MethodName × ByteArray × Nat × Option FieldType := (y_Yard_addBytes, b_Yard_addBytes, 3, none)
abbrev b_Row_add : ByteArray := prog_4_method_5_code
def y_Row_add : MethodName := ⟨R_Row, "add", "(I)V"⟩
abbrev m_Row_add : MethodName × ByteArray × Nat × Option FieldType := (y_Row_add, b_Row_add, 2, none)
abbrev b_Yard_end : ByteArray := prog_1_method_4_code
def y_Yard_end : MethodName := ⟨R_Yard, "end", "(I)I"⟩
abbrev m_Yard_end : MethodName × ByteArray × Nat × Option FieldType := (y_Yard_end, b_Yard_end, 2, (some .int))
abbrev b_Row_shorten : ByteArray := prog_4_method_7_code
def y_Row_shorten : MethodName := ⟨R_Row, "shorten", "(I)V"⟩
abbrev m_Row_shorten : MethodName × ByteArray × Nat × Option FieldType := (y_Row_shorten, b_Row_shorten, 2, none)
abbrev b_Yard_poke : ByteArray := prog_1_method_5_code
def y_Yard_poke : MethodName := ⟨R_Yard, "poke", "(II)I"⟩
abbrev m_Yard_poke : MethodName × ByteArray × Nat × Option FieldType := (y_Yard_poke, b_Yard_poke, 4, (some .int))
abbrev b_Row_at : ByteArray := prog_4_method_3_code
def y_Row_at : MethodName := ⟨R_Row, "at", "(II)I"⟩
abbrev m_Row_at : MethodName × ByteArray × Nat × Option FieldType := (y_Row_at, b_Row_at, 3, (some .int))
abbrev b_Row_put : ByteArray := prog_4_method_4_code
def y_Row_put : MethodName := ⟨R_Row, "put", "(II)V"⟩
abbrev m_Row_put : MethodName × ByteArray × Nat × Option FieldType := (y_Row_put, b_Row_put, 3, none)
abbrev b_Yard_load : ByteArray := prog_1_method_6_code
def y_Yard_load : MethodName := ⟨R_Yard, "load", "(I)I"⟩
abbrev m_Yard_load : MethodName × ByteArray × Nat × Option FieldType := (y_Yard_load, b_Yard_load, 4, (some .int))
abbrev b_Shelf_slot : ByteArray := prog_6_method_2_code
def y_Shelf_slot : MethodName := ⟨R_Shelf, "slot", "(I)LCodeYard$Code;"⟩
abbrev m_Shelf_slot : MethodName × ByteArray × Nat × Option FieldType := (y_Shelf_slot, b_Shelf_slot, 2, (some (.object "CodeYard$Code")))
abbrev b_Run_isHeld : ByteArray := prog_5_method_2_code
def y_Run_isHeld : MethodName := ⟨R_Run, "isHeld", "()Z"⟩
abbrev m_Run_isHeld : MethodName × ByteArray × Nat × Option FieldType := (y_Run_isHeld, b_Run_isHeld, 1, (some .boolean))
abbrev b_Survey_lookOver : ByteArray := prog_7_method_2_code
def y_Survey_lookOver : MethodName := ⟨R_Survey, "lookOver", "(LCodeYard$Row;)I"⟩
abbrev m_Survey_lookOver : MethodName × ByteArray × Nat × Option FieldType := (y_Survey_lookOver, b_Survey_lookOver, 3, (some .int))
abbrev b_Survey_fault : ByteArray := prog_7_method_3_code
def y_Survey_fault : MethodName := ⟨R_Survey, "fault", "(II)I"⟩
abbrev m_Survey_fault : MethodName × ByteArray × Nat × Option FieldType := (y_Survey_fault, b_Survey_fault, 2, (some .int))
abbrev b_Survey_clear : ByteArray := prog_7_method_4_code
def y_Survey_clear : MethodName := ⟨R_Survey, "clear", "(I)V"⟩
abbrev m_Survey_clear : MethodName × ByteArray × Nat × Option FieldType := (y_Survey_clear, b_Survey_clear, 2, none)
abbrev b_Row_become : ByteArray := prog_4_method_8_code
def y_Row_become : MethodName := ⟨R_Row, "become", "(II)V"⟩
abbrev m_Row_become : MethodName × ByteArray × Nat × Option FieldType := (y_Row_become, b_Row_become, 4, none)
abbrev b_Survey_readInstructions : ByteArray := prog_7_method_5_code
def y_Survey_readInstructions : MethodName := ⟨R_Survey, "readInstructions", "(LCodeYard$Row;)I"⟩
abbrev m_Survey_readInstructions : MethodName × ByteArray × Nat × Option FieldType := (y_Survey_readInstructions, b_Survey_readInstructions, 4, (some .int))
abbrev b_Survey_readingFault : ByteArray := prog_7_method_6_code
def y_Survey_readingFault : MethodName := ⟨R_Survey, "readingFault", "(LCodeYard$Row;I)I"⟩
abbrev m_Survey_readingFault : MethodName × ByteArray × Nat × Option FieldType := (y_Survey_readingFault, b_Survey_readingFault, 3, (some .int))
abbrev b_Yard_isInstruction : ByteArray := prog_1_method_16_code
def y_Yard_isInstruction : MethodName := ⟨R_Yard, "isInstruction", "(I)Z"⟩
abbrev m_Yard_isInstruction : MethodName × ByteArray × Nat × Option FieldType := (y_Yard_isInstruction, b_Yard_isInstruction, 1, (some .boolean))
abbrev b_Yard_hasOperand : ByteArray := prog_1_method_18_code
def y_Yard_hasOperand : MethodName := ⟨R_Yard, "hasOperand", "(I)Z"⟩
abbrev m_Yard_hasOperand : MethodName × ByteArray × Nat × Option FieldType := (y_Yard_hasOperand, b_Yard_hasOperand, 1, (some .boolean))
abbrev b_Yard_operandMost : ByteArray := prog_1_method_17_code
def y_Yard_operandMost : MethodName := ⟨R_Yard, "operandMost", "(I)I"⟩
abbrev m_Yard_operandMost : MethodName × ByteArray × Nat × Option FieldType := (y_Yard_operandMost, b_Yard_operandMost, 1, (some .int))
abbrev b_Row_has : ByteArray := prog_4_method_2_code
def y_Row_has : MethodName := ⟨R_Row, "has", "(I)Z"⟩
abbrev m_Row_has : MethodName × ByteArray × Nat × Option FieldType := (y_Row_has, b_Row_has, 2, (some .boolean))
abbrev b_Yard_isEnding : ByteArray := prog_1_method_21_code
def y_Yard_isEnding : MethodName := ⟨R_Yard, "isEnding", "(I)Z"⟩
abbrev m_Yard_isEnding : MethodName × ByteArray × Nat × Option FieldType := (y_Yard_isEnding, b_Yard_isEnding, 1, (some .boolean))
abbrev b_Survey_lookAtPlaces : ByteArray := prog_7_method_7_code
def y_Survey_lookAtPlaces : MethodName := ⟨R_Survey, "lookAtPlaces", "(LCodeYard$Row;)I"⟩
abbrev m_Survey_lookAtPlaces : MethodName × ByteArray × Nat × Option FieldType := (y_Survey_lookAtPlaces, b_Survey_lookAtPlaces, 3, (some .int))
abbrev b_Survey_tellsPlace : ByteArray := prog_7_method_8_code
def y_Survey_tellsPlace : MethodName := ⟨R_Survey, "tellsPlace", "(LCodeYard$Row;I)Z"⟩
abbrev m_Survey_tellsPlace : MethodName × ByteArray × Nat × Option FieldType := (y_Survey_tellsPlace, b_Survey_tellsPlace, 3, (some .boolean))
abbrev b_Yard_isJump : ByteArray := prog_1_method_22_code
def y_Yard_isJump : MethodName := ⟨R_Yard, "isJump", "(I)Z"⟩
abbrev m_Yard_isJump : MethodName × ByteArray × Nat × Option FieldType := (y_Yard_isJump, b_Yard_isJump, 1, (some .boolean))
abbrev b_Survey_goThroughAll : ByteArray := prog_7_method_9_code
def y_Survey_goThroughAll : MethodName := ⟨R_Survey, "goThroughAll", "(LCodeYard$Row;)I"⟩
abbrev m_Survey_goThroughAll : MethodName × ByteArray × Nat × Option FieldType := (y_Survey_goThroughAll, b_Survey_goThroughAll, 5, (some .int))
abbrev b_Survey_comeTo : ByteArray := prog_7_method_12_code
def y_Survey_comeTo : MethodName := ⟨R_Survey, "comeTo", "(II)I"⟩
abbrev m_Survey_comeTo : MethodName × ByteArray × Nat × Option FieldType := (y_Survey_comeTo, b_Survey_comeTo, 4, (some .int))
abbrev b_Survey_leastWaiting : ByteArray := prog_7_method_10_code
def y_Survey_leastWaiting : MethodName := ⟨R_Survey, "leastWaiting", "()I"⟩
abbrev m_Survey_leastWaiting : MethodName × ByteArray × Nat × Option FieldType := (y_Survey_leastWaiting, b_Survey_leastWaiting, 2, (some .int))
abbrev b_Survey_goThrough : ByteArray := prog_7_method_11_code
def y_Survey_goThrough : MethodName := ⟨R_Survey, "goThrough", "(LCodeYard$Row;I)I"⟩
abbrev m_Survey_goThrough : MethodName × ByteArray × Nat × Option FieldType := (y_Survey_goThrough, b_Survey_goThrough, 9, (some .int))
abbrev b_Yard_takes : ByteArray := prog_1_method_19_code
def y_Yard_takes : MethodName := ⟨R_Yard, "takes", "(I)I"⟩
abbrev m_Yard_takes : MethodName × ByteArray × Nat × Option FieldType := (y_Yard_takes, b_Yard_takes, 1, (some .int))
abbrev b_Yard_gives : ByteArray := prog_1_method_20_code
def y_Yard_gives : MethodName := ⟨R_Yard, "gives", "(I)I"⟩
abbrev m_Yard_gives : MethodName × ByteArray × Nat × Option FieldType := (y_Yard_gives, b_Yard_gives, 1, (some .int))
abbrev b_Code_take : ByteArray := prog_2_method_3_code
def y_Code_take : MethodName := ⟨R_Code, "take", "(LCodeYard$Row;LCodeYard$Row;)V"⟩
abbrev m_Code_take : MethodName × ByteArray × Nat × Option FieldType := (y_Code_take, b_Code_take, 3, none)
abbrev b_Row_becomeLike : ByteArray := prog_4_method_9_code
def y_Row_becomeLike : MethodName := ⟨R_Row, "becomeLike", "(LCodeYard$Row;)V"⟩
abbrev m_Row_becomeLike : MethodName × ByteArray × Nat × Option FieldType := (y_Row_becomeLike, b_Row_becomeLike, 3, none)
abbrev b_Yard_begin : ByteArray := prog_1_method_7_code
def y_Yard_begin : MethodName := ⟨R_Yard, "begin", "(II)I"⟩
abbrev m_Yard_begin : MethodName × ByteArray × Nat × Option FieldType := (y_Yard_begin, b_Yard_begin, 4, (some .int))
abbrev b_Shelf_taken : ByteArray := prog_6_method_3_code
def y_Shelf_taken : MethodName := ⟨R_Shelf, "taken", "(I)LCodeYard$Code;"⟩
abbrev m_Shelf_taken : MethodName × ByteArray × Nat × Option FieldType := (y_Shelf_taken, b_Shelf_taken, 3, (some (.object "CodeYard$Code")))
abbrev b_Code_isTaken : ByteArray := prog_2_method_2_code
def y_Code_isTaken : MethodName := ⟨R_Code, "isTaken", "()Z"⟩
abbrev m_Code_isTaken : MethodName × ByteArray × Nat × Option FieldType := (y_Code_isTaken, b_Code_isTaken, 1, (some .boolean))
abbrev b_Run_start : ByteArray := prog_5_method_3_code
def y_Run_start : MethodName := ⟨R_Run, "start", "(LCodeYard$Code;ILCodeYard$Row;)V"⟩
abbrev m_Run_start : MethodName × ByteArray × Nat × Option FieldType := (y_Run_start, b_Run_start, 4, none)
abbrev b_Shelf_bringCellsBack : ByteArray := prog_6_method_5_code
def y_Shelf_bringCellsBack : MethodName := ⟨R_Shelf, "bringCellsBack", "()V"⟩
abbrev m_Shelf_bringCellsBack : MethodName × ByteArray × Nat × Option FieldType := (y_Shelf_bringCellsBack, b_Shelf_bringCellsBack, 3, none)
abbrev b_Shelf_keepCells : ByteArray := prog_6_method_4_code
def y_Shelf_keepCells : MethodName := ⟨R_Shelf, "keepCells", "()V"⟩
abbrev m_Shelf_keepCells : MethodName × ByteArray × Nat × Option FieldType := (y_Shelf_keepCells, b_Shelf_keepCells, 3, none)
abbrev b_Frame_enter : ByteArray := prog_3_method_2_code
def y_Frame_enter : MethodName := ⟨R_Frame, "enter", "(LCodeYard$Code;I)V"⟩
abbrev m_Frame_enter : MethodName × ByteArray × Nat × Option FieldType := (y_Frame_enter, b_Frame_enter, 3, none)
abbrev b_Yard_go : ByteArray := prog_1_method_8_code
def y_Yard_go : MethodName := ⟨R_Yard, "go", "(I)I"⟩
abbrev m_Yard_go : MethodName × ByteArray × Nat × Option FieldType := (y_Yard_go, b_Yard_go, 2, (some .int))
abbrev b_Run_advance : ByteArray := prog_5_method_4_code
def y_Run_advance : MethodName := ⟨R_Run, "advance", "(I)I"⟩
abbrev m_Run_advance : MethodName × ByteArray × Nat × Option FieldType := (y_Run_advance, b_Run_advance, 3, (some .int))
abbrev b_Run_step : ByteArray := prog_5_method_6_code
def y_Run_step : MethodName := ⟨R_Run, "step", "()V"⟩
abbrev m_Run_step : MethodName × ByteArray × Nat × Option FieldType := (y_Run_step, b_Run_step, 3, none)
abbrev b_Run_fail : ByteArray := prog_5_method_7_code
def y_Run_fail : MethodName := ⟨R_Run, "fail", "(I)V"⟩
abbrev m_Run_fail : MethodName × ByteArray × Nat × Option FieldType := (y_Run_fail, b_Run_fail, 2, none)
abbrev b_Frame_nextByte : ByteArray := prog_3_method_3_code
def y_Frame_nextByte : MethodName := ⟨R_Frame, "nextByte", "()I"⟩
abbrev m_Frame_nextByte : MethodName × ByteArray × Nat × Option FieldType := (y_Frame_nextByte, b_Frame_nextByte, 2, (some .int))
abbrev b_Run_move : ByteArray := prog_5_method_8_code
def y_Run_move : MethodName := ⟨R_Run, "move", "(II)V"⟩
abbrev m_Run_move : MethodName × ByteArray × Nat × Option FieldType := (y_Run_move, b_Run_move, 4, none)
abbrev b_Row_takeLast : ByteArray := prog_4_method_6_code
def y_Row_takeLast : MethodName := ⟨R_Row, "takeLast", "()I"⟩
abbrev m_Row_takeLast : MethodName × ByteArray × Nat × Option FieldType := (y_Row_takeLast, b_Row_takeLast, 1, (some .int))
abbrev b_Run_combine : ByteArray := prog_5_method_9_code
def y_Run_combine : MethodName := ⟨R_Run, "combine", "(I)V"⟩
abbrev m_Run_combine : MethodName × ByteArray × Nat × Option FieldType := (y_Run_combine, b_Run_combine, 4, none)
abbrev b_Run_combined : ByteArray := prog_5_method_10_code
def y_Run_combined : MethodName := ⟨R_Run, "combined", "(III)I"⟩
abbrev m_Run_combined : MethodName × ByteArray × Nat × Option FieldType := (y_Run_combined, b_Run_combined, 3, (some .int))
abbrev b_Run_rearrange : ByteArray := prog_5_method_11_code
def y_Run_rearrange : MethodName := ⟨R_Run, "rearrange", "(I)V"⟩
abbrev m_Run_rearrange : MethodName × ByteArray × Nat × Option FieldType := (y_Run_rearrange, b_Run_rearrange, 5, none)
abbrev b_Run_jump : ByteArray := prog_5_method_12_code
def y_Run_jump : MethodName := ⟨R_Run, "jump", "(II)V"⟩
abbrev m_Run_jump : MethodName × ByteArray × Nat × Option FieldType := (y_Run_jump, b_Run_jump, 6, none)
abbrev b_Run_doOther : ByteArray := prog_5_method_13_code
def y_Run_doOther : MethodName := ⟨R_Run, "doOther", "(II)V"⟩
abbrev m_Run_doOther : MethodName × ByteArray × Nat × Option FieldType := (y_Run_doOther, b_Run_doOther, 3, none)
abbrev b_Run_readInput : ByteArray := prog_5_method_14_code
def y_Run_readInput : MethodName := ⟨R_Run, "readInput", "(I)V"⟩
abbrev m_Run_readInput : MethodName × ByteArray × Nat × Option FieldType := (y_Run_readInput, b_Run_readInput, 2, none)
abbrev b_Run_putOut : ByteArray := prog_5_method_15_code
def y_Run_putOut : MethodName := ⟨R_Run, "putOut", "(I)V"⟩
abbrev m_Run_putOut : MethodName × ByteArray × Nat × Option FieldType := (y_Run_putOut, b_Run_putOut, 2, none)
abbrev b_Run_finish : ByteArray := prog_5_method_18_code
def y_Run_finish : MethodName := ⟨R_Run, "finish", "(I)V"⟩
abbrev m_Run_finish : MethodName × ByteArray × Nat × Option FieldType := (y_Run_finish, b_Run_finish, 3, none)
abbrev b_Run_divide : ByteArray := prog_5_method_16_code
def y_Run_divide : MethodName := ⟨R_Run, "divide", "(I)V"⟩
abbrev m_Run_divide : MethodName × ByteArray × Nat × Option FieldType := (y_Run_divide, b_Run_divide, 4, none)
abbrev b_Run_callCode : ByteArray := prog_5_method_17_code
def y_Run_callCode : MethodName := ⟨R_Run, "callCode", "(LCodeYard$Code;I)V"⟩
abbrev m_Run_callCode : MethodName × ByteArray × Nat × Option FieldType := (y_Run_callCode, b_Run_callCode, 4, none)
abbrev b_Yard_state : ByteArray := prog_1_method_9_code
def y_Yard_state : MethodName := ⟨R_Yard, "state", "(I)I"⟩
abbrev m_Yard_state : MethodName × ByteArray × Nat × Option FieldType := (y_Yard_state, b_Yard_state, 2, (some .int))
abbrev b_Run_tell : ByteArray := prog_5_method_5_code
def y_Run_tell : MethodName := ⟨R_Run, "tell", "(I)I"⟩
abbrev m_Run_tell : MethodName × ByteArray × Nat × Option FieldType := (y_Run_tell, b_Run_tell, 2, (some .int))
abbrev b_Yard_stack : ByteArray := prog_1_method_10_code
def y_Yard_stack : MethodName := ⟨R_Yard, "stack", "(I)I"⟩
abbrev m_Yard_stack : MethodName × ByteArray × Nat × Option FieldType := (y_Yard_stack, b_Yard_stack, 2, (some .int))
abbrev b_Yard_local : ByteArray := prog_1_method_11_code
def y_Yard_local : MethodName := ⟨R_Yard, "local", "(I)I"⟩
abbrev m_Yard_local : MethodName × ByteArray × Nat × Option FieldType := (y_Yard_local, b_Yard_local, 2, (some .int))
abbrev b_Yard_cell : ByteArray := prog_1_method_12_code
def y_Yard_cell : MethodName := ⟨R_Yard, "cell", "(II)I"⟩
abbrev m_Yard_cell : MethodName × ByteArray × Nat × Option FieldType := (y_Yard_cell, b_Yard_cell, 4, (some .int))
abbrev b_Yard_out : ByteArray := prog_1_method_13_code
def y_Yard_out : MethodName := ⟨R_Yard, "out", "(I)I"⟩
abbrev m_Yard_out : MethodName × ByteArray × Nat × Option FieldType := (y_Yard_out, b_Yard_out, 2, (some .int))
abbrev b_Yard_height : ByteArray := prog_1_method_14_code
def y_Yard_height : MethodName := ⟨R_Yard, "height", "(II)I"⟩
abbrev m_Yard_height : MethodName × ByteArray × Nat × Option FieldType := (y_Yard_height, b_Yard_height, 4, (some .int))
abbrev b_Yard_size : ByteArray := prog_1_method_15_code
def y_Yard_size : MethodName := ⟨R_Yard, "size", "(I)I"⟩
abbrev m_Yard_size : MethodName × ByteArray × Nat × Option FieldType := (y_Yard_size, b_Yard_size, 3, (some .int))
abbrev b_Model_init : ByteArray := prog_9_method_1_code
def y_Model_init : MethodName := ⟨R_Model, "<init>", "()V"⟩
abbrev m_Model_init : MethodName × ByteArray × Nat × Option FieldType := (y_Model_init, b_Model_init, 1, none)
abbrev b_Model_feed : ByteArray := prog_9_method_3_code
def y_Model_feed : MethodName := ⟨R_Model, "feed", "(IIIII)I"⟩
abbrev m_Model_feed : MethodName × ByteArray × Nat × Option FieldType := (y_Model_feed, b_Model_feed, 6, (some .int))
abbrev b_Model_putFour : ByteArray := prog_9_method_2_code
def y_Model_putFour : MethodName := ⟨R_Model, "putFour", "(I)V"⟩
abbrev m_Model_putFour : MethodName × ByteArray × Nat × Option FieldType := (y_Model_putFour, b_Model_putFour, 3, none)
abbrev b_Model_end : ByteArray := prog_9_method_4_code
def y_Model_end : MethodName := ⟨R_Model, "end", "(I)I"⟩
abbrev m_Model_end : MethodName × ByteArray × Nat × Option FieldType := (y_Model_end, b_Model_end, 2, (some .int))
abbrev b_Model_poke : ByteArray := prog_9_method_5_code
def y_Model_poke : MethodName := ⟨R_Model, "poke", "(II)I"⟩
abbrev m_Model_poke : MethodName × ByteArray × Nat × Option FieldType := (y_Model_poke, b_Model_poke, 4, (some .int))
abbrev b_Model_load : ByteArray := prog_9_method_16_code
def y_Model_load : MethodName := ⟨R_Model, "load", "(I)I"⟩
abbrev m_Model_load : MethodName × ByteArray × Nat × Option FieldType := (y_Model_load, b_Model_load, 4, (some .int))
abbrev b_Model_look : ByteArray := prog_9_method_12_code
def y_Model_look : MethodName := ⟨R_Model, "look", "()I"⟩
abbrev m_Model_look : MethodName × ByteArray × Nat × Option FieldType := (y_Model_look, b_Model_look, 6, (some .int))
abbrev b_Model_bad : ByteArray := prog_9_method_7_code
def y_Model_bad : MethodName := ⟨R_Model, "bad", "(II)V"⟩
abbrev m_Model_bad : MethodName × ByteArray × Nat × Option FieldType := (y_Model_bad, b_Model_bad, 3, none)
abbrev b_Model_at : ByteArray := prog_9_method_6_code
def y_Model_at : MethodName := ⟨R_Model, "at", "(I)I"⟩
abbrev m_Model_at : MethodName × ByteArray × Nat × Option FieldType := (y_Model_at, b_Model_at, 2, (some .int))
abbrev b_Model_hasOperand : ByteArray := prog_9_method_8_code
def y_Model_hasOperand : MethodName := ⟨R_Model, "hasOperand", "(I)Z"⟩
abbrev m_Model_hasOperand : MethodName × ByteArray × Nat × Option FieldType := (y_Model_hasOperand, b_Model_hasOperand, 1, (some .boolean))
abbrev b_Model_isOperand : ByteArray := prog_9_method_11_code
def y_Model_isOperand : MethodName := ⟨R_Model, "isOperand", "(II)Z"⟩
abbrev m_Model_isOperand : MethodName × ByteArray × Nat × Option FieldType := (y_Model_isOperand, b_Model_isOperand, 2, (some .boolean))
abbrev b_Model_walk : ByteArray := prog_9_method_14_code
def y_Model_walk : MethodName := ⟨R_Model, "walk", "()V"⟩
abbrev m_Model_walk : MethodName × ByteArray × Nat × Option FieldType := (y_Model_walk, b_Model_walk, 3, none)
abbrev b_Model_come : ByteArray := prog_9_method_13_code
def y_Model_come : MethodName := ⟨R_Model, "come", "(II)V"⟩
abbrev m_Model_come : MethodName × ByteArray × Nat × Option FieldType := (y_Model_come, b_Model_come, 3, none)
abbrev b_Model_goThrough : ByteArray := prog_9_method_15_code
def y_Model_goThrough : MethodName := ⟨R_Model, "goThrough", "(I)V"⟩
abbrev m_Model_goThrough : MethodName × ByteArray × Nat × Option FieldType := (y_Model_goThrough, b_Model_goThrough, 6, none)
abbrev b_Model_takes : ByteArray := prog_9_method_9_code
def y_Model_takes : MethodName := ⟨R_Model, "takes", "(I)I"⟩
abbrev m_Model_takes : MethodName × ByteArray × Nat × Option FieldType := (y_Model_takes, b_Model_takes, 1, (some .int))
abbrev b_Model_gives : ByteArray := prog_9_method_10_code
def y_Model_gives : MethodName := ⟨R_Model, "gives", "(I)I"⟩
abbrev m_Model_gives : MethodName × ByteArray × Nat × Option FieldType := (y_Model_gives, b_Model_gives, 1, (some .int))
abbrev b_Model_begin : ByteArray := prog_9_method_17_code
def y_Model_begin : MethodName := ⟨R_Model, "begin", "(II)I"⟩
abbrev m_Model_begin : MethodName × ByteArray × Nat × Option FieldType := (y_Model_begin, b_Model_begin, 4, (some .int))
abbrev b_Model_undo : ByteArray := prog_9_method_19_code
def y_Model_undo : MethodName := ⟨R_Model, "undo", "()V"⟩
abbrev m_Model_undo : MethodName × ByteArray × Nat × Option FieldType := (y_Model_undo, b_Model_undo, 2, none)
abbrev b_Model_enter : ByteArray := prog_9_method_18_code
def y_Model_enter : MethodName := ⟨R_Model, "enter", "(II)V"⟩
abbrev m_Model_enter : MethodName × ByteArray × Nat × Option FieldType := (y_Model_enter, b_Model_enter, 4, none)
abbrev b_Model_go : ByteArray := prog_9_method_24_code
def y_Model_go : MethodName := ⟨R_Model, "go", "(I)I"⟩
abbrev m_Model_go : MethodName × ByteArray × Nat × Option FieldType := (y_Model_go, b_Model_go, 3, (some .int))
abbrev b_Model_throwFor : ByteArray := prog_9_method_20_code
def y_Model_throwFor : MethodName := ⟨R_Model, "throwFor", "(I)V"⟩
abbrev m_Model_throwFor : MethodName × ByteArray × Nat × Option FieldType := (y_Model_throwFor, b_Model_throwFor, 2, none)
abbrev b_Model_oneStep : ByteArray := prog_9_method_25_code
def y_Model_oneStep : MethodName := ⟨R_Model, "oneStep", "()V"⟩
abbrev m_Model_oneStep : MethodName × ByteArray × Nat × Option FieldType := (y_Model_oneStep, b_Model_oneStep, 6, none)
abbrev b_Model_simple : ByteArray := prog_9_method_26_code
def y_Model_simple : MethodName := ⟨R_Model, "simple", "(IIII)V"⟩
abbrev m_Model_simple : MethodName × ByteArray × Nat × Option FieldType := (y_Model_simple, b_Model_simple, 5, none)
abbrev b_Model_push : ByteArray := prog_9_method_21_code
def y_Model_push : MethodName := ⟨R_Model, "push", "(I)V"⟩
abbrev m_Model_push : MethodName × ByteArray × Nat × Option FieldType := (y_Model_push, b_Model_push, 3, none)
abbrev b_Model_pop : ByteArray := prog_9_method_22_code
def y_Model_pop : MethodName := ⟨R_Model, "pop", "()I"⟩
abbrev m_Model_pop : MethodName × ByteArray × Nat × Option FieldType := (y_Model_pop, b_Model_pop, 3, (some .int))
abbrev b_Model_works : ByteArray := prog_9_method_27_code
def y_Model_works : MethodName := ⟨R_Model, "works", "(I)V"⟩
abbrev m_Model_works : MethodName × ByteArray × Nat × Option FieldType := (y_Model_works, b_Model_works, 4, none)
abbrev b_Model_jumps : ByteArray := prog_9_method_28_code
def y_Model_jumps : MethodName := ⟨R_Model, "jumps", "(III)V"⟩
abbrev m_Model_jumps : MethodName × ByteArray × Nat × Option FieldType := (y_Model_jumps, b_Model_jumps, 6, none)
abbrev b_Model_bytes : ByteArray := prog_9_method_29_code
def y_Model_bytes : MethodName := ⟨R_Model, "bytes", "(I)V"⟩
abbrev m_Model_bytes : MethodName × ByteArray × Nat × Option FieldType := (y_Model_bytes, b_Model_bytes, 3, none)
abbrev b_Model_finish : ByteArray := prog_9_method_30_code
def y_Model_finish : MethodName := ⟨R_Model, "finish", "(I)V"⟩
abbrev m_Model_finish : MethodName × ByteArray × Nat × Option FieldType := (y_Model_finish, b_Model_finish, 2, none)
abbrev b_Model_ends : ByteArray := prog_9_method_23_code
def y_Model_ends : MethodName := ⟨R_Model, "ends", "(I)V"⟩
abbrev m_Model_ends : MethodName × ByteArray × Nat × Option FieldType := (y_Model_ends, b_Model_ends, 2, none)
abbrev b_Model_divide : ByteArray := prog_9_method_31_code
def y_Model_divide : MethodName := ⟨R_Model, "divide", "(I)V"⟩
abbrev m_Model_divide : MethodName × ByteArray × Nat × Option FieldType := (y_Model_divide, b_Model_divide, 4, none)
abbrev b_Model_call : ByteArray := prog_9_method_32_code
def y_Model_call : MethodName := ⟨R_Model, "call", "(I)V"⟩
abbrev m_Model_call : MethodName × ByteArray × Nat × Option FieldType := (y_Model_call, b_Model_call, 2, none)
abbrev b_Model_state : ByteArray := prog_9_method_33_code
def y_Model_state : MethodName := ⟨R_Model, "state", "(I)I"⟩
abbrev m_Model_state : MethodName × ByteArray × Nat × Option FieldType := (y_Model_state, b_Model_state, 2, (some .int))
abbrev b_Model_stack : ByteArray := prog_9_method_34_code
def y_Model_stack : MethodName := ⟨R_Model, "stack", "(I)I"⟩
abbrev m_Model_stack : MethodName × ByteArray × Nat × Option FieldType := (y_Model_stack, b_Model_stack, 2, (some .int))
abbrev b_Model_local : ByteArray := prog_9_method_35_code
def y_Model_local : MethodName := ⟨R_Model, "local", "(I)I"⟩
abbrev m_Model_local : MethodName × ByteArray × Nat × Option FieldType := (y_Model_local, b_Model_local, 2, (some .int))
abbrev b_Model_cell : ByteArray := prog_9_method_36_code
def y_Model_cell : MethodName := ⟨R_Model, "cell", "(II)I"⟩
abbrev m_Model_cell : MethodName × ByteArray × Nat × Option FieldType := (y_Model_cell, b_Model_cell, 3, (some .int))
abbrev b_Model_out : ByteArray := prog_9_method_37_code
def y_Model_out : MethodName := ⟨R_Model, "out", "(I)I"⟩
abbrev m_Model_out : MethodName × ByteArray × Nat × Option FieldType := (y_Model_out, b_Model_out, 2, (some .int))
abbrev b_Model_height : ByteArray := prog_9_method_38_code
def y_Model_height : MethodName := ⟨R_Model, "height", "(II)I"⟩
abbrev m_Model_height : MethodName × ByteArray × Nat × Option FieldType := (y_Model_height, b_Model_height, 3, (some .int))
abbrev b_Model_size : ByteArray := prog_9_method_39_code
def y_Model_size : MethodName := ⟨R_Model, "size", "(I)I"⟩
abbrev m_Model_size : MethodName × ByteArray × Nat × Option FieldType := (y_Model_size, b_Model_size, 2, (some .int))
end
section
/-! THE ABSTRACT HEAP: a partial map from addresses to cells; a method's contract over it; one rule an instruction -/
abbrev cy_Hp : Type := Nat → Option va_E
def cy_set (M : cy_Hp) (a : Nat) (e : va_E) : cy_Hp := fun q => if q = a then some e else M q
theorem cy_set_self (M : cy_Hp) (a : Nat) (e : va_E) : cy_set M a e a = some e := by simp [cy_set]
theorem cy_set_ne (M : cy_Hp) {a q : Nat} (e : va_E) (h : q ≠ a) : cy_set M a e q = M q := by simp [cy_set, h]
theorem cy_set_set (M : cy_Hp) (a : Nat) (e e2 : va_E) : cy_set (cy_set M a e) a e2 = cy_set M a e2 := by
  funext q
  by_cases h : q = a
  · simp [cy_set, h]
  · simp [cy_set, h]
theorem cy_set_comm (M : cy_Hp) {a b : Nat} (e e2 : va_E) (h : a ≠ b) : cy_set (cy_set M a e) b e2 = cy_set (cy_set M b e2) a e := by
  funext q
  by_cases h1 : q = a
  · subst h1; simp [cy_set, h]
  · by_cases h2 : q = b
    · subst h2; simp [cy_set, h1]
    · simp [cy_set, h1, h2]
theorem cy_set_same {M : cy_Hp} {a : Nat} {e : va_E} (h : M a = some e) : cy_set M a e = M := by
  funext q
  by_cases hq : q = a
  · subst hq; rw [cy_set_self, h]
  · rw [cy_set_ne _ _ hq]
/-- launch, classes and slots, array classes, the first address that is ours, the addresses of the static tables -/
abbrev cy_G : Type := Launch × va_G × List (ClassId × FieldType) × Nat × (Nat → Nat)
def cy_A (G : cy_G) : Nat → Prop := fun q => G.2.2.2.1 ≤ q
def cy_goodW (w : Cond) : Bool := (w.onTables && w.keeps) || (match w with | .arrayClass _ => true | _ => false)
def cy_nestW (w : Cond) : Bool := match w with
  | .fieldLinkNest _ _ _ _ _ _ => true
  | .methodLinkNest _ _ _ _ => true
  | _ => false
def cy_TW : List Cond := lw_tbl.filter cy_goodW
def cy_NW : List Cond := lw_tbl.filter cy_nestW
theorem cy_tw {w : Cond} (h : w ∈ lw_tbl) (g : cy_goodW w = true) : w ∈ cy_TW := List.mem_filter.mpr ⟨h, g⟩
theorem cy_nw {w : Cond} (h : w ∈ lw_tbl) (g : cy_nestW w = true) : w ∈ cy_NW := List.mem_filter.mpr ⟨h, g⟩
theorem cy_good {w : Cond} (h : w ∈ cy_TW) : (w.onTables && w.keeps) = true ∨ ∃ ty, w = .arrayClass ty := by
  have h := (List.mem_filter.mp h).2
  unfold cy_goodW at h
  rcases Bool.or_eq_true_iff.mp h with h | h
  · exact Or.inl h
  · split at h
    · exact Or.inr ⟨_, rfl⟩
    · cases h
def cy_SX (G : cy_G) (U : State) : Prop := ∀ (j : Nat) (q : String × String × String × Nat × (Nat → Value)), cy_ST[j]? = some q → va_Z q.1 q.2.1 q.2.2.1 (.ref (G.2.2.2.2 j)) (cy_A G) U U.heap ∧ va_T .int (G.2.2.2.2 j) q.2.2.2.1 q.2.2.2.2 (cy_A G) U U.heap
/-- what every method of ours finds: classes, links between nest mates, static tables -/
def cy_K (G : cy_G) (U : State) : Prop := va_K G.2.1 cy_cl G.2.2.1 U ∧ (∀ w ∈ cy_NW, va_Nw w U) ∧ G.2.2.2.1 ≤ U.heap.size ∧ cy_SX G U ∧ ∀ C ∈ cy_AO, va_AO C U
theorem cy_K_call {G : cy_G} {s U : State} {H : Heap} {locs : List Loc} (h : cy_K G s) (hS : va_S (cy_A G) s.heap H locs) (hU : U.heap = H) (hW : s.WarmedH U.vm) : cy_K G U := by
  obtain ⟨h1, h2, h3, h4, h5⟩ := h
  refine ⟨va_K.moved hW.alike h1, fun w hw => ?_, ?_, fun j q hq => ?_, fun C hC => va_AO.moved hW.alike (h5 C hC)⟩
  · have hn := (List.mem_filter.mp hw).2
    have h2 := h2 w hw
    unfold cy_nestW at hn
    split at hn
    · exact va_Nw.warmF hW h2
    · exact va_Nw.warmM hW h2
    · cases hn
  · rw [hU]; exact Nat.le_trans h3 hS.1
  · obtain ⟨z1, z2⟩ := h4 j q hq
    rw [hU]
    exact ⟨va_Z.moved hW.alike (z1.kept (fun a ha hA => hS.2.1 a ha hA)), va_T.moved hW.alike (z2.kept (fun a ha hA => hS.2.1 a ha hA))⟩
theorem cy_K_calling {G : cy_G} {U : State} {g : JFrame} {mk : MethodId} {a : Array Value} (h : cy_K G U) : cy_K G (U.calling g mk a) := by
  obtain ⟨h1, h2, h3, h4, h5⟩ := h
  refine ⟨va_K.moved (u := U) (U := U.calling g mk a) (Vm.Alike.refl U.vm) h1, fun w hw => ?_, h3, fun j q hq => ?_, fun C hC => va_AO.moved (u := U) (U := U.calling g mk a) (Vm.Alike.refl U.vm) (h5 C hC)⟩
  · have hn := (List.mem_filter.mp hw).2
    have h2 := h2 w hw
    unfold cy_nestW at hn
    split at hn
    · exact va_Nw.same (u := U) (U := U.calling g mk a) rfl rfl h2
    · exact va_Nw.same (u := U) (U := U.calling g mk a) rfl rfl h2
    · cases hn
  · obtain ⟨z1, z2⟩ := h4 j q hq
    exact ⟨va_Z.moved (u := U) (U := U.calling g mk a) (Vm.Alike.refl U.vm) z1, va_T.moved (u := U) (U := U.calling g mk a) (Vm.Alike.refl U.vm) z2⟩
/-- the heap holds M; all its cells are ours -/
def cy_hm (G : cy_G) (M : cy_Hp) (H : Heap) : Prop := (∀ (a : Nat) (e : va_E), M a = some e → cy_A G a ∧ va_at G.2.1 cy_cl (a, e) H) ∧ ∀ a : Nat, cy_A G a → a < H.size → M a ≠ none
/-- the next address that is given out -/
def cy_top (G : cy_G) (M : cy_Hp) (z : Nat) : Prop := cy_A G z ∧ (∀ a : Nat, z ≤ a → M a = none) ∧ ∀ a : Nat, cy_A G a → a < z → M a ≠ none
theorem cy_top_eq {G : cy_G} {M : cy_Hp} {z q : Nat} (h : cy_top G M z) (h2 : cy_top G M q) : q = z := by
  rcases Nat.lt_trichotomy q z with e | e | e
  · exact absurd (h2.2.1 q (Nat.le_refl _)) (h.2.2 q h2.1 e)
  · exact e
  · exact absurd (h.2.1 z (Nat.le_refl _)) (h2.2.2 z h.1 e)
theorem cy_top_lt {G : cy_G} {M : cy_Hp} {z a : Nat} {e : va_E} (h : cy_top G M z) (ha : M a = some e) : a < z := by
  rcases Nat.lt_or_ge a z with q | q
  · exact q
  · rw [h.2.1 a q] at ha; cases ha
theorem cy_top_set {G : cy_G} {M : cy_Hp} {z a : Nat} {e : va_E} (h : cy_top G M z) (ha : a < z) : cy_top G (cy_set M a e) z := by
  refine ⟨h.1, fun x hx => ?_, fun x h1 h2 => ?_⟩
  · rw [cy_set_ne M e (by omega)]; exact h.2.1 x hx
  · by_cases q : x = a
    · rw [q, cy_set_self]; exact fun w => by cases w
    · rw [cy_set_ne M e q]; exact h.2.2 x h1 h2
theorem cy_top_new {G : cy_G} {M : cy_Hp} {z : Nat} {e : va_E} (h : cy_top G M z) : cy_top G (cy_set M z e) (z + 1) := by
  refine ⟨Nat.le_trans h.1 (Nat.le_succ z), fun x hx => ?_, fun x h1 h2 => ?_⟩
  · rw [cy_set_ne M e (by omega)]; exact h.2.1 x (by omega)
  · by_cases q : x = z
    · rw [q, cy_set_self]; exact fun w => by cases w
    · rw [cy_set_ne M e q]; exact h.2.2 x h1 (by omega)
theorem cy_hm_at {G : cy_G} {M : cy_Hp} {H : Heap} {a : Nat} {e : va_E} (h : cy_hm G M H) (ha : M a = some e) : va_P G.2.1 cy_cl [(a, e)] H := by
  intro k q hk
  match k, hk with
  | 0, hk => cases hk; exact (h.1 a e ha).2
  | k + 1, hk => simp at hk
theorem cy_hm_set {G : cy_G} {M : cy_Hp} {H H1 : Heap} {a : Nat} {e : va_E} (h : cy_hm G M H) (ha : cy_A G a) (hz : H1.size = H.size) (he : va_at G.2.1 cy_cl (a, e) H1) (oq : ∀ q : Nat, q ≠ a → H1[q]? = H[q]?) : cy_hm G (cy_set M a e) H1 := by
  refine ⟨fun q x hq => ?_, fun q h1 h2 => ?_⟩
  · by_cases hqa : q = a
    · subst hqa
      rw [cy_set_self] at hq
      cases hq
      exact ⟨ha, he⟩
    · rw [cy_set_ne M e hqa] at hq
      exact ⟨(h.1 q x hq).1, (h.1 q x hq).2.kept (oq q hqa)⟩
  · by_cases hqa : q = a
    · subst hqa; rw [cy_set_self]; exact fun w => by cases w
    · rw [cy_set_ne M e hqa]; exact h.2 q h1 (by rw [← hz]; exact h2)
theorem cy_hm_new {G : cy_G} {M : cy_Hp} {H H1 : Heap} {a : Nat} {e : va_E} (h : cy_hm G M H) (ha : cy_A G a) (hs : a = H.size) (hz : H1.size = H.size + 1) (he : va_at G.2.1 cy_cl (a, e) H1) (oq : ∀ q : Nat, q < a → H1[q]? = H[q]?) : cy_hm G (cy_set M a e) H1 := by
  refine ⟨fun q x hq => ?_, fun q h1 h2 => ?_⟩
  · by_cases hqa : q = a
    · subst hqa
      rw [cy_set_self] at hq
      cases hq
      exact ⟨ha, he⟩
    · rw [cy_set_ne M e hqa] at hq
      have hlt := (h.1 q x hq).2.lt
      exact ⟨(h.1 q x hq).1, (h.1 q x hq).2.kept (oq q (by rw [hs]; exact hlt))⟩
  · by_cases hqa : q = a
    · subst hqa; rw [cy_set_self]; exact fun w => by cases w
    · rw [cy_set_ne M e hqa]; exact h.2 q h1 (by omega)
theorem cy_hm_top {G : cy_G} {M : cy_Hp} {H : Heap} (h : cy_hm G M H) (hA : cy_A G H.size) : cy_top G M H.size := by
  refine ⟨hA, fun a ha => ?_, fun a h1 h2 => h.2 a h1 h2⟩
  cases hM : M a with
  | none => rfl
  | some e => exact absurd ((h.1 _ e hM).2.lt) (Nat.not_lt.mpr ha)
/-- a method of ours: name, bytes, locals, what it returns -/
abbrev cy_I : Type := MethodName × ByteArray × Nat × Option FieldType
def cy_w (i : cy_I) : List Cond := Cond.code i.1 i.2.1 i.2.2.1 i.2.2.2 :: cy_TW
def cy_Q (G : cy_G) (post : Option Value → cy_Hp → Prop) : Array Value → State → Outcome → State → Prop := fun _ st o t => ∃ (r : Option Value) (M : cy_Hp), o = .returned r ∧ post r M ∧ cy_hm G M t.heap ∧ va_F (cy_A G) st t
/-- the contract: from a heap that holds M, with these arguments, the method returns r, and the heap holds M', with post r M' -/
def cy_Ct (G : cy_G) (d : Nat) (i : cy_I) (av : List Value) (M : cy_Hp) (mc ms : Nat) (post : Option Value → cy_Hp → Prop) : Prop :=
  Met G.1 i.1 (cy_w i) ({ frames := d, cells := mc, slots := ms, locals := 40 * d }) (va_Pc av (fun U => cy_K G U ∧ cy_hm G M U.heap)) (cy_Q G post) mc ms (cy_A G)
abbrev cy_F : Type := Program × Launch × Env × Room × State × MethodId × Array Value × List Frame × Method × Code × (State → Prop)
def WM (G : cy_G) (F : cy_F) (nL kc ks pc : Nat) (lv : List (Nat × Value)) (st : List Value) (M : cy_Hp) : Prop := match F with
  | (p, l, e, R, s, m, args, below, meth, c, Q) => ∀ (H : Heap) (ls : Array Slot) (locs : List Loc), lv_has ls nL lv → cy_hm G M H → va_S (cy_A G) s.heap H locs → W p l e R s m args below meth c H locs kc ks Q (F0 m pc ls st)
def cy_C (G : cy_G) (F : cy_F) (own : String) (cc : ByteArray) (nL d rc rs : Nat) : Prop := match F with
  | (p, l, _, R, s, m, args, _, meth, c, _) => l = G.1 ∧ p.tables.exec = Jvm.exec ∧ c.code = cc ∧ c.maxLocals = nL ∧ s.vm.findClass own = some m.cls ∧ (∀ w ∈ cy_TW, w.before args s = true) ∧ cy_K G s ∧ meth.locks = false ∧ d ≤ R.frames ∧ 40 * d ≤ R.locals ∧ rc ≤ R.cells ∧ rs ≤ R.slots
def cy_P (G : cy_G) (F : cy_F) (ret : Option FieldType) (post : Option Value → cy_Hp → Prop) (mc ms : Nat) : Prop := match F with
  | (_, _, _, _, s, _, args, below, meth, _, Q) => meth.sig.returnType = ret ∧ Q = MQ below (cy_Q G post) args s mc ms (cy_A G)
def cy_N (F : cy_F) : Prop := match F with
  | (_, _, _, _, _, _, _, _, meth, _, _) => meth.name = "<init>"
theorem cy_Ct.of {G : cy_G} {d : Nat} {i : cy_I} {av : List Value} {M : cy_Hp} {mc ms : Nat} {post : Option Value → cy_Hp → Prop} (hy : plainName i.1.cls = true) (hn : (lg_sl av).length ≤ i.2.2.1)
    (h : ∀ F : cy_F, cy_C G F i.1.cls i.2.1 i.2.2.1 d mc ms → cy_P G F i.2.2.2 post mc ms → (i.1.name = "<init>" → cy_N F) → WM G F i.2.2.1 0 0 0 (lv_args 0 av) [] M) : cy_Ct G d i av M mc ms post := by
  obtain ⟨y, bs, mL, rt⟩ := i
  refine Met.ofW (cc := bs) (maxL := mL) (ret := rt) hy rfl ?_
  intro p e s m args below meth c s₁ B hml hv
  obtain ⟨rfl, hK, hM⟩ := hv
  have hts := atoms_spec (ws := cy_w (y, bs, mL, rt)) B.pre
  have hown : s.vm.findClass y.cls = some m.cls := findClass_of_methodNamed B.named
  have hk := h (p, G.1, e, { frames := d, cells := mc, slots := ms, locals := 40 * d }, s, m, av.toArray, below, meth, c, MQ below (cy_Q G post) av.toArray s mc ms (cy_A G)) ⟨rfl, B.exec, B.bytes, hml, hown, fun w hw => hts w (List.mem_cons_of_mem _ hw), hK, B.notSynchronized, Nat.le_refl _, Nat.le_refl _, Nat.le_refl _, Nat.le_refl _⟩ ⟨B.returns, rfl⟩ (fun hh => ((name_of_methodNamed B.named B.method).1.trans hh))
  rw [lg_entry_eq]
  exact hk s.heap _ [] (lv_entry av hn) hM va_S.rf
theorem cy_Ct.mono {G : cy_G} {d : Nat} {i : cy_I} {av : List Value} {M : cy_Hp} {mc ms : Nat} {post post2 : Option Value → cy_Hp → Prop} (h : cy_Ct G d i av M mc ms post) (hp : ∀ r M', post r M' → post2 r M') : cy_Ct G d i av M mc ms post2 := by
  intro p e ha hc hk s m args below hf happ hP hK
  obtain ⟨n, o, h1, h2, h3, ⟨r, M', a1, a2, a3⟩, h5⟩ := h p e ha hc hk s m args below hf happ hP hK
  exact ⟨n, o, h1, h2, h3, ⟨r, M', a1, hp r M' a2, a3⟩, h5⟩
/-- a class of ours: its place in the list, name, fields -/
def cy_Co (ci : Nat) (C : String) (T : u_T) (N : Nat) (ty : Nat → FieldType) : Prop := cy_cl[ci]? = some (C, T, N) ∧ (∀ w ∈ u_ws C T N, w ∈ cy_TW) ∧ (∀ k, k < N → parseFieldDescriptor (T k).2.2.1 = some (ty k)) ∧ (∀ a, a < N → ∀ b, b < N → a ≠ b → (T a).2.1 ≠ (T b).2.1)
/-- a method that may be called: its words stand in the tables; n: how many arguments -/
def cy_Mo (i : cy_I) (n : Nat) : Prop := Cond.code i.1 i.2.1 i.2.2.1 i.2.2.2 ∈ cy_TW ∧ Cond.initialized i.1.cls ∈ cy_TW ∧ (i.1.cls ≠ "java/lang/invoke/MethodHandle" ∧ i.1.cls ≠ "java/lang/invoke/VarHandle" ∧ (parseMethodDescriptor i.1.desc).map (fun d => d.parameters.length) = some n) ∧ i.2.2.1 ≤ 21
/-- ... an instance method, ... -/
def cy_MoV (i : cy_I) (n : Nat) : Prop := cy_Mo i n ∧ Cond.instanceMethod i.1 ∈ cy_TW ∧ Cond.selects i.1.cls i.1 i.1 ∈ cy_TW
def cy_MoI (i : cy_I) (n : Nat) : Prop := cy_Mo i n ∧ Cond.instanceMethod i.1 ∈ cy_TW ∧ i.1.name = "<init>"
def cy_MoS (i : cy_I) (n : Nat) : Prop := cy_Mo i n ∧ Cond.static i.1 ∈ cy_TW
theorem cy_goodIn {i : cy_I} (h : Cond.code i.1 i.2.1 i.2.2.1 i.2.2.2 ∈ cy_TW) : GoodIn cy_TW (cy_w i) := by
  intro w hw
  rcases List.mem_cons.mp hw with rfl | hw
  · exact ⟨h, cy_good h⟩
  · exact ⟨hw, cy_good hw⟩
section CYR
variable {G : cy_G} {F : cy_F} {own : String} {cc : ByteArray} {nL d rc rs kc ks pc : Nat} {lv : List (Nat × Value)} {st : List Value} {M : cy_Hp}
theorem wm_sub (lv2 : List (Nat × Value)) (hs : ∀ q ∈ lv2, q ∈ lv) (k : WM G F nL kc ks pc lv2 st M) : WM G F nL kc ks pc lv st M := by
  obtain ⟨p, l, e, R, s, m, args, below, meth, c, Q⟩ := F
  exact fun H ls locs hl hM hS => k H ls locs ⟨hl.1, hl.2.1, fun q hq => hl.2.2 q (hs q hq)⟩ hM hS
theorem wm_get (C : cy_C G F own cc nL d rc rs) {ci : Nat} {Cn : String} {T : u_T} {N : Nat} {ty : Nat → FieldType} (co : cy_Co ci Cn T N ty) {a idx : Nat} {fs : List Value} (ha : M a = some (.inr (ci, fs))) (k : Nat) (hk : k < N) (lk : Cond.fieldLink own idx (T k).1 (T k).2.1 (T k).2.2.1 ∈ cy_TW) {v : Value} (hv : fs[k]? = some v) (hd : decode cc pc = .ok (.getfield idx, 3))
    (kk : WM G F nL kc ks (pc + 3) lv (v :: st) M) : WM G F nL kc ks pc lv (.ref a :: st) M := by
  obtain ⟨p, l, e, R, s, m, args, below, meth, c, Q⟩ := F
  obtain ⟨hl0, hx, hb, hml, hown, hts, hK, -⟩ := C
  exact fun H ls locs hl hM hS => va_get hx hb hts co.2.1 hown hK.1 (cy_hm_at hM ha) 0 rfl co.1 k hk (hts _ lk) (fun _ h9 => h9) hv hd (kk H ls locs hl hM hS)
theorem wm_getN (C : cy_C G F own cc nL d rc rs) {ci : Nat} {Cn host : String} {T : u_T} {N : Nat} {ty : Nat → FieldType} (co : cy_Co ci Cn T N ty) {a idx : Nat} {fs : List Value} (ha : M a = some (.inr (ci, fs))) (k : Nat) (hk : k < N) (lk : Cond.fieldLinkNest own idx (T k).1 (T k).2.1 (T k).2.2.1 host ∈ cy_NW) {v : Value} (hv : fs[k]? = some v) (hd : decode cc pc = .ok (.getfield idx, 3))
    (kk : WM G F nL kc ks (pc + 3) lv (v :: st) M) : WM G F nL kc ks pc lv (.ref a :: st) M := by
  obtain ⟨p, l, e, R, s, m, args, below, meth, c, Q⟩ := F
  obtain ⟨hl0, hx, hb, hml, hown, hts, hK, -⟩ := C
  exact fun H ls locs hl hM hS => va_getN hx hb hts co.2.1 hown hK.1 (cy_hm_at hM ha) 0 rfl co.1 k hk (va_Nw.use rfl (hK.2.1 _ lk)) (fun _ h9 => h9) hv hd (kk H ls locs hl hM hS)
theorem wm_put (C : cy_C G F own cc nL d rc rs) {ci : Nat} {Cn : String} {T : u_T} {N : Nat} {ty : Nat → FieldType} (co : cy_Co ci Cn T N ty) {a idx : Nat} {fs : List Value} (ha : M a = some (.inr (ci, fs))) (k : Nat) (hk : k < N) (lk : Cond.fieldLink own idx (T k).1 (T k).2.1 (T k).2.2.1 ∈ cy_TW) (hfin : (T k).2.2.2 = false) {v : Value} (hn : narrow (ty k) v = v) (hfit : fits (ty k) v = true) (hlen : k < fs.length) (hd : decode cc pc = .ok (.putfield idx, 3))
    (kk : WM G F nL kc ks (pc + 3) lv st (cy_set M a (.inr (ci, fs.set k v)))) : WM G F nL kc ks pc lv (v :: .ref a :: st) M := by
  obtain ⟨p, l, e, R, s, m, args, below, meth, c, Q⟩ := F
  obtain ⟨hl0, hx, hb, hml, hown, hts, hK, -⟩ := C
  intro H ls locs hl hM hS
  have hap := va_apart (own := own) hts co.2.1 ty co.2.2.1 co.2.2.2 hK.1 co.1
  obtain ⟨hAa, r, h1, cell, q1, q2, q3, q4⟩ := hM.1 a _ ha
  have hr : r = (Cn, T, N) := Option.some.inj (h1.symm.trans co.1)
  subst hr
  obtain ⟨hSl, hfc, kC, hkC, hkind⟩ := hK.1.1 ci _ co.1
  obtain ⟨cf, kf, fi, f, hi, hsl⟩ := hSl k hk
  have hlay := hts _ (co.2.1 _ (u_in_lay hk))
  unfold u_lay at hlay
  rw [if_neg (by rw [hfin]; decide)] at hlay
  have hst := (u_facts hfc hkC (u_lays hts co.2.1 hk) hi).1
  have h6 := u_store hfc hkC hkind hlay hi (co.2.2.1 k hk) hn hfit
  refine W.putK hx hb (f := f) ⟨hown, hts _ lk, ⟨_, _, _, hi⟩, hst⟩ (by rw [q2]; exact h6) q1 q3 (by rw [hsl]; exact k2_hasslot (q4 k hk)) rfl rfl hd fun H' e1 e2 e3 => ?_
  rw [hsl] at e1 ⊢
  exact kk H' ls _ hl (cy_hm_set hM hAa e2 ⟨_, co.1, t_OB.to (V := updV (vp_V fs) k v) ⟨_, e1, q2, q3, t_set q4 hap hk v⟩ (fun j _ => vp_updV_set hlen v j)⟩ e3) (hS.put e2 e3 hAa)
theorem wm_putN (C : cy_C G F own cc nL d rc rs) {ci : Nat} {Cn host : String} {T : u_T} {N : Nat} {ty : Nat → FieldType} (co : cy_Co ci Cn T N ty) {a idx : Nat} {fs : List Value} (ha : M a = some (.inr (ci, fs))) (k : Nat) (hk : k < N) (lk : Cond.fieldLinkNest own idx (T k).1 (T k).2.1 (T k).2.2.1 host ∈ cy_NW) (hfin : (T k).2.2.2 = false) {v : Value} (hn : narrow (ty k) v = v) (hfit : fits (ty k) v = true) (hlen : k < fs.length) (hd : decode cc pc = .ok (.putfield idx, 3))
    (kk : WM G F nL kc ks (pc + 3) lv st (cy_set M a (.inr (ci, fs.set k v)))) : WM G F nL kc ks pc lv (v :: .ref a :: st) M := by
  obtain ⟨p, l, e, R, s, m, args, below, meth, c, Q⟩ := F
  obtain ⟨hl0, hx, hb, hml, hown, hts, hK, -⟩ := C
  intro H ls locs hl hM hS
  have hap := va_apart (own := own) hts co.2.1 ty co.2.2.1 co.2.2.2 hK.1 co.1
  obtain ⟨hAa, r, h1, cell, q1, q2, q3, q4⟩ := hM.1 a _ ha
  have hr : r = (Cn, T, N) := Option.some.inj (h1.symm.trans co.1)
  subst hr
  obtain ⟨hSl, hfc, kC, hkC, hkind⟩ := hK.1.1 ci _ co.1
  obtain ⟨cf, kf, fi, f, hi, hsl⟩ := hSl k hk
  have hlay := hts _ (co.2.1 _ (u_in_lay hk))
  unfold u_lay at hlay
  rw [if_neg (by rw [hfin]; decide)] at hlay
  have hst := (u_facts hfc hkC (u_lays hts co.2.1 hk) hi).1
  have h6 := u_store hfc hkC hkind hlay hi (co.2.2.1 k hk) hn hfit
  refine va_WputK hx hb (f := f) hown (va_Nw.use rfl (hK.2.1 _ lk)) hi hst (by rw [q2]; exact h6) q1 q3 (by rw [hsl]; exact k2_hasslot (q4 k hk)) rfl rfl hd fun H' e1 e2 e3 => ?_
  rw [hsl] at e1 ⊢
  exact kk H' ls _ hl (cy_hm_set hM hAa e2 ⟨_, co.1, t_OB.to (V := updV (vp_V fs) k v) ⟨_, e1, q2, q3, t_set q4 hap hk v⟩ (fun j _ => vp_updV_set hlen v j)⟩ e3) (hS.put e2 e3 hAa)
theorem wm_putF (C : cy_C G F own cc nL d rc rs) (hi0 : cy_N F) {ci : Nat} {Cn : String} {T : u_T} {N : Nat} {ty : Nat → FieldType} (co : cy_Co ci Cn T N ty) {a idx : Nat} {fs : List Value} (ha : M a = some (.inr (ci, fs))) (k : Nat) (hk : k < N) (lk : Cond.fieldLink own idx (T k).1 (T k).2.1 (T k).2.2.1 ∈ cy_TW) (hfin : (T k).2.2.2 = true) (hdecl : (T k).1 = own) {v : Value} (hn : narrow (ty k) v = v) (hfit : fits (ty k) v = true) (hlen : k < fs.length) (hd : decode cc pc = .ok (.putfield idx, 3))
    (kk : WM G F nL kc ks (pc + 3) lv st (cy_set M a (.inr (ci, fs.set k v)))) : WM G F nL kc ks pc lv (v :: .ref a :: st) M := by
  obtain ⟨p, l, e, R, s, m, args, below, meth, c, Q⟩ := F
  obtain ⟨hl0, hx, hb, hml, hown, hts, hK, -⟩ := C
  intro H ls locs hl hM hS
  have hap := va_apart (own := own) hts co.2.1 ty co.2.2.1 co.2.2.2 hK.1 co.1
  obtain ⟨hAa, r, h1, cell, q1, q2, q3, q4⟩ := hM.1 a _ ha
  have hr : r = (Cn, T, N) := Option.some.inj (h1.symm.trans co.1)
  subst hr
  obtain ⟨hSl, hfc, kC, hkC, hkind⟩ := hK.1.1 ci _ co.1
  obtain ⟨cf, kf, fi, f, hi, hsl⟩ := hSl k hk
  have hlay := hts _ (co.2.1 _ (u_in_lay hk))
  unfold u_lay at hlay
  rw [if_pos hfin] at hlay
  have hst := (u_facts hfc hkC (u_lays hts co.2.1 hk) hi).1
  have hcf : m.cls = cf := by
    obtain ⟨_, _, c', _, _, _, -, -, hf', -, -, -, hown2, -⟩ := Cond.laysFinal_spec hlay
    have e1 : c' = cf := by have := hi.symm.trans hf'; simp at this; exact this.1.symm
    rw [hdecl] at hown2
    rw [← e1]; exact Option.some.inj (hown.symm.trans hown2)
  have h6 := u_fits hfc hkC hkind (Or.inr hlay) hi (co.2.2.1 k hk) hn hfit
  refine W.putFinK hx hb hown (hts _ lk) hi hst hcf hi0 (by rw [q2]; exact h6) q1 q3 (by rw [hsl]; exact k2_hasslot (q4 k hk)) rfl rfl hd fun H' e1 e2 e3 => ?_
  rw [hsl] at e1 ⊢
  exact kk H' ls _ hl (cy_hm_set hM hAa e2 ⟨_, co.1, t_OB.to (V := updV (vp_V fs) k v) ⟨_, e1, q2, q3, t_set q4 hap hk v⟩ (fun j _ => vp_updV_set hlen v j)⟩ e3) (hS.put e2 e3 hAa)
theorem wm_iald (C : cy_C G F own cc nL d rc rs) {a t0 : Nat} {cA : ClassId} {n : Nat} {f : Nat → Int32} (ha : M a = some (.inl (cA, n, .inl f))) (ht : G.2.2.1[t0]? = some (cA, .int)) {i : Int32} (hin : vp_in i n) (hd : decode cc pc = .ok (.iaload, 1))
    (kk : WM G F nL kc ks (pc + 1) lv (.int (f i.toNatClampNeg) :: st) M) : WM G F nL kc ks pc lv (.int i :: .ref a :: st) M := by
  obtain ⟨p, l, e, R, s, m, args, below, meth, c, Q⟩ := F
  obtain ⟨hl0, hx, hb, hml, hown, hts, hK, -⟩ := C
  exact fun H ls locs hl hM hS => va_iald hx hb hK.1 (cy_hm_at hM ha) 0 t0 rfl ht hin hd (kk H ls locs hl hM hS)
theorem wm_iast (C : cy_C G F own cc nL d rc rs) {a t0 : Nat} {cA : ClassId} {n : Nat} {f : Nat → Int32} (ha : M a = some (.inl (cA, n, .inl f))) (ht : G.2.2.1[t0]? = some (cA, .int)) {i x : Int32} (hin : vp_in i n) (hd : decode cc pc = .ok (.iastore, 1))
    (kk : WM G F nL kc ks (pc + 1) lv st (cy_set M a (.inl (cA, n, .inl (upd f i.toNatClampNeg x))))) : WM G F nL kc ks pc lv (.int x :: .int i :: .ref a :: st) M := by
  obtain ⟨p, l, e, R, s, m, args, below, meth, c, Q⟩ := F
  obtain ⟨hl0, hx, hb, hml, hown, hts, hK, -⟩ := C
  intro H ls locs hl hM hS
  obtain ⟨hAa, hat⟩ := hM.1 a _ ha
  refine W.iast hx hb hat ((hK.1.2 t0 _ ht).1 n (fun j => .int (f j))) (fun q => by cases q) (by show ¬ (i < 0 ∨ (arrV _ _ _).slots.size ≤ _); rw [arrV_size]; exact hin) rfl rfl hd fun H1 e1 z oq => ?_
  refine kk H1 ls _ hl (cy_hm_set hM hAa z ?_ oq) (hS.put z oq hAa)
  show H1[a]? = some (vp_cell _ _)
  rw [e1, vp_cell_i, vp_cell_i, arrV_store]
  congr 2
  funext q
  by_cases hq : q = i.toNatClampNeg
  · subst hq; simp [updV, upd]
  · simp [updV, upd, hq]
theorem wm_alen (C : cy_C G F own cc nL d rc rs) {a t0 : Nat} {cA : ClassId} {x : vp_A} {ty : FieldType} (ha : M a = some (.inl (cA, x))) (ht : G.2.2.1[t0]? = some (cA, ty)) (hd : decode cc pc = .ok (.arraylength, 1))
    (kk : WM G F nL kc ks (pc + 1) lv (.int (nI x.1) :: st) M) : WM G F nL kc ks pc lv (.ref a :: st) M := by
  obtain ⟨p, l, e, R, s, m, args, below, meth, c, Q⟩ := F
  obtain ⟨hl0, hx, hb, hml, hown, hts, hK, -⟩ := C
  exact fun H ls locs hl hM hS => va_alen hx hb hK.1 (cy_hm_at hM ha) 0 t0 rfl ht rfl hd (kk H ls locs hl hM hS)
theorem wm_aald (C : cy_C G F own cc nL d rc rs) {a t0 : Nat} {cA : ClassId} {Cn : String} {n : Nat} {f : Nat → Option Nat} (ha : M a = some (.inl (cA, n, .inr (.inr (.inr (.inr f)))))) (ht : G.2.2.1[t0]? = some (cA, .object Cn)) {i : Int32} (hin : vp_in i n) (hd : decode cc pc = .ok (.aaload, 1))
    (kk : WM G F nL kc ks (pc + 1) lv (va_rf (f i.toNatClampNeg) :: st) M) : WM G F nL kc ks pc lv (.int i :: .ref a :: st) M := by
  obtain ⟨p, l, e, R, s, m, args, below, meth, c, Q⟩ := F
  obtain ⟨hl0, hx, hb, hml, hown, hts, hK, -⟩ := C
  exact fun H ls locs hl hM hS => va_aldq hx hb hK.1 (cy_hm_at hM ha) 0 t0 rfl ht hin hd (kk H ls locs hl hM hS)
theorem wm_aast (C : cy_C G F own cc nL d rc rs) {a t0 ci v : Nat} {cA : ClassId} {r : vw_C} {n : Nat} {vs : List Value} {f : Nat → Option Nat} (ha : M a = some (.inl (cA, n, .inr (.inr (.inr (.inr f)))))) (ht : G.2.2.1[t0]? = some (cA, .object r.1)) (hv : M v = some (.inr (ci, vs))) (hc : cy_cl[ci]? = some r) {i : Int32} (hin : vp_in i n) (hd : decode cc pc = .ok (.aastore, 1))
    (kk : WM G F nL kc ks (pc + 1) lv st (cy_set M a (.inl (cA, n, .inr (.inr (.inr (.inr (va_up f i.toNatClampNeg (some v))))))))) : WM G F nL kc ks pc lv (.ref v :: .int i :: .ref a :: st) M := by
  obtain ⟨p, l, e, R, s, m, args, below, meth, c, Q⟩ := F
  obtain ⟨hl0, hx, hb, hml, hown, hts, hK, -⟩ := C
  intro H ls locs hl hM hS
  have hlt : i.toNatClampNeg < n := Nat.not_le.mp fun q => hin (Or.inr q)
  have h0 : ¬ i < 0 := fun q => hin (Or.inl q)
  obtain ⟨hAa, hat⟩ := hM.1 a _ ha
  obtain ⟨-, r', hr', cellV, g1, g2, g3, -⟩ := hM.1 v _ hv
  have hcls := (hK.1.1 ci r hc).2
  obtain ⟨kA, comp, k1, k2, k3, -⟩ := (hK.1.2 t0 _ ht).2
  have hcomp : comp = G.2.1.1 ci := Option.some.inj (k3.symm.trans hcls.1)
  subst hcomp
  obtain ⟨kC, hkC, -⟩ := hcls.2
  refine W.aast hx hb hat (fun q h => by cases h) (fun h => by cases h) k1 k2 rfl hkC ⟨h0, by show _ < (arrV _ _ _).slots.size; rw [arrV_size]; exact hlt⟩ g1 (fun q h => by rw [g3] at h; cases h) (by rw [g2]; exact hkC) (by rw [g2]; exact va_assign hcls) rfl rfl hd fun H1 e1 z oq => ?_
  refine kk H1 ls _ hl (cy_hm_set hM hAa z ?_ oq) (hS.put z oq hAa)
  show H1[a]? = some (vp_cell _ _)
  rw [e1, vp_cell_q, vp_cell_q, arrV_store]
  congr 2
  funext q
  by_cases hq : q = i.toNatClampNeg
  · subst hq; simp [updV, va_up, va_rf]
  · simp [updV, va_up, hq]
theorem wm_new (C : cy_C G F own cc nL d rc rs) {ci : Nat} {Cn : String} {T : u_T} {N : Nat} {ty : Nat → FieldType} (co : cy_Co ci Cn T N ty) {idx : Nat} (lk : Cond.classLink own idx Cn ∈ cy_TW) (li : Cond.instantiable Cn N ∈ cy_TW) (ln : Cond.initialized Cn ∈ cy_TW) {fs : List Value} (hfs : ∀ j, j < N → defaultValue (ty j) = vp_V fs j) (hkc : kc + 1 ≤ rc) (hks : ks + N ≤ rs) (hd : decode cc pc = .ok (.new idx, 3))
    (kk : ∀ q : Nat, cy_top G M q → WM G F nL (kc + 1) (ks + N) (pc + 3) lv (.ref q :: st) (cy_set M q (.inr (ci, fs)))) : WM G F nL kc ks pc lv st M := by
  obtain ⟨p, l, e, R, s, m, args, below, meth, c, Q⟩ := F
  obtain ⟨hl0, hx, hb, hml, hown, hts, hK, hlk, hfr, hlo, hrc, hrs⟩ := C
  intro H ls locs hl hM hS
  have hKn := hK.1.1 ci _ co.1
  refine W.newcK hx hb hown (hts _ lk) (hts _ li) (hts _ ln) rfl hd (Nat.le_trans hkc hrc) (Nat.le_trans hks hrs) hKn.2.1 rfl fun H1 kC hkC e1 z1 o1 => ?_
  have hA : cy_A G H.size := Nat.le_trans hK.2.2.1 hS.1
  exact kk H.size (cy_hm_top hM hA) H1 ls locs hl (cy_hm_new hM hA rfl z1 ⟨_, co.1, (u_born ty hts co.2.1 hKn hkC e1 co.2.2.1).to hfs⟩ o1) ⟨Nat.le_trans hS.1 (by omega), fun x h1 h2 => (o1 x (Nat.lt_of_lt_of_le h1 hS.1)).trans (hS.2.1 x h1 h2), hS.2.2⟩
theorem wm_newa (C : cy_C G F own cc nL d rc rs) {t0 : Nat} {cA : ClassId} (ht : G.2.2.1[t0]? = some (cA, .int)) (lw : Cond.arrayClass .int ∈ cy_TW) {n : Int32} {N : Nat} (hn : ¬ n < 0) (hN : n.toNatClampNeg = N) (hbig : N * 4 ≤ 536870912) (hkc : kc + 1 ≤ rc) (hks : ks + N ≤ rs) (hd : decode cc pc = .ok (.newarray .int, 2))
    (kk : ∀ q : Nat, cy_top G M q → WM G F nL (kc + 1) (ks + N) (pc + 2) lv (.ref q :: st) (cy_set M q (.inl (cA, N, .inl (fun _ => 0))))) : WM G F nL kc ks pc lv (.int n :: st) M := by
  obtain ⟨p, l, e, R, s, m, args, below, meth, c, Q⟩ := F
  obtain ⟨hl0, hx, hb, hml, hown, hts, hK, hlk, hfr, hlo, hrc, hrs⟩ := C
  intro H ls locs hl hM hS
  refine va_newaK hx hb (atype := .int) (hts _ lw) rfl hd rfl hn hN hbig (Nat.le_trans hkc hrc) (Nat.le_trans hks hrs) rfl fun H1 cB e1 z1 o1 hAr hNm => ?_
  have hA : cy_A G H.size := Nat.le_trans hK.2.2.1 hS.1
  have hcB : cB = cA := Option.some.inj (hNm.symm.trans (hK.1.2 t0 _ ht).2)
  subst hcB
  exact kk H.size (cy_hm_top hM hA) H1 ls locs hl (cy_hm_new hM hA rfl z1 e1 o1) ⟨Nat.le_trans hS.1 (by omega), fun x h1 h2 => (o1 x (Nat.lt_of_lt_of_le h1 hS.1)).trans (hS.2.1 x h1 h2), hS.2.2⟩
theorem wm_newq (C : cy_C G F own cc nL d rc rs) {t0 : Nat} {cA : ClassId} {Cn : String} (ht : G.2.2.1[t0]? = some (cA, .object Cn)) {idx : Nat} (lk : Cond.classLink own idx Cn ∈ cy_TW) (lo : Cn ∈ cy_AO) {n : Int32} {N : Nat} (hn : ¬ n < 0) (hN : n.toNatClampNeg = N) (hbig : N * 4 ≤ 536870912) (hkc : kc + 1 ≤ rc) (hks : ks + N ≤ rs) (hd : decode cc pc = .ok (.anewarray idx, 3))
    (kk : ∀ q : Nat, cy_top G M q → WM G F nL (kc + 1) (ks + N) (pc + 3) lv (.ref q :: st) (cy_set M q (.inl (cA, N, .inr (.inr (.inr (.inr (fun _ => none)))))))) : WM G F nL kc ks pc lv (.int n :: st) M := by
  obtain ⟨p, l, e, R, s, m, args, below, meth, c, Q⟩ := F
  obtain ⟨hl0, hx, hb, hml, hown, hts, hK, hlk, hfr, hlo, hrc, hrs⟩ := C
  intro H ls locs hl hM hS
  subst hN
  refine W.anew hx hb hown (hts _ lk) (va_AO.use (hK.2.2.2.2 _ lo)) rfl hd rfl hn hbig (Nat.le_trans hkc hrc) (Nat.le_trans hks hrs) fun cB kA comp f1 f2 f3 f4 => ?_
  generalize hH1 : H.push ({ cls := cB, slots := Array.replicate n.toNatClampNeg .null, vm := .none } : Cell) = H1
  have z1 : H1.size = H.size + 1 := by rw [← hH1, Array.size_push]
  have e1 : H1[H.size]? = some (arrV cB n.toNatClampNeg (fun _ => .null)) := by rw [← hH1, Array.getElem?_push_size, ← arrV_new]
  have o1 : ∀ q : Nat, q < H.size → H1[q]? = H[q]? := fun q hq => by rw [← hH1, Array.getElem?_push, if_neg (Nat.ne_of_lt hq)]
  have hA : cy_A G H.size := Nat.le_trans hK.2.2.1 hS.1
  have hcB : cB = cA := by
    obtain ⟨kA', comp', g1, g2, g3, g4⟩ := (hK.1.2 t0 _ ht).2
    exact Option.some.inj (f1.symm.trans g4)
  subst hcB
  exact kk H.size (cy_hm_top hM hA) H1 ls locs hl (cy_hm_new hM hA rfl z1 e1 o1) ⟨Nat.le_trans hS.1 (by omega), fun x h1 h2 => (o1 x (Nat.lt_of_lt_of_le h1 hS.1)).trans (hS.2.1 x h1 h2), hS.2.2⟩
theorem wm_gets (C : cy_C G F own cc nL d rc rs) {j idx : Nat} {q : String × String × String × Nat × (Nat → Value)} (hj : cy_ST[j]? = some q) (lk : Cond.fieldLink own idx q.1 q.2.1 q.2.2.1 ∈ cy_TW) (hd : decode cc pc = .ok (.getstatic idx, 3))
    (kk : WM G F nL kc ks (pc + 3) lv (.ref (G.2.2.2.2 j) :: st) M) : WM G F nL kc ks pc lv st M := by
  obtain ⟨p, l, e, R, s, m, args, below, meth, c, Q⟩ := F
  obtain ⟨hl0, hx, hb, hml, hown, hts, hK, -⟩ := C
  exact fun H ls locs hl hM hS => va_gets hx hb (hK.2.2.2.1 j q hj).1 hS hown (hts _ lk) (fun _ h9 => h9) hd (kk H ls locs hl hM hS)
theorem wm_getsN (C : cy_C G F own cc nL d rc rs) {j idx : Nat} {q : String × String × String × Nat × (Nat → Value)} (hj : cy_ST[j]? = some q) {i : Int32} (hin : vp_in i q.2.2.2.1) {v : Value} (hv : q.2.2.2.2 i.toNatClampNeg = v) (hd : decode cc pc = .ok (.iaload, 1))
    (kk : WM G F nL kc ks (pc + 1) lv (v :: st) M) : WM G F nL kc ks pc lv (.int i :: .ref (G.2.2.2.2 j) :: st) M := by
  obtain ⟨p, l, e, R, s, m, args, below, meth, c, Q⟩ := F
  obtain ⟨hl0, hx, hb, hml, hown, hts, hK, -⟩ := C
  exact fun H ls locs hl hM hS => va_ti hx hb (hK.2.2.2.1 j q hj).2 hS hin hv hd (kk H ls locs hl hM hS)
theorem wm_tlen (C : cy_C G F own cc nL d rc rs) {j : Nat} {q : String × String × String × Nat × (Nat → Value)} (hj : cy_ST[j]? = some q) (hd : decode cc pc = .ok (.arraylength, 1))
    (kk : WM G F nL kc ks (pc + 1) lv (.int (nI q.2.2.2.1) :: st) M) : WM G F nL kc ks pc lv (.ref (G.2.2.2.2 j) :: st) M := by
  obtain ⟨p, l, e, R, s, m, args, below, meth, c, Q⟩ := F
  obtain ⟨hl0, hx, hb, hml, hown, hts, hK, -⟩ := C
  exact fun H ls locs hl hM hS => va_tlen hx hb (hK.2.2.2.1 j q hj).2 hS rfl hd (kk H ls locs hl hM hS)
theorem wm_obj (C : cy_C G F own cc nL d rc rs) {a idx : Nat} (lk : Cond.methodLink own idx Lib.objectInit ∈ cy_TW) (li : Cond.instanceMethod Lib.objectInit ∈ cy_TW) (lc : Cond.code Lib.objectInit ⟨#[0xb1]⟩ 1 none ∈ cy_TW) (hd1 : 1 ≤ d) (hst : (st.map fun v => v.category).sum ≤ 8) (hd : decode cc pc = .ok (.invokespecial idx, 3))
    (kk : WM G F nL kc ks (pc + 3) lv st M) : WM G F nL kc ks pc lv (.ref a :: st) M := by
  obtain ⟨p, l, e, R, s, m, args, below, meth, c, Q⟩ := F
  obtain ⟨hl0, hx, hb, hml, hown, hts, hK, hlk, hfr, hlo, hrc, hrs⟩ := C
  intro H ls locs hl hM hS
  refine W.objInit hx hb hown (hts _ lk) (hts _ li) (hts _ lc) rfl (by rw [hml]; exact hl.1) rfl hd (Nat.le_trans hd1 hfr) ?_ (kk H ls locs hl hM hS)
  show 2 * 0 + (st.map fun v => v.category).sum + 12 ≤ R.locals
  omega
theorem wm_mmax (C : cy_C G F own cc nL d rc rs) {idx : Nat} (lk : Cond.methodLink own idx Lib.Math.max.name ∈ cy_TW) (ls0 : Cond.static Lib.Math.max.name ∈ cy_TW) (li : Cond.initialized "java/lang/Math" ∈ cy_TW) (lc : Cond.code Lib.Math.max.name Lib.Math.max.code 2 (some .int) ∈ cy_TW) (hd1 : 1 ≤ d) (hst : (st.map fun v => v.category).sum ≤ 8) (hkc : kc ≤ rc) (hks : ks ≤ rs) {x y : Int32} (hd : decode cc pc = .ok (.invokestatic idx, 3))
    (kk : WM G F nL kc ks (pc + 3) lv (.int (if x < y then y else x) :: st) M) : WM G F nL kc ks pc lv (.int y :: .int x :: st) M := by
  obtain ⟨p, l, e, R, s, m, args, below, meth, c, Q⟩ := F
  obtain ⟨hl0, hx, hb, hml, hown, hts, hK, hlk, hfr, hlo, hrc, hrs⟩ := C
  exact fun H ls locs hl hM hS => va_mmax hx hb (by rw [hml]; exact hl.1.symm) hown (hts _ lk) (hts _ ls0) (hts _ li) (hts _ lc) (Nat.le_trans hd1 hfr) (by omega) (Nat.le_trans hkc hrc) (Nat.le_trans hks hrs) hd (kk H ls locs hl hM hS)
theorem wm_mmin (C : cy_C G F own cc nL d rc rs) {idx : Nat} (lk : Cond.methodLink own idx Lib.Math.min.name ∈ cy_TW) (ls0 : Cond.static Lib.Math.min.name ∈ cy_TW) (li : Cond.initialized "java/lang/Math" ∈ cy_TW) (lc : Cond.code Lib.Math.min.name Lib.Math.min.code 2 (some .int) ∈ cy_TW) (hd1 : 1 ≤ d) (hst : (st.map fun v => v.category).sum ≤ 8) (hkc : kc ≤ rc) (hks : ks ≤ rs) {x y : Int32} (hd : decode cc pc = .ok (.invokestatic idx, 3))
    (kk : WM G F nL kc ks (pc + 3) lv (.int (if y < x then y else x) :: st) M) : WM G F nL kc ks pc lv (.int y :: .int x :: st) M := by
  obtain ⟨p, l, e, R, s, m, args, below, meth, c, Q⟩ := F
  obtain ⟨hl0, hx, hb, hml, hown, hts, hK, hlk, hfr, hlo, hrc, hrs⟩ := C
  exact fun H ls locs hl hM hS => va_mmin hx hb (by rw [hml]; exact hl.1.symm) hown (hts _ lk) (hts _ ls0) (hts _ li) (hts _ lc) (Nat.le_trans hd1 hfr) (by omega) (Nat.le_trans hkc hrc) (Nat.le_trans hks hrs) hd (kk H ls locs hl hM hS)
/-! ends -/
theorem wm_iret (C : cy_C G F own cc nL d rc rs) {post : Option Value → cy_Hp → Prop} (P : cy_P G F (some .int) post kc ks) {v : Int32} (hd : decode cc pc = .ok (.ireturn, 1)) (h : post (some (.int v)) M) : WM G F nL kc ks pc lv [.int v] M := by
  obtain ⟨p, l, e, R, s, m, args, below, meth, c, Q⟩ := F
  obtain ⟨hl0, hx, hb, hml, hown, hts, hK, hlk, -⟩ := C
  obtain ⟨hr, rfl⟩ := P
  exact fun H ls locs hl hM hS => W.iret (v := v) hx hb hr (fun t ht hW => ⟨some (.int v), M, rfl, h, by rw [ht]; exact hM, hS.F ht⟩) hS.2.2 hd hlk
theorem wm_zret (C : cy_C G F own cc nL d rc rs) {post : Option Value → cy_Hp → Prop} (P : cy_P G F (some .boolean) post kc ks) {v : Int32} (hn : narrow .boolean (.int v) = .int v) (hd : decode cc pc = .ok (.ireturn, 1)) (h : post (some (.int v)) M) : WM G F nL kc ks pc lv [.int v] M := by
  obtain ⟨p, l, e, R, s, m, args, below, meth, c, Q⟩ := F
  obtain ⟨hl0, hx, hb, hml, hown, hts, hK, hlk, -⟩ := C
  obtain ⟨hr, rfl⟩ := P
  exact fun H ls locs hl hM hS => W.zret (v := v) hx hb hr hn (fun t ht hW => ⟨some (.int v), M, rfl, h, by rw [ht]; exact hM, hS.F ht⟩) hS.2.2 hd hlk
theorem wm_vret (C : cy_C G F own cc nL d rc rs) {post : Option Value → cy_Hp → Prop} (P : cy_P G F none post kc ks) (hd : decode cc pc = .ok (.return_, 1)) (h : post none M) : WM G F nL kc ks pc lv [] M := by
  obtain ⟨p, l, e, R, s, m, args, below, meth, c, Q⟩ := F
  obtain ⟨hl0, hx, hb, hml, hown, hts, hK, hlk, -⟩ := C
  obtain ⟨hr, rfl⟩ := P
  exact fun H ls locs hl hM hS => W.vret hx hb hr (fun t ht hW => ⟨none, M, rfl, h, by rw [ht]; exact hM, hS.F ht⟩) hS.2.2 hd hlk
theorem wm_aret (C : cy_C G F own cc nL d rc rs) {post : Option Value → cy_Hp → Prop} {rt : FieldType} (P : cy_P G F (some rt) post kc ks) (hrt : (∃ n, rt = .object n) ∨ ∃ t, rt = .array t) {v : Value} (hv : v = .null ∨ ∃ a, v = .ref a) (hd : decode cc pc = .ok (.areturn, 1)) (h : post (some v) M) : WM G F nL kc ks pc lv [v] M := by
  obtain ⟨p, l, e, R, s, m, args, below, meth, c, Q⟩ := F
  obtain ⟨hl0, hx, hb, hml, hown, hts, hK, hlk, -⟩ := C
  obtain ⟨hr, rfl⟩ := P
  exact fun H ls locs hl hM hS => W.aret (v := v) hx hb hr hrt hv (fun t ht hW => ⟨some v, M, rfl, h, by rw [ht]; exact hM, hS.F ht⟩) hS.2.2 hd hlk
/-- room that isn't used -/
theorem wm_widen {kc2 ks2 : Nat} (h1 : kc ≤ kc2) (h2 : ks ≤ ks2) (k : WM G F nL kc2 ks2 pc lv st M) : WM G F nL kc ks pc lv st M := by
  obtain ⟨p, l, e, R, s, m, args, below, meth, c, Q⟩ := F
  exact fun H ls locs hl hM hS => W.widen h1 h2 (k H ls locs hl hM hS)
end CYR
/-! calls -/
theorem cy_blind {G : cy_G} {av : List Value} {M : cy_Hp} : FrameBlind (va_Pc av (fun U => cy_K G U ∧ cy_hm G M U.heap)) := fun _ _ _ _ q => ⟨q.1, cy_K_calling q.2.1, q.2.2⟩
theorem cy_run {G : cy_G} {p : Program} {l : Launch} {e : Env} {R : Room} {s : State} {m : MethodId} {args : Array Value} {below : List Frame} {meth : Method} {c : Code} {Q : State → Prop} {H : Heap} {locs : List Loc} {nL kc ks mc ms pc : Nat} {lv : List (Nat × Value)} {ls : Array Slot} {st rest : List Value} {a : Array Value}
    (hr : va_Run p l e R s m args below meth c H locs kc ks mc ms (F0 m pc ls st) rest (cy_Q G (fun r M' => WM G (p, l, e, R, s, m, args, below, meth, c, Q) nL (kc + mc) (ks + ms) (pc + 3) lv (r.toList ++ rest) M') a) (cy_A G))
    (hl : lv_has ls nL lv) (hS : va_S (cy_A G) s.heap H locs) : W p l e R s m args below meth c H locs kc ks Q (F0 m pc ls st) := by
  intro T hT X
  obtain ⟨v, st₀, t, T', L, h0, X', hL, e1, e2, ⟨r, M', hv, hp, hm, hz, hk⟩, stp⟩ := hr T hT X
  cases hv
  rw [h0] at hz hk
  obtain ⟨t2, a1, b1⟩ := hp T'.heap ls (locs ++ L) hl (by rw [e1]; exact hm)
    ⟨Nat.le_trans hS.1 (by rw [e1]; exact hz), fun q h1 h2 => by rw [e1, hk q (Nat.lt_of_lt_of_le h1 hS.1) h2]; exact hS.2.1 q h1 h2, fun q hq => by
      rcases List.mem_append.mp hq with h | h
      · exact hS.2.2 q h
      · exact hL q h⟩ T' rfl X'
  exact ⟨t2, stp t2 a1, b1⟩
section CYC
variable {G : cy_G} {F : cy_F} {own : String} {cc : ByteArray} {nL d rc rs kc ks pc : Nat} {lv : List (Nat × Value)} {st : List Value} {M : cy_Hp}
theorem wm_callV (C : cy_C G F own cc nL d rc rs) {i : cy_I} {n d2 mc ms idx ci b : Nat} {fs : List Value} {T : u_T} {N : Nat} {ty : Nat → FieldType} (mo : cy_MoV i n) (co : cy_Co ci i.1.cls T N ty) (lk : Cond.methodLink own idx i.1 ∈ cy_TW) (As rest : List Value) (hst : st = As.reverse ++ .ref b :: rest) (hb0 : M b = some (.inr (ci, fs))) (hn : As.length = n) (hdd : d2 + 1 ≤ d) (hrest : (rest.map fun v => v.category).sum ≤ 8) (hkc : kc + mc ≤ rc) (hks : ks + ms ≤ rs) (hd : decode cc pc = .ok (.invokevirtual idx, 3))
    (kk : cy_Ct G d2 i (.ref b :: As) M mc ms (fun r M' => WM G F nL (kc + mc) (ks + ms) (pc + 3) lv (r.toList ++ rest) M')) : WM G F nL kc ks pc lv st M := by
  obtain ⟨p, l, e, R, s, m, args, below, meth, c, Q⟩ := F
  obtain ⟨hl0, hx, hb, hml, hown, hts, hK, hlk, hfr, hlo, hrc, hrs⟩ := C
  obtain ⟨y, bs, mL, rt⟩ := i
  obtain ⟨⟨mo1, mo2, mo3, mo4⟩, mo5, mo6⟩ := mo
  subst hl0
  intro H ls locs hl hM hS
  have hcb : CallB R s args own idx y bs mL rt (cy_w (y, bs, mL, rt)) ({ frames := d2, cells := mc, slots := ms, locals := 40 * d2 }) mc ms n := callB_of n hts (cy_goodIn mo1) rfl rfl rfl (hts _ mo2) (hts _ lk) mo3 ⟨by show d2 + 1 ≤ R.frames; omega, by have h4 : mL ≤ 21 := mo4; show 8 + (mL + 11) + 40 * d2 ≤ R.locals; omega⟩
  exact cy_run (va_runV (C := y.cls) (As := As) (rest := rest) ⟨hx, hb, hml, hown, hts⟩ kk ⟨hcb, hts _ mo5, hts _ mo6⟩ ⟨cy_blind, va_recv hK.1 (cy_hm_at hM hb0) co.1 (q0 := 0) rfl, fun U hU hW => ⟨rfl, cy_K_call hK hS hU hW, by rw [hU]; exact hM⟩⟩ rfl hn hl.1 hst (lv_room hrest) hd ⟨Nat.le_trans hkc hrc, Nat.le_trans hks hrs⟩) hl hS
theorem wm_callVN (C : cy_C G F own cc nL d rc rs) {i : cy_I} {host : String} {n d2 mc ms idx ci b : Nat} {fs : List Value} {T : u_T} {N : Nat} {ty : Nat → FieldType} (mo : cy_MoV i n) (co : cy_Co ci i.1.cls T N ty) (lk : Cond.methodLinkNest own idx i.1 host ∈ cy_NW) (As rest : List Value) (hst : st = As.reverse ++ .ref b :: rest) (hb0 : M b = some (.inr (ci, fs))) (hn : As.length = n) (hdd : d2 + 1 ≤ d) (hrest : (rest.map fun v => v.category).sum ≤ 8) (hkc : kc + mc ≤ rc) (hks : ks + ms ≤ rs) (hd : decode cc pc = .ok (.invokevirtual idx, 3))
    (kk : cy_Ct G d2 i (.ref b :: As) M mc ms (fun r M' => WM G F nL (kc + mc) (ks + ms) (pc + 3) lv (r.toList ++ rest) M')) : WM G F nL kc ks pc lv st M := by
  obtain ⟨p, l, e, R, s, m, args, below, meth, c, Q⟩ := F
  obtain ⟨hl0, hx, hb, hml, hown, hts, hK, hlk, hfr, hlo, hrc, hrs⟩ := C
  obtain ⟨y, bs, mL, rt⟩ := i
  obtain ⟨⟨mo1, mo2, mo3, mo4⟩, mo5, mo6⟩ := mo
  subst hl0
  intro H ls locs hl hM hS
  have hcb : va_CN R s args own idx y host bs mL rt (cy_w (y, bs, mL, rt)) ({ frames := d2, cells := mc, slots := ms, locals := 40 * d2 }) mc ms n := va_cnB n hts (cy_goodIn mo1) rfl rfl rfl (hK.2.1 _ lk) (hts _ mo2) mo3 ⟨by show d2 + 1 ≤ R.frames; omega, by have h4 : mL ≤ 21 := mo4; show 8 + (mL + 11) + 40 * d2 ≤ R.locals; omega⟩
  exact cy_run (va_runVN (C := y.cls) (As := As) (rest := rest) ⟨hx, hb, hml, hown, hts⟩ kk ⟨hcb, hts _ mo5, hts _ mo6⟩ ⟨cy_blind, va_recv hK.1 (cy_hm_at hM hb0) co.1 (q0 := 0) rfl, fun U hU hW => ⟨rfl, cy_K_call hK hS hU hW, by rw [hU]; exact hM⟩⟩ rfl hn hl.1 hst (lv_room hrest) hd ⟨Nat.le_trans hkc hrc, Nat.le_trans hks hrs⟩) hl hS
theorem wm_callS (C : cy_C G F own cc nL d rc rs) {i : cy_I} {n d2 mc ms idx : Nat} (mo : cy_MoS i n) (lk : Cond.methodLink own idx i.1 ∈ cy_TW) (As rest : List Value) (hst : st = As.reverse ++ rest) (hn : As.length = n) (hdd : d2 + 1 ≤ d) (hrest : (rest.map fun v => v.category).sum ≤ 8) (hkc : kc + mc ≤ rc) (hks : ks + ms ≤ rs) (hd : decode cc pc = .ok (.invokestatic idx, 3))
    (kk : cy_Ct G d2 i As M mc ms (fun r M' => WM G F nL (kc + mc) (ks + ms) (pc + 3) lv (r.toList ++ rest) M')) : WM G F nL kc ks pc lv st M := by
  obtain ⟨p, l, e, R, s, m, args, below, meth, c, Q⟩ := F
  obtain ⟨hl0, hx, hb, hml, hown, hts, hK, hlk, hfr, hlo, hrc, hrs⟩ := C
  obtain ⟨y, bs, mL, rt⟩ := i
  obtain ⟨⟨mo1, mo2, mo3, mo4⟩, mo5⟩ := mo
  subst hl0
  intro H ls locs hl hM hS
  have hcb : CallB R s args own idx y bs mL rt (cy_w (y, bs, mL, rt)) ({ frames := d2, cells := mc, slots := ms, locals := 40 * d2 }) mc ms n := callB_of n hts (cy_goodIn mo1) rfl rfl rfl (hts _ mo2) (hts _ lk) mo3 ⟨by show d2 + 1 ≤ R.frames; omega, by have h4 : mL ≤ 21 := mo4; show 8 + (mL + 11) + 40 * d2 ≤ R.locals; omega⟩
  exact cy_run (va_runS (As := As) (rest := rest) ⟨hx, hb, hml, hown, hts⟩ kk ⟨hcb, hts _ mo5⟩ ⟨cy_blind, fun U hU hW => ⟨rfl, cy_K_call hK hS hU hW, by rw [hU]; exact hM⟩⟩ rfl hn hl.1 hst (lv_room hrest) hd ⟨Nat.le_trans hkc hrc, Nat.le_trans hks hrs⟩) hl hS
theorem wm_callSN (C : cy_C G F own cc nL d rc rs) {i : cy_I} {host : String} {n d2 mc ms idx : Nat} (mo : cy_MoS i n) (lk : Cond.methodLinkNest own idx i.1 host ∈ cy_NW) (As rest : List Value) (hst : st = As.reverse ++ rest) (hn : As.length = n) (hdd : d2 + 1 ≤ d) (hrest : (rest.map fun v => v.category).sum ≤ 8) (hkc : kc + mc ≤ rc) (hks : ks + ms ≤ rs) (hd : decode cc pc = .ok (.invokestatic idx, 3))
    (kk : cy_Ct G d2 i As M mc ms (fun r M' => WM G F nL (kc + mc) (ks + ms) (pc + 3) lv (r.toList ++ rest) M')) : WM G F nL kc ks pc lv st M := by
  obtain ⟨p, l, e, R, s, m, args, below, meth, c, Q⟩ := F
  obtain ⟨hl0, hx, hb, hml, hown, hts, hK, hlk, hfr, hlo, hrc, hrs⟩ := C
  obtain ⟨y, bs, mL, rt⟩ := i
  obtain ⟨⟨mo1, mo2, mo3, mo4⟩, mo5⟩ := mo
  subst hl0
  intro H ls locs hl hM hS
  have hcb : va_CN R s args own idx y host bs mL rt (cy_w (y, bs, mL, rt)) ({ frames := d2, cells := mc, slots := ms, locals := 40 * d2 }) mc ms n := va_cnB n hts (cy_goodIn mo1) rfl rfl rfl (hK.2.1 _ lk) (hts _ mo2) mo3 ⟨by show d2 + 1 ≤ R.frames; omega, by have h4 : mL ≤ 21 := mo4; show 8 + (mL + 11) + 40 * d2 ≤ R.locals; omega⟩
  exact cy_run (va_runSN (As := As) (rest := rest) ⟨hx, hb, hml, hown, hts⟩ kk ⟨hcb, hts _ mo5, trivial⟩ ⟨cy_blind, fun U hU hW => ⟨rfl, cy_K_call hK hS hU hW, by rw [hU]; exact hM⟩⟩ rfl hn hl.1 hst (lv_room hrest) hd ⟨Nat.le_trans hkc hrc, Nat.le_trans hks hrs⟩) hl hS
theorem wm_callI (C : cy_C G F own cc nL d rc rs) {i : cy_I} {n d2 mc ms idx b : Nat} (mo : cy_MoI i n) (hret : i.2.2.2 = none) (lk : Cond.methodLink own idx i.1 ∈ cy_TW) (As rest : List Value) (hst : st = As.reverse ++ .ref b :: rest) (hn : As.length = n) (hdd : d2 + 1 ≤ d) (hrest : (rest.map fun v => v.category).sum ≤ 8) (hkc : kc + mc ≤ rc) (hks : ks + ms ≤ rs) (hd : decode cc pc = .ok (.invokespecial idx, 3))
    (kk : cy_Ct G d2 i (.ref b :: As) M mc ms (fun r M' => WM G F nL (kc + mc) (ks + ms) (pc + 3) lv (r.toList ++ rest) M')) : WM G F nL kc ks pc lv st M := by
  obtain ⟨p, l, e, R, s, m, args, below, meth, c, Q⟩ := F
  obtain ⟨hl0, hx, hb, hml, hown, hts, hK, hlk, hfr, hlo, hrc, hrs⟩ := C
  obtain ⟨y, bs, mL, rt⟩ := i
  obtain ⟨⟨mo1, mo2, mo3, mo4⟩, mo5, mo6⟩ := mo
  subst hl0
  have hret : rt = none := hret
  subst hret
  intro H ls locs hl hM hS
  have hcb : CallB R s args own idx y bs mL none (cy_w (y, bs, mL, none)) ({ frames := d2, cells := mc, slots := ms, locals := 40 * d2 }) mc ms n := callB_of n hts (cy_goodIn mo1) rfl rfl rfl (hts _ mo2) (hts _ lk) mo3 ⟨by show d2 + 1 ≤ R.frames; omega, by have h4 : mL ≤ 21 := mo4; show 8 + (mL + 11) + 40 * d2 ≤ R.locals; omega⟩
  exact cy_run (va_runI (As := As) (rest := rest) ⟨hx, hb, hml, hown, hts⟩ kk ⟨hcb, mo6, hts _ mo5⟩ ⟨cy_blind, fun U hU hW => ⟨rfl, cy_K_call hK hS hU hW, by rw [hU]; exact hM⟩⟩ rfl hn hl.1 hst (lv_room hrest) hd ⟨Nat.le_trans hkc hrc, Nat.le_trans hks hrs⟩) hl hS
theorem wm_callIN (C : cy_C G F own cc nL d rc rs) {i : cy_I} {host : String} {n d2 mc ms idx b : Nat} (mo : cy_MoI i n) (hret : i.2.2.2 = none) (lk : Cond.methodLinkNest own idx i.1 host ∈ cy_NW) (As rest : List Value) (hst : st = As.reverse ++ .ref b :: rest) (hn : As.length = n) (hdd : d2 + 1 ≤ d) (hrest : (rest.map fun v => v.category).sum ≤ 8) (hkc : kc + mc ≤ rc) (hks : ks + ms ≤ rs) (hd : decode cc pc = .ok (.invokespecial idx, 3))
    (kk : cy_Ct G d2 i (.ref b :: As) M mc ms (fun r M' => WM G F nL (kc + mc) (ks + ms) (pc + 3) lv (r.toList ++ rest) M')) : WM G F nL kc ks pc lv st M := by
  obtain ⟨p, l, e, R, s, m, args, below, meth, c, Q⟩ := F
  obtain ⟨hl0, hx, hb, hml, hown, hts, hK, hlk, hfr, hlo, hrc, hrs⟩ := C
  obtain ⟨y, bs, mL, rt⟩ := i
  obtain ⟨⟨mo1, mo2, mo3, mo4⟩, mo5, mo6⟩ := mo
  subst hl0
  have hret : rt = none := hret
  subst hret
  intro H ls locs hl hM hS
  have hcb : va_CN R s args own idx y host bs mL none (cy_w (y, bs, mL, none)) ({ frames := d2, cells := mc, slots := ms, locals := 40 * d2 }) mc ms n := va_cnB n hts (cy_goodIn mo1) rfl rfl rfl (hK.2.1 _ lk) (hts _ mo2) mo3 ⟨by show d2 + 1 ≤ R.frames; omega, by have h4 : mL ≤ 21 := mo4; show 8 + (mL + 11) + 40 * d2 ≤ R.locals; omega⟩
  exact cy_run (va_runIN (As := As) (rest := rest) ⟨hx, hb, hml, hown, hts⟩ kk ⟨hcb, mo6, hts _ mo5⟩ ⟨cy_blind, fun U hU hW => ⟨rfl, cy_K_call hK hS hU hW, by rw [hU]; exact hM⟩⟩ rfl hn hl.1 hst (lv_room hrest) hd ⟨Nat.le_trans hkc hrc, Nat.le_trans hks hrs⟩) hl hS
end CYC
end
