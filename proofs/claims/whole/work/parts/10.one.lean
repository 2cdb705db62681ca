def cy_Yard_isInstruction (op : Int32) : Int32 :=
  if op < 0 then
    0
  else
    if (nI 28) ≤ op then
      0
    else
      1
set_option maxHeartbeats 4000000 in
theorem c_Yard_isInstruction {G : cy_G} {E : cy_E} {s : cy_S} {M : cy_Hp} {post : Option Value → cy_Hp → Prop} (hE : cy_Eo G E) (hR : cy_R E s M)  (op : Int32) (h : post (some (.int (cy_Yard_isInstruction op))) M) : cy_Ct G 0 m_Yard_isInstruction [.int op] M 0 0 post := by
  refine cy_Ct.of (by decide) (Nat.le_of_ble_eq_true rfl) ?_
  intro F C P _
  have C : cy_C G F R_Yard b_Yard_isInstruction 1 0 0 0 := C
  have P : cy_P G F (some .boolean) post 0 0 := P
  show WM G F 1 0 0 0 [(0, .int op)] [] M
  refine wm_iload_n C d_Yard_isInstruction_0 rfl (j := 0) rfl ?_
  refine wm_if_lt (tgt := 16) C d_Yard_isInstruction_1 (by decide) (fun (h_1 : op < 0) => ?_) (fun (h_1 : ¬ op < 0) => ?_)
  · refine wm_iconst (v := 0) C d_Yard_isInstruction_16 (by decide) ?_
    refine wm_zret C P rfl d_Yard_isInstruction_17 ?_
    have e : cy_Yard_isInstruction op = 0 := by rw [cy_Yard_isInstruction, if_pos h_1]
    rw [e] at h
    exact h
  · refine wm_iload_n C d_Yard_isInstruction_4 rfl (j := 0) rfl ?_
    refine wm_gets (j := 0) C rfl fl_Yard_122 d_Yard_isInstruction_5 ?_
    refine wm_tlen (j := 0) C rfl d_Yard_isInstruction_8 ?_
    refine wm_icmp_ge (tgt := 16) C d_Yard_isInstruction_9 (by decide) (fun (h_9 : (nI 28) ≤ op) => ?_) (fun (h_9 : ¬ (nI 28) ≤ op) => ?_)
    · refine wm_iconst (v := 0) C d_Yard_isInstruction_16 (by decide) ?_
      refine wm_zret C P rfl d_Yard_isInstruction_17 ?_
      have e : cy_Yard_isInstruction op = 0 := by rw [cy_Yard_isInstruction, if_neg h_1, if_pos h_9]
      rw [e] at h
      exact h
    · refine wm_iconst (v := 1) C d_Yard_isInstruction_12 (by decide) ?_
      refine wm_goto (tgt := 17) C d_Yard_isInstruction_13 (by decide) ?_
      refine wm_zret C P rfl d_Yard_isInstruction_17 ?_
      have e : cy_Yard_isInstruction op = 1 := by rw [cy_Yard_isInstruction, if_neg h_1, if_neg h_9]
      rw [e] at h
      exact h
theorem cy_isI_in {op : Int32} (h : ¬ cy_Yard_isInstruction op = 0) : vp_in op 28 := by
  unfold cy_Yard_isInstruction at h
  by_cases h1 : op < 0
  · rw [if_pos h1] at h; exact absurd rfl h
  · rw [if_neg h1] at h
    by_cases h2 : nI 28 ≤ op
    · rw [if_pos h2] at h; exact absurd rfl h
    · exact cy_inOf (n := 28) (cap := 28) h1 h2 (Nat.le_refl _) (by decide)
def cy_Yard_operandMost (op : Int32) : Int32 :=
  if (cy_Yard_isInstruction op) = 0 then
    (-1)
  else
    cy_OM op.toNatClampNeg
set_option maxHeartbeats 4000000 in
theorem c_Yard_operandMost {G : cy_G} {E : cy_E} {s : cy_S} {M : cy_Hp} {post : Option Value → cy_Hp → Prop} (hE : cy_Eo G E) (hR : cy_R E s M)  (op : Int32) (h : post (some (.int (cy_Yard_operandMost op))) M) : cy_Ct G 1 m_Yard_operandMost [.int op] M 0 0 post := by
  refine cy_Ct.of (by decide) (Nat.le_of_ble_eq_true rfl) ?_
  intro F C P _
  have C : cy_C G F R_Yard b_Yard_operandMost 1 1 0 0 := C
  have P : cy_P G F (some .int) post 0 0 := P
  show WM G F 1 0 0 0 [(0, .int op)] [] M
  refine wm_iload_n C d_Yard_operandMost_0 rfl (j := 0) rfl ?_
  refine wm_callS (d2 := 0) (mc := 0) (ms := 0) C mo_Yard_isInstruction ml_Yard_126 [.int op] [] rfl rfl (by decide) (Nat.le_of_ble_eq_true rfl) (Nat.le_refl _) (Nat.le_refl _) d_Yard_operandMost_1 (cy_ki ?_)
  refine c_Yard_isInstruction hE hR  _ ⟨_, rfl, ?_⟩
  refine wm_if_eq (tgt := 15) C d_Yard_operandMost_4 (by decide) (fun (h_4 : (cy_Yard_isInstruction op) = 0) => ?_) (fun (h_4 : ¬ (cy_Yard_isInstruction op) = 0) => ?_)
  · refine wm_iconst (v := -1) C d_Yard_operandMost_15 (by decide) ?_
    refine wm_iret C P d_Yard_operandMost_16 ?_
    have e : cy_Yard_operandMost op = (-1) := by rw [cy_Yard_operandMost, if_pos h_4]
    rw [e] at h
    exact h
  · refine wm_gets (j := 0) C rfl fl_Yard_122 d_Yard_operandMost_7 ?_
    refine wm_iload_n C d_Yard_operandMost_10 rfl (j := 0) rfl ?_
    refine wm_getsN (j := 0) C rfl (cy_isI_in (by simpa using h_4)) rfl d_Yard_operandMost_11 ?_
    refine wm_goto (tgt := 16) C d_Yard_operandMost_12 (by decide) ?_
    refine wm_iret C P d_Yard_operandMost_16 ?_
    have e : cy_Yard_operandMost op = cy_OM op.toNatClampNeg := by rw [cy_Yard_operandMost, if_neg h_4]
    rw [e] at h
    exact h
def cy_Yard_hasOperand (op : Int32) : Int32 :=
  if (cy_Yard_operandMost op) = (-1) then
    0
  else
    1
set_option maxHeartbeats 4000000 in
theorem c_Yard_hasOperand {G : cy_G} {E : cy_E} {s : cy_S} {M : cy_Hp} {post : Option Value → cy_Hp → Prop} (hE : cy_Eo G E) (hR : cy_R E s M)  (op : Int32) (h : post (some (.int (cy_Yard_hasOperand op))) M) : cy_Ct G 2 m_Yard_hasOperand [.int op] M 0 0 post := by
  refine cy_Ct.of (by decide) (Nat.le_of_ble_eq_true rfl) ?_
  intro F C P _
  have C : cy_C G F R_Yard b_Yard_hasOperand 1 2 0 0 := C
  have P : cy_P G F (some .boolean) post 0 0 := P
  show WM G F 1 0 0 0 [(0, .int op)] [] M
  refine wm_iload_n C d_Yard_hasOperand_0 rfl (j := 0) rfl ?_
  refine wm_callS (d2 := 1) (mc := 0) (ms := 0) C mo_Yard_operandMost ml_Yard_130 [.int op] [] rfl rfl (by decide) (Nat.le_of_ble_eq_true rfl) (Nat.le_refl _) (Nat.le_refl _) d_Yard_hasOperand_1 (cy_ki ?_)
  refine c_Yard_operandMost hE hR  _ ⟨_, rfl, ?_⟩
  refine wm_iconst (v := -1) C d_Yard_hasOperand_4 (by decide) ?_
  refine wm_icmp_eq (tgt := 12) C d_Yard_hasOperand_5 (by decide) (fun (h_5 : (cy_Yard_operandMost op) = (-1)) => ?_) (fun (h_5 : ¬ (cy_Yard_operandMost op) = (-1)) => ?_)
  · refine wm_iconst (v := 0) C d_Yard_hasOperand_12 (by decide) ?_
    refine wm_zret C P rfl d_Yard_hasOperand_13 ?_
    have e : cy_Yard_hasOperand op = 0 := by rw [cy_Yard_hasOperand, if_pos h_5]
    rw [e] at h
    exact h
  · refine wm_iconst (v := 1) C d_Yard_hasOperand_8 (by decide) ?_
    refine wm_goto (tgt := 13) C d_Yard_hasOperand_9 (by decide) ?_
    refine wm_zret C P rfl d_Yard_hasOperand_13 ?_
    have e : cy_Yard_hasOperand op = 1 := by rw [cy_Yard_hasOperand, if_neg h_5]
    rw [e] at h
    exact h
def cy_Yard_takes (op : Int32) : Int32 :=
  if op < 0 then
    0
  else
    if (nI 28) ≤ op then
      0
    else
      cy_TK op.toNatClampNeg
set_option maxHeartbeats 4000000 in
theorem c_Yard_takes {G : cy_G} {E : cy_E} {s : cy_S} {M : cy_Hp} {post : Option Value → cy_Hp → Prop} (hE : cy_Eo G E) (hR : cy_R E s M)  (op : Int32) (h : post (some (.int (cy_Yard_takes op))) M) : cy_Ct G 0 m_Yard_takes [.int op] M 0 0 post := by
  refine cy_Ct.of (by decide) (Nat.le_of_ble_eq_true rfl) ?_
  intro F C P _
  have C : cy_C G F R_Yard b_Yard_takes 1 0 0 0 := C
  have P : cy_P G F (some .int) post 0 0 := P
  show WM G F 1 0 0 0 [(0, .int op)] [] M
  refine wm_iload_n C d_Yard_takes_0 rfl (j := 0) rfl ?_
  refine wm_if_lt (tgt := 20) C d_Yard_takes_1 (by decide) (fun (h_1 : op < 0) => ?_) (fun (h_1 : ¬ op < 0) => ?_)
  · refine wm_iconst (v := 0) C d_Yard_takes_20 (by decide) ?_
    refine wm_iret C P d_Yard_takes_21 ?_
    have e : cy_Yard_takes op = 0 := by rw [cy_Yard_takes, if_pos h_1]
    rw [e] at h
    exact h
  · refine wm_iload_n C d_Yard_takes_4 rfl (j := 0) rfl ?_
    refine wm_gets (j := 1) C rfl fl_Yard_133 d_Yard_takes_5 ?_
    refine wm_tlen (j := 1) C rfl d_Yard_takes_8 ?_
    refine wm_icmp_ge (tgt := 20) C d_Yard_takes_9 (by decide) (fun (h_9 : (nI 28) ≤ op) => ?_) (fun (h_9 : ¬ (nI 28) ≤ op) => ?_)
    · refine wm_iconst (v := 0) C d_Yard_takes_20 (by decide) ?_
      refine wm_iret C P d_Yard_takes_21 ?_
      have e : cy_Yard_takes op = 0 := by rw [cy_Yard_takes, if_neg h_1, if_pos h_9]
      rw [e] at h
      exact h
    · refine wm_gets (j := 1) C rfl fl_Yard_133 d_Yard_takes_12 ?_
      refine wm_iload_n C d_Yard_takes_15 rfl (j := 0) rfl ?_
      refine wm_getsN (j := 1) C rfl (cy_inOf (n := 28) (cap := 28) h_1 h_9 (Nat.le_refl _) (by decide)) rfl d_Yard_takes_16 ?_
      refine wm_goto (tgt := 21) C d_Yard_takes_17 (by decide) ?_
      refine wm_iret C P d_Yard_takes_21 ?_
      have e : cy_Yard_takes op = cy_TK op.toNatClampNeg := by rw [cy_Yard_takes, if_neg h_1, if_neg h_9]
      rw [e] at h
      exact h
def cy_Yard_gives (op : Int32) : Int32 :=
  if op < 0 then
    0
  else
    if (nI 28) ≤ op then
      0
    else
      cy_GV op.toNatClampNeg
set_option maxHeartbeats 4000000 in
theorem c_Yard_gives {G : cy_G} {E : cy_E} {s : cy_S} {M : cy_Hp} {post : Option Value → cy_Hp → Prop} (hE : cy_Eo G E) (hR : cy_R E s M)  (op : Int32) (h : post (some (.int (cy_Yard_gives op))) M) : cy_Ct G 0 m_Yard_gives [.int op] M 0 0 post := by
  refine cy_Ct.of (by decide) (Nat.le_of_ble_eq_true rfl) ?_
  intro F C P _
  have C : cy_C G F R_Yard b_Yard_gives 1 0 0 0 := C
  have P : cy_P G F (some .int) post 0 0 := P
  show WM G F 1 0 0 0 [(0, .int op)] [] M
  refine wm_iload_n C d_Yard_gives_0 rfl (j := 0) rfl ?_
  refine wm_if_lt (tgt := 20) C d_Yard_gives_1 (by decide) (fun (h_1 : op < 0) => ?_) (fun (h_1 : ¬ op < 0) => ?_)
  · refine wm_iconst (v := 0) C d_Yard_gives_20 (by decide) ?_
    refine wm_iret C P d_Yard_gives_21 ?_
    have e : cy_Yard_gives op = 0 := by rw [cy_Yard_gives, if_pos h_1]
    rw [e] at h
    exact h
  · refine wm_iload_n C d_Yard_gives_4 rfl (j := 0) rfl ?_
    refine wm_gets (j := 2) C rfl fl_Yard_136 d_Yard_gives_5 ?_
    refine wm_tlen (j := 2) C rfl d_Yard_gives_8 ?_
    refine wm_icmp_ge (tgt := 20) C d_Yard_gives_9 (by decide) (fun (h_9 : (nI 28) ≤ op) => ?_) (fun (h_9 : ¬ (nI 28) ≤ op) => ?_)
    · refine wm_iconst (v := 0) C d_Yard_gives_20 (by decide) ?_
      refine wm_iret C P d_Yard_gives_21 ?_
      have e : cy_Yard_gives op = 0 := by rw [cy_Yard_gives, if_neg h_1, if_pos h_9]
      rw [e] at h
      exact h
    · refine wm_gets (j := 2) C rfl fl_Yard_136 d_Yard_gives_12 ?_
      refine wm_iload_n C d_Yard_gives_15 rfl (j := 0) rfl ?_
      refine wm_getsN (j := 2) C rfl (cy_inOf (n := 28) (cap := 28) h_1 h_9 (Nat.le_refl _) (by decide)) rfl d_Yard_gives_16 ?_
      refine wm_goto (tgt := 21) C d_Yard_gives_17 (by decide) ?_
      refine wm_iret C P d_Yard_gives_21 ?_
      have e : cy_Yard_gives op = cy_GV op.toNatClampNeg := by rw [cy_Yard_gives, if_neg h_1, if_neg h_9]
      rw [e] at h
      exact h
def cy_Yard_isEnding (op : Int32) : Int32 :=
  if op = 22 then
    1
  else
    if op = 23 then
      1
    else
      if op = 24 then
        1
      else
        0
set_option maxHeartbeats 4000000 in
theorem c_Yard_isEnding {G : cy_G} {E : cy_E} {s : cy_S} {M : cy_Hp} {post : Option Value → cy_Hp → Prop} (hE : cy_Eo G E) (hR : cy_R E s M)  (op : Int32) (h : post (some (.int (cy_Yard_isEnding op))) M) : cy_Ct G 0 m_Yard_isEnding [.int op] M 0 0 post := by
  refine cy_Ct.of (by decide) (Nat.le_of_ble_eq_true rfl) ?_
  intro F C P _
  have C : cy_C G F R_Yard b_Yard_isEnding 1 0 0 0 := C
  have P : cy_P G F (some .boolean) post 0 0 := P
  show WM G F 1 0 0 0 [(0, .int op)] [] M
  refine wm_iload_n C d_Yard_isEnding_0 rfl (j := 0) rfl ?_
  refine wm_bipush (v := 22) C d_Yard_isEnding_1 (by decide) ?_
  refine wm_icmp_eq (tgt := 18) C d_Yard_isEnding_3 (by decide) (fun (h_3 : op = 22) => ?_) (fun (h_3 : ¬ op = 22) => ?_)
  · refine wm_iconst (v := 1) C d_Yard_isEnding_18 (by decide) ?_
    refine wm_goto (tgt := 23) C d_Yard_isEnding_19 (by decide) ?_
    refine wm_zret C P rfl d_Yard_isEnding_23 ?_
    have e : cy_Yard_isEnding op = 1 := by rw [cy_Yard_isEnding, if_pos h_3]
    rw [e] at h
    exact h
  · refine wm_iload_n C d_Yard_isEnding_6 rfl (j := 0) rfl ?_
    refine wm_bipush (v := 23) C d_Yard_isEnding_7 (by decide) ?_
    refine wm_icmp_eq (tgt := 18) C d_Yard_isEnding_9 (by decide) (fun (h_9 : op = 23) => ?_) (fun (h_9 : ¬ op = 23) => ?_)
    · refine wm_iconst (v := 1) C d_Yard_isEnding_18 (by decide) ?_
      refine wm_goto (tgt := 23) C d_Yard_isEnding_19 (by decide) ?_
      refine wm_zret C P rfl d_Yard_isEnding_23 ?_
      have e : cy_Yard_isEnding op = 1 := by rw [cy_Yard_isEnding, if_neg h_3, if_pos h_9]
      rw [e] at h
      exact h
    · refine wm_iload_n C d_Yard_isEnding_12 rfl (j := 0) rfl ?_
      refine wm_bipush (v := 24) C d_Yard_isEnding_13 (by decide) ?_
      refine wm_icmp_ne (tgt := 22) C d_Yard_isEnding_15 (by decide) (fun (h_15 : ¬ op = 24) => ?_) (fun (h_15 : op = 24) => ?_)
      · refine wm_iconst (v := 0) C d_Yard_isEnding_22 (by decide) ?_
        refine wm_zret C P rfl d_Yard_isEnding_23 ?_
        have e : cy_Yard_isEnding op = 0 := by rw [cy_Yard_isEnding, if_neg h_3, if_neg h_9, if_neg h_15]
        rw [e] at h
        exact h
      · refine wm_iconst (v := 1) C d_Yard_isEnding_18 (by decide) ?_
        refine wm_goto (tgt := 23) C d_Yard_isEnding_19 (by decide) ?_
        refine wm_zret C P rfl d_Yard_isEnding_23 ?_
        have e : cy_Yard_isEnding op = 1 := by rw [cy_Yard_isEnding, if_neg h_3, if_neg h_9, if_pos h_15]
        rw [e] at h
        exact h
def cy_Yard_isJump (op : Int32) : Int32 :=
  if op = 16 then
    1
  else
    if op = 17 then
      1
    else
      if op = 18 then
        1
      else
        0
set_option maxHeartbeats 4000000 in
theorem c_Yard_isJump {G : cy_G} {E : cy_E} {s : cy_S} {M : cy_Hp} {post : Option Value → cy_Hp → Prop} (hE : cy_Eo G E) (hR : cy_R E s M)  (op : Int32) (h : post (some (.int (cy_Yard_isJump op))) M) : cy_Ct G 0 m_Yard_isJump [.int op] M 0 0 post := by
  refine cy_Ct.of (by decide) (Nat.le_of_ble_eq_true rfl) ?_
  intro F C P _
  have C : cy_C G F R_Yard b_Yard_isJump 1 0 0 0 := C
  have P : cy_P G F (some .boolean) post 0 0 := P
  show WM G F 1 0 0 0 [(0, .int op)] [] M
  refine wm_iload_n C d_Yard_isJump_0 rfl (j := 0) rfl ?_
  refine wm_bipush (v := 16) C d_Yard_isJump_1 (by decide) ?_
  refine wm_icmp_eq (tgt := 18) C d_Yard_isJump_3 (by decide) (fun (h_3 : op = 16) => ?_) (fun (h_3 : ¬ op = 16) => ?_)
  · refine wm_iconst (v := 1) C d_Yard_isJump_18 (by decide) ?_
    refine wm_goto (tgt := 23) C d_Yard_isJump_19 (by decide) ?_
    refine wm_zret C P rfl d_Yard_isJump_23 ?_
    have e : cy_Yard_isJump op = 1 := by rw [cy_Yard_isJump, if_pos h_3]
    rw [e] at h
    exact h
  · refine wm_iload_n C d_Yard_isJump_6 rfl (j := 0) rfl ?_
    refine wm_bipush (v := 17) C d_Yard_isJump_7 (by decide) ?_
    refine wm_icmp_eq (tgt := 18) C d_Yard_isJump_9 (by decide) (fun (h_9 : op = 17) => ?_) (fun (h_9 : ¬ op = 17) => ?_)
    · refine wm_iconst (v := 1) C d_Yard_isJump_18 (by decide) ?_
      refine wm_goto (tgt := 23) C d_Yard_isJump_19 (by decide) ?_
      refine wm_zret C P rfl d_Yard_isJump_23 ?_
      have e : cy_Yard_isJump op = 1 := by rw [cy_Yard_isJump, if_neg h_3, if_pos h_9]
      rw [e] at h
      exact h
    · refine wm_iload_n C d_Yard_isJump_12 rfl (j := 0) rfl ?_
      refine wm_bipush (v := 18) C d_Yard_isJump_13 (by decide) ?_
      refine wm_icmp_ne (tgt := 22) C d_Yard_isJump_15 (by decide) (fun (h_15 : ¬ op = 18) => ?_) (fun (h_15 : op = 18) => ?_)
      · refine wm_iconst (v := 0) C d_Yard_isJump_22 (by decide) ?_
        refine wm_zret C P rfl d_Yard_isJump_23 ?_
        have e : cy_Yard_isJump op = 0 := by rw [cy_Yard_isJump, if_neg h_3, if_neg h_9, if_neg h_15]
        rw [e] at h
        exact h
      · refine wm_iconst (v := 1) C d_Yard_isJump_18 (by decide) ?_
        refine wm_goto (tgt := 23) C d_Yard_isJump_19 (by decide) ?_
        refine wm_zret C P rfl d_Yard_isJump_23 ?_
        have e : cy_Yard_isJump op = 1 := by rw [cy_Yard_isJump, if_neg h_3, if_neg h_9, if_pos h_15]
        rw [e] at h
        exact h
def cy_Code_isTaken (s : cy_S) (k : Nat) : Int32 :=
  if (nI (s.1 (6 + 4 * k)).length) ≤ 0 then
    0
  else
    1
set_option maxHeartbeats 4000000 in
theorem c_Code_isTaken {G : cy_G} {E : cy_E} {s : cy_S} {M : cy_Hp} {post : Option Value → cy_Hp → Prop} (hE : cy_Eo G E) (hR : cy_R E s M) {k : Nat} (hk : k < 9)  (h : post (some (.int (cy_Code_isTaken s k))) M) : cy_Ct G 0 m_Code_isTaken [.ref (E.2.2.1 (116 + k))] M 0 0 post := by
  refine cy_Ct.of (by decide) (Nat.le_of_ble_eq_true rfl) ?_
  intro F C P _
  have C : cy_C G F R_Code b_Code_isTaken 1 0 0 0 := C
  have P : cy_P G F (some .boolean) post 0 0 := P
  show WM G F 1 0 0 0 [(0, .ref (E.2.2.1 (116 + k)))] [] M
  refine wm_aload_n C d_Code_isTaken_0 rfl (j := 0) rfl ?_
  refine wm_get C co_Code (rp_code hR hk) 1 (by decide) fl_Code_20 rfl d_Code_isTaken_1 ?_
  refine wm_getN C co_Row (rp_row hR (rb6 hk)) 1 (by decide) fl_Code_33 rfl d_Code_isTaken_4 ?_
  refine wm_if_le (tgt := 14) C d_Code_isTaken_7 (by decide) (fun (h_7 : (nI (s.1 (6 + 4 * k)).length) ≤ 0) => ?_) (fun (h_7 : ¬ (nI (s.1 (6 + 4 * k)).length) ≤ 0) => ?_)
  · refine wm_iconst (v := 0) C d_Code_isTaken_14 (by decide) ?_
    refine wm_zret C P rfl d_Code_isTaken_15 ?_
    have e : cy_Code_isTaken s k = 0 := by rw [cy_Code_isTaken, if_pos h_7]
    rw [e] at h
    exact h
  · refine wm_iconst (v := 1) C d_Code_isTaken_10 (by decide) ?_
    refine wm_goto (tgt := 15) C d_Code_isTaken_11 (by decide) ?_
    refine wm_zret C P rfl d_Code_isTaken_15 ?_
    have e : cy_Code_isTaken s k = 1 := by rw [cy_Code_isTaken, if_neg h_7]
    rw [e] at h
    exact h
def cy_Frame_nextByte (s : cy_S) (j : Nat) : Int32 × cy_S :=
  (cy_rat s (6 + 4 * ((s.2.1 j).1)) ((s.2.1 j).2) 0, (cy_sf_place s j (((s.2.1 j).2) + 1)))
set_option maxHeartbeats 4000000 in
theorem c_Frame_nextByte {G : cy_G} {E : cy_E} {s : cy_S} {M : cy_Hp} {post : Option Value → cy_Hp → Prop} (hE : cy_Eo G E) (hR : cy_R E s M) {j : Nat} (hj : j < 8)  (h : ∀ M', cy_R E (cy_Frame_nextByte s j).2 M' → post (some (.int (cy_Frame_nextByte s j).1)) M') : cy_Ct G 1 m_Frame_nextByte [.ref (E.2.2.1 (125 + j))] M 0 0 post := by
  refine cy_Ct.of (by decide) (Nat.le_of_ble_eq_true rfl) ?_
  intro F C P _
  have C : cy_C G F R_Frame b_Frame_nextByte 2 1 0 0 := C
  have P : cy_P G F (some .int) post 0 0 := P
  show WM G F 2 0 0 0 [(0, .ref (E.2.2.1 (125 + j)))] [] M
  refine wm_aload_n C d_Frame_nextByte_0 rfl (j := 0) rfl ?_
  refine wm_get C co_Frame (rp_frame hR hj) 5 (by decide) fl_Frame_31 rfl d_Frame_nextByte_1 ?_
  refine wm_getN C co_Code (rp_code hR (rp_fc (s := s) hR hj)) 1 (by decide) fl_Frame_35 rfl d_Frame_nextByte_4 ?_
  refine wm_aload_n C d_Frame_nextByte_7 rfl (j := 0) rfl ?_
  refine wm_get C co_Frame (rp_frame hR hj) 6 (by decide) fl_Frame_44 rfl d_Frame_nextByte_8 ?_
  refine wm_iconst (v := 0) C d_Frame_nextByte_11 (by decide) ?_
  refine wm_callVN (d2 := 0) (mc := 0) (ms := 0) C mo_Row_at co_Row ml_Frame_40 [.int ((s.2.1 j).2), .int 0] [] rfl (rp_row hR (rb6 (rp_fc (s := s) hR hj))) rfl (by decide) (Nat.le_of_ble_eq_true rfl) (Nat.le_refl _) (Nat.le_refl _) d_Frame_nextByte_12 (cy_ki ?_)
  refine c_at hE hR (rb6 (rp_fc (s := s) hR hj)) _ _ ⟨_, rfl, ?_⟩
  refine wm_istore_n (lv' := [(1, .int (cy_rat s (6 + 4 * ((s.2.1 j).1)) ((s.2.1 j).2) 0)), (0, .ref (E.2.2.1 (125 + j)))]) C d_Frame_nextByte_15 rfl (by decide) rfl ?_
  refine wm_aload_n C d_Frame_nextByte_16 rfl (j := 1) rfl ?_
  refine wm_dup C d_Frame_nextByte_17 rfl ?_
  refine wm_get C co_Frame (rp_frame hR hj) 6 (by decide) fl_Frame_44 rfl d_Frame_nextByte_18 ?_
  refine wm_iconst (v := 1) C d_Frame_nextByte_21 (by decide) ?_
  refine wm_iadd C d_Frame_nextByte_22 ?_
  refine wm_put C co_Frame (rp_frame hR hj) 6 (by decide) fl_Frame_44 rfl rfl rfl (Nat.le_of_ble_eq_true rfl) d_Frame_nextByte_23 ?_
  refine wm_gen (rp_p_place hE hR hj (((s.2.1 j).2) + 1)) (fun M1 hR1 => ?_)
  refine wm_iload_n C d_Frame_nextByte_26 rfl (j := 0) rfl ?_
  refine wm_iret C P d_Frame_nextByte_27 ?_
  have e : cy_Frame_nextByte s j = (cy_rat s (6 + 4 * ((s.2.1 j).1)) ((s.2.1 j).2) 0, (cy_sf_place s j (((s.2.1 j).2) + 1))) := by rw [cy_Frame_nextByte]
  rw [e] at h
  exact h _ hR1
def cy_Frame_enter (s : cy_S) (j : Nat) (k : Nat) (b : Int32) : cy_S :=
  (cy_rfill (cy_rcut (cy_sf_place (cy_sf_code s j k) j (cy_rat (cy_sf_code s j k) (6 + 4 * k) b 0)) (42 + 2 * j) 0) (43 + 2 * j) 8 0)
set_option maxHeartbeats 4000000 in
theorem c_Frame_enter {G : cy_G} {E : cy_E} {s : cy_S} {M : cy_Hp} {post : Option Value → cy_Hp → Prop} (hE : cy_Eo G E) (hR : cy_R E s M) {j : Nat} (hj : j < 8) {k : Nat} (hk : k < 9) (b : Int32) (h : ∀ M', cy_R E (cy_Frame_enter s j k b) M' → post none M') : cy_Ct G 2 m_Frame_enter [.ref (E.2.2.1 (125 + j)), .ref (E.2.2.1 (116 + k)), .int b] M 0 0 post := by
  refine cy_Ct.of (by decide) (Nat.le_of_ble_eq_true rfl) ?_
  intro F C P _
  have C : cy_C G F R_Frame b_Frame_enter 3 2 0 0 := C
  have P : cy_P G F none post 0 0 := P
  show WM G F 3 0 0 0 [(0, .ref (E.2.2.1 (125 + j))), (1, .ref (E.2.2.1 (116 + k))), (2, .int b)] [] M
  refine wm_aload_n C d_Frame_enter_0 rfl (j := 0) rfl ?_
  refine wm_aload_n C d_Frame_enter_1 rfl (j := 1) rfl ?_
  refine wm_put C co_Frame (rp_frame hR hj) 5 (by decide) fl_Frame_31 rfl rfl rfl (Nat.le_of_ble_eq_true rfl) d_Frame_enter_2 ?_
  refine wm_gen (rp_p_code hE hR hj hk) (fun M1 hR1 => ?_)
  refine wm_aload_n C d_Frame_enter_5 rfl (j := 0) rfl ?_
  refine wm_aload_n C d_Frame_enter_6 rfl (j := 1) rfl ?_
  refine wm_getN C co_Code (rp_code hR1 hk) 1 (by decide) fl_Frame_35 rfl d_Frame_enter_7 ?_
  refine wm_iload_n C d_Frame_enter_10 rfl (j := 2) rfl ?_
  refine wm_iconst (v := 0) C d_Frame_enter_11 (by decide) ?_
  refine wm_callVN (d2 := 0) (mc := 0) (ms := 0) C mo_Row_at co_Row ml_Frame_40 [.int b, .int 0] [.ref (E.2.2.1 (125 + j))] rfl (rp_row hR1 (rb6 hk)) rfl (by decide) (Nat.le_of_ble_eq_true rfl) (Nat.le_refl _) (Nat.le_refl _) d_Frame_enter_12 (cy_ki ?_)
  refine c_at hE hR1 (rb6 hk) _ _ ⟨_, rfl, ?_⟩
  refine wm_put C co_Frame (rp_frame hR1 hj) 6 (by decide) fl_Frame_44 rfl rfl rfl (Nat.le_of_ble_eq_true rfl) d_Frame_enter_15 ?_
  refine wm_gen (rp_p_place hE hR1 hj (cy_rat (cy_sf_code s j k) (6 + 4 * k) b 0)) (fun M2 hR2 => ?_)
  refine wm_aload_n C d_Frame_enter_18 rfl (j := 0) rfl ?_
  refine wm_get C co_Frame (rp_frame hR2 hj) 3 (by decide) fl_Frame_24 rfl d_Frame_enter_19 ?_
  refine wm_iconst (v := 0) C d_Frame_enter_22 (by decide) ?_
  refine wm_callVN (d2 := 1) (mc := 0) (ms := 0) C mo_Row_shorten co_Row ml_Frame_47 [.int 0] [] rfl (rp_row hR2 (rb42 hj)) rfl (by decide) (Nat.le_of_ble_eq_true rfl) (Nat.le_refl _) (Nat.le_refl _) d_Frame_enter_23 (cy_kv ?_)
  refine c_cut hE hR2 (rb42 hj) _ (fun M3 hR3 => ⟨rfl, ?_⟩)
  refine wm_aload_n C d_Frame_enter_26 rfl (j := 0) rfl ?_
  refine wm_get C co_Frame (rp_frame hR3 hj) 4 (by decide) fl_Frame_28 rfl d_Frame_enter_27 ?_
  refine wm_bipush (v := 8) C d_Frame_enter_30 (by decide) ?_
  refine wm_iconst (v := 0) C d_Frame_enter_32 (by decide) ?_
  refine wm_callVN (d2 := 1) (mc := 0) (ms := 0) C mo_Row_become co_Row ml_Frame_50 [.int 8, .int 0] [] rfl (rp_row hR3 (rb43 hj)) rfl (by decide) (Nat.le_of_ble_eq_true rfl) (Nat.le_refl _) (Nat.le_refl _) d_Frame_enter_33 (cy_kv ?_)
  refine c_fill hE hR3 (rb43 hj) _ _ (fun M4 hR4 => ⟨rfl, ?_⟩)
  refine wm_vret C P d_Frame_enter_36 ?_
  have e : cy_Frame_enter s j k b = (cy_rfill (cy_rcut (cy_sf_place (cy_sf_code s j k) j (cy_rat (cy_sf_code s j k) (6 + 4 * k) b 0)) (42 + 2 * j) 0) (43 + 2 * j) 8 0) := by rw [cy_Frame_enter]
  rw [e] at h
  exact h _ hR4
def cy_Run_isHeld (s : cy_S) : Int32 :=
  if s.2.2.1.2.1 = 0 then
    0
  else
    if s.2.2.1.2.2.1 = 1 then
      1
    else
      0
set_option maxHeartbeats 4000000 in
theorem c_Run_isHeld {G : cy_G} {E : cy_E} {s : cy_S} {M : cy_Hp} {post : Option Value → cy_Hp → Prop} (hE : cy_Eo G E) (hR : cy_R E s M)   (h : post (some (.int (cy_Run_isHeld s))) M) : cy_Ct G 0 m_Run_isHeld [.ref (E.2.2.1 136)] M 0 0 post := by
  refine cy_Ct.of (by decide) (Nat.le_of_ble_eq_true rfl) ?_
  intro F C P _
  have C : cy_C G F R_Run b_Run_isHeld 1 0 0 0 := C
  have P : cy_P G F (some .boolean) post 0 0 := P
  show WM G F 1 0 0 0 [(0, .ref (E.2.2.1 136))] [] M
  refine wm_aload_n C d_Run_isHeld_0 rfl (j := 0) rfl ?_
  refine wm_get C co_Run (rp_run hR) 5 (by decide) fl_Run_45 rfl d_Run_isHeld_1 ?_
  refine wm_if_eq (tgt := 19) C d_Run_isHeld_4 (by decide) (fun (h_4 : s.2.2.1.2.1 = 0) => ?_) (fun (h_4 : ¬ s.2.2.1.2.1 = 0) => ?_)
  · refine wm_iconst (v := 0) C d_Run_isHeld_19 (by decide) ?_
    refine wm_zret C P rfl d_Run_isHeld_20 ?_
    have e : cy_Run_isHeld s = 0 := by rw [cy_Run_isHeld, if_pos h_4]
    rw [e] at h
    exact h
  · refine wm_aload_n C d_Run_isHeld_7 rfl (j := 0) rfl ?_
    refine wm_get C co_Run (rp_run hR) 6 (by decide) fl_Run_49 rfl d_Run_isHeld_8 ?_
    refine wm_iconst (v := 1) C d_Run_isHeld_11 (by decide) ?_
    refine wm_icmp_ne (tgt := 19) C d_Run_isHeld_12 (by decide) (fun (h_12 : ¬ s.2.2.1.2.2.1 = 1) => ?_) (fun (h_12 : s.2.2.1.2.2.1 = 1) => ?_)
    · refine wm_iconst (v := 0) C d_Run_isHeld_19 (by decide) ?_
      refine wm_zret C P rfl d_Run_isHeld_20 ?_
      have e : cy_Run_isHeld s = 0 := by rw [cy_Run_isHeld, if_neg h_4, if_neg h_12]
      rw [e] at h
      exact h
    · refine wm_iconst (v := 1) C d_Run_isHeld_15 (by decide) ?_
      refine wm_goto (tgt := 20) C d_Run_isHeld_16 (by decide) ?_
      refine wm_zret C P rfl d_Run_isHeld_20 ?_
      have e : cy_Run_isHeld s = 1 := by rw [cy_Run_isHeld, if_neg h_4, if_pos h_12]
      rw [e] at h
      exact h
def cy_Run_fail (s : cy_S) (why : Int32) : cy_S :=
  (cy_s_reason (cy_s_status s 2) why)
set_option maxHeartbeats 4000000 in
theorem c_Run_fail {G : cy_G} {E : cy_E} {s : cy_S} {M : cy_Hp} {post : Option Value → cy_Hp → Prop} (hE : cy_Eo G E) (hR : cy_R E s M)  (why : Int32) (h : ∀ M', cy_R E (cy_Run_fail s why) M' → post none M') : cy_Ct G 0 m_Run_fail [.ref (E.2.2.1 136), .int why] M 0 0 post := by
  refine cy_Ct.of (by decide) (Nat.le_of_ble_eq_true rfl) ?_
  intro F C P _
  have C : cy_C G F R_Run b_Run_fail 2 0 0 0 := C
  have P : cy_P G F none post 0 0 := P
  show WM G F 2 0 0 0 [(0, .ref (E.2.2.1 136)), (1, .int why)] [] M
  refine wm_aload_n C d_Run_fail_0 rfl (j := 0) rfl ?_
  refine wm_iconst (v := 2) C d_Run_fail_1 (by decide) ?_
  refine wm_put C co_Run (rp_run hR) 6 (by decide) fl_Run_49 rfl rfl rfl (Nat.le_of_ble_eq_true rfl) d_Run_fail_2 ?_
  refine wm_gen (rp_p_status hE hR 2) (fun M1 hR1 => ?_)
  refine wm_aload_n C d_Run_fail_5 rfl (j := 0) rfl ?_
  refine wm_iload_n C d_Run_fail_6 rfl (j := 1) rfl ?_
  refine wm_put C co_Run (rp_run hR1) 8 (by decide) fl_Run_79 rfl rfl rfl (Nat.le_of_ble_eq_true rfl) d_Run_fail_7 ?_
  refine wm_gen (rp_p_reason hE hR1 why) (fun M2 hR2 => ?_)
  refine wm_vret C P d_Run_fail_10 ?_
  have e : cy_Run_fail s why = (cy_s_reason (cy_s_status s 2) why) := by rw [cy_Run_fail]
  rw [e] at h
  exact h _ hR2
def cy_Run_combined (op : Int32) (a : Int32) (b : Int32) : Int32 :=
  if op = 5 then
    a + b
  else
    if op = 6 then
      a - b
    else
      if op = 7 then
        a * b
      else
        if op = 8 then
          a &&& b
        else
          if op = 9 then
            a ||| b
          else
            if op = 10 then
              a ^^^ b
            else
              if op = 11 then
                a <<< (b &&& 31)
              else
                a >>> (b &&& 31)
set_option maxHeartbeats 4000000 in
theorem c_Run_combined {G : cy_G} {E : cy_E} {s : cy_S} {M : cy_Hp} {post : Option Value → cy_Hp → Prop} (hE : cy_Eo G E) (hR : cy_R E s M)  (op : Int32) (a : Int32) (b : Int32) (h : post (some (.int (cy_Run_combined op a b))) M) : cy_Ct G 0 m_Run_combined [.int op, .int a, .int b] M 0 0 post := by
  refine cy_Ct.of (by decide) (Nat.le_of_ble_eq_true rfl) ?_
  intro F C P _
  have C : cy_C G F R_Run b_Run_combined 3 0 0 0 := C
  have P : cy_P G F (some .int) post 0 0 := P
  show WM G F 3 0 0 0 [(0, .int op), (1, .int a), (2, .int b)] [] M
  refine wm_iload_n C d_Run_combined_0 rfl (j := 0) rfl ?_
  by_cases e_1_5 : op = 5
  · refine wm_tableIn (tgt := 44) C d_Run_combined_1 (by rw [e_1_5]; decide) (by rw [e_1_5]; decide) (by rw [e_1_5]; rfl) (by decide) ?_
    refine wm_iload_n C d_Run_combined_44 rfl (j := 1) rfl ?_
    refine wm_iload_n C d_Run_combined_45 rfl (j := 2) rfl ?_
    refine wm_iadd C d_Run_combined_46 ?_
    refine wm_iret C P d_Run_combined_47 ?_
    have e : cy_Run_combined op a b = a + b := by rw [cy_Run_combined, if_pos e_1_5]
    rw [e] at h
    exact h
  by_cases e_1_6 : op = 6
  · refine wm_tableIn (tgt := 48) C d_Run_combined_1 (by rw [e_1_6]; decide) (by rw [e_1_6]; decide) (by rw [e_1_6]; rfl) (by decide) ?_
    refine wm_iload_n C d_Run_combined_48 rfl (j := 1) rfl ?_
    refine wm_iload_n C d_Run_combined_49 rfl (j := 2) rfl ?_
    refine wm_isub C d_Run_combined_50 ?_
    refine wm_iret C P d_Run_combined_51 ?_
    have e : cy_Run_combined op a b = a - b := by rw [cy_Run_combined, if_neg e_1_5, if_pos e_1_6]
    rw [e] at h
    exact h
  by_cases e_1_7 : op = 7
  · refine wm_tableIn (tgt := 52) C d_Run_combined_1 (by rw [e_1_7]; decide) (by rw [e_1_7]; decide) (by rw [e_1_7]; rfl) (by decide) ?_
    refine wm_iload_n C d_Run_combined_52 rfl (j := 1) rfl ?_
    refine wm_iload_n C d_Run_combined_53 rfl (j := 2) rfl ?_
    refine wm_imul C d_Run_combined_54 ?_
    refine wm_iret C P d_Run_combined_55 ?_
    have e : cy_Run_combined op a b = a * b := by rw [cy_Run_combined, if_neg e_1_5, if_neg e_1_6, if_pos e_1_7]
    rw [e] at h
    exact h
  by_cases e_1_8 : op = 8
  · refine wm_tableIn (tgt := 56) C d_Run_combined_1 (by rw [e_1_8]; decide) (by rw [e_1_8]; decide) (by rw [e_1_8]; rfl) (by decide) ?_
    refine wm_iload_n C d_Run_combined_56 rfl (j := 1) rfl ?_
    refine wm_iload_n C d_Run_combined_57 rfl (j := 2) rfl ?_
    refine wm_iand C d_Run_combined_58 ?_
    refine wm_iret C P d_Run_combined_59 ?_
    have e : cy_Run_combined op a b = a &&& b := by rw [cy_Run_combined, if_neg e_1_5, if_neg e_1_6, if_neg e_1_7, if_pos e_1_8]
    rw [e] at h
    exact h
  by_cases e_1_9 : op = 9
  · refine wm_tableIn (tgt := 60) C d_Run_combined_1 (by rw [e_1_9]; decide) (by rw [e_1_9]; decide) (by rw [e_1_9]; rfl) (by decide) ?_
    refine wm_iload_n C d_Run_combined_60 rfl (j := 1) rfl ?_
    refine wm_iload_n C d_Run_combined_61 rfl (j := 2) rfl ?_
    refine wm_ior C d_Run_combined_62 ?_
    refine wm_iret C P d_Run_combined_63 ?_
    have e : cy_Run_combined op a b = a ||| b := by rw [cy_Run_combined, if_neg e_1_5, if_neg e_1_6, if_neg e_1_7, if_neg e_1_8, if_pos e_1_9]
    rw [e] at h
    exact h
  by_cases e_1_10 : op = 10
  · refine wm_tableIn (tgt := 64) C d_Run_combined_1 (by rw [e_1_10]; decide) (by rw [e_1_10]; decide) (by rw [e_1_10]; rfl) (by decide) ?_
    refine wm_iload_n C d_Run_combined_64 rfl (j := 1) rfl ?_
    refine wm_iload_n C d_Run_combined_65 rfl (j := 2) rfl ?_
    refine wm_ixor C d_Run_combined_66 ?_
    refine wm_iret C P d_Run_combined_67 ?_
    have e : cy_Run_combined op a b = a ^^^ b := by rw [cy_Run_combined, if_neg e_1_5, if_neg e_1_6, if_neg e_1_7, if_neg e_1_8, if_neg e_1_9, if_pos e_1_10]
    rw [e] at h
    exact h
  by_cases e_1_11 : op = 11
  · refine wm_tableIn (tgt := 68) C d_Run_combined_1 (by rw [e_1_11]; decide) (by rw [e_1_11]; decide) (by rw [e_1_11]; rfl) (by decide) ?_
    refine wm_iload_n C d_Run_combined_68 rfl (j := 1) rfl ?_
    refine wm_iload_n C d_Run_combined_69 rfl (j := 2) rfl ?_
    refine wm_ishl C d_Run_combined_70 ?_
    refine wm_iret C P d_Run_combined_71 ?_
    have e : cy_Run_combined op a b = a <<< (b &&& 31) := by rw [cy_Run_combined, if_neg e_1_5, if_neg e_1_6, if_neg e_1_7, if_neg e_1_8, if_neg e_1_9, if_neg e_1_10, if_pos e_1_11]
    rw [e] at h
    exact h
  · refine wm_tableOut (tgt := 72) C d_Run_combined_1 (by have n0 := lv_neT e_1_5 (a := 5) (by decide); have n1 := lv_neT e_1_6 (a := 6) (by decide); have n2 := lv_neT e_1_7 (a := 7) (by decide); have n3 := lv_neT e_1_8 (a := 8) (by decide); have n4 := lv_neT e_1_9 (a := 9) (by decide); have n5 := lv_neT e_1_10 (a := 10) (by decide); have n6 := lv_neT e_1_11 (a := 11) (by decide); omega) (by decide) ?_
    refine wm_iload_n C d_Run_combined_72 rfl (j := 1) rfl ?_
    refine wm_iload_n C d_Run_combined_73 rfl (j := 2) rfl ?_
    refine wm_ishr C d_Run_combined_74 ?_
    refine wm_iret C P d_Run_combined_75 ?_
    have e : cy_Run_combined op a b = a >>> (b &&& 31) := by rw [cy_Run_combined, if_neg e_1_5, if_neg e_1_6, if_neg e_1_7, if_neg e_1_8, if_neg e_1_9, if_neg e_1_10, if_neg e_1_11]
    rw [e] at h
    exact h
def cy_Survey_fault (number : Int32) (place : Int32) : Int32 :=
  ((-1000) * number) - place
set_option maxHeartbeats 4000000 in
theorem c_Survey_fault {G : cy_G} {E : cy_E} {s : cy_S} {M : cy_Hp} {post : Option Value → cy_Hp → Prop} (hE : cy_Eo G E) (hR : cy_R E s M)  (number : Int32) (place : Int32) (h : post (some (.int (cy_Survey_fault number place))) M) : cy_Ct G 0 m_Survey_fault [.int number, .int place] M 0 0 post := by
  refine cy_Ct.of (by decide) (Nat.le_of_ble_eq_true rfl) ?_
  intro F C P _
  have C : cy_C G F R_Survey b_Survey_fault 2 0 0 0 := C
  have P : cy_P G F (some .int) post 0 0 := P
  show WM G F 2 0 0 0 [(0, .int number), (1, .int place)] [] M
  refine wm_sipush (v := -1000) C d_Survey_fault_0 (by decide) ?_
  refine wm_iload_n C d_Survey_fault_3 rfl (j := 0) rfl ?_
  refine wm_imul C d_Survey_fault_4 ?_
  refine wm_iload_n C d_Survey_fault_5 rfl (j := 1) rfl ?_
  refine wm_isub C d_Survey_fault_6 ?_
  refine wm_iret C P d_Survey_fault_7 ?_
  have e : cy_Survey_fault number place = ((-1000) * number) - place := by rw [cy_Survey_fault]
  rw [e] at h
  exact h
def cy_Run_combine (s : cy_S) (op : Int32) : cy_S :=
  (cy_radd (cy_rdrop (cy_rdrop s (42 + 2 * s.2.2.1.1)) (42 + 2 * s.2.2.1.1)) (42 + 2 * s.2.2.1.1) (cy_Run_combined op (cy_rlast (cy_rdrop s (42 + 2 * s.2.2.1.1)) (42 + 2 * s.2.2.1.1)) (cy_rlast s (42 + 2 * s.2.2.1.1))))
set_option maxHeartbeats 4000000 in
theorem c_Run_combine {G : cy_G} {E : cy_E} {s : cy_S} {M : cy_Hp} {post : Option Value → cy_Hp → Prop} (hE : cy_Eo G E) (hR : cy_R E s M)  (op : Int32) (h : ∀ M', cy_R E (cy_Run_combine s op) M' → post none M') : cy_Ct G 1 m_Run_combine [.ref (E.2.2.1 136), .int op] M 0 0 post := by
  refine cy_Ct.of (by decide) (Nat.le_of_ble_eq_true rfl) ?_
  intro F C P _
  have C : cy_C G F R_Run b_Run_combine 4 1 0 0 := C
  have P : cy_P G F none post 0 0 := P
  show WM G F 4 0 0 0 [(0, .ref (E.2.2.1 136)), (1, .int op)] [] M
  refine wm_aload_n C d_Run_combine_0 rfl (j := 0) rfl ?_
  refine wm_get C co_Run (rp_run hR) 4 (by decide) fl_Run_39 rfl d_Run_combine_1 ?_
  refine wm_getN C co_Frame (rp_frame hR (rp_work (s := s) hR)) 3 (by decide) fl_Run_131 rfl d_Run_combine_4 ?_
  refine wm_callVN (d2 := 0) (mc := 0) (ms := 0) C mo_Row_takeLast co_Row ml_Run_144 [] [] rfl (rp_row hR (rb42 (rp_work (s := s) hR))) rfl (by decide) (Nat.le_of_ble_eq_true rfl) (Nat.le_refl _) (Nat.le_refl _) d_Run_combine_7 (cy_ki ?_)
  refine c_take hE hR (rb42 (rp_work (s := s) hR)) (fun M1 hR1 => ⟨_, rfl, ?_⟩)
  refine wm_istore_n (lv' := [(2, .int (cy_rlast s (42 + 2 * s.2.2.1.1))), (0, .ref (E.2.2.1 136)), (1, .int op)]) C d_Run_combine_10 rfl (by decide) rfl ?_
  refine wm_aload_n C d_Run_combine_11 rfl (j := 1) rfl ?_
  refine wm_get C co_Run (rp_run hR1) 4 (by decide) fl_Run_39 rfl d_Run_combine_12 ?_
  refine wm_getN C co_Frame (rp_frame hR1 (rp_work (s := s) hR)) 3 (by decide) fl_Run_131 rfl d_Run_combine_15 ?_
  refine wm_callVN (d2 := 0) (mc := 0) (ms := 0) C mo_Row_takeLast co_Row ml_Run_144 [] [] rfl (rp_row hR1 (rb42 (rp_work (s := s) hR))) rfl (by decide) (Nat.le_of_ble_eq_true rfl) (Nat.le_refl _) (Nat.le_refl _) d_Run_combine_18 (cy_ki ?_)
  refine c_take hE hR1 (rb42 (rp_work (s := s) hR)) (fun M2 hR2 => ⟨_, rfl, ?_⟩)
  refine wm_istore_n (lv' := [(3, .int (cy_rlast (cy_rdrop s (42 + 2 * s.2.2.1.1)) (42 + 2 * s.2.2.1.1))), (2, .int (cy_rlast s (42 + 2 * s.2.2.1.1))), (0, .ref (E.2.2.1 136)), (1, .int op)]) C d_Run_combine_21 rfl (by decide) rfl ?_
  refine wm_aload_n C d_Run_combine_22 rfl (j := 2) rfl ?_
  refine wm_get C co_Run (rp_run hR2) 4 (by decide) fl_Run_39 rfl d_Run_combine_23 ?_
  refine wm_getN C co_Frame (rp_frame hR2 (rp_work (s := s) hR)) 3 (by decide) fl_Run_131 rfl d_Run_combine_26 ?_
  refine wm_iload_n C d_Run_combine_29 rfl (j := 3) rfl ?_
  refine wm_iload_n C d_Run_combine_30 rfl (j := 0) rfl ?_
  refine wm_iload_n C d_Run_combine_31 rfl (j := 1) rfl ?_
  refine wm_callS (d2 := 0) (mc := 0) (ms := 0) C mo_Run_combined ml_Run_153 [.int op, .int (cy_rlast (cy_rdrop s (42 + 2 * s.2.2.1.1)) (42 + 2 * s.2.2.1.1)), .int (cy_rlast s (42 + 2 * s.2.2.1.1))] [.ref (E.2.2.1 (2 * (42 + 2 * s.2.2.1.1)))] rfl rfl (by decide) (Nat.le_of_ble_eq_true rfl) (Nat.le_refl _) (Nat.le_refl _) d_Run_combine_32 (cy_ki ?_)
  refine c_Run_combined hE hR2  _ _ _ ⟨_, rfl, ?_⟩
  refine wm_callVN (d2 := 0) (mc := 0) (ms := 0) C mo_Row_add co_Row ml_Run_134 [.int (cy_Run_combined op (cy_rlast (cy_rdrop s (42 + 2 * s.2.2.1.1)) (42 + 2 * s.2.2.1.1)) (cy_rlast s (42 + 2 * s.2.2.1.1)))] [] rfl (rp_row hR2 (rb42 (rp_work (s := s) hR))) rfl (by decide) (Nat.le_of_ble_eq_true rfl) (Nat.le_refl _) (Nat.le_refl _) d_Run_combine_35 (cy_kv ?_)
  refine c_add hE hR2 (rb42 (rp_work (s := s) hR)) _ (fun M3 hR3 => ⟨rfl, ?_⟩)
  refine wm_vret C P d_Run_combine_38 ?_
  have e : cy_Run_combine s op = (cy_radd (cy_rdrop (cy_rdrop s (42 + 2 * s.2.2.1.1)) (42 + 2 * s.2.2.1.1)) (42 + 2 * s.2.2.1.1) (cy_Run_combined op (cy_rlast (cy_rdrop s (42 + 2 * s.2.2.1.1)) (42 + 2 * s.2.2.1.1)) (cy_rlast s (42 + 2 * s.2.2.1.1)))) := by rw [cy_Run_combine]
  rw [e] at h
  exact h _ hR3
def cy_Run_move (s : cy_S) (op : Int32) (n : Int32) : cy_S :=
  if op = 0 then
    (cy_radd s (42 + 2 * s.2.2.1.1) n.toInt8.toInt32)
  else
    if op = 1 then
      (cy_radd s (42 + 2 * s.2.2.1.1) (cy_rat s (8 + 4 * ((s.2.1 s.2.2.1.1).1)) n 0))
    else
      if op = 2 then
        (cy_rput (cy_rdrop s (42 + 2 * s.2.2.1.1)) (8 + 4 * ((s.2.1 s.2.2.1.1).1)) n (cy_rlast s (42 + 2 * s.2.2.1.1)))
      else
        if op = 3 then
          (cy_radd s (42 + 2 * s.2.2.1.1) (cy_rat s (43 + 2 * s.2.2.1.1) n 0))
        else
          (cy_rput (cy_rdrop s (42 + 2 * s.2.2.1.1)) (43 + 2 * s.2.2.1.1) n (cy_rlast s (42 + 2 * s.2.2.1.1)))
set_option maxHeartbeats 4000000 in
theorem c_Run_move {G : cy_G} {E : cy_E} {s : cy_S} {M : cy_Hp} {post : Option Value → cy_Hp → Prop} (hE : cy_Eo G E) (hR : cy_R E s M)  (op : Int32) (n : Int32) (h : ∀ M', cy_R E (cy_Run_move s op n) M' → post none M') : cy_Ct G 1 m_Run_move [.ref (E.2.2.1 136), .int op, .int n] M 0 0 post := by
  refine cy_Ct.of (by decide) (Nat.le_of_ble_eq_true rfl) ?_
  intro F C P _
  have C : cy_C G F R_Run b_Run_move 4 1 0 0 := C
  have P : cy_P G F none post 0 0 := P
  show WM G F 4 0 0 0 [(0, .ref (E.2.2.1 136)), (1, .int op), (2, .int n)] [] M
  refine wm_aload_n C d_Run_move_0 rfl (j := 0) rfl ?_
  refine wm_get C co_Run (rp_run hR) 4 (by decide) fl_Run_39 rfl d_Run_move_1 ?_
  refine wm_getN C co_Frame (rp_frame hR (rp_work (s := s) hR)) 3 (by decide) fl_Run_131 rfl d_Run_move_4 ?_
  refine wm_astore_n (lv' := [(3, .ref (E.2.2.1 (2 * (42 + 2 * s.2.2.1.1)))), (0, .ref (E.2.2.1 136)), (1, .int op), (2, .int n)]) C d_Run_move_7 rfl (by decide) rfl ?_
  refine wm_iload_n C d_Run_move_8 rfl (j := 2) rfl ?_
  by_cases e_9_0 : op = 0
  · refine wm_tableIn (tgt := 40) C d_Run_move_9 (by rw [e_9_0]; decide) (by rw [e_9_0]; decide) (by rw [e_9_0]; rfl) (by decide) ?_
    refine wm_aload_n C d_Run_move_40 rfl (j := 0) rfl ?_
    refine wm_iload_n C d_Run_move_41 rfl (j := 3) rfl ?_
    refine wm_i2b C d_Run_move_42 rfl ?_
    refine wm_callVN (d2 := 0) (mc := 0) (ms := 0) C mo_Row_add co_Row ml_Run_134 [.int n.toInt8.toInt32] [] rfl (rp_row hR (rb42 (rp_work (s := s) hR))) rfl (by decide) (Nat.le_of_ble_eq_true rfl) (Nat.le_refl _) (Nat.le_refl _) d_Run_move_43 (cy_kv ?_)
    refine c_add hE hR (rb42 (rp_work (s := s) hR)) _ (fun M1 hR1 => ⟨rfl, ?_⟩)
    refine wm_goto (tgt := 126) C d_Run_move_46 (by decide) ?_
    refine wm_vret C P d_Run_move_126 ?_
    have e : cy_Run_move s op n = (cy_radd s (42 + 2 * s.2.2.1.1) n.toInt8.toInt32) := by rw [cy_Run_move, if_pos e_9_0]
    rw [e] at h
    exact h _ hR1
  by_cases e_9_1 : op = 1
  · refine wm_tableIn (tgt := 49) C d_Run_move_9 (by rw [e_9_1]; decide) (by rw [e_9_1]; decide) (by rw [e_9_1]; rfl) (by decide) ?_
    refine wm_aload_n C d_Run_move_49 rfl (j := 0) rfl ?_
    refine wm_aload_n C d_Run_move_50 rfl (j := 1) rfl ?_
    refine wm_get C co_Run (rp_run hR) 4 (by decide) fl_Run_39 rfl d_Run_move_51 ?_
    refine wm_getN C co_Frame (rp_frame hR (rp_work (s := s) hR)) 5 (by decide) fl_Run_91 rfl d_Run_move_54 ?_
    refine wm_getN C co_Code (rp_code hR (rp_fc (s := s) hR (rp_work (s := s) hR))) 3 (by decide) fl_Run_137 rfl d_Run_move_57 ?_
    refine wm_iload_n C d_Run_move_60 rfl (j := 3) rfl ?_
    refine wm_iconst (v := 0) C d_Run_move_61 (by decide) ?_
    refine wm_callVN (d2 := 0) (mc := 0) (ms := 0) C mo_Row_at co_Row ml_Run_140 [.int n, .int 0] [.ref (E.2.2.1 (2 * (42 + 2 * s.2.2.1.1)))] rfl (rp_row hR (rb8 (rp_fc (s := s) hR (rp_work (s := s) hR)))) rfl (by decide) (Nat.le_of_ble_eq_true rfl) (Nat.le_refl _) (Nat.le_refl _) d_Run_move_62 (cy_ki ?_)
    refine c_at hE hR (rb8 (rp_fc (s := s) hR (rp_work (s := s) hR))) _ _ ⟨_, rfl, ?_⟩
    refine wm_callVN (d2 := 0) (mc := 0) (ms := 0) C mo_Row_add co_Row ml_Run_134 [.int (cy_rat s (8 + 4 * ((s.2.1 s.2.2.1.1).1)) n 0)] [] rfl (rp_row hR (rb42 (rp_work (s := s) hR))) rfl (by decide) (Nat.le_of_ble_eq_true rfl) (Nat.le_refl _) (Nat.le_refl _) d_Run_move_65 (cy_kv ?_)
    refine c_add hE hR (rb42 (rp_work (s := s) hR)) _ (fun M2 hR2 => ⟨rfl, ?_⟩)
    refine wm_goto (tgt := 126) C d_Run_move_68 (by decide) ?_
    refine wm_vret C P d_Run_move_126 ?_
    have e : cy_Run_move s op n = (cy_radd s (42 + 2 * s.2.2.1.1) (cy_rat s (8 + 4 * ((s.2.1 s.2.2.1.1).1)) n 0)) := by rw [cy_Run_move, if_neg e_9_0, if_pos e_9_1]
    rw [e] at h
    exact h _ hR2
  by_cases e_9_2 : op = 2
  · refine wm_tableIn (tgt := 71) C d_Run_move_9 (by rw [e_9_2]; decide) (by rw [e_9_2]; decide) (by rw [e_9_2]; rfl) (by decide) ?_
    refine wm_aload_n C d_Run_move_71 rfl (j := 1) rfl ?_
    refine wm_get C co_Run (rp_run hR) 4 (by decide) fl_Run_39 rfl d_Run_move_72 ?_
    refine wm_getN C co_Frame (rp_frame hR (rp_work (s := s) hR)) 5 (by decide) fl_Run_91 rfl d_Run_move_75 ?_
    refine wm_getN C co_Code (rp_code hR (rp_fc (s := s) hR (rp_work (s := s) hR))) 3 (by decide) fl_Run_137 rfl d_Run_move_78 ?_
    refine wm_iload_n C d_Run_move_81 rfl (j := 3) rfl ?_
    refine wm_aload_n C d_Run_move_82 rfl (j := 0) rfl ?_
    refine wm_callVN (d2 := 0) (mc := 0) (ms := 0) C mo_Row_takeLast co_Row ml_Run_144 [] [.int n, .ref (E.2.2.1 (2 * (8 + 4 * ((s.2.1 s.2.2.1.1).1))))] rfl (rp_row hR (rb42 (rp_work (s := s) hR))) rfl (by decide) (Nat.le_of_ble_eq_true rfl) (Nat.le_refl _) (Nat.le_refl _) d_Run_move_83 (cy_ki ?_)
    refine c_take hE hR (rb42 (rp_work (s := s) hR)) (fun M3 hR3 => ⟨_, rfl, ?_⟩)
    refine wm_callVN (d2 := 0) (mc := 0) (ms := 0) C mo_Row_put co_Row ml_Run_147 [.int n, .int (cy_rlast s (42 + 2 * s.2.2.1.1))] [] rfl (rp_row hR3 (rb8 (rp_fc (s := s) hR (rp_work (s := s) hR)))) rfl (by decide) (Nat.le_of_ble_eq_true rfl) (Nat.le_refl _) (Nat.le_refl _) d_Run_move_86 (cy_kv ?_)
    refine c_put hE hR3 (rb8 (rp_fc (s := s) hR (rp_work (s := s) hR))) _ _ (fun M4 hR4 => ⟨rfl, ?_⟩)
    refine wm_goto (tgt := 126) C d_Run_move_89 (by decide) ?_
    refine wm_vret C P d_Run_move_126 ?_
    have e : cy_Run_move s op n = (cy_rput (cy_rdrop s (42 + 2 * s.2.2.1.1)) (8 + 4 * ((s.2.1 s.2.2.1.1).1)) n (cy_rlast s (42 + 2 * s.2.2.1.1))) := by rw [cy_Run_move, if_neg e_9_0, if_neg e_9_1, if_pos e_9_2]
    rw [e] at h
    exact h _ hR4
  by_cases e_9_3 : op = 3
  · refine wm_tableIn (tgt := 92) C d_Run_move_9 (by rw [e_9_3]; decide) (by rw [e_9_3]; decide) (by rw [e_9_3]; rfl) (by decide) ?_
    refine wm_aload_n C d_Run_move_92 rfl (j := 0) rfl ?_
    refine wm_aload_n C d_Run_move_93 rfl (j := 1) rfl ?_
    refine wm_get C co_Run (rp_run hR) 4 (by decide) fl_Run_39 rfl d_Run_move_94 ?_
    refine wm_getN C co_Frame (rp_frame hR (rp_work (s := s) hR)) 4 (by decide) fl_Run_150 rfl d_Run_move_97 ?_
    refine wm_iload_n C d_Run_move_100 rfl (j := 3) rfl ?_
    refine wm_iconst (v := 0) C d_Run_move_101 (by decide) ?_
    refine wm_callVN (d2 := 0) (mc := 0) (ms := 0) C mo_Row_at co_Row ml_Run_140 [.int n, .int 0] [.ref (E.2.2.1 (2 * (42 + 2 * s.2.2.1.1)))] rfl (rp_row hR (rb43 (rp_work (s := s) hR))) rfl (by decide) (Nat.le_of_ble_eq_true rfl) (Nat.le_refl _) (Nat.le_refl _) d_Run_move_102 (cy_ki ?_)
    refine c_at hE hR (rb43 (rp_work (s := s) hR)) _ _ ⟨_, rfl, ?_⟩
    refine wm_callVN (d2 := 0) (mc := 0) (ms := 0) C mo_Row_add co_Row ml_Run_134 [.int (cy_rat s (43 + 2 * s.2.2.1.1) n 0)] [] rfl (rp_row hR (rb42 (rp_work (s := s) hR))) rfl (by decide) (Nat.le_of_ble_eq_true rfl) (Nat.le_refl _) (Nat.le_refl _) d_Run_move_105 (cy_kv ?_)
    refine c_add hE hR (rb42 (rp_work (s := s) hR)) _ (fun M5 hR5 => ⟨rfl, ?_⟩)
    refine wm_goto (tgt := 126) C d_Run_move_108 (by decide) ?_
    refine wm_vret C P d_Run_move_126 ?_
    have e : cy_Run_move s op n = (cy_radd s (42 + 2 * s.2.2.1.1) (cy_rat s (43 + 2 * s.2.2.1.1) n 0)) := by rw [cy_Run_move, if_neg e_9_0, if_neg e_9_1, if_neg e_9_2, if_pos e_9_3]
    rw [e] at h
    exact h _ hR5
  · refine wm_tableOut (tgt := 111) C d_Run_move_9 (by have n0 := lv_neT e_9_0 (a := 0) (by decide); have n1 := lv_neT e_9_1 (a := 1) (by decide); have n2 := lv_neT e_9_2 (a := 2) (by decide); have n3 := lv_neT e_9_3 (a := 3) (by decide); omega) (by decide) ?_
    refine wm_aload_n C d_Run_move_111 rfl (j := 1) rfl ?_
    refine wm_get C co_Run (rp_run hR) 4 (by decide) fl_Run_39 rfl d_Run_move_112 ?_
    refine wm_getN C co_Frame (rp_frame hR (rp_work (s := s) hR)) 4 (by decide) fl_Run_150 rfl d_Run_move_115 ?_
    refine wm_iload_n C d_Run_move_118 rfl (j := 3) rfl ?_
    refine wm_aload_n C d_Run_move_119 rfl (j := 0) rfl ?_
    refine wm_callVN (d2 := 0) (mc := 0) (ms := 0) C mo_Row_takeLast co_Row ml_Run_144 [] [.int n, .ref (E.2.2.1 (2 * (43 + 2 * s.2.2.1.1)))] rfl (rp_row hR (rb42 (rp_work (s := s) hR))) rfl (by decide) (Nat.le_of_ble_eq_true rfl) (Nat.le_refl _) (Nat.le_refl _) d_Run_move_120 (cy_ki ?_)
    refine c_take hE hR (rb42 (rp_work (s := s) hR)) (fun M6 hR6 => ⟨_, rfl, ?_⟩)
    refine wm_callVN (d2 := 0) (mc := 0) (ms := 0) C mo_Row_put co_Row ml_Run_147 [.int n, .int (cy_rlast s (42 + 2 * s.2.2.1.1))] [] rfl (rp_row hR6 (rb43 (rp_work (s := s) hR))) rfl (by decide) (Nat.le_of_ble_eq_true rfl) (Nat.le_refl _) (Nat.le_refl _) d_Run_move_123 (cy_kv ?_)
    refine c_put hE hR6 (rb43 (rp_work (s := s) hR)) _ _ (fun M7 hR7 => ⟨rfl, ?_⟩)
    refine wm_vret C P d_Run_move_126 ?_
    have e : cy_Run_move s op n = (cy_rput (cy_rdrop s (42 + 2 * s.2.2.1.1)) (43 + 2 * s.2.2.1.1) n (cy_rlast s (42 + 2 * s.2.2.1.1))) := by rw [cy_Run_move, if_neg e_9_0, if_neg e_9_1, if_neg e_9_2, if_neg e_9_3]
    rw [e] at h
    exact h _ hR7
def cy_Run_rearrange (s : cy_S) (op : Int32) : cy_S :=
  if op = 14 then
    (cy_rdrop s (42 + 2 * s.2.2.1.1))
  else
    if op = 13 then
      (cy_radd (cy_radd (cy_rdrop s (42 + 2 * s.2.2.1.1)) (42 + 2 * s.2.2.1.1) (cy_rlast s (42 + 2 * s.2.2.1.1))) (42 + 2 * s.2.2.1.1) (cy_rlast s (42 + 2 * s.2.2.1.1)))
    else
      (cy_radd (cy_radd (cy_rdrop (cy_rdrop s (42 + 2 * s.2.2.1.1)) (42 + 2 * s.2.2.1.1)) (42 + 2 * s.2.2.1.1) (cy_rlast s (42 + 2 * s.2.2.1.1))) (42 + 2 * s.2.2.1.1) (cy_rlast (cy_rdrop s (42 + 2 * s.2.2.1.1)) (42 + 2 * s.2.2.1.1)))
set_option maxHeartbeats 4000000 in
theorem c_Run_rearrange {G : cy_G} {E : cy_E} {s : cy_S} {M : cy_Hp} {post : Option Value → cy_Hp → Prop} (hE : cy_Eo G E) (hR : cy_R E s M)  (op : Int32) (h : ∀ M', cy_R E (cy_Run_rearrange s op) M' → post none M') : cy_Ct G 1 m_Run_rearrange [.ref (E.2.2.1 136), .int op] M 0 0 post := by
  refine cy_Ct.of (by decide) (Nat.le_of_ble_eq_true rfl) ?_
  intro F C P _
  have C : cy_C G F R_Run b_Run_rearrange 5 1 0 0 := C
  have P : cy_P G F none post 0 0 := P
  show WM G F 5 0 0 0 [(0, .ref (E.2.2.1 136)), (1, .int op)] [] M
  refine wm_aload_n C d_Run_rearrange_0 rfl (j := 0) rfl ?_
  refine wm_get C co_Run (rp_run hR) 4 (by decide) fl_Run_39 rfl d_Run_rearrange_1 ?_
  refine wm_getN C co_Frame (rp_frame hR (rp_work (s := s) hR)) 3 (by decide) fl_Run_131 rfl d_Run_rearrange_4 ?_
  refine wm_astore_n (lv' := [(2, .ref (E.2.2.1 (2 * (42 + 2 * s.2.2.1.1)))), (0, .ref (E.2.2.1 136)), (1, .int op)]) C d_Run_rearrange_7 rfl (by decide) rfl ?_
  refine wm_aload_n C d_Run_rearrange_8 rfl (j := 0) rfl ?_
  refine wm_callVN (d2 := 0) (mc := 0) (ms := 0) C mo_Row_takeLast co_Row ml_Run_144 [] [] rfl (rp_row hR (rb42 (rp_work (s := s) hR))) rfl (by decide) (Nat.le_of_ble_eq_true rfl) (Nat.le_refl _) (Nat.le_refl _) d_Run_rearrange_9 (cy_ki ?_)
  refine c_take hE hR (rb42 (rp_work (s := s) hR)) (fun M1 hR1 => ⟨_, rfl, ?_⟩)
  refine wm_istore_n (lv' := [(3, .int (cy_rlast s (42 + 2 * s.2.2.1.1))), (2, .ref (E.2.2.1 (2 * (42 + 2 * s.2.2.1.1)))), (0, .ref (E.2.2.1 136)), (1, .int op)]) C d_Run_rearrange_12 rfl (by decide) rfl ?_
  refine wm_iload_n C d_Run_rearrange_13 rfl (j := 3) rfl ?_
  refine wm_bipush (v := 14) C d_Run_rearrange_14 (by decide) ?_
  refine wm_icmp_eq (tgt := 46) C d_Run_rearrange_16 (by decide) (fun (h_16 : op = 14) => ?_) (fun (h_16 : ¬ op = 14) => ?_)
  · refine wm_vret C P d_Run_rearrange_46 ?_
    have e : cy_Run_rearrange s op = (cy_rdrop s (42 + 2 * s.2.2.1.1)) := by rw [cy_Run_rearrange, if_pos h_16]
    rw [e] at h
    exact h _ hR1
  · refine wm_iload_n C d_Run_rearrange_19 rfl (j := 3) rfl ?_
    refine wm_bipush (v := 13) C d_Run_rearrange_20 (by decide) ?_
    refine wm_icmp_ne (tgt := 29) C d_Run_rearrange_22 (by decide) (fun (h_22 : ¬ op = 13) => ?_) (fun (h_22 : op = 13) => ?_)
    · refine wm_aload_n C d_Run_rearrange_29 rfl (j := 1) rfl ?_
      refine wm_callVN (d2 := 0) (mc := 0) (ms := 0) C mo_Row_takeLast co_Row ml_Run_144 [] [] rfl (rp_row hR1 (rb42 (rp_work (s := s) hR))) rfl (by decide) (Nat.le_of_ble_eq_true rfl) (Nat.le_refl _) (Nat.le_refl _) d_Run_rearrange_30 (cy_ki ?_)
      refine c_take hE hR1 (rb42 (rp_work (s := s) hR)) (fun M2 hR2 => ⟨_, rfl, ?_⟩)
      refine wm_istore (lv' := [(4, .int (cy_rlast (cy_rdrop s (42 + 2 * s.2.2.1.1)) (42 + 2 * s.2.2.1.1))), (3, .int (cy_rlast s (42 + 2 * s.2.2.1.1))), (2, .ref (E.2.2.1 (2 * (42 + 2 * s.2.2.1.1)))), (0, .ref (E.2.2.1 136)), (1, .int op)]) C d_Run_rearrange_33 (by decide) rfl ?_
      refine wm_aload_n C d_Run_rearrange_35 rfl (j := 2) rfl ?_
      refine wm_iload_n C d_Run_rearrange_36 rfl (j := 1) rfl ?_
      refine wm_callVN (d2 := 0) (mc := 0) (ms := 0) C mo_Row_add co_Row ml_Run_134 [.int (cy_rlast s (42 + 2 * s.2.2.1.1))] [] rfl (rp_row hR2 (rb42 (rp_work (s := s) hR))) rfl (by decide) (Nat.le_of_ble_eq_true rfl) (Nat.le_refl _) (Nat.le_refl _) d_Run_rearrange_37 (cy_kv ?_)
      refine c_add hE hR2 (rb42 (rp_work (s := s) hR)) _ (fun M3 hR3 => ⟨rfl, ?_⟩)
      refine wm_aload_n C d_Run_rearrange_40 rfl (j := 2) rfl ?_
      refine wm_iload C d_Run_rearrange_41 (j := 0) rfl ?_
      refine wm_callVN (d2 := 0) (mc := 0) (ms := 0) C mo_Row_add co_Row ml_Run_134 [.int (cy_rlast (cy_rdrop s (42 + 2 * s.2.2.1.1)) (42 + 2 * s.2.2.1.1))] [] rfl (rp_row hR3 (rb42 (rp_work (s := s) hR))) rfl (by decide) (Nat.le_of_ble_eq_true rfl) (Nat.le_refl _) (Nat.le_refl _) d_Run_rearrange_43 (cy_kv ?_)
      refine c_add hE hR3 (rb42 (rp_work (s := s) hR)) _ (fun M4 hR4 => ⟨rfl, ?_⟩)
      refine wm_vret C P d_Run_rearrange_46 ?_
      have e : cy_Run_rearrange s op = (cy_radd (cy_radd (cy_rdrop (cy_rdrop s (42 + 2 * s.2.2.1.1)) (42 + 2 * s.2.2.1.1)) (42 + 2 * s.2.2.1.1) (cy_rlast s (42 + 2 * s.2.2.1.1))) (42 + 2 * s.2.2.1.1) (cy_rlast (cy_rdrop s (42 + 2 * s.2.2.1.1)) (42 + 2 * s.2.2.1.1))) := by rw [cy_Run_rearrange, if_neg h_16, if_neg h_22]
      rw [e] at h
      exact h _ hR4
    · refine wm_iload_n C d_Run_rearrange_25 rfl (j := 0) rfl ?_
      refine wm_goto (tgt := 33) C d_Run_rearrange_26 (by decide) ?_
      refine wm_istore (lv' := [(4, .int (cy_rlast s (42 + 2 * s.2.2.1.1))), (3, .int (cy_rlast s (42 + 2 * s.2.2.1.1))), (2, .ref (E.2.2.1 (2 * (42 + 2 * s.2.2.1.1)))), (0, .ref (E.2.2.1 136)), (1, .int op)]) C d_Run_rearrange_33 (by decide) rfl ?_
      refine wm_aload_n C d_Run_rearrange_35 rfl (j := 2) rfl ?_
      refine wm_iload_n C d_Run_rearrange_36 rfl (j := 1) rfl ?_
      refine wm_callVN (d2 := 0) (mc := 0) (ms := 0) C mo_Row_add co_Row ml_Run_134 [.int (cy_rlast s (42 + 2 * s.2.2.1.1))] [] rfl (rp_row hR1 (rb42 (rp_work (s := s) hR))) rfl (by decide) (Nat.le_of_ble_eq_true rfl) (Nat.le_refl _) (Nat.le_refl _) d_Run_rearrange_37 (cy_kv ?_)
      refine c_add hE hR1 (rb42 (rp_work (s := s) hR)) _ (fun M5 hR5 => ⟨rfl, ?_⟩)
      refine wm_aload_n C d_Run_rearrange_40 rfl (j := 2) rfl ?_
      refine wm_iload C d_Run_rearrange_41 (j := 0) rfl ?_
      refine wm_callVN (d2 := 0) (mc := 0) (ms := 0) C mo_Row_add co_Row ml_Run_134 [.int (cy_rlast s (42 + 2 * s.2.2.1.1))] [] rfl (rp_row hR5 (rb42 (rp_work (s := s) hR))) rfl (by decide) (Nat.le_of_ble_eq_true rfl) (Nat.le_refl _) (Nat.le_refl _) d_Run_rearrange_43 (cy_kv ?_)
      refine c_add hE hR5 (rb42 (rp_work (s := s) hR)) _ (fun M6 hR6 => ⟨rfl, ?_⟩)
      refine wm_vret C P d_Run_rearrange_46 ?_
      have e : cy_Run_rearrange s op = (cy_radd (cy_radd (cy_rdrop s (42 + 2 * s.2.2.1.1)) (42 + 2 * s.2.2.1.1) (cy_rlast s (42 + 2 * s.2.2.1.1))) (42 + 2 * s.2.2.1.1) (cy_rlast s (42 + 2 * s.2.2.1.1))) := by rw [cy_Run_rearrange, if_neg h_16, if_pos h_22]
      rw [e] at h
      exact h _ hR6
def cy_Run_jump (s : cy_S) (op : Int32) (target : Int32) : cy_S :=
  if op = 17 then
    if (cy_rlast s (42 + 2 * s.2.2.1.1)) = 0 then
      (cy_sf_place (cy_rdrop s (42 + 2 * s.2.2.1.1)) s.2.2.1.1 target)
    else
      (cy_rdrop s (42 + 2 * s.2.2.1.1))
  else
    if op = 18 then
      if (cy_rlast s (42 + 2 * s.2.2.1.1)) ≤ (cy_rlast (cy_rdrop s (42 + 2 * s.2.2.1.1)) (42 + 2 * s.2.2.1.1)) then
        (cy_rdrop (cy_rdrop s (42 + 2 * s.2.2.1.1)) (42 + 2 * s.2.2.1.1))
      else
        (cy_sf_place (cy_rdrop (cy_rdrop s (42 + 2 * s.2.2.1.1)) (42 + 2 * s.2.2.1.1)) s.2.2.1.1 target)
    else
      (cy_sf_place s s.2.2.1.1 target)
set_option maxHeartbeats 4000000 in
theorem c_Run_jump {G : cy_G} {E : cy_E} {s : cy_S} {M : cy_Hp} {post : Option Value → cy_Hp → Prop} (hE : cy_Eo G E) (hR : cy_R E s M)  (op : Int32) (target : Int32) (h : ∀ M', cy_R E (cy_Run_jump s op target) M' → post none M') : cy_Ct G 1 m_Run_jump [.ref (E.2.2.1 136), .int op, .int target] M 0 0 post := by
  refine cy_Ct.of (by decide) (Nat.le_of_ble_eq_true rfl) ?_
  intro F C P _
  have C : cy_C G F R_Run b_Run_jump 6 1 0 0 := C
  have P : cy_P G F none post 0 0 := P
  show WM G F 6 0 0 0 [(0, .ref (E.2.2.1 136)), (1, .int op), (2, .int target)] [] M
  refine wm_iconst (v := 1) C d_Run_jump_0 (by decide) ?_
  refine wm_istore_n (lv' := [(3, .int 1), (0, .ref (E.2.2.1 136)), (1, .int op), (2, .int target)]) C d_Run_jump_1 rfl (by decide) rfl ?_
  refine wm_iload_n C d_Run_jump_2 rfl (j := 2) rfl ?_
  refine wm_bipush (v := 17) C d_Run_jump_3 (by decide) ?_
  refine wm_icmp_ne (tgt := 30) C d_Run_jump_5 (by decide) (fun (h_5 : ¬ op = 17) => ?_) (fun (h_5 : op = 17) => ?_)
  · refine wm_iload_n C d_Run_jump_30 rfl (j := 2) rfl ?_
    refine wm_bipush (v := 18) C d_Run_jump_31 (by decide) ?_
    refine wm_icmp_ne (tgt := 73) C d_Run_jump_33 (by decide) (fun (h_33 : ¬ op = 18) => ?_) (fun (h_33 : op = 18) => ?_)
    · refine wm_iload_n C d_Run_jump_73 rfl (j := 0) rfl ?_
      refine wm_if_eq (tgt := 85) C d_Run_jump_74 (by decide) (fun (h_74 : 1 = 0) => ?_) (fun (h_74 : ¬ 1 = 0) => ?_)
      · exact absurd h_74 (by decide)
      · refine wm_aload_n C d_Run_jump_77 rfl (j := 1) rfl ?_
        refine wm_get C co_Run (rp_run hR) 4 (by decide) fl_Run_39 rfl d_Run_jump_78 ?_
        refine wm_iload_n C d_Run_jump_81 rfl (j := 3) rfl ?_
        refine wm_putN C co_Frame (rp_frame hR (rp_work (s := s) hR)) 6 (by decide) fl_Run_98 rfl rfl rfl (Nat.le_of_ble_eq_true rfl) d_Run_jump_82 ?_
        refine wm_gen (rp_p_place hE hR (rp_work (s := s) hR) target) (fun M1 hR1 => ?_)
        refine wm_vret C P d_Run_jump_85 ?_
        have e : cy_Run_jump s op target = (cy_sf_place s s.2.2.1.1 target) := by rw [cy_Run_jump, if_neg h_5, if_neg h_33]
        rw [e] at h
        exact h _ hR1
    · refine wm_aload_n C d_Run_jump_36 rfl (j := 1) rfl ?_
      refine wm_get C co_Run (rp_run hR) 4 (by decide) fl_Run_39 rfl d_Run_jump_37 ?_
      refine wm_getN C co_Frame (rp_frame hR (rp_work (s := s) hR)) 3 (by decide) fl_Run_131 rfl d_Run_jump_40 ?_
      refine wm_callVN (d2 := 0) (mc := 0) (ms := 0) C mo_Row_takeLast co_Row ml_Run_144 [] [] rfl (rp_row hR (rb42 (rp_work (s := s) hR))) rfl (by decide) (Nat.le_of_ble_eq_true rfl) (Nat.le_refl _) (Nat.le_refl _) d_Run_jump_43 (cy_ki ?_)
      refine c_take hE hR (rb42 (rp_work (s := s) hR)) (fun M2 hR2 => ⟨_, rfl, ?_⟩)
      refine wm_istore (lv' := [(4, .int (cy_rlast s (42 + 2 * s.2.2.1.1))), (3, .int 1), (0, .ref (E.2.2.1 136)), (1, .int op), (2, .int target)]) C d_Run_jump_46 (by decide) rfl ?_
      refine wm_aload_n C d_Run_jump_48 rfl (j := 2) rfl ?_
      refine wm_get C co_Run (rp_run hR2) 4 (by decide) fl_Run_39 rfl d_Run_jump_49 ?_
      refine wm_getN C co_Frame (rp_frame hR2 (rp_work (s := s) hR)) 3 (by decide) fl_Run_131 rfl d_Run_jump_52 ?_
      refine wm_callVN (d2 := 0) (mc := 0) (ms := 0) C mo_Row_takeLast co_Row ml_Run_144 [] [] rfl (rp_row hR2 (rb42 (rp_work (s := s) hR))) rfl (by decide) (Nat.le_of_ble_eq_true rfl) (Nat.le_refl _) (Nat.le_refl _) d_Run_jump_55 (cy_ki ?_)
      refine c_take hE hR2 (rb42 (rp_work (s := s) hR)) (fun M3 hR3 => ⟨_, rfl, ?_⟩)
      refine wm_istore (lv' := [(5, .int (cy_rlast (cy_rdrop s (42 + 2 * s.2.2.1.1)) (42 + 2 * s.2.2.1.1))), (4, .int (cy_rlast s (42 + 2 * s.2.2.1.1))), (3, .int 1), (0, .ref (E.2.2.1 136)), (1, .int op), (2, .int target)]) C d_Run_jump_58 (by decide) rfl ?_
      refine wm_iload C d_Run_jump_60 (j := 0) rfl ?_
      refine wm_iload C d_Run_jump_62 (j := 1) rfl ?_
      refine wm_icmp_ge (tgt := 71) C d_Run_jump_64 (by decide) (fun (h_64 : (cy_rlast s (42 + 2 * s.2.2.1.1)) ≤ (cy_rlast (cy_rdrop s (42 + 2 * s.2.2.1.1)) (42 + 2 * s.2.2.1.1))) => ?_) (fun (h_64 : ¬ (cy_rlast s (42 + 2 * s.2.2.1.1)) ≤ (cy_rlast (cy_rdrop s (42 + 2 * s.2.2.1.1)) (42 + 2 * s.2.2.1.1))) => ?_)
      · refine wm_iconst (v := 0) C d_Run_jump_71 (by decide) ?_
        refine wm_istore_n (lv' := [(3, .int 0), (5, .int (cy_rlast (cy_rdrop s (42 + 2 * s.2.2.1.1)) (42 + 2 * s.2.2.1.1))), (4, .int (cy_rlast s (42 + 2 * s.2.2.1.1))), (0, .ref (E.2.2.1 136)), (1, .int op), (2, .int target)]) C d_Run_jump_72 rfl (by decide) rfl ?_
        refine wm_iload_n C d_Run_jump_73 rfl (j := 0) rfl ?_
        refine wm_if_eq (tgt := 85) C d_Run_jump_74 (by decide) (fun (h_74_5 : 0 = 0) => ?_) (fun (h_74_5 : ¬ 0 = 0) => ?_)
        · refine wm_vret C P d_Run_jump_85 ?_
          have e : cy_Run_jump s op target = (cy_rdrop (cy_rdrop s (42 + 2 * s.2.2.1.1)) (42 + 2 * s.2.2.1.1)) := by rw [cy_Run_jump, if_neg h_5, if_pos h_33, if_pos h_64]
          rw [e] at h
          exact h _ hR3
        · exact absurd h_74_5 (by decide)
      · refine wm_iconst (v := 1) C d_Run_jump_67 (by decide) ?_
        refine wm_goto (tgt := 72) C d_Run_jump_68 (by decide) ?_
        refine wm_istore_n (lv' := [(3, .int 1), (5, .int (cy_rlast (cy_rdrop s (42 + 2 * s.2.2.1.1)) (42 + 2 * s.2.2.1.1))), (4, .int (cy_rlast s (42 + 2 * s.2.2.1.1))), (0, .ref (E.2.2.1 136)), (1, .int op), (2, .int target)]) C d_Run_jump_72 rfl (by decide) rfl ?_
        refine wm_iload_n C d_Run_jump_73 rfl (j := 0) rfl ?_
        refine wm_if_eq (tgt := 85) C d_Run_jump_74 (by decide) (fun (h_74_6 : 1 = 0) => ?_) (fun (h_74_6 : ¬ 1 = 0) => ?_)
        · exact absurd h_74_6 (by decide)
        · refine wm_aload_n C d_Run_jump_77 rfl (j := 3) rfl ?_
          refine wm_get C co_Run (rp_run hR3) 4 (by decide) fl_Run_39 rfl d_Run_jump_78 ?_
          refine wm_iload_n C d_Run_jump_81 rfl (j := 5) rfl ?_
          refine wm_putN C co_Frame (rp_frame hR3 (rp_work (s := s) hR)) 6 (by decide) fl_Run_98 rfl rfl rfl (Nat.le_of_ble_eq_true rfl) d_Run_jump_82 ?_
          refine wm_gen (rp_p_place hE hR3 (rp_work (s := s) hR) target) (fun M4 hR4 => ?_)
          refine wm_vret C P d_Run_jump_85 ?_
          have e : cy_Run_jump s op target = (cy_sf_place (cy_rdrop (cy_rdrop s (42 + 2 * s.2.2.1.1)) (42 + 2 * s.2.2.1.1)) s.2.2.1.1 target) := by rw [cy_Run_jump, if_neg h_5, if_pos h_33, if_neg h_64]
          rw [e] at h
          exact h _ hR4
  · refine wm_aload_n C d_Run_jump_8 rfl (j := 1) rfl ?_
    refine wm_get C co_Run (rp_run hR) 4 (by decide) fl_Run_39 rfl d_Run_jump_9 ?_
    refine wm_getN C co_Frame (rp_frame hR (rp_work (s := s) hR)) 3 (by decide) fl_Run_131 rfl d_Run_jump_12 ?_
    refine wm_callVN (d2 := 0) (mc := 0) (ms := 0) C mo_Row_takeLast co_Row ml_Run_144 [] [] rfl (rp_row hR (rb42 (rp_work (s := s) hR))) rfl (by decide) (Nat.le_of_ble_eq_true rfl) (Nat.le_refl _) (Nat.le_refl _) d_Run_jump_15 (cy_ki ?_)
    refine c_take hE hR (rb42 (rp_work (s := s) hR)) (fun M5 hR5 => ⟨_, rfl, ?_⟩)
    refine wm_if_ne (tgt := 25) C d_Run_jump_18 (by decide) (fun (h_18 : ¬ (cy_rlast s (42 + 2 * s.2.2.1.1)) = 0) => ?_) (fun (h_18 : (cy_rlast s (42 + 2 * s.2.2.1.1)) = 0) => ?_)
    · refine wm_iconst (v := 0) C d_Run_jump_25 (by decide) ?_
      refine wm_istore_n (lv' := [(3, .int 0), (0, .ref (E.2.2.1 136)), (1, .int op), (2, .int target)]) C d_Run_jump_26 rfl (by decide) rfl ?_
      refine wm_goto (tgt := 73) C d_Run_jump_27 (by decide) ?_
      refine wm_iload_n C d_Run_jump_73 rfl (j := 0) rfl ?_
      refine wm_if_eq (tgt := 85) C d_Run_jump_74 (by decide) (fun (h_74_8 : 0 = 0) => ?_) (fun (h_74_8 : ¬ 0 = 0) => ?_)
      · refine wm_vret C P d_Run_jump_85 ?_
        have e : cy_Run_jump s op target = (cy_rdrop s (42 + 2 * s.2.2.1.1)) := by rw [cy_Run_jump, if_pos h_5, if_neg h_18]
        rw [e] at h
        exact h _ hR5
      · exact absurd h_74_8 (by decide)
    · refine wm_iconst (v := 1) C d_Run_jump_21 (by decide) ?_
      refine wm_goto (tgt := 26) C d_Run_jump_22 (by decide) ?_
      refine wm_istore_n (lv' := [(3, .int 1), (0, .ref (E.2.2.1 136)), (1, .int op), (2, .int target)]) C d_Run_jump_26 rfl (by decide) rfl ?_
      refine wm_goto (tgt := 73) C d_Run_jump_27 (by decide) ?_
      refine wm_iload_n C d_Run_jump_73 rfl (j := 0) rfl ?_
      refine wm_if_eq (tgt := 85) C d_Run_jump_74 (by decide) (fun (h_74_9 : 1 = 0) => ?_) (fun (h_74_9 : ¬ 1 = 0) => ?_)
      · exact absurd h_74_9 (by decide)
      · refine wm_aload_n C d_Run_jump_77 rfl (j := 1) rfl ?_
        refine wm_get C co_Run (rp_run hR5) 4 (by decide) fl_Run_39 rfl d_Run_jump_78 ?_
        refine wm_iload_n C d_Run_jump_81 rfl (j := 3) rfl ?_
        refine wm_putN C co_Frame (rp_frame hR5 (rp_work (s := s) hR)) 6 (by decide) fl_Run_98 rfl rfl rfl (Nat.le_of_ble_eq_true rfl) d_Run_jump_82 ?_
        refine wm_gen (rp_p_place hE hR5 (rp_work (s := s) hR) target) (fun M6 hR6 => ?_)
        refine wm_vret C P d_Run_jump_85 ?_
        have e : cy_Run_jump s op target = (cy_sf_place (cy_rdrop s (42 + 2 * s.2.2.1.1)) s.2.2.1.1 target) := by rw [cy_Run_jump, if_pos h_5, if_pos h_18]
        rw [e] at h
        exact h _ hR6
def cy_Run_readInput (s : cy_S) (i : Int32) : cy_S :=
  if (cy_rhas s 4 i) = 0 then
    (cy_Run_fail s 2)
  else
    (cy_radd s (42 + 2 * s.2.2.1.1) (cy_rat s 4 i 0))
set_option maxHeartbeats 4000000 in
theorem c_Run_readInput {G : cy_G} {E : cy_E} {s : cy_S} {M : cy_Hp} {post : Option Value → cy_Hp → Prop} (hE : cy_Eo G E) (hR : cy_R E s M)  (i : Int32) (h : ∀ M', cy_R E (cy_Run_readInput s i) M' → post none M') : cy_Ct G 1 m_Run_readInput [.ref (E.2.2.1 136), .int i] M 0 0 post := by
  refine cy_Ct.of (by decide) (Nat.le_of_ble_eq_true rfl) ?_
  intro F C P _
  have C : cy_C G F R_Run b_Run_readInput 2 1 0 0 := C
  have P : cy_P G F none post 0 0 := P
  show WM G F 2 0 0 0 [(0, .ref (E.2.2.1 136)), (1, .int i)] [] M
  refine wm_aload_n C d_Run_readInput_0 rfl (j := 0) rfl ?_
  refine wm_get C co_Run (rp_run hR) 2 (by decide) fl_Run_20 rfl d_Run_readInput_1 ?_
  refine wm_iload_n C d_Run_readInput_4 rfl (j := 1) rfl ?_
  refine wm_callVN (d2 := 0) (mc := 0) (ms := 0) C mo_Row_has co_Row ml_Run_176 [.int i] [] rfl (rp_row hR (by decide)) rfl (by decide) (Nat.le_of_ble_eq_true rfl) (Nat.le_refl _) (Nat.le_refl _) d_Run_readInput_5 (cy_ki ?_)
  refine c_has hE hR (by decide) _ ⟨_, rfl, ?_⟩
  refine wm_if_eq (tgt := 33) C d_Run_readInput_8 (by decide) (fun (h_8 : (cy_rhas s 4 i) = 0) => ?_) (fun (h_8 : ¬ (cy_rhas s 4 i) = 0) => ?_)
  · refine wm_aload_n C d_Run_readInput_33 rfl (j := 0) rfl ?_
    refine wm_iconst (v := 2) C d_Run_readInput_34 (by decide) ?_
    refine wm_callV (d2 := 0) (mc := 0) (ms := 0) C mo_Run_fail co_Run ml_Run_104 [.int 2] [] rfl (rp_run hR) rfl (by decide) (Nat.le_of_ble_eq_true rfl) (Nat.le_refl _) (Nat.le_refl _) d_Run_readInput_35 (cy_kv ?_)
    refine c_Run_fail hE hR  _ (fun M1 hR1 => ⟨rfl, ?_⟩)
    refine wm_vret C P d_Run_readInput_38 ?_
    have e : cy_Run_readInput s i = (cy_Run_fail s 2) := by rw [cy_Run_readInput, if_pos h_8]
    rw [e] at h
    exact h _ hR1
  · refine wm_aload_n C d_Run_readInput_11 rfl (j := 0) rfl ?_
    refine wm_get C co_Run (rp_run hR) 4 (by decide) fl_Run_39 rfl d_Run_readInput_12 ?_
    refine wm_getN C co_Frame (rp_frame hR (rp_work (s := s) hR)) 3 (by decide) fl_Run_131 rfl d_Run_readInput_15 ?_
    refine wm_aload_n C d_Run_readInput_18 rfl (j := 0) rfl ?_
    refine wm_get C co_Run (rp_run hR) 2 (by decide) fl_Run_20 rfl d_Run_readInput_19 ?_
    refine wm_iload_n C d_Run_readInput_22 rfl (j := 1) rfl ?_
    refine wm_iconst (v := 0) C d_Run_readInput_23 (by decide) ?_
    refine wm_callVN (d2 := 0) (mc := 0) (ms := 0) C mo_Row_at co_Row ml_Run_140 [.int i, .int 0] [.ref (E.2.2.1 (2 * (42 + 2 * s.2.2.1.1)))] rfl (rp_row hR (by decide)) rfl (by decide) (Nat.le_of_ble_eq_true rfl) (Nat.le_refl _) (Nat.le_refl _) d_Run_readInput_24 (cy_ki ?_)
    refine c_at hE hR (by decide) _ _ ⟨_, rfl, ?_⟩
    refine wm_callVN (d2 := 0) (mc := 0) (ms := 0) C mo_Row_add co_Row ml_Run_134 [.int (cy_rat s 4 i 0)] [] rfl (rp_row hR (rb42 (rp_work (s := s) hR))) rfl (by decide) (Nat.le_of_ble_eq_true rfl) (Nat.le_refl _) (Nat.le_refl _) d_Run_readInput_27 (cy_kv ?_)
    refine c_add hE hR (rb42 (rp_work (s := s) hR)) _ (fun M2 hR2 => ⟨rfl, ?_⟩)
    refine wm_goto (tgt := 38) C d_Run_readInput_30 (by decide) ?_
    refine wm_vret C P d_Run_readInput_38 ?_
    have e : cy_Run_readInput s i = (cy_radd s (42 + 2 * s.2.2.1.1) (cy_rat s 4 i 0)) := by rw [cy_Run_readInput, if_neg h_8]
    rw [e] at h
    exact h _ hR2
def cy_Run_putOut (s : cy_S) (value : Int32) : cy_S :=
  if 64 ≤ (nI (s.1 5).length) then
    (cy_Run_fail s 3)
  else
    (cy_radd s 5 (value &&& 255))
set_option maxHeartbeats 4000000 in
theorem c_Run_putOut {G : cy_G} {E : cy_E} {s : cy_S} {M : cy_Hp} {post : Option Value → cy_Hp → Prop} (hE : cy_Eo G E) (hR : cy_R E s M)  (value : Int32) (h : ∀ M', cy_R E (cy_Run_putOut s value) M' → post none M') : cy_Ct G 1 m_Run_putOut [.ref (E.2.2.1 136), .int value] M 0 0 post := by
  refine cy_Ct.of (by decide) (Nat.le_of_ble_eq_true rfl) ?_
  intro F C P _
  have C : cy_C G F R_Run b_Run_putOut 2 1 0 0 := C
  have P : cy_P G F none post 0 0 := P
  show WM G F 2 0 0 0 [(0, .ref (E.2.2.1 136)), (1, .int value)] [] M
  refine wm_aload_n C d_Run_putOut_0 rfl (j := 0) rfl ?_
  refine wm_get C co_Run (rp_run hR) 3 (by decide) fl_Run_24 rfl d_Run_putOut_1 ?_
  refine wm_getN C co_Row (rp_row hR (by decide)) 1 (by decide) fl_Run_101 rfl d_Run_putOut_4 ?_
  refine wm_bipush (v := 64) C d_Run_putOut_7 (by decide) ?_
  refine wm_icmp_ge (tgt := 27) C d_Run_putOut_9 (by decide) (fun (h_9 : 64 ≤ (nI (s.1 5).length)) => ?_) (fun (h_9 : ¬ 64 ≤ (nI (s.1 5).length)) => ?_)
  · refine wm_aload_n C d_Run_putOut_27 rfl (j := 0) rfl ?_
    refine wm_iconst (v := 3) C d_Run_putOut_28 (by decide) ?_
    refine wm_callV (d2 := 0) (mc := 0) (ms := 0) C mo_Run_fail co_Run ml_Run_104 [.int 3] [] rfl (rp_run hR) rfl (by decide) (Nat.le_of_ble_eq_true rfl) (Nat.le_refl _) (Nat.le_refl _) d_Run_putOut_29 (cy_kv ?_)
    refine c_Run_fail hE hR  _ (fun M1 hR1 => ⟨rfl, ?_⟩)
    refine wm_vret C P d_Run_putOut_32 ?_
    have e : cy_Run_putOut s value = (cy_Run_fail s 3) := by rw [cy_Run_putOut, if_pos h_9]
    rw [e] at h
    exact h _ hR1
  · refine wm_aload_n C d_Run_putOut_12 rfl (j := 0) rfl ?_
    refine wm_get C co_Run (rp_run hR) 3 (by decide) fl_Run_24 rfl d_Run_putOut_13 ?_
    refine wm_iload_n C d_Run_putOut_16 rfl (j := 1) rfl ?_
    refine wm_sipush (v := 255) C d_Run_putOut_17 (by decide) ?_
    refine wm_iand C d_Run_putOut_20 ?_
    refine wm_callVN (d2 := 0) (mc := 0) (ms := 0) C mo_Row_add co_Row ml_Run_134 [.int (value &&& 255)] [] rfl (rp_row hR (by decide)) rfl (by decide) (Nat.le_of_ble_eq_true rfl) (Nat.le_refl _) (Nat.le_refl _) d_Run_putOut_21 (cy_kv ?_)
    refine c_add hE hR (by decide) _ (fun M2 hR2 => ⟨rfl, ?_⟩)
    refine wm_goto (tgt := 32) C d_Run_putOut_24 (by decide) ?_
    refine wm_vret C P d_Run_putOut_32 ?_
    have e : cy_Run_putOut s value = (cy_radd s 5 (value &&& 255)) := by rw [cy_Run_putOut, if_neg h_9]
    rw [e] at h
    exact h _ hR2
def cy_Run_divide (s : cy_S) (op : Int32) : cy_S :=
  if (cy_rlast s (42 + 2 * s.2.2.1.1)) = 0 then
    (cy_Run_fail (cy_rdrop (cy_rdrop s (42 + 2 * s.2.2.1.1)) (42 + 2 * s.2.2.1.1)) 1)
  else
    if op = 25 then
      (cy_radd (cy_rdrop (cy_rdrop s (42 + 2 * s.2.2.1.1)) (42 + 2 * s.2.2.1.1)) (42 + 2 * s.2.2.1.1) ((cy_rlast (cy_rdrop s (42 + 2 * s.2.2.1.1)) (42 + 2 * s.2.2.1.1)) / (cy_rlast s (42 + 2 * s.2.2.1.1))))
    else
      (cy_radd (cy_rdrop (cy_rdrop s (42 + 2 * s.2.2.1.1)) (42 + 2 * s.2.2.1.1)) (42 + 2 * s.2.2.1.1) ((cy_rlast (cy_rdrop s (42 + 2 * s.2.2.1.1)) (42 + 2 * s.2.2.1.1)) - (cy_rlast (cy_rdrop s (42 + 2 * s.2.2.1.1)) (42 + 2 * s.2.2.1.1)) / (cy_rlast s (42 + 2 * s.2.2.1.1)) * (cy_rlast s (42 + 2 * s.2.2.1.1))))
set_option maxHeartbeats 4000000 in
theorem c_Run_divide {G : cy_G} {E : cy_E} {s : cy_S} {M : cy_Hp} {post : Option Value → cy_Hp → Prop} (hE : cy_Eo G E) (hR : cy_R E s M)  (op : Int32) (h : ∀ M', cy_R E (cy_Run_divide s op) M' → post none M') : cy_Ct G 1 m_Run_divide [.ref (E.2.2.1 136), .int op] M 0 0 post := by
  refine cy_Ct.of (by decide) (Nat.le_of_ble_eq_true rfl) ?_
  intro F C P _
  have C : cy_C G F R_Run b_Run_divide 4 1 0 0 := C
  have P : cy_P G F none post 0 0 := P
  show WM G F 4 0 0 0 [(0, .ref (E.2.2.1 136)), (1, .int op)] [] M
  refine wm_aload_n C d_Run_divide_0 rfl (j := 0) rfl ?_
  refine wm_get C co_Run (rp_run hR) 4 (by decide) fl_Run_39 rfl d_Run_divide_1 ?_
  refine wm_getN C co_Frame (rp_frame hR (rp_work (s := s) hR)) 3 (by decide) fl_Run_131 rfl d_Run_divide_4 ?_
  refine wm_callVN (d2 := 0) (mc := 0) (ms := 0) C mo_Row_takeLast co_Row ml_Run_144 [] [] rfl (rp_row hR (rb42 (rp_work (s := s) hR))) rfl (by decide) (Nat.le_of_ble_eq_true rfl) (Nat.le_refl _) (Nat.le_refl _) d_Run_divide_7 (cy_ki ?_)
  refine c_take hE hR (rb42 (rp_work (s := s) hR)) (fun M1 hR1 => ⟨_, rfl, ?_⟩)
  refine wm_istore_n (lv' := [(2, .int (cy_rlast s (42 + 2 * s.2.2.1.1))), (0, .ref (E.2.2.1 136)), (1, .int op)]) C d_Run_divide_10 rfl (by decide) rfl ?_
  refine wm_aload_n C d_Run_divide_11 rfl (j := 1) rfl ?_
  refine wm_get C co_Run (rp_run hR1) 4 (by decide) fl_Run_39 rfl d_Run_divide_12 ?_
  refine wm_getN C co_Frame (rp_frame hR1 (rp_work (s := s) hR)) 3 (by decide) fl_Run_131 rfl d_Run_divide_15 ?_
  refine wm_callVN (d2 := 0) (mc := 0) (ms := 0) C mo_Row_takeLast co_Row ml_Run_144 [] [] rfl (rp_row hR1 (rb42 (rp_work (s := s) hR))) rfl (by decide) (Nat.le_of_ble_eq_true rfl) (Nat.le_refl _) (Nat.le_refl _) d_Run_divide_18 (cy_ki ?_)
  refine c_take hE hR1 (rb42 (rp_work (s := s) hR)) (fun M2 hR2 => ⟨_, rfl, ?_⟩)
  refine wm_istore_n (lv' := [(3, .int (cy_rlast (cy_rdrop s (42 + 2 * s.2.2.1.1)) (42 + 2 * s.2.2.1.1))), (2, .int (cy_rlast s (42 + 2 * s.2.2.1.1))), (0, .ref (E.2.2.1 136)), (1, .int op)]) C d_Run_divide_21 rfl (by decide) rfl ?_
  refine wm_iload_n C d_Run_divide_22 rfl (j := 1) rfl ?_
  refine wm_if_ne (tgt := 34) C d_Run_divide_23 (by decide) (fun (h_23 : ¬ (cy_rlast s (42 + 2 * s.2.2.1.1)) = 0) => ?_) (fun (h_23 : (cy_rlast s (42 + 2 * s.2.2.1.1)) = 0) => ?_)
  · refine wm_aload_n C d_Run_divide_34 rfl (j := 2) rfl ?_
    refine wm_get C co_Run (rp_run hR2) 4 (by decide) fl_Run_39 rfl d_Run_divide_35 ?_
    refine wm_getN C co_Frame (rp_frame hR2 (rp_work (s := s) hR)) 3 (by decide) fl_Run_131 rfl d_Run_divide_38 ?_
    refine wm_iload_n C d_Run_divide_41 rfl (j := 3) rfl ?_
    refine wm_bipush (v := 25) C d_Run_divide_42 (by decide) ?_
    refine wm_icmp_ne (tgt := 53) C d_Run_divide_44 (by decide) (fun (h_44 : ¬ op = 25) => ?_) (fun (h_44 : op = 25) => ?_)
    · refine wm_iload_n C d_Run_divide_53 rfl (j := 0) rfl ?_
      refine wm_iload_n C d_Run_divide_54 rfl (j := 1) rfl ?_
      refine wm_irem C d_Run_divide_55 (h_23) ?_
      refine wm_callVN (d2 := 0) (mc := 0) (ms := 0) C mo_Row_add co_Row ml_Run_134 [.int ((cy_rlast (cy_rdrop s (42 + 2 * s.2.2.1.1)) (42 + 2 * s.2.2.1.1)) - (cy_rlast (cy_rdrop s (42 + 2 * s.2.2.1.1)) (42 + 2 * s.2.2.1.1)) / (cy_rlast s (42 + 2 * s.2.2.1.1)) * (cy_rlast s (42 + 2 * s.2.2.1.1)))] [] rfl (rp_row hR2 (rb42 (rp_work (s := s) hR))) rfl (by decide) (Nat.le_of_ble_eq_true rfl) (Nat.le_refl _) (Nat.le_refl _) d_Run_divide_56 (cy_kv ?_)
      refine c_add hE hR2 (rb42 (rp_work (s := s) hR)) _ (fun M3 hR3 => ⟨rfl, ?_⟩)
      refine wm_vret C P d_Run_divide_59 ?_
      have e : cy_Run_divide s op = (cy_radd (cy_rdrop (cy_rdrop s (42 + 2 * s.2.2.1.1)) (42 + 2 * s.2.2.1.1)) (42 + 2 * s.2.2.1.1) ((cy_rlast (cy_rdrop s (42 + 2 * s.2.2.1.1)) (42 + 2 * s.2.2.1.1)) - (cy_rlast (cy_rdrop s (42 + 2 * s.2.2.1.1)) (42 + 2 * s.2.2.1.1)) / (cy_rlast s (42 + 2 * s.2.2.1.1)) * (cy_rlast s (42 + 2 * s.2.2.1.1)))) := by rw [cy_Run_divide, if_neg h_23, if_neg h_44]
      rw [e] at h
      exact h _ hR3
    · refine wm_iload_n C d_Run_divide_47 rfl (j := 0) rfl ?_
      refine wm_iload_n C d_Run_divide_48 rfl (j := 1) rfl ?_
      refine wm_idiv C d_Run_divide_49 (h_23) ?_
      refine wm_goto (tgt := 56) C d_Run_divide_50 (by decide) ?_
      refine wm_callVN (d2 := 0) (mc := 0) (ms := 0) C mo_Row_add co_Row ml_Run_134 [.int ((cy_rlast (cy_rdrop s (42 + 2 * s.2.2.1.1)) (42 + 2 * s.2.2.1.1)) / (cy_rlast s (42 + 2 * s.2.2.1.1)))] [] rfl (rp_row hR2 (rb42 (rp_work (s := s) hR))) rfl (by decide) (Nat.le_of_ble_eq_true rfl) (Nat.le_refl _) (Nat.le_refl _) d_Run_divide_56 (cy_kv ?_)
      refine c_add hE hR2 (rb42 (rp_work (s := s) hR)) _ (fun M4 hR4 => ⟨rfl, ?_⟩)
      refine wm_vret C P d_Run_divide_59 ?_
      have e : cy_Run_divide s op = (cy_radd (cy_rdrop (cy_rdrop s (42 + 2 * s.2.2.1.1)) (42 + 2 * s.2.2.1.1)) (42 + 2 * s.2.2.1.1) ((cy_rlast (cy_rdrop s (42 + 2 * s.2.2.1.1)) (42 + 2 * s.2.2.1.1)) / (cy_rlast s (42 + 2 * s.2.2.1.1)))) := by rw [cy_Run_divide, if_neg h_23, if_pos h_44]
      rw [e] at h
      exact h _ hR4
  · refine wm_aload_n C d_Run_divide_26 rfl (j := 2) rfl ?_
    refine wm_iconst (v := 1) C d_Run_divide_27 (by decide) ?_
    refine wm_callV (d2 := 0) (mc := 0) (ms := 0) C mo_Run_fail co_Run ml_Run_104 [.int 1] [] rfl (rp_run hR2) rfl (by decide) (Nat.le_of_ble_eq_true rfl) (Nat.le_refl _) (Nat.le_refl _) d_Run_divide_28 (cy_kv ?_)
    refine c_Run_fail hE hR2  _ (fun M5 hR5 => ⟨rfl, ?_⟩)
    refine wm_goto (tgt := 59) C d_Run_divide_31 (by decide) ?_
    refine wm_vret C P d_Run_divide_59 ?_
    have e : cy_Run_divide s op = (cy_Run_fail (cy_rdrop (cy_rdrop s (42 + 2 * s.2.2.1.1)) (42 + 2 * s.2.2.1.1)) 1) := by rw [cy_Run_divide, if_pos h_23]
    rw [e] at h
    exact h _ hR5
def cy_Run_finish (s : cy_S) (value : Int32) : cy_S :=
  if s.2.2.1.1 = 0 then
    (cy_s_result (cy_s_status s 0) value)
  else
    (cy_s_work (cy_radd s (42 + 2 * (s.2.2.1.1 - 1)) value) (s.2.2.1.1 - 1))
set_option maxHeartbeats 4000000 in
theorem c_Run_finish {G : cy_G} {E : cy_E} {s : cy_S} {M : cy_Hp} {post : Option Value → cy_Hp → Prop} (hE : cy_Eo G E) (hR : cy_R E s M)  (value : Int32) (h : ∀ M', cy_R E (cy_Run_finish s value) M' → post none M') : cy_Ct G 1 m_Run_finish [.ref (E.2.2.1 136), .int value] M 0 0 post := by
  refine cy_Ct.of (by decide) (Nat.le_of_ble_eq_true rfl) ?_
  intro F C P _
  have C : cy_C G F R_Run b_Run_finish 3 1 0 0 := C
  have P : cy_P G F none post 0 0 := P
  show WM G F 3 0 0 0 [(0, .ref (E.2.2.1 136)), (1, .int value)] [] M
  refine wm_aload_n C d_Run_finish_0 rfl (j := 0) rfl ?_
  refine wm_get C co_Run (rp_run hR) 4 (by decide) fl_Run_39 rfl d_Run_finish_1 ?_
  by_cases f_4 : s.2.2.1.1 = 0
  · refine wm_getN (v := .null) C co_Frame (rp_frame hR (rp_work (s := s) hR)) 1 (by decide) fl_Run_179 (cy_outer_n f_4) d_Run_finish_4 ?_
    refine wm_astore_nN (lv' := [(2, .null), (0, .ref (E.2.2.1 136)), (1, .int value)]) C d_Run_finish_7 rfl (by decide) rfl ?_
    refine wm_aload_nN C d_Run_finish_8 rfl (j := 0) rfl ?_
    refine wm_ifnonnullN C d_Run_finish_9 ?_
    refine wm_aload_n C d_Run_finish_12 rfl (j := 1) rfl ?_
    refine wm_iconst (v := 0) C d_Run_finish_13 (by decide) ?_
    refine wm_put C co_Run (rp_run hR) 6 (by decide) fl_Run_49 rfl rfl rfl (Nat.le_of_ble_eq_true rfl) d_Run_finish_14 ?_
    refine wm_gen (rp_p_status hE hR 0) (fun M1 hR1 => ?_)
    refine wm_aload_n C d_Run_finish_17 rfl (j := 1) rfl ?_
    refine wm_iload_n C d_Run_finish_18 rfl (j := 2) rfl ?_
    refine wm_put C co_Run (rp_run hR1) 7 (by decide) fl_Run_76 rfl rfl rfl (Nat.le_of_ble_eq_true rfl) d_Run_finish_19 ?_
    refine wm_gen (rp_p_result hE hR1 value) (fun M2 hR2 => ?_)
    refine wm_goto (tgt := 38) C d_Run_finish_22 (by decide) ?_
    refine wm_vret C P d_Run_finish_38 ?_
    have e : cy_Run_finish s value = (cy_s_result (cy_s_status s 0) value) := by rw [cy_Run_finish, if_pos f_4]
    rw [e] at h
    exact h _ hR2
  · refine wm_getN (v := .ref (E.2.2.1 (125 + (s.2.2.1.1 - 1)))) C co_Frame (rp_frame hR (rp_work (s := s) hR)) 1 (by decide) fl_Run_179 (cy_outer_s f_4) d_Run_finish_4 ?_
    refine wm_astore_n (lv' := [(2, .ref (E.2.2.1 (125 + (s.2.2.1.1 - 1)))), (0, .ref (E.2.2.1 136)), (1, .int value)]) C d_Run_finish_7 rfl (by decide) rfl ?_
    refine wm_aload_n C d_Run_finish_8 rfl (j := 0) rfl ?_
    refine wm_ifnonnull (tgt := 25) C d_Run_finish_9 (by decide) ?_
    refine wm_aload_n C d_Run_finish_25 rfl (j := 0) rfl ?_
    refine wm_getN C co_Frame (rp_frame hR (cy_lt_out (rp_work (s := s) hR) f_4)) 3 (by decide) fl_Run_131 rfl d_Run_finish_26 ?_
    refine wm_iload_n C d_Run_finish_29 rfl (j := 2) rfl ?_
    refine wm_callVN (d2 := 0) (mc := 0) (ms := 0) C mo_Row_add co_Row ml_Run_134 [.int value] [] rfl (rp_row hR (rb42 (cy_lt_out (rp_work (s := s) hR) f_4))) rfl (by decide) (Nat.le_of_ble_eq_true rfl) (Nat.le_refl _) (Nat.le_refl _) d_Run_finish_30 (cy_kv ?_)
    refine c_add hE hR (rb42 (cy_lt_out (rp_work (s := s) hR) f_4)) _ (fun M3 hR3 => ⟨rfl, ?_⟩)
    refine wm_aload_n C d_Run_finish_33 rfl (j := 1) rfl ?_
    refine wm_aload_n C d_Run_finish_34 rfl (j := 0) rfl ?_
    refine wm_put C co_Run (rp_run hR3) 4 (by decide) fl_Run_39 rfl rfl rfl (Nat.le_of_ble_eq_true rfl) d_Run_finish_35 ?_
    refine wm_gen (rp_p_work hE hR3 (cy_lt_out (rp_work (s := s) hR) f_4)) (fun M4 hR4 => ?_)
    refine wm_vret C P d_Run_finish_38 ?_
    have e : cy_Run_finish s value = (cy_s_work (cy_radd s (42 + 2 * (s.2.2.1.1 - 1)) value) (s.2.2.1.1 - 1)) := by rw [cy_Run_finish, if_neg f_4]
    rw [e] at h
    exact h _ hR4
