theorem cy_n0 {n p : Int32} (h : n.toInt ≤ p.toInt + ((0 : Nat) : Int)) : n ≤ p := by
  rw [Int32.le_iff_toInt_le]; omega
theorem cy_inc {n p : Int32} (h : ¬ n ≤ p) : (p + 1).toInt = p.toInt + 1 := by
  rw [Int32.le_iff_toInt_le] at h
  have h1 := n.toInt_lt
  have h2 := p.le_toInt
  rw [Int32.toInt_add, show (1 : Int32).toInt = 1 from rfl]
  exact Int.bmod_eq_of_le (by omega) (by omega)
theorem cy_n1 {n p : Int32} {q : Nat} (h : n.toInt ≤ p.toInt + ((q + 1 : Nat) : Int)) (h2 : ¬ n ≤ p) : n.toInt ≤ (p + 1).toInt + (q : Int) := by
  rw [cy_inc h2]; omega
theorem cy_n2 {n p : Int32} {q : Nat} (hn : n.toInt < 2 ^ 31 - 1) (h : n.toInt ≤ p.toInt + ((q + 1 : Nat) : Int)) (h2 : ¬ n ≤ p) : n.toInt ≤ (p + 1 + 1).toInt + (q : Int) := by
  have e1 := cy_inc h2
  have h3 := h2
  rw [Int32.le_iff_toInt_le] at h3
  have h4 := p.le_toInt
  have e2 : (p + 1 + 1).toInt = p.toInt + 2 := by
    rw [Int32.toInt_add, e1, show (1 : Int32).toInt = 1 from rfl]
    rw [Int.bmod_eq_of_le (by omega) (by omega)]
    omega
  rw [e2]; omega
theorem cy_fuel (n p : Int32) : n.toInt ≤ p.toInt + (((n.toInt - p.toInt).toNat : Nat) : Int) := by omega
def cy_Survey_clear (s : cy_S) (n : Int32) : cy_S :=
  (cy_s_searchFrom (cy_s_lastStart (cy_s_instructions (cy_rfill (cy_rfill (cy_rfill s 1 n 0) 2 n (-1)) 3 n 0) 0) 3) n)
set_option maxHeartbeats 4000000 in
theorem c_Survey_clear {G : cy_G} {E : cy_E} {s : cy_S} {M : cy_Hp} {post : Option Value → cy_Hp → Prop} (hE : cy_Eo G E) (hR : cy_R E s M)  (n : Int32) (h : ∀ M', cy_R E (cy_Survey_clear s n) M' → post none M') : cy_Ct G 2 m_Survey_clear [.ref (E.2.2.1 135), .int n] M 0 0 post := by
  refine cy_Ct.of (by decide) (Nat.le_of_ble_eq_true rfl) ?_
  intro F C P _
  have C : cy_C G F R_Survey b_Survey_clear 2 2 0 0 := C
  have P : cy_P G F none post 0 0 := P
  show WM G F 2 0 0 0 [(0, .ref (E.2.2.1 135)), (1, .int n)] [] M
  refine wm_aload_n C d_Survey_clear_0 rfl (j := 0) rfl ?_
  refine wm_get C co_Survey (rp_survey hR) 0 (by decide) fl_Survey_14 rfl d_Survey_clear_1 ?_
  refine wm_iload_n C d_Survey_clear_4 rfl (j := 1) rfl ?_
  refine wm_iconst (v := 0) C d_Survey_clear_5 (by decide) ?_
  refine wm_callVN (d2 := 1) (mc := 0) (ms := 0) C mo_Row_become co_Row ml_Survey_47 [.int n, .int 0] [] rfl (rp_row hR (by decide)) rfl (by decide) (Nat.le_of_ble_eq_true rfl) (Nat.le_refl _) (Nat.le_refl _) d_Survey_clear_6 (cy_kv ?_)
  refine c_fill hE hR (by decide) _ _ (fun M1 hR1 => ⟨rfl, ?_⟩)
  refine wm_aload_n C d_Survey_clear_9 rfl (j := 0) rfl ?_
  refine wm_get C co_Survey (rp_survey hR1) 1 (by decide) fl_Survey_20 rfl d_Survey_clear_10 ?_
  refine wm_iload_n C d_Survey_clear_13 rfl (j := 1) rfl ?_
  refine wm_iconst (v := -1) C d_Survey_clear_14 (by decide) ?_
  refine wm_callVN (d2 := 1) (mc := 0) (ms := 0) C mo_Row_become co_Row ml_Survey_47 [.int n, .int (-1)] [] rfl (rp_row hR1 (by decide)) rfl (by decide) (Nat.le_of_ble_eq_true rfl) (Nat.le_refl _) (Nat.le_refl _) d_Survey_clear_15 (cy_kv ?_)
  refine c_fill hE hR1 (by decide) _ _ (fun M2 hR2 => ⟨rfl, ?_⟩)
  refine wm_aload_n C d_Survey_clear_18 rfl (j := 0) rfl ?_
  refine wm_get C co_Survey (rp_survey hR2) 2 (by decide) fl_Survey_23 rfl d_Survey_clear_19 ?_
  refine wm_iload_n C d_Survey_clear_22 rfl (j := 1) rfl ?_
  refine wm_iconst (v := 0) C d_Survey_clear_23 (by decide) ?_
  refine wm_callVN (d2 := 1) (mc := 0) (ms := 0) C mo_Row_become co_Row ml_Survey_47 [.int n, .int 0] [] rfl (rp_row hR2 (by decide)) rfl (by decide) (Nat.le_of_ble_eq_true rfl) (Nat.le_refl _) (Nat.le_refl _) d_Survey_clear_24 (cy_kv ?_)
  refine c_fill hE hR2 (by decide) _ _ (fun M3 hR3 => ⟨rfl, ?_⟩)
  refine wm_aload_n C d_Survey_clear_27 rfl (j := 0) rfl ?_
  refine wm_iconst (v := 0) C d_Survey_clear_28 (by decide) ?_
  refine wm_put C co_Survey (rp_survey hR3) 3 (by decide) fl_Survey_51 rfl rfl rfl (Nat.le_of_ble_eq_true rfl) d_Survey_clear_29 ?_
  refine wm_gen (rp_p_instructions hE hR3 0) (fun M4 hR4 => ?_)
  refine wm_aload_n C d_Survey_clear_32 rfl (j := 0) rfl ?_
  refine wm_iconst (v := 3) C d_Survey_clear_33 (by decide) ?_
  refine wm_put C co_Survey (rp_survey hR4) 4 (by decide) fl_Survey_54 rfl rfl rfl (Nat.le_of_ble_eq_true rfl) d_Survey_clear_34 ?_
  refine wm_gen (rp_p_lastStart hE hR4 3) (fun M5 hR5 => ?_)
  refine wm_aload_n C d_Survey_clear_37 rfl (j := 0) rfl ?_
  refine wm_iload_n C d_Survey_clear_38 rfl (j := 1) rfl ?_
  refine wm_put C co_Survey (rp_survey hR5) 5 (by decide) fl_Survey_57 rfl rfl rfl (Nat.le_of_ble_eq_true rfl) d_Survey_clear_39 ?_
  refine wm_gen (rp_p_searchFrom hE hR5 n) (fun M6 hR6 => ?_)
  refine wm_vret C P d_Survey_clear_42 ?_
  have e : cy_Survey_clear s n = (cy_s_searchFrom (cy_s_lastStart (cy_s_instructions (cy_rfill (cy_rfill (cy_rfill s 1 n 0) 2 n (-1)) 3 n 0) 0) 3) n) := by rw [cy_Survey_clear]
  rw [e] at h
  exact h _ hR6
def cy_Survey_readingFault (s : cy_S) (p : Int32) : Int32 :=
  if (cy_Yard_isInstruction (cy_rat s 0 p (-1))) = 0 then
    cy_Survey_fault 2 p
  else
    if (cy_Yard_hasOperand (cy_rat s 0 p (-1))) = 0 then
      0
    else
      if (cy_rhas s 0 (p + 1)) = 0 then
        cy_Survey_fault 3 p
      else
        if (cy_rat s 0 (p + 1) 0) ≤ (cy_Yard_operandMost (cy_rat s 0 p (-1))) then
          0
        else
          cy_Survey_fault 4 p
set_option maxHeartbeats 4000000 in
theorem c_Survey_readingFault {G : cy_G} {E : cy_E} {s : cy_S} {M : cy_Hp} {post : Option Value → cy_Hp → Prop} (hE : cy_Eo G E) (hR : cy_R E s M)  (p : Int32) (h : post (some (.int (cy_Survey_readingFault s p))) M) : cy_Ct G 3 m_Survey_readingFault [.ref (E.2.2.1 (2 * 0)), .int p] M 0 0 post := by
  refine cy_Ct.of (by decide) (Nat.le_of_ble_eq_true rfl) ?_
  intro F C P _
  have C : cy_C G F R_Survey b_Survey_readingFault 3 3 0 0 := C
  have P : cy_P G F (some .int) post 0 0 := P
  show WM G F 3 0 0 0 [(0, .ref (E.2.2.1 (2 * 0))), (1, .int p)] [] M
  refine wm_aload_n C d_Survey_readingFault_0 rfl (j := 0) rfl ?_
  refine wm_iload_n C d_Survey_readingFault_1 rfl (j := 1) rfl ?_
  refine wm_iconst (v := -1) C d_Survey_readingFault_2 (by decide) ?_
  refine wm_callVN (d2 := 0) (mc := 0) (ms := 0) C mo_Row_at co_Row ml_Survey_67 [.int p, .int (-1)] [] rfl (rp_row hR (by decide)) rfl (by decide) (Nat.le_of_ble_eq_true rfl) (Nat.le_refl _) (Nat.le_refl _) d_Survey_readingFault_3 (cy_ki ?_)
  refine c_at hE hR (by decide) _ _ ⟨_, rfl, ?_⟩
  refine wm_istore_n (lv' := [(2, .int (cy_rat s 0 p (-1))), (0, .ref (E.2.2.1 (2 * 0))), (1, .int p)]) C d_Survey_readingFault_6 rfl (by decide) rfl ?_
  refine wm_iload_n C d_Survey_readingFault_7 rfl (j := 0) rfl ?_
  refine wm_callSN (d2 := 0) (mc := 0) (ms := 0) C mo_Yard_isInstruction ml_Survey_77 [.int (cy_rat s 0 p (-1))] [] rfl rfl (by decide) (Nat.le_of_ble_eq_true rfl) (Nat.le_refl _) (Nat.le_refl _) d_Survey_readingFault_8 (cy_ki ?_)
  refine c_Yard_isInstruction hE hR  _ ⟨_, rfl, ?_⟩
  refine wm_if_ne (tgt := 20) C d_Survey_readingFault_11 (by decide) (fun (h_11 : ¬ (cy_Yard_isInstruction (cy_rat s 0 p (-1))) = 0) => ?_) (fun (h_11 : (cy_Yard_isInstruction (cy_rat s 0 p (-1))) = 0) => ?_)
  · refine wm_iload_n C d_Survey_readingFault_20 rfl (j := 0) rfl ?_
    refine wm_callSN (d2 := 2) (mc := 0) (ms := 0) C mo_Yard_hasOperand ml_Survey_70 [.int (cy_rat s 0 p (-1))] [] rfl rfl (by decide) (Nat.le_of_ble_eq_true rfl) (Nat.le_refl _) (Nat.le_refl _) d_Survey_readingFault_21 (cy_ki ?_)
    refine c_Yard_hasOperand hE hR  _ ⟨_, rfl, ?_⟩
    refine wm_if_ne (tgt := 29) C d_Survey_readingFault_24 (by decide) (fun (h_24 : ¬ (cy_Yard_hasOperand (cy_rat s 0 p (-1))) = 0) => ?_) (fun (h_24 : (cy_Yard_hasOperand (cy_rat s 0 p (-1))) = 0) => ?_)
    · refine wm_aload_n C d_Survey_readingFault_29 rfl (j := 1) rfl ?_
      refine wm_iload_n C d_Survey_readingFault_30 rfl (j := 2) rfl ?_
      refine wm_iconst (v := 1) C d_Survey_readingFault_31 (by decide) ?_
      refine wm_iadd C d_Survey_readingFault_32 ?_
      refine wm_callVN (d2 := 0) (mc := 0) (ms := 0) C mo_Row_has co_Row ml_Survey_80 [.int (p + 1)] [] rfl (rp_row hR (by decide)) rfl (by decide) (Nat.le_of_ble_eq_true rfl) (Nat.le_refl _) (Nat.le_refl _) d_Survey_readingFault_33 (cy_ki ?_)
      refine c_has hE hR (by decide) _ ⟨_, rfl, ?_⟩
      refine wm_if_ne (tgt := 45) C d_Survey_readingFault_36 (by decide) (fun (h_36 : ¬ (cy_rhas s 0 (p + 1)) = 0) => ?_) (fun (h_36 : (cy_rhas s 0 (p + 1)) = 0) => ?_)
      · refine wm_aload_n C d_Survey_readingFault_45 rfl (j := 1) rfl ?_
        refine wm_iload_n C d_Survey_readingFault_46 rfl (j := 2) rfl ?_
        refine wm_iconst (v := 1) C d_Survey_readingFault_47 (by decide) ?_
        refine wm_iadd C d_Survey_readingFault_48 ?_
        refine wm_iconst (v := 0) C d_Survey_readingFault_49 (by decide) ?_
        refine wm_callVN (d2 := 0) (mc := 0) (ms := 0) C mo_Row_at co_Row ml_Survey_67 [.int (p + 1), .int 0] [] rfl (rp_row hR (by decide)) rfl (by decide) (Nat.le_of_ble_eq_true rfl) (Nat.le_refl _) (Nat.le_refl _) d_Survey_readingFault_50 (cy_ki ?_)
        refine c_at hE hR (by decide) _ _ ⟨_, rfl, ?_⟩
        refine wm_iload_n C d_Survey_readingFault_53 rfl (j := 0) rfl ?_
        refine wm_callSN (d2 := 1) (mc := 0) (ms := 0) C mo_Yard_operandMost ml_Survey_83 [.int (cy_rat s 0 p (-1))] [.int (cy_rat s 0 (p + 1) 0)] rfl rfl (by decide) (Nat.le_of_ble_eq_true rfl) (Nat.le_refl _) (Nat.le_refl _) d_Survey_readingFault_54 (cy_ki ?_)
        refine c_Yard_operandMost hE hR  _ ⟨_, rfl, ?_⟩
        refine wm_icmp_le (tgt := 68) C d_Survey_readingFault_57 (by decide) (fun (h_57 : (cy_rat s 0 (p + 1) 0) ≤ (cy_Yard_operandMost (cy_rat s 0 p (-1)))) => ?_) (fun (h_57 : ¬ (cy_rat s 0 (p + 1) 0) ≤ (cy_Yard_operandMost (cy_rat s 0 p (-1)))) => ?_)
        · refine wm_iconst (v := 0) C d_Survey_readingFault_68 (by decide) ?_
          refine wm_iret C P d_Survey_readingFault_69 ?_
          have e : cy_Survey_readingFault s p = 0 := by rw [cy_Survey_readingFault, if_neg h_11, if_neg h_24, if_neg h_36, if_pos h_57]
          rw [e] at h
          exact h
        · refine wm_iconst (v := 4) C d_Survey_readingFault_60 (by decide) ?_
          refine wm_iload_n C d_Survey_readingFault_61 rfl (j := 2) rfl ?_
          refine wm_callS (d2 := 0) (mc := 0) (ms := 0) C mo_Survey_fault ml_Survey_30 [.int 4, .int p] [] rfl rfl (by decide) (Nat.le_of_ble_eq_true rfl) (Nat.le_refl _) (Nat.le_refl _) d_Survey_readingFault_62 (cy_ki ?_)
          refine c_Survey_fault hE hR  _ _ ⟨_, rfl, ?_⟩
          refine wm_goto (tgt := 69) C d_Survey_readingFault_65 (by decide) ?_
          refine wm_iret C P d_Survey_readingFault_69 ?_
          have e : cy_Survey_readingFault s p = cy_Survey_fault 4 p := by rw [cy_Survey_readingFault, if_neg h_11, if_neg h_24, if_neg h_36, if_neg h_57]
          rw [e] at h
          exact h
      · refine wm_iconst (v := 3) C d_Survey_readingFault_39 (by decide) ?_
        refine wm_iload_n C d_Survey_readingFault_40 rfl (j := 2) rfl ?_
        refine wm_callS (d2 := 0) (mc := 0) (ms := 0) C mo_Survey_fault ml_Survey_30 [.int 3, .int p] [] rfl rfl (by decide) (Nat.le_of_ble_eq_true rfl) (Nat.le_refl _) (Nat.le_refl _) d_Survey_readingFault_41 (cy_ki ?_)
        refine c_Survey_fault hE hR  _ _ ⟨_, rfl, ?_⟩
        refine wm_iret C P d_Survey_readingFault_44 ?_
        have e : cy_Survey_readingFault s p = cy_Survey_fault 3 p := by rw [cy_Survey_readingFault, if_neg h_11, if_neg h_24, if_pos h_36]
        rw [e] at h
        exact h
    · refine wm_iconst (v := 0) C d_Survey_readingFault_27 (by decide) ?_
      refine wm_iret C P d_Survey_readingFault_28 ?_
      have e : cy_Survey_readingFault s p = 0 := by rw [cy_Survey_readingFault, if_neg h_11, if_pos h_24]
      rw [e] at h
      exact h
  · refine wm_iconst (v := 2) C d_Survey_readingFault_14 (by decide) ?_
    refine wm_iload_n C d_Survey_readingFault_15 rfl (j := 2) rfl ?_
    refine wm_callS (d2 := 0) (mc := 0) (ms := 0) C mo_Survey_fault ml_Survey_30 [.int 2, .int p] [] rfl rfl (by decide) (Nat.le_of_ble_eq_true rfl) (Nat.le_refl _) (Nat.le_refl _) d_Survey_readingFault_16 (cy_ki ?_)
    refine c_Survey_fault hE hR  _ _ ⟨_, rfl, ?_⟩
    refine wm_iret C P d_Survey_readingFault_19 ?_
    have e : cy_Survey_readingFault s p = cy_Survey_fault 2 p := by rw [cy_Survey_readingFault, if_pos h_11]
    rw [e] at h
    exact h
def cy_Survey_tellsPlace (s : cy_S) (p : Int32) : Int32 :=
  if p < 3 then
    1
  else
    if (cy_rat s 1 (p - 1) 0) = 1 then
      if (cy_Yard_isJump (cy_rat s 0 (p - 1) (-1))) = 0 then
        0
      else
        1
    else
      0
set_option maxHeartbeats 4000000 in
theorem c_Survey_tellsPlace {G : cy_G} {E : cy_E} {s : cy_S} {M : cy_Hp} {post : Option Value → cy_Hp → Prop} (hE : cy_Eo G E) (hR : cy_R E s M)  (p : Int32) (h : post (some (.int (cy_Survey_tellsPlace s p))) M) : cy_Ct G 1 m_Survey_tellsPlace [.ref (E.2.2.1 135), .ref (E.2.2.1 (2 * 0)), .int p] M 0 0 post := by
  refine cy_Ct.of (by decide) (Nat.le_of_ble_eq_true rfl) ?_
  intro F C P _
  have C : cy_C G F R_Survey b_Survey_tellsPlace 3 1 0 0 := C
  have P : cy_P G F (some .boolean) post 0 0 := P
  show WM G F 3 0 0 0 [(0, .ref (E.2.2.1 135)), (1, .ref (E.2.2.1 (2 * 0))), (2, .int p)] [] M
  refine wm_iload_n C d_Survey_tellsPlace_0 rfl (j := 2) rfl ?_
  refine wm_iconst (v := 3) C d_Survey_tellsPlace_1 (by decide) ?_
  refine wm_icmp_lt (tgt := 34) C d_Survey_tellsPlace_2 (by decide) (fun (h_2 : p < 3) => ?_) (fun (h_2 : ¬ p < 3) => ?_)
  · refine wm_iconst (v := 1) C d_Survey_tellsPlace_34 (by decide) ?_
    refine wm_goto (tgt := 39) C d_Survey_tellsPlace_35 (by decide) ?_
    refine wm_zret C P rfl d_Survey_tellsPlace_39 ?_
    have e : cy_Survey_tellsPlace s p = 1 := by rw [cy_Survey_tellsPlace, if_pos h_2]
    rw [e] at h
    exact h
  · refine wm_aload_n C d_Survey_tellsPlace_5 rfl (j := 0) rfl ?_
    refine wm_get C co_Survey (rp_survey hR) 0 (by decide) fl_Survey_14 rfl d_Survey_tellsPlace_6 ?_
    refine wm_iload_n C d_Survey_tellsPlace_9 rfl (j := 2) rfl ?_
    refine wm_iconst (v := 1) C d_Survey_tellsPlace_10 (by decide) ?_
    refine wm_isub C d_Survey_tellsPlace_11 ?_
    refine wm_iconst (v := 0) C d_Survey_tellsPlace_12 (by decide) ?_
    refine wm_callVN (d2 := 0) (mc := 0) (ms := 0) C mo_Row_at co_Row ml_Survey_67 [.int (p - 1), .int 0] [] rfl (rp_row hR (by decide)) rfl (by decide) (Nat.le_of_ble_eq_true rfl) (Nat.le_refl _) (Nat.le_refl _) d_Survey_tellsPlace_13 (cy_ki ?_)
    refine c_at hE hR (by decide) _ _ ⟨_, rfl, ?_⟩
    refine wm_iconst (v := 1) C d_Survey_tellsPlace_16 (by decide) ?_
    refine wm_icmp_ne (tgt := 38) C d_Survey_tellsPlace_17 (by decide) (fun (h_17 : ¬ (cy_rat s 1 (p - 1) 0) = 1) => ?_) (fun (h_17 : (cy_rat s 1 (p - 1) 0) = 1) => ?_)
    · refine wm_iconst (v := 0) C d_Survey_tellsPlace_38 (by decide) ?_
      refine wm_zret C P rfl d_Survey_tellsPlace_39 ?_
      have e : cy_Survey_tellsPlace s p = 0 := by rw [cy_Survey_tellsPlace, if_neg h_2, if_neg h_17]
      rw [e] at h
      exact h
    · refine wm_aload_n C d_Survey_tellsPlace_20 rfl (j := 1) rfl ?_
      refine wm_iload_n C d_Survey_tellsPlace_21 rfl (j := 2) rfl ?_
      refine wm_iconst (v := 1) C d_Survey_tellsPlace_22 (by decide) ?_
      refine wm_isub C d_Survey_tellsPlace_23 ?_
      refine wm_iconst (v := -1) C d_Survey_tellsPlace_24 (by decide) ?_
      refine wm_callVN (d2 := 0) (mc := 0) (ms := 0) C mo_Row_at co_Row ml_Survey_67 [.int (p - 1), .int (-1)] [] rfl (rp_row hR (by decide)) rfl (by decide) (Nat.le_of_ble_eq_true rfl) (Nat.le_refl _) (Nat.le_refl _) d_Survey_tellsPlace_25 (cy_ki ?_)
      refine c_at hE hR (by decide) _ _ ⟨_, rfl, ?_⟩
      refine wm_callSN (d2 := 0) (mc := 0) (ms := 0) C mo_Yard_isJump ml_Survey_91 [.int (cy_rat s 0 (p - 1) (-1))] [] rfl rfl (by decide) (Nat.le_of_ble_eq_true rfl) (Nat.le_refl _) (Nat.le_refl _) d_Survey_tellsPlace_28 (cy_ki ?_)
      refine c_Yard_isJump hE hR  _ ⟨_, rfl, ?_⟩
      refine wm_if_eq (tgt := 38) C d_Survey_tellsPlace_31 (by decide) (fun (h_31 : (cy_Yard_isJump (cy_rat s 0 (p - 1) (-1))) = 0) => ?_) (fun (h_31 : ¬ (cy_Yard_isJump (cy_rat s 0 (p - 1) (-1))) = 0) => ?_)
      · refine wm_iconst (v := 0) C d_Survey_tellsPlace_38 (by decide) ?_
        refine wm_zret C P rfl d_Survey_tellsPlace_39 ?_
        have e : cy_Survey_tellsPlace s p = 0 := by rw [cy_Survey_tellsPlace, if_neg h_2, if_pos h_17, if_pos h_31]
        rw [e] at h
        exact h
      · refine wm_iconst (v := 1) C d_Survey_tellsPlace_34 (by decide) ?_
        refine wm_goto (tgt := 39) C d_Survey_tellsPlace_35 (by decide) ?_
        refine wm_zret C P rfl d_Survey_tellsPlace_39 ?_
        have e : cy_Survey_tellsPlace s p = 1 := by rw [cy_Survey_tellsPlace, if_neg h_2, if_pos h_17, if_neg h_31]
        rw [e] at h
        exact h
def cy_Survey_comeTo (s : cy_S) (p : Int32) (height : Int32) : Int32 × cy_S :=
  if (cy_rat s 2 p (-1)) = (-1) then
    (0, (cy_s_searchFrom (cy_rput (cy_rput s 2 p height) 3 p 1) (if p < s.2.2.2.2.2 then p else s.2.2.2.2.2)))
  else
    if (cy_rat s 2 p (-1)) = height then
      (0, s)
    else
      (cy_Survey_fault 8 p, s)
set_option maxHeartbeats 4000000 in
theorem c_Survey_comeTo {G : cy_G} {E : cy_E} {s : cy_S} {M : cy_Hp} {post : Option Value → cy_Hp → Prop} (hE : cy_Eo G E) (hR : cy_R E s M)  (p : Int32) (height : Int32) (h : ∀ M', cy_R E (cy_Survey_comeTo s p height).2 M' → post (some (.int (cy_Survey_comeTo s p height).1)) M') : cy_Ct G 1 m_Survey_comeTo [.ref (E.2.2.1 135), .int p, .int height] M 0 0 post := by
  refine cy_Ct.of (by decide) (Nat.le_of_ble_eq_true rfl) ?_
  intro F C P _
  have C : cy_C G F R_Survey b_Survey_comeTo 4 1 0 0 := C
  have P : cy_P G F (some .int) post 0 0 := P
  show WM G F 4 0 0 0 [(0, .ref (E.2.2.1 135)), (1, .int p), (2, .int height)] [] M
  refine wm_aload_n C d_Survey_comeTo_0 rfl (j := 0) rfl ?_
  refine wm_get C co_Survey (rp_survey hR) 1 (by decide) fl_Survey_20 rfl d_Survey_comeTo_1 ?_
  refine wm_iload_n C d_Survey_comeTo_4 rfl (j := 1) rfl ?_
  refine wm_iconst (v := -1) C d_Survey_comeTo_5 (by decide) ?_
  refine wm_callVN (d2 := 0) (mc := 0) (ms := 0) C mo_Row_at co_Row ml_Survey_67 [.int p, .int (-1)] [] rfl (rp_row hR (by decide)) rfl (by decide) (Nat.le_of_ble_eq_true rfl) (Nat.le_refl _) (Nat.le_refl _) d_Survey_comeTo_6 (cy_ki ?_)
  refine c_at hE hR (by decide) _ _ ⟨_, rfl, ?_⟩
  refine wm_istore_n (lv' := [(3, .int (cy_rat s 2 p (-1))), (0, .ref (E.2.2.1 135)), (1, .int p), (2, .int height)]) C d_Survey_comeTo_9 rfl (by decide) rfl ?_
  refine wm_iload_n C d_Survey_comeTo_10 rfl (j := 0) rfl ?_
  refine wm_iconst (v := -1) C d_Survey_comeTo_11 (by decide) ?_
  refine wm_icmp_ne (tgt := 47) C d_Survey_comeTo_12 (by decide) (fun (h_12 : ¬ (cy_rat s 2 p (-1)) = (-1)) => ?_) (fun (h_12 : (cy_rat s 2 p (-1)) = (-1)) => ?_)
  · refine wm_iload_n C d_Survey_comeTo_47 rfl (j := 0) rfl ?_
    refine wm_iload_n C d_Survey_comeTo_48 rfl (j := 3) rfl ?_
    refine wm_icmp_ne (tgt := 56) C d_Survey_comeTo_49 (by decide) (fun (h_49 : ¬ (cy_rat s 2 p (-1)) = height) => ?_) (fun (h_49 : (cy_rat s 2 p (-1)) = height) => ?_)
    · refine wm_bipush (v := 8) C d_Survey_comeTo_56 (by decide) ?_
      refine wm_iload_n C d_Survey_comeTo_58 rfl (j := 2) rfl ?_
      refine wm_callS (d2 := 0) (mc := 0) (ms := 0) C mo_Survey_fault ml_Survey_30 [.int 8, .int p] [] rfl rfl (by decide) (Nat.le_of_ble_eq_true rfl) (Nat.le_refl _) (Nat.le_refl _) d_Survey_comeTo_59 (cy_ki ?_)
      refine c_Survey_fault hE hR  _ _ ⟨_, rfl, ?_⟩
      refine wm_iret C P d_Survey_comeTo_62 ?_
      have e : cy_Survey_comeTo s p height = (cy_Survey_fault 8 p, s) := by rw [cy_Survey_comeTo, if_neg h_12, if_neg h_49]
      rw [e] at h
      exact h _ hR
    · refine wm_iconst (v := 0) C d_Survey_comeTo_52 (by decide) ?_
      refine wm_goto (tgt := 62) C d_Survey_comeTo_53 (by decide) ?_
      refine wm_iret C P d_Survey_comeTo_62 ?_
      have e : cy_Survey_comeTo s p height = (0, s) := by rw [cy_Survey_comeTo, if_neg h_12, if_pos h_49]
      rw [e] at h
      exact h _ hR
  · refine wm_aload_n C d_Survey_comeTo_15 rfl (j := 1) rfl ?_
    refine wm_get C co_Survey (rp_survey hR) 1 (by decide) fl_Survey_20 rfl d_Survey_comeTo_16 ?_
    refine wm_iload_n C d_Survey_comeTo_19 rfl (j := 2) rfl ?_
    refine wm_iload_n C d_Survey_comeTo_20 rfl (j := 3) rfl ?_
    refine wm_callVN (d2 := 0) (mc := 0) (ms := 0) C mo_Row_put co_Row ml_Survey_64 [.int p, .int height] [] rfl (rp_row hR (by decide)) rfl (by decide) (Nat.le_of_ble_eq_true rfl) (Nat.le_refl _) (Nat.le_refl _) d_Survey_comeTo_21 (cy_kv ?_)
    refine c_put hE hR (by decide) _ _ (fun M1 hR1 => ⟨rfl, ?_⟩)
    refine wm_aload_n C d_Survey_comeTo_24 rfl (j := 1) rfl ?_
    refine wm_get C co_Survey (rp_survey hR1) 2 (by decide) fl_Survey_23 rfl d_Survey_comeTo_25 ?_
    refine wm_iload_n C d_Survey_comeTo_28 rfl (j := 2) rfl ?_
    refine wm_iconst (v := 1) C d_Survey_comeTo_29 (by decide) ?_
    refine wm_callVN (d2 := 0) (mc := 0) (ms := 0) C mo_Row_put co_Row ml_Survey_64 [.int p, .int 1] [] rfl (rp_row hR1 (by decide)) rfl (by decide) (Nat.le_of_ble_eq_true rfl) (Nat.le_refl _) (Nat.le_refl _) d_Survey_comeTo_30 (cy_kv ?_)
    refine c_put hE hR1 (by decide) _ _ (fun M2 hR2 => ⟨rfl, ?_⟩)
    refine wm_aload_n C d_Survey_comeTo_33 rfl (j := 1) rfl ?_
    refine wm_aload_n C d_Survey_comeTo_34 rfl (j := 1) rfl ?_
    refine wm_get C co_Survey (rp_survey hR2) 5 (by decide) fl_Survey_57 rfl d_Survey_comeTo_35 ?_
    refine wm_iload_n C d_Survey_comeTo_38 rfl (j := 2) rfl ?_
    refine wm_mmin C ml_Survey_110 mm_min_s mm_i mm_min_c (by decide) (Nat.le_of_ble_eq_true rfl) (Nat.zero_le _) (Nat.zero_le _) d_Survey_comeTo_39 ?_
    refine wm_put C co_Survey (rp_survey hR2) 5 (by decide) fl_Survey_57 rfl rfl rfl (Nat.le_of_ble_eq_true rfl) d_Survey_comeTo_42 ?_
    refine wm_gen (rp_p_searchFrom hE hR2 (if p < s.2.2.2.2.2 then p else s.2.2.2.2.2)) (fun M3 hR3 => ?_)
    refine wm_iconst (v := 0) C d_Survey_comeTo_45 (by decide) ?_
    refine wm_iret C P d_Survey_comeTo_46 ?_
    have e : cy_Survey_comeTo s p height = (0, (cy_s_searchFrom (cy_rput (cy_rput s 2 p height) 3 p 1) (if p < s.2.2.2.2.2 then p else s.2.2.2.2.2))) := by rw [cy_Survey_comeTo, if_pos h_12]
    rw [e] at h
    exact h _ hR3
def cy_Survey_goThrough (s : cy_S) (p : Int32) : Int32 × cy_S :=
  if ((cy_rat (cy_rput s 3 p 0) 2 p 0) - (cy_Yard_takes (cy_rat (cy_rput s 3 p 0) 0 p (-1)))) < 0 then
    (cy_Survey_fault 7 p, (cy_rput s 3 p 0))
  else
    if (((cy_rat (cy_rput s 3 p 0) 2 p 0) - (cy_Yard_takes (cy_rat (cy_rput s 3 p 0) 0 p (-1)))) + (cy_Yard_gives (cy_rat (cy_rput s 3 p 0) 0 p (-1)))) ≤ 8 then
      if (cy_Yard_isEnding (cy_rat (cy_rput s 3 p 0) 0 p (-1))) = 0 then
        if (cy_Yard_hasOperand (cy_rat (cy_rput s 3 p 0) 0 p (-1))) = 0 then
          if (cy_Yard_isJump (cy_rat (cy_rput s 3 p 0) 0 p (-1))) = 0 then
            cy_Survey_comeTo (cy_rput s 3 p 0) (p + 1) (((cy_rat (cy_rput s 3 p 0) 2 p 0) - (cy_Yard_takes (cy_rat (cy_rput s 3 p 0) 0 p (-1)))) + (cy_Yard_gives (cy_rat (cy_rput s 3 p 0) 0 p (-1))))
          else
            if (cy_rat (cy_rput s 3 p 0) 0 p (-1)) = 16 then
              cy_Survey_comeTo (cy_rput s 3 p 0) (cy_rat (cy_rput s 3 p 0) 0 (p + 1) (-1)) (((cy_rat (cy_rput s 3 p 0) 2 p 0) - (cy_Yard_takes (cy_rat (cy_rput s 3 p 0) 0 p (-1)))) + (cy_Yard_gives (cy_rat (cy_rput s 3 p 0) 0 p (-1))))
            else
              if ((cy_Survey_comeTo (cy_rput s 3 p 0) (if cy_rat (cy_rput s 3 p 0) 0 (p + 1) (-1) < p + 1 then cy_rat (cy_rput s 3 p 0) 0 (p + 1) (-1) else p + 1) (((cy_rat (cy_rput s 3 p 0) 2 p 0) - (cy_Yard_takes (cy_rat (cy_rput s 3 p 0) 0 p (-1)))) + (cy_Yard_gives (cy_rat (cy_rput s 3 p 0) 0 p (-1))))).1) = 0 then
                cy_Survey_comeTo ((cy_Survey_comeTo (cy_rput s 3 p 0) (if cy_rat (cy_rput s 3 p 0) 0 (p + 1) (-1) < p + 1 then cy_rat (cy_rput s 3 p 0) 0 (p + 1) (-1) else p + 1) (((cy_rat (cy_rput s 3 p 0) 2 p 0) - (cy_Yard_takes (cy_rat (cy_rput s 3 p 0) 0 p (-1)))) + (cy_Yard_gives (cy_rat (cy_rput s 3 p 0) 0 p (-1))))).2) (if p + 1 < cy_rat (cy_rput s 3 p 0) 0 (p + 1) (-1) then cy_rat (cy_rput s 3 p 0) 0 (p + 1) (-1) else p + 1) (((cy_rat (cy_rput s 3 p 0) 2 p 0) - (cy_Yard_takes (cy_rat (cy_rput s 3 p 0) 0 p (-1)))) + (cy_Yard_gives (cy_rat (cy_rput s 3 p 0) 0 p (-1))))
              else
                cy_Survey_comeTo (cy_rput s 3 p 0) (if cy_rat (cy_rput s 3 p 0) 0 (p + 1) (-1) < p + 1 then cy_rat (cy_rput s 3 p 0) 0 (p + 1) (-1) else p + 1) (((cy_rat (cy_rput s 3 p 0) 2 p 0) - (cy_Yard_takes (cy_rat (cy_rput s 3 p 0) 0 p (-1)))) + (cy_Yard_gives (cy_rat (cy_rput s 3 p 0) 0 p (-1))))
        else
          if (cy_Yard_isJump (cy_rat (cy_rput s 3 p 0) 0 p (-1))) = 0 then
            cy_Survey_comeTo (cy_rput s 3 p 0) (p + 2) (((cy_rat (cy_rput s 3 p 0) 2 p 0) - (cy_Yard_takes (cy_rat (cy_rput s 3 p 0) 0 p (-1)))) + (cy_Yard_gives (cy_rat (cy_rput s 3 p 0) 0 p (-1))))
          else
            if (cy_rat (cy_rput s 3 p 0) 0 p (-1)) = 16 then
              cy_Survey_comeTo (cy_rput s 3 p 0) (cy_rat (cy_rput s 3 p 0) 0 (p + 1) (-1)) (((cy_rat (cy_rput s 3 p 0) 2 p 0) - (cy_Yard_takes (cy_rat (cy_rput s 3 p 0) 0 p (-1)))) + (cy_Yard_gives (cy_rat (cy_rput s 3 p 0) 0 p (-1))))
            else
              if ((cy_Survey_comeTo (cy_rput s 3 p 0) (if cy_rat (cy_rput s 3 p 0) 0 (p + 1) (-1) < p + 2 then cy_rat (cy_rput s 3 p 0) 0 (p + 1) (-1) else p + 2) (((cy_rat (cy_rput s 3 p 0) 2 p 0) - (cy_Yard_takes (cy_rat (cy_rput s 3 p 0) 0 p (-1)))) + (cy_Yard_gives (cy_rat (cy_rput s 3 p 0) 0 p (-1))))).1) = 0 then
                cy_Survey_comeTo ((cy_Survey_comeTo (cy_rput s 3 p 0) (if cy_rat (cy_rput s 3 p 0) 0 (p + 1) (-1) < p + 2 then cy_rat (cy_rput s 3 p 0) 0 (p + 1) (-1) else p + 2) (((cy_rat (cy_rput s 3 p 0) 2 p 0) - (cy_Yard_takes (cy_rat (cy_rput s 3 p 0) 0 p (-1)))) + (cy_Yard_gives (cy_rat (cy_rput s 3 p 0) 0 p (-1))))).2) (if p + 2 < cy_rat (cy_rput s 3 p 0) 0 (p + 1) (-1) then cy_rat (cy_rput s 3 p 0) 0 (p + 1) (-1) else p + 2) (((cy_rat (cy_rput s 3 p 0) 2 p 0) - (cy_Yard_takes (cy_rat (cy_rput s 3 p 0) 0 p (-1)))) + (cy_Yard_gives (cy_rat (cy_rput s 3 p 0) 0 p (-1))))
              else
                cy_Survey_comeTo (cy_rput s 3 p 0) (if cy_rat (cy_rput s 3 p 0) 0 (p + 1) (-1) < p + 2 then cy_rat (cy_rput s 3 p 0) 0 (p + 1) (-1) else p + 2) (((cy_rat (cy_rput s 3 p 0) 2 p 0) - (cy_Yard_takes (cy_rat (cy_rput s 3 p 0) 0 p (-1)))) + (cy_Yard_gives (cy_rat (cy_rput s 3 p 0) 0 p (-1))))
      else
        (0, (cy_rput s 3 p 0))
    else
      (cy_Survey_fault 7 p, (cy_rput s 3 p 0))
set_option maxHeartbeats 4000000 in
theorem c_Survey_goThrough {G : cy_G} {E : cy_E} {s : cy_S} {M : cy_Hp} {post : Option Value → cy_Hp → Prop} (hE : cy_Eo G E) (hR : cy_R E s M)  (p : Int32) (h : ∀ M', cy_R E (cy_Survey_goThrough s p).2 M' → post (some (.int (cy_Survey_goThrough s p).1)) M') : cy_Ct G 3 m_Survey_goThrough [.ref (E.2.2.1 135), .ref (E.2.2.1 (2 * 0)), .int p] M 0 0 post := by
  refine cy_Ct.of (by decide) (Nat.le_of_ble_eq_true rfl) ?_
  intro F C P _
  have C : cy_C G F R_Survey b_Survey_goThrough 9 3 0 0 := C
  have P : cy_P G F (some .int) post 0 0 := P
  show WM G F 9 0 0 0 [(0, .ref (E.2.2.1 135)), (1, .ref (E.2.2.1 (2 * 0))), (2, .int p)] [] M
  refine wm_aload_n C d_Survey_goThrough_0 rfl (j := 0) rfl ?_
  refine wm_get C co_Survey (rp_survey hR) 2 (by decide) fl_Survey_23 rfl d_Survey_goThrough_1 ?_
  refine wm_iload_n C d_Survey_goThrough_4 rfl (j := 2) rfl ?_
  refine wm_iconst (v := 0) C d_Survey_goThrough_5 (by decide) ?_
  refine wm_callVN (d2 := 0) (mc := 0) (ms := 0) C mo_Row_put co_Row ml_Survey_64 [.int p, .int 0] [] rfl (rp_row hR (by decide)) rfl (by decide) (Nat.le_of_ble_eq_true rfl) (Nat.le_refl _) (Nat.le_refl _) d_Survey_goThrough_6 (cy_kv ?_)
  refine c_put hE hR (by decide) _ _ (fun M1 hR1 => ⟨rfl, ?_⟩)
  refine wm_aload_n C d_Survey_goThrough_9 rfl (j := 1) rfl ?_
  refine wm_iload_n C d_Survey_goThrough_10 rfl (j := 2) rfl ?_
  refine wm_iconst (v := -1) C d_Survey_goThrough_11 (by decide) ?_
  refine wm_callVN (d2 := 0) (mc := 0) (ms := 0) C mo_Row_at co_Row ml_Survey_67 [.int p, .int (-1)] [] rfl (rp_row hR1 (by decide)) rfl (by decide) (Nat.le_of_ble_eq_true rfl) (Nat.le_refl _) (Nat.le_refl _) d_Survey_goThrough_12 (cy_ki ?_)
  refine c_at hE hR1 (by decide) _ _ ⟨_, rfl, ?_⟩
  refine wm_istore_n (lv' := [(3, .int (cy_rat (cy_rput s 3 p 0) 0 p (-1))), (0, .ref (E.2.2.1 135)), (1, .ref (E.2.2.1 (2 * 0))), (2, .int p)]) C d_Survey_goThrough_15 rfl (by decide) rfl ?_
  refine wm_aload_n C d_Survey_goThrough_16 rfl (j := 1) rfl ?_
  refine wm_get C co_Survey (rp_survey hR1) 1 (by decide) fl_Survey_20 rfl d_Survey_goThrough_17 ?_
  refine wm_iload_n C d_Survey_goThrough_20 rfl (j := 3) rfl ?_
  refine wm_iconst (v := 0) C d_Survey_goThrough_21 (by decide) ?_
  refine wm_callVN (d2 := 0) (mc := 0) (ms := 0) C mo_Row_at co_Row ml_Survey_67 [.int p, .int 0] [] rfl (rp_row hR1 (by decide)) rfl (by decide) (Nat.le_of_ble_eq_true rfl) (Nat.le_refl _) (Nat.le_refl _) d_Survey_goThrough_22 (cy_ki ?_)
  refine c_at hE hR1 (by decide) _ _ ⟨_, rfl, ?_⟩
  refine wm_iload_n C d_Survey_goThrough_25 rfl (j := 0) rfl ?_
  refine wm_callSN (d2 := 0) (mc := 0) (ms := 0) C mo_Yard_takes ml_Survey_104 [.int (cy_rat (cy_rput s 3 p 0) 0 p (-1))] [.int (cy_rat (cy_rput s 3 p 0) 2 p 0)] rfl rfl (by decide) (Nat.le_of_ble_eq_true rfl) (Nat.le_refl _) (Nat.le_refl _) d_Survey_goThrough_26 (cy_ki ?_)
  refine c_Yard_takes hE hR1  _ ⟨_, rfl, ?_⟩
  refine wm_isub C d_Survey_goThrough_29 ?_
  refine wm_istore (lv' := [(4, .int ((cy_rat (cy_rput s 3 p 0) 2 p 0) - (cy_Yard_takes (cy_rat (cy_rput s 3 p 0) 0 p (-1))))), (3, .int (cy_rat (cy_rput s 3 p 0) 0 p (-1))), (0, .ref (E.2.2.1 135)), (1, .ref (E.2.2.1 (2 * 0))), (2, .int p)]) C d_Survey_goThrough_30 (by decide) rfl ?_
  refine wm_iload C d_Survey_goThrough_32 (j := 0) rfl ?_
  refine wm_iload_n C d_Survey_goThrough_34 rfl (j := 1) rfl ?_
  refine wm_callSN (d2 := 0) (mc := 0) (ms := 0) C mo_Yard_gives ml_Survey_107 [.int (cy_rat (cy_rput s 3 p 0) 0 p (-1))] [.int ((cy_rat (cy_rput s 3 p 0) 2 p 0) - (cy_Yard_takes (cy_rat (cy_rput s 3 p 0) 0 p (-1))))] rfl rfl (by decide) (Nat.le_of_ble_eq_true rfl) (Nat.le_refl _) (Nat.le_refl _) d_Survey_goThrough_35 (cy_ki ?_)
  refine c_Yard_gives hE hR1  _ ⟨_, rfl, ?_⟩
  refine wm_iadd C d_Survey_goThrough_38 ?_
  refine wm_istore (lv' := [(5, .int (((cy_rat (cy_rput s 3 p 0) 2 p 0) - (cy_Yard_takes (cy_rat (cy_rput s 3 p 0) 0 p (-1)))) + (cy_Yard_gives (cy_rat (cy_rput s 3 p 0) 0 p (-1))))), (4, .int ((cy_rat (cy_rput s 3 p 0) 2 p 0) - (cy_Yard_takes (cy_rat (cy_rput s 3 p 0) 0 p (-1))))), (3, .int (cy_rat (cy_rput s 3 p 0) 0 p (-1))), (0, .ref (E.2.2.1 135)), (1, .ref (E.2.2.1 (2 * 0))), (2, .int p)]) C d_Survey_goThrough_39 (by decide) rfl ?_
  refine wm_iload C d_Survey_goThrough_41 (j := 1) rfl ?_
  refine wm_if_lt (tgt := 53) C d_Survey_goThrough_43 (by decide) (fun (h_43 : ((cy_rat (cy_rput s 3 p 0) 2 p 0) - (cy_Yard_takes (cy_rat (cy_rput s 3 p 0) 0 p (-1)))) < 0) => ?_) (fun (h_43 : ¬ ((cy_rat (cy_rput s 3 p 0) 2 p 0) - (cy_Yard_takes (cy_rat (cy_rput s 3 p 0) 0 p (-1)))) < 0) => ?_)
  · refine wm_bipush (v := 7) C d_Survey_goThrough_53 (by decide) ?_
    refine wm_iload_n C d_Survey_goThrough_55 rfl (j := 5) rfl ?_
    refine wm_callS (d2 := 0) (mc := 0) (ms := 0) C mo_Survey_fault ml_Survey_30 [.int 7, .int p] [] rfl rfl (by decide) (Nat.le_of_ble_eq_true rfl) (Nat.le_refl _) (Nat.le_refl _) d_Survey_goThrough_56 (cy_ki ?_)
    refine c_Survey_fault hE hR1  _ _ ⟨_, rfl, ?_⟩
    refine wm_iret C P d_Survey_goThrough_59 ?_
    have e : cy_Survey_goThrough s p = (cy_Survey_fault 7 p, (cy_rput s 3 p 0)) := by rw [cy_Survey_goThrough, if_pos h_43]
    rw [e] at h
    exact h _ hR1
  · refine wm_iload C d_Survey_goThrough_46 (j := 0) rfl ?_
    refine wm_bipush (v := 8) C d_Survey_goThrough_48 (by decide) ?_
    refine wm_icmp_le (tgt := 60) C d_Survey_goThrough_50 (by decide) (fun (h_50 : (((cy_rat (cy_rput s 3 p 0) 2 p 0) - (cy_Yard_takes (cy_rat (cy_rput s 3 p 0) 0 p (-1)))) + (cy_Yard_gives (cy_rat (cy_rput s 3 p 0) 0 p (-1)))) ≤ 8) => ?_) (fun (h_50 : ¬ (((cy_rat (cy_rput s 3 p 0) 2 p 0) - (cy_Yard_takes (cy_rat (cy_rput s 3 p 0) 0 p (-1)))) + (cy_Yard_gives (cy_rat (cy_rput s 3 p 0) 0 p (-1)))) ≤ 8) => ?_)
    · refine wm_iload_n C d_Survey_goThrough_60 rfl (j := 2) rfl ?_
      refine wm_callSN (d2 := 0) (mc := 0) (ms := 0) C mo_Yard_isEnding ml_Survey_74 [.int (cy_rat (cy_rput s 3 p 0) 0 p (-1))] [] rfl rfl (by decide) (Nat.le_of_ble_eq_true rfl) (Nat.le_refl _) (Nat.le_refl _) d_Survey_goThrough_61 (cy_ki ?_)
      refine c_Yard_isEnding hE hR1  _ ⟨_, rfl, ?_⟩
      refine wm_if_eq (tgt := 69) C d_Survey_goThrough_64 (by decide) (fun (h_64 : (cy_Yard_isEnding (cy_rat (cy_rput s 3 p 0) 0 p (-1))) = 0) => ?_) (fun (h_64 : ¬ (cy_Yard_isEnding (cy_rat (cy_rput s 3 p 0) 0 p (-1))) = 0) => ?_)
      · refine wm_iload_n C d_Survey_goThrough_69 rfl (j := 5) rfl ?_
        refine wm_iload_n C d_Survey_goThrough_70 rfl (j := 2) rfl ?_
        refine wm_callSN (d2 := 2) (mc := 0) (ms := 0) C mo_Yard_hasOperand ml_Survey_70 [.int (cy_rat (cy_rput s 3 p 0) 0 p (-1))] [.int p] rfl rfl (by decide) (Nat.le_of_ble_eq_true rfl) (Nat.le_refl _) (Nat.le_refl _) d_Survey_goThrough_71 (cy_ki ?_)
        refine c_Yard_hasOperand hE hR1  _ ⟨_, rfl, ?_⟩
        refine wm_if_eq (tgt := 81) C d_Survey_goThrough_74 (by decide) (fun (h_74 : (cy_Yard_hasOperand (cy_rat (cy_rput s 3 p 0) 0 p (-1))) = 0) => ?_) (fun (h_74 : ¬ (cy_Yard_hasOperand (cy_rat (cy_rput s 3 p 0) 0 p (-1))) = 0) => ?_)
        · refine wm_iconst (v := 1) C d_Survey_goThrough_81 (by decide) ?_
          refine wm_iadd C d_Survey_goThrough_82 ?_
          refine wm_istore (lv' := [(6, .int (p + 1)), (5, .int (((cy_rat (cy_rput s 3 p 0) 2 p 0) - (cy_Yard_takes (cy_rat (cy_rput s 3 p 0) 0 p (-1)))) + (cy_Yard_gives (cy_rat (cy_rput s 3 p 0) 0 p (-1))))), (4, .int ((cy_rat (cy_rput s 3 p 0) 2 p 0) - (cy_Yard_takes (cy_rat (cy_rput s 3 p 0) 0 p (-1))))), (3, .int (cy_rat (cy_rput s 3 p 0) 0 p (-1))), (0, .ref (E.2.2.1 135)), (1, .ref (E.2.2.1 (2 * 0))), (2, .int p)]) C d_Survey_goThrough_83 (by decide) rfl ?_
          refine wm_iload_n C d_Survey_goThrough_85 rfl (j := 3) rfl ?_
          refine wm_callSN (d2 := 0) (mc := 0) (ms := 0) C mo_Yard_isJump ml_Survey_91 [.int (cy_rat (cy_rput s 3 p 0) 0 p (-1))] [] rfl rfl (by decide) (Nat.le_of_ble_eq_true rfl) (Nat.le_refl _) (Nat.le_refl _) d_Survey_goThrough_86 (cy_ki ?_)
          refine c_Yard_isJump hE hR1  _ ⟨_, rfl, ?_⟩
          refine wm_if_ne (tgt := 101) C d_Survey_goThrough_89 (by decide) (fun (h_89 : ¬ (cy_Yard_isJump (cy_rat (cy_rput s 3 p 0) 0 p (-1))) = 0) => ?_) (fun (h_89 : (cy_Yard_isJump (cy_rat (cy_rput s 3 p 0) 0 p (-1))) = 0) => ?_)
          · refine wm_aload_n C d_Survey_goThrough_101 rfl (j := 5) rfl ?_
            refine wm_iload_n C d_Survey_goThrough_102 rfl (j := 6) rfl ?_
            refine wm_iconst (v := 1) C d_Survey_goThrough_103 (by decide) ?_
            refine wm_iadd C d_Survey_goThrough_104 ?_
            refine wm_iconst (v := -1) C d_Survey_goThrough_105 (by decide) ?_
            refine wm_callVN (d2 := 0) (mc := 0) (ms := 0) C mo_Row_at co_Row ml_Survey_67 [.int (p + 1), .int (-1)] [] rfl (rp_row hR1 (by decide)) rfl (by decide) (Nat.le_of_ble_eq_true rfl) (Nat.le_refl _) (Nat.le_refl _) d_Survey_goThrough_106 (cy_ki ?_)
            refine c_at hE hR1 (by decide) _ _ ⟨_, rfl, ?_⟩
            refine wm_istore (lv' := [(7, .int (cy_rat (cy_rput s 3 p 0) 0 (p + 1) (-1))), (6, .int (p + 1)), (5, .int (((cy_rat (cy_rput s 3 p 0) 2 p 0) - (cy_Yard_takes (cy_rat (cy_rput s 3 p 0) 0 p (-1)))) + (cy_Yard_gives (cy_rat (cy_rput s 3 p 0) 0 p (-1))))), (4, .int ((cy_rat (cy_rput s 3 p 0) 2 p 0) - (cy_Yard_takes (cy_rat (cy_rput s 3 p 0) 0 p (-1))))), (3, .int (cy_rat (cy_rput s 3 p 0) 0 p (-1))), (0, .ref (E.2.2.1 135)), (1, .ref (E.2.2.1 (2 * 0))), (2, .int p)]) C d_Survey_goThrough_109 (by decide) rfl ?_
            refine wm_iload_n C d_Survey_goThrough_111 rfl (j := 4) rfl ?_
            refine wm_bipush (v := 16) C d_Survey_goThrough_112 (by decide) ?_
            refine wm_icmp_ne (tgt := 126) C d_Survey_goThrough_114 (by decide) (fun (h_114 : ¬ (cy_rat (cy_rput s 3 p 0) 0 p (-1)) = 16) => ?_) (fun (h_114 : (cy_rat (cy_rput s 3 p 0) 0 p (-1)) = 16) => ?_)
            · refine wm_aload_n C d_Survey_goThrough_126 rfl (j := 5) rfl ?_
              refine wm_iload C d_Survey_goThrough_127 (j := 1) rfl ?_
              refine wm_iload C d_Survey_goThrough_129 (j := 0) rfl ?_
              refine wm_mmin C ml_Survey_110 mm_min_s mm_i mm_min_c (by decide) (Nat.le_of_ble_eq_true rfl) (Nat.zero_le _) (Nat.zero_le _) d_Survey_goThrough_131 ?_
              refine wm_iload C d_Survey_goThrough_134 (j := 2) rfl ?_
              refine wm_callV (d2 := 1) (mc := 0) (ms := 0) C mo_Survey_comeTo co_Survey ml_Survey_94 [.int (if cy_rat (cy_rput s 3 p 0) 0 (p + 1) (-1) < p + 1 then cy_rat (cy_rput s 3 p 0) 0 (p + 1) (-1) else p + 1), .int (((cy_rat (cy_rput s 3 p 0) 2 p 0) - (cy_Yard_takes (cy_rat (cy_rput s 3 p 0) 0 p (-1)))) + (cy_Yard_gives (cy_rat (cy_rput s 3 p 0) 0 p (-1))))] [] rfl (rp_survey hR1) rfl (by decide) (Nat.le_of_ble_eq_true rfl) (Nat.le_refl _) (Nat.le_refl _) d_Survey_goThrough_136 (cy_ki ?_)
              refine c_Survey_comeTo hE hR1  _ _ (fun M2 hR2 => ⟨_, rfl, ?_⟩)
              refine wm_istore (lv' := [(8, .int ((cy_Survey_comeTo (cy_rput s 3 p 0) (if cy_rat (cy_rput s 3 p 0) 0 (p + 1) (-1) < p + 1 then cy_rat (cy_rput s 3 p 0) 0 (p + 1) (-1) else p + 1) (((cy_rat (cy_rput s 3 p 0) 2 p 0) - (cy_Yard_takes (cy_rat (cy_rput s 3 p 0) 0 p (-1)))) + (cy_Yard_gives (cy_rat (cy_rput s 3 p 0) 0 p (-1))))).1)), (7, .int (cy_rat (cy_rput s 3 p 0) 0 (p + 1) (-1))), (6, .int (p + 1)), (5, .int (((cy_rat (cy_rput s 3 p 0) 2 p 0) - (cy_Yard_takes (cy_rat (cy_rput s 3 p 0) 0 p (-1)))) + (cy_Yard_gives (cy_rat (cy_rput s 3 p 0) 0 p (-1))))), (4, .int ((cy_rat (cy_rput s 3 p 0) 2 p 0) - (cy_Yard_takes (cy_rat (cy_rput s 3 p 0) 0 p (-1))))), (3, .int (cy_rat (cy_rput s 3 p 0) 0 p (-1))), (0, .ref (E.2.2.1 135)), (1, .ref (E.2.2.1 (2 * 0))), (2, .int p)]) C d_Survey_goThrough_139 (by decide) rfl ?_
              refine wm_iload C d_Survey_goThrough_141 (j := 0) rfl ?_
              refine wm_if_eq (tgt := 151) C d_Survey_goThrough_143 (by decide) (fun (h_143 : ((cy_Survey_comeTo (cy_rput s 3 p 0) (if cy_rat (cy_rput s 3 p 0) 0 (p + 1) (-1) < p + 1 then cy_rat (cy_rput s 3 p 0) 0 (p + 1) (-1) else p + 1) (((cy_rat (cy_rput s 3 p 0) 2 p 0) - (cy_Yard_takes (cy_rat (cy_rput s 3 p 0) 0 p (-1)))) + (cy_Yard_gives (cy_rat (cy_rput s 3 p 0) 0 p (-1))))).1) = 0) => ?_) (fun (h_143 : ¬ ((cy_Survey_comeTo (cy_rput s 3 p 0) (if cy_rat (cy_rput s 3 p 0) 0 (p + 1) (-1) < p + 1 then cy_rat (cy_rput s 3 p 0) 0 (p + 1) (-1) else p + 1) (((cy_rat (cy_rput s 3 p 0) 2 p 0) - (cy_Yard_takes (cy_rat (cy_rput s 3 p 0) 0 p (-1)))) + (cy_Yard_gives (cy_rat (cy_rput s 3 p 0) 0 p (-1))))).1) = 0) => ?_)
              · refine wm_aload_n C d_Survey_goThrough_151 rfl (j := 6) rfl ?_
                refine wm_iload C d_Survey_goThrough_152 (j := 2) rfl ?_
                refine wm_iload C d_Survey_goThrough_154 (j := 1) rfl ?_
                refine wm_mmax C ml_Survey_115 mm_max_s mm_i mm_max_c (by decide) (Nat.le_of_ble_eq_true rfl) (Nat.zero_le _) (Nat.zero_le _) d_Survey_goThrough_156 ?_
                refine wm_iload C d_Survey_goThrough_159 (j := 3) rfl ?_
                refine wm_callV (d2 := 1) (mc := 0) (ms := 0) C mo_Survey_comeTo co_Survey ml_Survey_94 [.int (if p + 1 < cy_rat (cy_rput s 3 p 0) 0 (p + 1) (-1) then cy_rat (cy_rput s 3 p 0) 0 (p + 1) (-1) else p + 1), .int (((cy_rat (cy_rput s 3 p 0) 2 p 0) - (cy_Yard_takes (cy_rat (cy_rput s 3 p 0) 0 p (-1)))) + (cy_Yard_gives (cy_rat (cy_rput s 3 p 0) 0 p (-1))))] [] rfl (rp_survey hR2) rfl (by decide) (Nat.le_of_ble_eq_true rfl) (Nat.le_refl _) (Nat.le_refl _) d_Survey_goThrough_161 (cy_ki ?_)
                refine c_Survey_comeTo hE hR2  _ _ (fun M3 hR3 => ⟨_, rfl, ?_⟩)
                refine wm_iret C P d_Survey_goThrough_164 ?_
                have e : cy_Survey_goThrough s p = cy_Survey_comeTo ((cy_Survey_comeTo (cy_rput s 3 p 0) (if cy_rat (cy_rput s 3 p 0) 0 (p + 1) (-1) < p + 1 then cy_rat (cy_rput s 3 p 0) 0 (p + 1) (-1) else p + 1) (((cy_rat (cy_rput s 3 p 0) 2 p 0) - (cy_Yard_takes (cy_rat (cy_rput s 3 p 0) 0 p (-1)))) + (cy_Yard_gives (cy_rat (cy_rput s 3 p 0) 0 p (-1))))).2) (if p + 1 < cy_rat (cy_rput s 3 p 0) 0 (p + 1) (-1) then cy_rat (cy_rput s 3 p 0) 0 (p + 1) (-1) else p + 1) (((cy_rat (cy_rput s 3 p 0) 2 p 0) - (cy_Yard_takes (cy_rat (cy_rput s 3 p 0) 0 p (-1)))) + (cy_Yard_gives (cy_rat (cy_rput s 3 p 0) 0 p (-1)))) := by rw [cy_Survey_goThrough, if_neg h_43, if_pos h_50, if_pos h_64, if_pos h_74, if_neg h_89, if_neg h_114, if_pos h_143]
                rw [e] at h
                exact h _ hR3
              · refine wm_iload C d_Survey_goThrough_146 (j := 0) rfl ?_
                refine wm_goto (tgt := 164) C d_Survey_goThrough_148 (by decide) ?_
                refine wm_iret C P d_Survey_goThrough_164 ?_
                have e : cy_Survey_goThrough s p = cy_Survey_comeTo (cy_rput s 3 p 0) (if cy_rat (cy_rput s 3 p 0) 0 (p + 1) (-1) < p + 1 then cy_rat (cy_rput s 3 p 0) 0 (p + 1) (-1) else p + 1) (((cy_rat (cy_rput s 3 p 0) 2 p 0) - (cy_Yard_takes (cy_rat (cy_rput s 3 p 0) 0 p (-1)))) + (cy_Yard_gives (cy_rat (cy_rput s 3 p 0) 0 p (-1)))) := by rw [cy_Survey_goThrough, if_neg h_43, if_pos h_50, if_pos h_64, if_pos h_74, if_neg h_89, if_neg h_114, if_neg h_143]
                rw [e] at h
                exact h _ hR2
            · refine wm_aload_n C d_Survey_goThrough_117 rfl (j := 5) rfl ?_
              refine wm_iload C d_Survey_goThrough_118 (j := 0) rfl ?_
              refine wm_iload C d_Survey_goThrough_120 (j := 2) rfl ?_
              refine wm_callV (d2 := 1) (mc := 0) (ms := 0) C mo_Survey_comeTo co_Survey ml_Survey_94 [.int (cy_rat (cy_rput s 3 p 0) 0 (p + 1) (-1)), .int (((cy_rat (cy_rput s 3 p 0) 2 p 0) - (cy_Yard_takes (cy_rat (cy_rput s 3 p 0) 0 p (-1)))) + (cy_Yard_gives (cy_rat (cy_rput s 3 p 0) 0 p (-1))))] [] rfl (rp_survey hR1) rfl (by decide) (Nat.le_of_ble_eq_true rfl) (Nat.le_refl _) (Nat.le_refl _) d_Survey_goThrough_122 (cy_ki ?_)
              refine c_Survey_comeTo hE hR1  _ _ (fun M4 hR4 => ⟨_, rfl, ?_⟩)
              refine wm_iret C P d_Survey_goThrough_125 ?_
              have e : cy_Survey_goThrough s p = cy_Survey_comeTo (cy_rput s 3 p 0) (cy_rat (cy_rput s 3 p 0) 0 (p + 1) (-1)) (((cy_rat (cy_rput s 3 p 0) 2 p 0) - (cy_Yard_takes (cy_rat (cy_rput s 3 p 0) 0 p (-1)))) + (cy_Yard_gives (cy_rat (cy_rput s 3 p 0) 0 p (-1)))) := by rw [cy_Survey_goThrough, if_neg h_43, if_pos h_50, if_pos h_64, if_pos h_74, if_neg h_89, if_pos h_114]
              rw [e] at h
              exact h _ hR4
          · refine wm_aload_n C d_Survey_goThrough_92 rfl (j := 4) rfl ?_
            refine wm_iload C d_Survey_goThrough_93 (j := 0) rfl ?_
            refine wm_iload C d_Survey_goThrough_95 (j := 1) rfl ?_
            refine wm_callV (d2 := 1) (mc := 0) (ms := 0) C mo_Survey_comeTo co_Survey ml_Survey_94 [.int (p + 1), .int (((cy_rat (cy_rput s 3 p 0) 2 p 0) - (cy_Yard_takes (cy_rat (cy_rput s 3 p 0) 0 p (-1)))) + (cy_Yard_gives (cy_rat (cy_rput s 3 p 0) 0 p (-1))))] [] rfl (rp_survey hR1) rfl (by decide) (Nat.le_of_ble_eq_true rfl) (Nat.le_refl _) (Nat.le_refl _) d_Survey_goThrough_97 (cy_ki ?_)
            refine c_Survey_comeTo hE hR1  _ _ (fun M5 hR5 => ⟨_, rfl, ?_⟩)
            refine wm_iret C P d_Survey_goThrough_100 ?_
            have e : cy_Survey_goThrough s p = cy_Survey_comeTo (cy_rput s 3 p 0) (p + 1) (((cy_rat (cy_rput s 3 p 0) 2 p 0) - (cy_Yard_takes (cy_rat (cy_rput s 3 p 0) 0 p (-1)))) + (cy_Yard_gives (cy_rat (cy_rput s 3 p 0) 0 p (-1)))) := by rw [cy_Survey_goThrough, if_neg h_43, if_pos h_50, if_pos h_64, if_pos h_74, if_pos h_89]
            rw [e] at h
            exact h _ hR5
        · refine wm_iconst (v := 2) C d_Survey_goThrough_77 (by decide) ?_
          refine wm_goto (tgt := 82) C d_Survey_goThrough_78 (by decide) ?_
          refine wm_iadd C d_Survey_goThrough_82 ?_
          refine wm_istore (lv' := [(6, .int (p + 2)), (5, .int (((cy_rat (cy_rput s 3 p 0) 2 p 0) - (cy_Yard_takes (cy_rat (cy_rput s 3 p 0) 0 p (-1)))) + (cy_Yard_gives (cy_rat (cy_rput s 3 p 0) 0 p (-1))))), (4, .int ((cy_rat (cy_rput s 3 p 0) 2 p 0) - (cy_Yard_takes (cy_rat (cy_rput s 3 p 0) 0 p (-1))))), (3, .int (cy_rat (cy_rput s 3 p 0) 0 p (-1))), (0, .ref (E.2.2.1 135)), (1, .ref (E.2.2.1 (2 * 0))), (2, .int p)]) C d_Survey_goThrough_83 (by decide) rfl ?_
          refine wm_iload_n C d_Survey_goThrough_85 rfl (j := 3) rfl ?_
          refine wm_callSN (d2 := 0) (mc := 0) (ms := 0) C mo_Yard_isJump ml_Survey_91 [.int (cy_rat (cy_rput s 3 p 0) 0 p (-1))] [] rfl rfl (by decide) (Nat.le_of_ble_eq_true rfl) (Nat.le_refl _) (Nat.le_refl _) d_Survey_goThrough_86 (cy_ki ?_)
          refine c_Yard_isJump hE hR1  _ ⟨_, rfl, ?_⟩
          refine wm_if_ne (tgt := 101) C d_Survey_goThrough_89 (by decide) (fun (h_89_8 : ¬ (cy_Yard_isJump (cy_rat (cy_rput s 3 p 0) 0 p (-1))) = 0) => ?_) (fun (h_89_8 : (cy_Yard_isJump (cy_rat (cy_rput s 3 p 0) 0 p (-1))) = 0) => ?_)
          · refine wm_aload_n C d_Survey_goThrough_101 rfl (j := 5) rfl ?_
            refine wm_iload_n C d_Survey_goThrough_102 rfl (j := 6) rfl ?_
            refine wm_iconst (v := 1) C d_Survey_goThrough_103 (by decide) ?_
            refine wm_iadd C d_Survey_goThrough_104 ?_
            refine wm_iconst (v := -1) C d_Survey_goThrough_105 (by decide) ?_
            refine wm_callVN (d2 := 0) (mc := 0) (ms := 0) C mo_Row_at co_Row ml_Survey_67 [.int (p + 1), .int (-1)] [] rfl (rp_row hR1 (by decide)) rfl (by decide) (Nat.le_of_ble_eq_true rfl) (Nat.le_refl _) (Nat.le_refl _) d_Survey_goThrough_106 (cy_ki ?_)
            refine c_at hE hR1 (by decide) _ _ ⟨_, rfl, ?_⟩
            refine wm_istore (lv' := [(7, .int (cy_rat (cy_rput s 3 p 0) 0 (p + 1) (-1))), (6, .int (p + 2)), (5, .int (((cy_rat (cy_rput s 3 p 0) 2 p 0) - (cy_Yard_takes (cy_rat (cy_rput s 3 p 0) 0 p (-1)))) + (cy_Yard_gives (cy_rat (cy_rput s 3 p 0) 0 p (-1))))), (4, .int ((cy_rat (cy_rput s 3 p 0) 2 p 0) - (cy_Yard_takes (cy_rat (cy_rput s 3 p 0) 0 p (-1))))), (3, .int (cy_rat (cy_rput s 3 p 0) 0 p (-1))), (0, .ref (E.2.2.1 135)), (1, .ref (E.2.2.1 (2 * 0))), (2, .int p)]) C d_Survey_goThrough_109 (by decide) rfl ?_
            refine wm_iload_n C d_Survey_goThrough_111 rfl (j := 4) rfl ?_
            refine wm_bipush (v := 16) C d_Survey_goThrough_112 (by decide) ?_
            refine wm_icmp_ne (tgt := 126) C d_Survey_goThrough_114 (by decide) (fun (h_114_9 : ¬ (cy_rat (cy_rput s 3 p 0) 0 p (-1)) = 16) => ?_) (fun (h_114_9 : (cy_rat (cy_rput s 3 p 0) 0 p (-1)) = 16) => ?_)
            · refine wm_aload_n C d_Survey_goThrough_126 rfl (j := 5) rfl ?_
              refine wm_iload C d_Survey_goThrough_127 (j := 1) rfl ?_
              refine wm_iload C d_Survey_goThrough_129 (j := 0) rfl ?_
              refine wm_mmin C ml_Survey_110 mm_min_s mm_i mm_min_c (by decide) (Nat.le_of_ble_eq_true rfl) (Nat.zero_le _) (Nat.zero_le _) d_Survey_goThrough_131 ?_
              refine wm_iload C d_Survey_goThrough_134 (j := 2) rfl ?_
              refine wm_callV (d2 := 1) (mc := 0) (ms := 0) C mo_Survey_comeTo co_Survey ml_Survey_94 [.int (if cy_rat (cy_rput s 3 p 0) 0 (p + 1) (-1) < p + 2 then cy_rat (cy_rput s 3 p 0) 0 (p + 1) (-1) else p + 2), .int (((cy_rat (cy_rput s 3 p 0) 2 p 0) - (cy_Yard_takes (cy_rat (cy_rput s 3 p 0) 0 p (-1)))) + (cy_Yard_gives (cy_rat (cy_rput s 3 p 0) 0 p (-1))))] [] rfl (rp_survey hR1) rfl (by decide) (Nat.le_of_ble_eq_true rfl) (Nat.le_refl _) (Nat.le_refl _) d_Survey_goThrough_136 (cy_ki ?_)
              refine c_Survey_comeTo hE hR1  _ _ (fun M6 hR6 => ⟨_, rfl, ?_⟩)
              refine wm_istore (lv' := [(8, .int ((cy_Survey_comeTo (cy_rput s 3 p 0) (if cy_rat (cy_rput s 3 p 0) 0 (p + 1) (-1) < p + 2 then cy_rat (cy_rput s 3 p 0) 0 (p + 1) (-1) else p + 2) (((cy_rat (cy_rput s 3 p 0) 2 p 0) - (cy_Yard_takes (cy_rat (cy_rput s 3 p 0) 0 p (-1)))) + (cy_Yard_gives (cy_rat (cy_rput s 3 p 0) 0 p (-1))))).1)), (7, .int (cy_rat (cy_rput s 3 p 0) 0 (p + 1) (-1))), (6, .int (p + 2)), (5, .int (((cy_rat (cy_rput s 3 p 0) 2 p 0) - (cy_Yard_takes (cy_rat (cy_rput s 3 p 0) 0 p (-1)))) + (cy_Yard_gives (cy_rat (cy_rput s 3 p 0) 0 p (-1))))), (4, .int ((cy_rat (cy_rput s 3 p 0) 2 p 0) - (cy_Yard_takes (cy_rat (cy_rput s 3 p 0) 0 p (-1))))), (3, .int (cy_rat (cy_rput s 3 p 0) 0 p (-1))), (0, .ref (E.2.2.1 135)), (1, .ref (E.2.2.1 (2 * 0))), (2, .int p)]) C d_Survey_goThrough_139 (by decide) rfl ?_
              refine wm_iload C d_Survey_goThrough_141 (j := 0) rfl ?_
              refine wm_if_eq (tgt := 151) C d_Survey_goThrough_143 (by decide) (fun (h_143_10 : ((cy_Survey_comeTo (cy_rput s 3 p 0) (if cy_rat (cy_rput s 3 p 0) 0 (p + 1) (-1) < p + 2 then cy_rat (cy_rput s 3 p 0) 0 (p + 1) (-1) else p + 2) (((cy_rat (cy_rput s 3 p 0) 2 p 0) - (cy_Yard_takes (cy_rat (cy_rput s 3 p 0) 0 p (-1)))) + (cy_Yard_gives (cy_rat (cy_rput s 3 p 0) 0 p (-1))))).1) = 0) => ?_) (fun (h_143_10 : ¬ ((cy_Survey_comeTo (cy_rput s 3 p 0) (if cy_rat (cy_rput s 3 p 0) 0 (p + 1) (-1) < p + 2 then cy_rat (cy_rput s 3 p 0) 0 (p + 1) (-1) else p + 2) (((cy_rat (cy_rput s 3 p 0) 2 p 0) - (cy_Yard_takes (cy_rat (cy_rput s 3 p 0) 0 p (-1)))) + (cy_Yard_gives (cy_rat (cy_rput s 3 p 0) 0 p (-1))))).1) = 0) => ?_)
              · refine wm_aload_n C d_Survey_goThrough_151 rfl (j := 6) rfl ?_
                refine wm_iload C d_Survey_goThrough_152 (j := 2) rfl ?_
                refine wm_iload C d_Survey_goThrough_154 (j := 1) rfl ?_
                refine wm_mmax C ml_Survey_115 mm_max_s mm_i mm_max_c (by decide) (Nat.le_of_ble_eq_true rfl) (Nat.zero_le _) (Nat.zero_le _) d_Survey_goThrough_156 ?_
                refine wm_iload C d_Survey_goThrough_159 (j := 3) rfl ?_
                refine wm_callV (d2 := 1) (mc := 0) (ms := 0) C mo_Survey_comeTo co_Survey ml_Survey_94 [.int (if p + 2 < cy_rat (cy_rput s 3 p 0) 0 (p + 1) (-1) then cy_rat (cy_rput s 3 p 0) 0 (p + 1) (-1) else p + 2), .int (((cy_rat (cy_rput s 3 p 0) 2 p 0) - (cy_Yard_takes (cy_rat (cy_rput s 3 p 0) 0 p (-1)))) + (cy_Yard_gives (cy_rat (cy_rput s 3 p 0) 0 p (-1))))] [] rfl (rp_survey hR6) rfl (by decide) (Nat.le_of_ble_eq_true rfl) (Nat.le_refl _) (Nat.le_refl _) d_Survey_goThrough_161 (cy_ki ?_)
                refine c_Survey_comeTo hE hR6  _ _ (fun M7 hR7 => ⟨_, rfl, ?_⟩)
                refine wm_iret C P d_Survey_goThrough_164 ?_
                have e : cy_Survey_goThrough s p = cy_Survey_comeTo ((cy_Survey_comeTo (cy_rput s 3 p 0) (if cy_rat (cy_rput s 3 p 0) 0 (p + 1) (-1) < p + 2 then cy_rat (cy_rput s 3 p 0) 0 (p + 1) (-1) else p + 2) (((cy_rat (cy_rput s 3 p 0) 2 p 0) - (cy_Yard_takes (cy_rat (cy_rput s 3 p 0) 0 p (-1)))) + (cy_Yard_gives (cy_rat (cy_rput s 3 p 0) 0 p (-1))))).2) (if p + 2 < cy_rat (cy_rput s 3 p 0) 0 (p + 1) (-1) then cy_rat (cy_rput s 3 p 0) 0 (p + 1) (-1) else p + 2) (((cy_rat (cy_rput s 3 p 0) 2 p 0) - (cy_Yard_takes (cy_rat (cy_rput s 3 p 0) 0 p (-1)))) + (cy_Yard_gives (cy_rat (cy_rput s 3 p 0) 0 p (-1)))) := by rw [cy_Survey_goThrough, if_neg h_43, if_pos h_50, if_pos h_64, if_neg h_74, if_neg h_89_8, if_neg h_114_9, if_pos h_143_10]
                rw [e] at h
                exact h _ hR7
              · refine wm_iload C d_Survey_goThrough_146 (j := 0) rfl ?_
                refine wm_goto (tgt := 164) C d_Survey_goThrough_148 (by decide) ?_
                refine wm_iret C P d_Survey_goThrough_164 ?_
                have e : cy_Survey_goThrough s p = cy_Survey_comeTo (cy_rput s 3 p 0) (if cy_rat (cy_rput s 3 p 0) 0 (p + 1) (-1) < p + 2 then cy_rat (cy_rput s 3 p 0) 0 (p + 1) (-1) else p + 2) (((cy_rat (cy_rput s 3 p 0) 2 p 0) - (cy_Yard_takes (cy_rat (cy_rput s 3 p 0) 0 p (-1)))) + (cy_Yard_gives (cy_rat (cy_rput s 3 p 0) 0 p (-1)))) := by rw [cy_Survey_goThrough, if_neg h_43, if_pos h_50, if_pos h_64, if_neg h_74, if_neg h_89_8, if_neg h_114_9, if_neg h_143_10]
                rw [e] at h
                exact h _ hR6
            · refine wm_aload_n C d_Survey_goThrough_117 rfl (j := 5) rfl ?_
              refine wm_iload C d_Survey_goThrough_118 (j := 0) rfl ?_
              refine wm_iload C d_Survey_goThrough_120 (j := 2) rfl ?_
              refine wm_callV (d2 := 1) (mc := 0) (ms := 0) C mo_Survey_comeTo co_Survey ml_Survey_94 [.int (cy_rat (cy_rput s 3 p 0) 0 (p + 1) (-1)), .int (((cy_rat (cy_rput s 3 p 0) 2 p 0) - (cy_Yard_takes (cy_rat (cy_rput s 3 p 0) 0 p (-1)))) + (cy_Yard_gives (cy_rat (cy_rput s 3 p 0) 0 p (-1))))] [] rfl (rp_survey hR1) rfl (by decide) (Nat.le_of_ble_eq_true rfl) (Nat.le_refl _) (Nat.le_refl _) d_Survey_goThrough_122 (cy_ki ?_)
              refine c_Survey_comeTo hE hR1  _ _ (fun M8 hR8 => ⟨_, rfl, ?_⟩)
              refine wm_iret C P d_Survey_goThrough_125 ?_
              have e : cy_Survey_goThrough s p = cy_Survey_comeTo (cy_rput s 3 p 0) (cy_rat (cy_rput s 3 p 0) 0 (p + 1) (-1)) (((cy_rat (cy_rput s 3 p 0) 2 p 0) - (cy_Yard_takes (cy_rat (cy_rput s 3 p 0) 0 p (-1)))) + (cy_Yard_gives (cy_rat (cy_rput s 3 p 0) 0 p (-1)))) := by rw [cy_Survey_goThrough, if_neg h_43, if_pos h_50, if_pos h_64, if_neg h_74, if_neg h_89_8, if_pos h_114_9]
              rw [e] at h
              exact h _ hR8
          · refine wm_aload_n C d_Survey_goThrough_92 rfl (j := 4) rfl ?_
            refine wm_iload C d_Survey_goThrough_93 (j := 0) rfl ?_
            refine wm_iload C d_Survey_goThrough_95 (j := 1) rfl ?_
            refine wm_callV (d2 := 1) (mc := 0) (ms := 0) C mo_Survey_comeTo co_Survey ml_Survey_94 [.int (p + 2), .int (((cy_rat (cy_rput s 3 p 0) 2 p 0) - (cy_Yard_takes (cy_rat (cy_rput s 3 p 0) 0 p (-1)))) + (cy_Yard_gives (cy_rat (cy_rput s 3 p 0) 0 p (-1))))] [] rfl (rp_survey hR1) rfl (by decide) (Nat.le_of_ble_eq_true rfl) (Nat.le_refl _) (Nat.le_refl _) d_Survey_goThrough_97 (cy_ki ?_)
            refine c_Survey_comeTo hE hR1  _ _ (fun M9 hR9 => ⟨_, rfl, ?_⟩)
            refine wm_iret C P d_Survey_goThrough_100 ?_
            have e : cy_Survey_goThrough s p = cy_Survey_comeTo (cy_rput s 3 p 0) (p + 2) (((cy_rat (cy_rput s 3 p 0) 2 p 0) - (cy_Yard_takes (cy_rat (cy_rput s 3 p 0) 0 p (-1)))) + (cy_Yard_gives (cy_rat (cy_rput s 3 p 0) 0 p (-1)))) := by rw [cy_Survey_goThrough, if_neg h_43, if_pos h_50, if_pos h_64, if_neg h_74, if_pos h_89_8]
            rw [e] at h
            exact h _ hR9
      · refine wm_iconst (v := 0) C d_Survey_goThrough_67 (by decide) ?_
        refine wm_iret C P d_Survey_goThrough_68 ?_
        have e : cy_Survey_goThrough s p = (0, (cy_rput s 3 p 0)) := by rw [cy_Survey_goThrough, if_neg h_43, if_pos h_50, if_neg h_64]
        rw [e] at h
        exact h _ hR1
    · refine wm_bipush (v := 7) C d_Survey_goThrough_53 (by decide) ?_
      refine wm_iload_n C d_Survey_goThrough_55 rfl (j := 5) rfl ?_
      refine wm_callS (d2 := 0) (mc := 0) (ms := 0) C mo_Survey_fault ml_Survey_30 [.int 7, .int p] [] rfl rfl (by decide) (Nat.le_of_ble_eq_true rfl) (Nat.le_refl _) (Nat.le_refl _) d_Survey_goThrough_56 (cy_ki ?_)
      refine c_Survey_fault hE hR1  _ _ ⟨_, rfl, ?_⟩
      refine wm_iret C P d_Survey_goThrough_59 ?_
      have e : cy_Survey_goThrough s p = (cy_Survey_fault 7 p, (cy_rput s 3 p 0)) := by rw [cy_Survey_goThrough, if_neg h_43, if_neg h_50]
      rw [e] at h
      exact h _ hR1
theorem cy_len2 {E : cy_E} {s : cy_S} {M : cy_Hp} (h : cy_R E s M) {r : Nat} (hr : r < 58) : (nI (s.1 r).length).toInt < 2 ^ 31 - 1 := by
  obtain ⟨f, h1, h2, h3, h4⟩ := h.1 r hr
  have hc : cy_cap r ≤ 300 := by
    unfold cy_cap
    repeat' split
    all_goals omega
  rw [nI_toInt (by omega)]; omega
def cy_Survey_readInstructions_l : Nat → cy_S → Int32 → Int32 × cy_S
  | 0, s, _ => (0, s)
  | q + 1, s, p =>
    if (nI (s.1 0).length) ≤ p then
      if (cy_rat s 0 s.2.2.2.2.1 0) = 16 then
        (0, s)
      else
        if (cy_Yard_isEnding (cy_rat s 0 s.2.2.2.2.1 0)) = 0 then
          (cy_Survey_fault 5 s.2.2.2.2.1, s)
        else
          (0, s)
    else
      if (cy_Survey_readingFault s p) = 0 then
        if (cy_Yard_hasOperand (cy_rat (cy_s_lastStart (cy_s_instructions (cy_rput s 1 p 1) (s.2.2.2.1 + 1)) p) 0 p (-1))) = 0 then
          cy_Survey_readInstructions_l q (cy_s_lastStart (cy_s_instructions (cy_rput s 1 p 1) (s.2.2.2.1 + 1)) p) (p + 1)
        else
          cy_Survey_readInstructions_l q (cy_s_lastStart (cy_s_instructions (cy_rput s 1 p 1) (s.2.2.2.1 + 1)) p) ((p + 1) + 1)
      else
        (cy_Survey_readingFault s p, s)
set_option maxHeartbeats 4000000 in
theorem l_Survey_readInstructions {G : cy_G} {E : cy_E} {post : Option Value → cy_Hp → Prop} {F : cy_F} (hE : cy_Eo G E) (C : cy_C G F R_Survey b_Survey_readInstructions 4 4 0 0) (P : cy_P G F (some .int) post 0 0) : ∀ (q : Nat) (s : cy_S) (p : Int32) (M : cy_Hp), cy_R E s M → (nI (s.1 0).length).toInt ≤ p.toInt + ((q : Nat) : Int) → (∀ M', cy_R E (cy_Survey_readInstructions_l (q + 1) s p).2 M' → post (some (.int (cy_Survey_readInstructions_l (q + 1) s p).1)) M') → WM G F 4 0 0 2 [(2, .int p), (0, .ref (E.2.2.1 135)), (1, .ref (E.2.2.1 (2 * 0)))] [] M := by
  intro q
  induction q with
  | zero =>
    intro s p M hR hb h
    refine wm_iload_n C d_Survey_readInstructions_2 rfl (j := 0) rfl ?_
    refine wm_aload_n C d_Survey_readInstructions_3 rfl (j := 2) rfl ?_
    refine wm_getN C co_Row (rp_row hR (by decide)) 1 (by decide) fl_Survey_26 rfl d_Survey_readInstructions_4 ?_
    refine wm_icmp_ge (tgt := 67) C d_Survey_readInstructions_7 (by decide) (fun (h_7 : (nI (s.1 0).length) ≤ p) => ?_) (fun (h_7 : ¬ (nI (s.1 0).length) ≤ p) => ?_)
    · refine wm_aload_n C d_Survey_readInstructions_67 rfl (j := 2) rfl ?_
      refine wm_aload_n C d_Survey_readInstructions_68 rfl (j := 1) rfl ?_
      refine wm_get C co_Survey (rp_survey hR) 4 (by decide) fl_Survey_54 rfl d_Survey_readInstructions_69 ?_
      refine wm_iconst (v := 0) C d_Survey_readInstructions_72 (by decide) ?_
      refine wm_callVN (d2 := 0) (mc := 0) (ms := 0) C mo_Row_at co_Row ml_Survey_67 [.int s.2.2.2.2.1, .int 0] [] rfl (rp_row hR (by decide)) rfl (by decide) (Nat.le_of_ble_eq_true rfl) (Nat.le_refl _) (Nat.le_refl _) d_Survey_readInstructions_73 (cy_ki ?_)
      refine c_at hE hR (by decide) _ _ ⟨_, rfl, ?_⟩
      refine wm_istore_n (lv' := [(2, .int (cy_rat s 0 s.2.2.2.2.1 0)), (0, .ref (E.2.2.1 135)), (1, .ref (E.2.2.1 (2 * 0)))]) C d_Survey_readInstructions_76 rfl (by decide) rfl ?_
      refine wm_iload_n C d_Survey_readInstructions_77 rfl (j := 0) rfl ?_
      refine wm_bipush (v := 16) C d_Survey_readInstructions_78 (by decide) ?_
      refine wm_icmp_eq (tgt := 90) C d_Survey_readInstructions_80 (by decide) (fun (h_80 : (cy_rat s 0 s.2.2.2.2.1 0) = 16) => ?_) (fun (h_80 : ¬ (cy_rat s 0 s.2.2.2.2.1 0) = 16) => ?_)
      · refine wm_iconst (v := 0) C d_Survey_readInstructions_90 (by decide) ?_
        refine wm_goto (tgt := 102) C d_Survey_readInstructions_91 (by decide) ?_
        refine wm_iret C P d_Survey_readInstructions_102 ?_
        have e : cy_Survey_readInstructions_l (0 + 1) s p = (0, s) := by rw [cy_Survey_readInstructions_l, if_pos h_7, if_pos h_80]
        rw [e] at h
        exact h _ hR
      · refine wm_iload_n C d_Survey_readInstructions_83 rfl (j := 0) rfl ?_
        refine wm_callSN (d2 := 0) (mc := 0) (ms := 0) C mo_Yard_isEnding ml_Survey_74 [.int (cy_rat s 0 s.2.2.2.2.1 0)] [] rfl rfl (by decide) (Nat.le_of_ble_eq_true rfl) (Nat.le_refl _) (Nat.le_refl _) d_Survey_readInstructions_84 (cy_ki ?_)
        refine c_Yard_isEnding hE hR  _ ⟨_, rfl, ?_⟩
        refine wm_if_eq (tgt := 94) C d_Survey_readInstructions_87 (by decide) (fun (h_87 : (cy_Yard_isEnding (cy_rat s 0 s.2.2.2.2.1 0)) = 0) => ?_) (fun (h_87 : ¬ (cy_Yard_isEnding (cy_rat s 0 s.2.2.2.2.1 0)) = 0) => ?_)
        · refine wm_iconst (v := 5) C d_Survey_readInstructions_94 (by decide) ?_
          refine wm_aload_n C d_Survey_readInstructions_95 rfl (j := 1) rfl ?_
          refine wm_get C co_Survey (rp_survey hR) 4 (by decide) fl_Survey_54 rfl d_Survey_readInstructions_96 ?_
          refine wm_callS (d2 := 0) (mc := 0) (ms := 0) C mo_Survey_fault ml_Survey_30 [.int 5, .int s.2.2.2.2.1] [] rfl rfl (by decide) (Nat.le_of_ble_eq_true rfl) (Nat.le_refl _) (Nat.le_refl _) d_Survey_readInstructions_99 (cy_ki ?_)
          refine c_Survey_fault hE hR  _ _ ⟨_, rfl, ?_⟩
          refine wm_iret C P d_Survey_readInstructions_102 ?_
          have e : cy_Survey_readInstructions_l (0 + 1) s p = (cy_Survey_fault 5 s.2.2.2.2.1, s) := by rw [cy_Survey_readInstructions_l, if_pos h_7, if_neg h_80, if_pos h_87]
          rw [e] at h
          exact h _ hR
        · refine wm_iconst (v := 0) C d_Survey_readInstructions_90 (by decide) ?_
          refine wm_goto (tgt := 102) C d_Survey_readInstructions_91 (by decide) ?_
          refine wm_iret C P d_Survey_readInstructions_102 ?_
          have e : cy_Survey_readInstructions_l (0 + 1) s p = (0, s) := by rw [cy_Survey_readInstructions_l, if_pos h_7, if_neg h_80, if_neg h_87]
          rw [e] at h
          exact h _ hR
    · exact absurd (cy_n0 hb) h_7
  | succ q ih =>
    intro s p M hR hb h
    refine wm_iload_n C d_Survey_readInstructions_2 rfl (j := 0) rfl ?_
    refine wm_aload_n C d_Survey_readInstructions_3 rfl (j := 2) rfl ?_
    refine wm_getN C co_Row (rp_row hR (by decide)) 1 (by decide) fl_Survey_26 rfl d_Survey_readInstructions_4 ?_
    refine wm_icmp_ge (tgt := 67) C d_Survey_readInstructions_7 (by decide) (fun (h_7 : (nI (s.1 0).length) ≤ p) => ?_) (fun (h_7 : ¬ (nI (s.1 0).length) ≤ p) => ?_)
    · refine wm_aload_n C d_Survey_readInstructions_67 rfl (j := 2) rfl ?_
      refine wm_aload_n C d_Survey_readInstructions_68 rfl (j := 1) rfl ?_
      refine wm_get C co_Survey (rp_survey hR) 4 (by decide) fl_Survey_54 rfl d_Survey_readInstructions_69 ?_
      refine wm_iconst (v := 0) C d_Survey_readInstructions_72 (by decide) ?_
      refine wm_callVN (d2 := 0) (mc := 0) (ms := 0) C mo_Row_at co_Row ml_Survey_67 [.int s.2.2.2.2.1, .int 0] [] rfl (rp_row hR (by decide)) rfl (by decide) (Nat.le_of_ble_eq_true rfl) (Nat.le_refl _) (Nat.le_refl _) d_Survey_readInstructions_73 (cy_ki ?_)
      refine c_at hE hR (by decide) _ _ ⟨_, rfl, ?_⟩
      refine wm_istore_n (lv' := [(2, .int (cy_rat s 0 s.2.2.2.2.1 0)), (0, .ref (E.2.2.1 135)), (1, .ref (E.2.2.1 (2 * 0)))]) C d_Survey_readInstructions_76 rfl (by decide) rfl ?_
      refine wm_iload_n C d_Survey_readInstructions_77 rfl (j := 0) rfl ?_
      refine wm_bipush (v := 16) C d_Survey_readInstructions_78 (by decide) ?_
      refine wm_icmp_eq (tgt := 90) C d_Survey_readInstructions_80 (by decide) (fun (h_80 : (cy_rat s 0 s.2.2.2.2.1 0) = 16) => ?_) (fun (h_80 : ¬ (cy_rat s 0 s.2.2.2.2.1 0) = 16) => ?_)
      · refine wm_iconst (v := 0) C d_Survey_readInstructions_90 (by decide) ?_
        refine wm_goto (tgt := 102) C d_Survey_readInstructions_91 (by decide) ?_
        refine wm_iret C P d_Survey_readInstructions_102 ?_
        have e : cy_Survey_readInstructions_l (q + 1 + 1) s p = (0, s) := by rw [cy_Survey_readInstructions_l, if_pos h_7, if_pos h_80]
        rw [e] at h
        exact h _ hR
      · refine wm_iload_n C d_Survey_readInstructions_83 rfl (j := 0) rfl ?_
        refine wm_callSN (d2 := 0) (mc := 0) (ms := 0) C mo_Yard_isEnding ml_Survey_74 [.int (cy_rat s 0 s.2.2.2.2.1 0)] [] rfl rfl (by decide) (Nat.le_of_ble_eq_true rfl) (Nat.le_refl _) (Nat.le_refl _) d_Survey_readInstructions_84 (cy_ki ?_)
        refine c_Yard_isEnding hE hR  _ ⟨_, rfl, ?_⟩
        refine wm_if_eq (tgt := 94) C d_Survey_readInstructions_87 (by decide) (fun (h_87 : (cy_Yard_isEnding (cy_rat s 0 s.2.2.2.2.1 0)) = 0) => ?_) (fun (h_87 : ¬ (cy_Yard_isEnding (cy_rat s 0 s.2.2.2.2.1 0)) = 0) => ?_)
        · refine wm_iconst (v := 5) C d_Survey_readInstructions_94 (by decide) ?_
          refine wm_aload_n C d_Survey_readInstructions_95 rfl (j := 1) rfl ?_
          refine wm_get C co_Survey (rp_survey hR) 4 (by decide) fl_Survey_54 rfl d_Survey_readInstructions_96 ?_
          refine wm_callS (d2 := 0) (mc := 0) (ms := 0) C mo_Survey_fault ml_Survey_30 [.int 5, .int s.2.2.2.2.1] [] rfl rfl (by decide) (Nat.le_of_ble_eq_true rfl) (Nat.le_refl _) (Nat.le_refl _) d_Survey_readInstructions_99 (cy_ki ?_)
          refine c_Survey_fault hE hR  _ _ ⟨_, rfl, ?_⟩
          refine wm_iret C P d_Survey_readInstructions_102 ?_
          have e : cy_Survey_readInstructions_l (q + 1 + 1) s p = (cy_Survey_fault 5 s.2.2.2.2.1, s) := by rw [cy_Survey_readInstructions_l, if_pos h_7, if_neg h_80, if_pos h_87]
          rw [e] at h
          exact h _ hR
        · refine wm_iconst (v := 0) C d_Survey_readInstructions_90 (by decide) ?_
          refine wm_goto (tgt := 102) C d_Survey_readInstructions_91 (by decide) ?_
          refine wm_iret C P d_Survey_readInstructions_102 ?_
          have e : cy_Survey_readInstructions_l (q + 1 + 1) s p = (0, s) := by rw [cy_Survey_readInstructions_l, if_pos h_7, if_neg h_80, if_neg h_87]
          rw [e] at h
          exact h _ hR
    · refine wm_aload_n C d_Survey_readInstructions_10 rfl (j := 2) rfl ?_
      refine wm_iload_n C d_Survey_readInstructions_11 rfl (j := 0) rfl ?_
      refine wm_callS (d2 := 3) (mc := 0) (ms := 0) C mo_Survey_readingFault ml_Survey_60 [.ref (E.2.2.1 (2 * 0)), .int p] [] rfl rfl (by decide) (Nat.le_of_ble_eq_true rfl) (Nat.le_refl _) (Nat.le_refl _) d_Survey_readInstructions_12 (cy_ki ?_)
      refine c_Survey_readingFault hE hR  _ ⟨_, rfl, ?_⟩
      refine wm_istore_n (lv' := [(3, .int (cy_Survey_readingFault s p)), (2, .int p), (0, .ref (E.2.2.1 135)), (1, .ref (E.2.2.1 (2 * 0)))]) C d_Survey_readInstructions_15 rfl (by decide) rfl ?_
      refine wm_iload_n C d_Survey_readInstructions_16 rfl (j := 0) rfl ?_
      refine wm_if_eq (tgt := 22) C d_Survey_readInstructions_17 (by decide) (fun (h_17 : (cy_Survey_readingFault s p) = 0) => ?_) (fun (h_17 : ¬ (cy_Survey_readingFault s p) = 0) => ?_)
      · refine wm_aload_n C d_Survey_readInstructions_22 rfl (j := 2) rfl ?_
        refine wm_get C co_Survey (rp_survey hR) 0 (by decide) fl_Survey_14 rfl d_Survey_readInstructions_23 ?_
        refine wm_iload_n C d_Survey_readInstructions_26 rfl (j := 1) rfl ?_
        refine wm_iconst (v := 1) C d_Survey_readInstructions_27 (by decide) ?_
        refine wm_callVN (d2 := 0) (mc := 0) (ms := 0) C mo_Row_put co_Row ml_Survey_64 [.int p, .int 1] [] rfl (rp_row hR (by decide)) rfl (by decide) (Nat.le_of_ble_eq_true rfl) (Nat.le_refl _) (Nat.le_refl _) d_Survey_readInstructions_28 (cy_kv ?_)
        refine c_put hE hR (by decide) _ _ (fun M1 hR1 => ⟨rfl, ?_⟩)
        refine wm_aload_n C d_Survey_readInstructions_31 rfl (j := 2) rfl ?_
        refine wm_dup C d_Survey_readInstructions_32 rfl ?_
        refine wm_get C co_Survey (rp_survey hR1) 3 (by decide) fl_Survey_51 rfl d_Survey_readInstructions_33 ?_
        refine wm_iconst (v := 1) C d_Survey_readInstructions_36 (by decide) ?_
        refine wm_iadd C d_Survey_readInstructions_37 ?_
        refine wm_put C co_Survey (rp_survey hR1) 3 (by decide) fl_Survey_51 rfl rfl rfl (Nat.le_of_ble_eq_true rfl) d_Survey_readInstructions_38 ?_
        refine wm_gen (rp_p_instructions hE hR1 (s.2.2.2.1 + 1)) (fun M2 hR2 => ?_)
        refine wm_aload_n C d_Survey_readInstructions_41 rfl (j := 2) rfl ?_
        refine wm_iload_n C d_Survey_readInstructions_42 rfl (j := 1) rfl ?_
        refine wm_put C co_Survey (rp_survey hR2) 4 (by decide) fl_Survey_54 rfl rfl rfl (Nat.le_of_ble_eq_true rfl) d_Survey_readInstructions_43 ?_
        refine wm_gen (rp_p_lastStart hE hR2 p) (fun M3 hR3 => ?_)
        refine wm_aload_n C d_Survey_readInstructions_46 rfl (j := 3) rfl ?_
        refine wm_iload_n C d_Survey_readInstructions_47 rfl (j := 1) rfl ?_
        refine wm_iconst (v := -1) C d_Survey_readInstructions_48 (by decide) ?_
        refine wm_callVN (d2 := 0) (mc := 0) (ms := 0) C mo_Row_at co_Row ml_Survey_67 [.int p, .int (-1)] [] rfl (rp_row hR3 (by decide)) rfl (by decide) (Nat.le_of_ble_eq_true rfl) (Nat.le_refl _) (Nat.le_refl _) d_Survey_readInstructions_49 (cy_ki ?_)
        refine c_at hE hR3 (by decide) _ _ ⟨_, rfl, ?_⟩
        refine wm_callSN (d2 := 2) (mc := 0) (ms := 0) C mo_Yard_hasOperand ml_Survey_70 [.int (cy_rat (cy_s_lastStart (cy_s_instructions (cy_rput s 1 p 1) (s.2.2.2.1 + 1)) p) 0 p (-1))] [] rfl rfl (by decide) (Nat.le_of_ble_eq_true rfl) (Nat.le_refl _) (Nat.le_refl _) d_Survey_readInstructions_52 (cy_ki ?_)
        refine c_Yard_hasOperand hE hR3  _ ⟨_, rfl, ?_⟩
        refine wm_if_eq (tgt := 61) C d_Survey_readInstructions_55 (by decide) (fun (h_55 : (cy_Yard_hasOperand (cy_rat (cy_s_lastStart (cy_s_instructions (cy_rput s 1 p 1) (s.2.2.2.1 + 1)) p) 0 p (-1))) = 0) => ?_) (fun (h_55 : ¬ (cy_Yard_hasOperand (cy_rat (cy_s_lastStart (cy_s_instructions (cy_rput s 1 p 1) (s.2.2.2.1 + 1)) p) 0 p (-1))) = 0) => ?_)
        · refine wm_iinc (v := p + 1) (lv' := [(2, .int (p + 1)), (3, .int (cy_Survey_readingFault s p)), (0, .ref (E.2.2.1 135)), (1, .ref (E.2.2.1 (2 * 0)))]) C d_Survey_readInstructions_61 (k := 1) rfl rfl (by decide) rfl ?_
          refine wm_goto (tgt := 2) C d_Survey_readInstructions_64 (by decide) ?_
          have e : cy_Survey_readInstructions_l (q + 1 + 1) s p = cy_Survey_readInstructions_l (q + 1) (cy_s_lastStart (cy_s_instructions (cy_rput s 1 p 1) (s.2.2.2.1 + 1)) p) (p + 1) := by rw [cy_Survey_readInstructions_l, if_neg h_7, if_pos h_17, if_pos h_55]
          rw [e] at h
          exact wm_sub [(2, .int (p + 1)), (0, .ref (E.2.2.1 135)), (1, .ref (E.2.2.1 (2 * 0)))] (by simp) (ih (cy_s_lastStart (cy_s_instructions (cy_rput s 1 p 1) (s.2.2.2.1 + 1)) p) (p + 1) _ hR3 (cy_n1 hb h_7) h)
        · refine wm_iinc (v := p + 1) (lv' := [(2, .int (p + 1)), (3, .int (cy_Survey_readingFault s p)), (0, .ref (E.2.2.1 135)), (1, .ref (E.2.2.1 (2 * 0)))]) C d_Survey_readInstructions_58 (k := 1) rfl rfl (by decide) rfl ?_
          refine wm_iinc (v := (p + 1) + 1) (lv' := [(2, .int ((p + 1) + 1)), (3, .int (cy_Survey_readingFault s p)), (0, .ref (E.2.2.1 135)), (1, .ref (E.2.2.1 (2 * 0)))]) C d_Survey_readInstructions_61 (k := 0) rfl rfl (by decide) rfl ?_
          refine wm_goto (tgt := 2) C d_Survey_readInstructions_64 (by decide) ?_
          have e : cy_Survey_readInstructions_l (q + 1 + 1) s p = cy_Survey_readInstructions_l (q + 1) (cy_s_lastStart (cy_s_instructions (cy_rput s 1 p 1) (s.2.2.2.1 + 1)) p) ((p + 1) + 1) := by rw [cy_Survey_readInstructions_l, if_neg h_7, if_pos h_17, if_neg h_55]
          rw [e] at h
          exact wm_sub [(2, .int ((p + 1) + 1)), (0, .ref (E.2.2.1 135)), (1, .ref (E.2.2.1 (2 * 0)))] (by simp) (ih (cy_s_lastStart (cy_s_instructions (cy_rput s 1 p 1) (s.2.2.2.1 + 1)) p) ((p + 1) + 1) _ hR3 (cy_n2 (cy_len2 hR (by decide)) hb h_7) h)
      · refine wm_iload_n C d_Survey_readInstructions_20 rfl (j := 0) rfl ?_
        refine wm_iret C P d_Survey_readInstructions_21 ?_
        have e : cy_Survey_readInstructions_l (q + 1 + 1) s p = (cy_Survey_readingFault s p, s) := by rw [cy_Survey_readInstructions_l, if_neg h_7, if_neg h_17]
        rw [e] at h
        exact h _ hR
def cy_Survey_readInstructions (s : cy_S) : Int32 × cy_S :=
  cy_Survey_readInstructions_l (((nI (s.1 0).length).toInt - (3 : Int32).toInt).toNat + 1) s 3
set_option maxHeartbeats 4000000 in
theorem c_Survey_readInstructions {G : cy_G} {E : cy_E} {s : cy_S} {M : cy_Hp} {post : Option Value → cy_Hp → Prop} (hE : cy_Eo G E) (hR : cy_R E s M)   (h : ∀ M', cy_R E (cy_Survey_readInstructions s).2 M' → post (some (.int (cy_Survey_readInstructions s).1)) M') : cy_Ct G 4 m_Survey_readInstructions [.ref (E.2.2.1 135), .ref (E.2.2.1 (2 * 0))] M 0 0 post := by
  refine cy_Ct.of (by decide) (Nat.le_of_ble_eq_true rfl) ?_
  intro F C P _
  have C : cy_C G F R_Survey b_Survey_readInstructions 4 4 0 0 := C
  have P : cy_P G F (some .int) post 0 0 := P
  show WM G F 4 0 0 0 [(0, .ref (E.2.2.1 135)), (1, .ref (E.2.2.1 (2 * 0)))] [] M
  refine wm_iconst (v := 3) C d_Survey_readInstructions_0 (by decide) ?_
  refine wm_istore_n (lv' := [(2, .int 3), (0, .ref (E.2.2.1 135)), (1, .ref (E.2.2.1 (2 * 0)))]) C d_Survey_readInstructions_1 rfl (by decide) rfl ?_
  have e : cy_Survey_readInstructions s = cy_Survey_readInstructions_l (((nI (s.1 0).length).toInt - (3 : Int32).toInt).toNat + 1) s 3 := by rw [cy_Survey_readInstructions]
  rw [e] at h
  exact wm_sub [(2, .int 3), (0, .ref (E.2.2.1 135)), (1, .ref (E.2.2.1 (2 * 0)))] (by simp) (l_Survey_readInstructions hE C P _ _ _ _ hR (cy_fuel _ _) h)
def cy_Survey_lookAtPlaces_l : Nat → cy_S → Int32 → Int32
  | 0, s, _ => 0
  | q + 1, s, p =>
    if (nI (s.1 0).length) ≤ p then
      0
    else
      if (cy_Survey_tellsPlace s p) = 0 then
        cy_Survey_lookAtPlaces_l q s (p + 1)
      else
        if (cy_rat s 1 (cy_rat s 0 p (-1)) 0) = 0 then
          cy_Survey_fault 6 p
        else
          cy_Survey_lookAtPlaces_l q s (p + 1)
set_option maxHeartbeats 4000000 in
theorem l_Survey_lookAtPlaces {G : cy_G} {E : cy_E} {post : Option Value → cy_Hp → Prop} {F : cy_F} (hE : cy_Eo G E) (C : cy_C G F R_Survey b_Survey_lookAtPlaces 3 2 0 0) (P : cy_P G F (some .int) post 0 0) : ∀ (q : Nat) (s : cy_S) (p : Int32) (M : cy_Hp), cy_R E s M → (nI (s.1 0).length).toInt ≤ p.toInt + ((q : Nat) : Int) → (post (some (.int (cy_Survey_lookAtPlaces_l (q + 1) s p))) M) → WM G F 3 0 0 2 [(2, .int p), (0, .ref (E.2.2.1 135)), (1, .ref (E.2.2.1 (2 * 0)))] [] M := by
  intro q
  induction q with
  | zero =>
    intro s p M hR hb h
    refine wm_iload_n C d_Survey_lookAtPlaces_2 rfl (j := 0) rfl ?_
    refine wm_aload_n C d_Survey_lookAtPlaces_3 rfl (j := 2) rfl ?_
    refine wm_getN C co_Row (rp_row hR (by decide)) 1 (by decide) fl_Survey_26 rfl d_Survey_lookAtPlaces_4 ?_
    refine wm_icmp_ge (tgt := 49) C d_Survey_lookAtPlaces_7 (by decide) (fun (h_7 : (nI (s.1 0).length) ≤ p) => ?_) (fun (h_7 : ¬ (nI (s.1 0).length) ≤ p) => ?_)
    · refine wm_iconst (v := 0) C d_Survey_lookAtPlaces_49 (by decide) ?_
      refine wm_iret C P d_Survey_lookAtPlaces_50 ?_
      have e : cy_Survey_lookAtPlaces_l (0 + 1) s p = 0 := by rw [cy_Survey_lookAtPlaces_l, if_pos h_7]
      rw [e] at h
      exact h
    · exact absurd (cy_n0 hb) h_7
  | succ q ih =>
    intro s p M hR hb h
    refine wm_iload_n C d_Survey_lookAtPlaces_2 rfl (j := 0) rfl ?_
    refine wm_aload_n C d_Survey_lookAtPlaces_3 rfl (j := 2) rfl ?_
    refine wm_getN C co_Row (rp_row hR (by decide)) 1 (by decide) fl_Survey_26 rfl d_Survey_lookAtPlaces_4 ?_
    refine wm_icmp_ge (tgt := 49) C d_Survey_lookAtPlaces_7 (by decide) (fun (h_7 : (nI (s.1 0).length) ≤ p) => ?_) (fun (h_7 : ¬ (nI (s.1 0).length) ≤ p) => ?_)
    · refine wm_iconst (v := 0) C d_Survey_lookAtPlaces_49 (by decide) ?_
      refine wm_iret C P d_Survey_lookAtPlaces_50 ?_
      have e : cy_Survey_lookAtPlaces_l (q + 1 + 1) s p = 0 := by rw [cy_Survey_lookAtPlaces_l, if_pos h_7]
      rw [e] at h
      exact h
    · refine wm_aload_n C d_Survey_lookAtPlaces_10 rfl (j := 1) rfl ?_
      refine wm_aload_n C d_Survey_lookAtPlaces_11 rfl (j := 2) rfl ?_
      refine wm_iload_n C d_Survey_lookAtPlaces_12 rfl (j := 0) rfl ?_
      refine wm_callV (d2 := 1) (mc := 0) (ms := 0) C mo_Survey_tellsPlace co_Survey ml_Survey_87 [.ref (E.2.2.1 (2 * 0)), .int p] [] rfl (rp_survey hR) rfl (by decide) (Nat.le_of_ble_eq_true rfl) (Nat.le_refl _) (Nat.le_refl _) d_Survey_lookAtPlaces_13 (cy_ki ?_)
      refine c_Survey_tellsPlace hE hR  _ ⟨_, rfl, ?_⟩
      refine wm_if_eq (tgt := 43) C d_Survey_lookAtPlaces_16 (by decide) (fun (h_16 : (cy_Survey_tellsPlace s p) = 0) => ?_) (fun (h_16 : ¬ (cy_Survey_tellsPlace s p) = 0) => ?_)
      · refine wm_iinc (v := p + 1) (lv' := [(2, .int (p + 1)), (0, .ref (E.2.2.1 135)), (1, .ref (E.2.2.1 (2 * 0)))]) C d_Survey_lookAtPlaces_43 (k := 0) rfl rfl (by decide) rfl ?_
        refine wm_goto (tgt := 2) C d_Survey_lookAtPlaces_46 (by decide) ?_
        have e : cy_Survey_lookAtPlaces_l (q + 1 + 1) s p = cy_Survey_lookAtPlaces_l (q + 1) s (p + 1) := by rw [cy_Survey_lookAtPlaces_l, if_neg h_7, if_pos h_16]
        rw [e] at h
        exact wm_sub [(2, .int (p + 1)), (0, .ref (E.2.2.1 135)), (1, .ref (E.2.2.1 (2 * 0)))] (by simp) (ih s (p + 1) _ hR (cy_n1 hb h_7) h)
      · refine wm_aload_n C d_Survey_lookAtPlaces_19 rfl (j := 1) rfl ?_
        refine wm_get C co_Survey (rp_survey hR) 0 (by decide) fl_Survey_14 rfl d_Survey_lookAtPlaces_20 ?_
        refine wm_aload_n C d_Survey_lookAtPlaces_23 rfl (j := 2) rfl ?_
        refine wm_iload_n C d_Survey_lookAtPlaces_24 rfl (j := 0) rfl ?_
        refine wm_iconst (v := -1) C d_Survey_lookAtPlaces_25 (by decide) ?_
        refine wm_callVN (d2 := 0) (mc := 0) (ms := 0) C mo_Row_at co_Row ml_Survey_67 [.int p, .int (-1)] [.ref (E.2.2.1 (2 * 1))] rfl (rp_row hR (by decide)) rfl (by decide) (Nat.le_of_ble_eq_true rfl) (Nat.le_refl _) (Nat.le_refl _) d_Survey_lookAtPlaces_26 (cy_ki ?_)
        refine c_at hE hR (by decide) _ _ ⟨_, rfl, ?_⟩
        refine wm_iconst (v := 0) C d_Survey_lookAtPlaces_29 (by decide) ?_
        refine wm_callVN (d2 := 0) (mc := 0) (ms := 0) C mo_Row_at co_Row ml_Survey_67 [.int (cy_rat s 0 p (-1)), .int 0] [] rfl (rp_row hR (by decide)) rfl (by decide) (Nat.le_of_ble_eq_true rfl) (Nat.le_refl _) (Nat.le_refl _) d_Survey_lookAtPlaces_30 (cy_ki ?_)
        refine c_at hE hR (by decide) _ _ ⟨_, rfl, ?_⟩
        refine wm_if_ne (tgt := 43) C d_Survey_lookAtPlaces_33 (by decide) (fun (h_33 : ¬ (cy_rat s 1 (cy_rat s 0 p (-1)) 0) = 0) => ?_) (fun (h_33 : (cy_rat s 1 (cy_rat s 0 p (-1)) 0) = 0) => ?_)
        · refine wm_iinc (v := p + 1) (lv' := [(2, .int (p + 1)), (0, .ref (E.2.2.1 135)), (1, .ref (E.2.2.1 (2 * 0)))]) C d_Survey_lookAtPlaces_43 (k := 0) rfl rfl (by decide) rfl ?_
          refine wm_goto (tgt := 2) C d_Survey_lookAtPlaces_46 (by decide) ?_
          have e : cy_Survey_lookAtPlaces_l (q + 1 + 1) s p = cy_Survey_lookAtPlaces_l (q + 1) s (p + 1) := by rw [cy_Survey_lookAtPlaces_l, if_neg h_7, if_neg h_16, if_neg h_33]
          rw [e] at h
          exact wm_sub [(2, .int (p + 1)), (0, .ref (E.2.2.1 135)), (1, .ref (E.2.2.1 (2 * 0)))] (by simp) (ih s (p + 1) _ hR (cy_n1 hb h_7) h)
        · refine wm_bipush (v := 6) C d_Survey_lookAtPlaces_36 (by decide) ?_
          refine wm_iload_n C d_Survey_lookAtPlaces_38 rfl (j := 0) rfl ?_
          refine wm_callS (d2 := 0) (mc := 0) (ms := 0) C mo_Survey_fault ml_Survey_30 [.int 6, .int p] [] rfl rfl (by decide) (Nat.le_of_ble_eq_true rfl) (Nat.le_refl _) (Nat.le_refl _) d_Survey_lookAtPlaces_39 (cy_ki ?_)
          refine c_Survey_fault hE hR  _ _ ⟨_, rfl, ?_⟩
          refine wm_iret C P d_Survey_lookAtPlaces_42 ?_
          have e : cy_Survey_lookAtPlaces_l (q + 1 + 1) s p = cy_Survey_fault 6 p := by rw [cy_Survey_lookAtPlaces_l, if_neg h_7, if_neg h_16, if_pos h_33]
          rw [e] at h
          exact h
def cy_Survey_lookAtPlaces (s : cy_S) : Int32 :=
  cy_Survey_lookAtPlaces_l (((nI (s.1 0).length).toInt - (0 : Int32).toInt).toNat + 1) s 0
set_option maxHeartbeats 4000000 in
theorem c_Survey_lookAtPlaces {G : cy_G} {E : cy_E} {s : cy_S} {M : cy_Hp} {post : Option Value → cy_Hp → Prop} (hE : cy_Eo G E) (hR : cy_R E s M)   (h : post (some (.int (cy_Survey_lookAtPlaces s))) M) : cy_Ct G 2 m_Survey_lookAtPlaces [.ref (E.2.2.1 135), .ref (E.2.2.1 (2 * 0))] M 0 0 post := by
  refine cy_Ct.of (by decide) (Nat.le_of_ble_eq_true rfl) ?_
  intro F C P _
  have C : cy_C G F R_Survey b_Survey_lookAtPlaces 3 2 0 0 := C
  have P : cy_P G F (some .int) post 0 0 := P
  show WM G F 3 0 0 0 [(0, .ref (E.2.2.1 135)), (1, .ref (E.2.2.1 (2 * 0)))] [] M
  refine wm_iconst (v := 0) C d_Survey_lookAtPlaces_0 (by decide) ?_
  refine wm_istore_n (lv' := [(2, .int 0), (0, .ref (E.2.2.1 135)), (1, .ref (E.2.2.1 (2 * 0)))]) C d_Survey_lookAtPlaces_1 rfl (by decide) rfl ?_
  have e : cy_Survey_lookAtPlaces s = cy_Survey_lookAtPlaces_l (((nI (s.1 0).length).toInt - (0 : Int32).toInt).toNat + 1) s 0 := by rw [cy_Survey_lookAtPlaces]
  rw [e] at h
  exact wm_sub [(2, .int 0), (0, .ref (E.2.2.1 135)), (1, .ref (E.2.2.1 (2 * 0)))] (by simp) (l_Survey_lookAtPlaces hE C P _ _ _ _ hR (cy_fuel _ _) h)
def cy_Survey_leastWaiting_l : Nat → cy_S → Int32 → Int32 × cy_S
  | 0, s, _ => (-1, s)
  | q + 1, s, p =>
    if (nI (s.1 3).length) ≤ p then
      ((-1), s)
    else
      if (cy_rat s 3 p 0) = 1 then
        (p, (cy_s_searchFrom s p))
      else
        cy_Survey_leastWaiting_l q s (p + 1)
set_option maxHeartbeats 4000000 in
theorem l_Survey_leastWaiting {G : cy_G} {E : cy_E} {post : Option Value → cy_Hp → Prop} {F : cy_F} (hE : cy_Eo G E) (C : cy_C G F R_Survey b_Survey_leastWaiting 2 1 0 0) (P : cy_P G F (some .int) post 0 0) : ∀ (q : Nat) (s : cy_S) (p : Int32) (M : cy_Hp), cy_R E s M → (nI (s.1 3).length).toInt ≤ p.toInt + ((q : Nat) : Int) → (∀ M', cy_R E (cy_Survey_leastWaiting_l (q + 1) s p).2 M' → post (some (.int (cy_Survey_leastWaiting_l (q + 1) s p).1)) M') → WM G F 2 0 0 5 [(1, .int p), (0, .ref (E.2.2.1 135))] [] M := by
  intro q
  induction q with
  | zero =>
    intro s p M hR hb h
    refine wm_iload_n C d_Survey_leastWaiting_5 rfl (j := 0) rfl ?_
    refine wm_aload_n C d_Survey_leastWaiting_6 rfl (j := 1) rfl ?_
    refine wm_get C co_Survey (rp_survey hR) 2 (by decide) fl_Survey_23 rfl d_Survey_leastWaiting_7 ?_
    refine wm_getN C co_Row (rp_row hR (by decide)) 1 (by decide) fl_Survey_26 rfl d_Survey_leastWaiting_10 ?_
    refine wm_icmp_ge (tgt := 42) C d_Survey_leastWaiting_13 (by decide) (fun (h_13 : (nI (s.1 3).length) ≤ p) => ?_) (fun (h_13 : ¬ (nI (s.1 3).length) ≤ p) => ?_)
    · refine wm_iconst (v := -1) C d_Survey_leastWaiting_42 (by decide) ?_
      refine wm_iret C P d_Survey_leastWaiting_43 ?_
      have e : cy_Survey_leastWaiting_l (0 + 1) s p = ((-1), s) := by rw [cy_Survey_leastWaiting_l, if_pos h_13]
      rw [e] at h
      exact h _ hR
    · exact absurd (cy_n0 hb) h_13
  | succ q ih =>
    intro s p M hR hb h
    refine wm_iload_n C d_Survey_leastWaiting_5 rfl (j := 0) rfl ?_
    refine wm_aload_n C d_Survey_leastWaiting_6 rfl (j := 1) rfl ?_
    refine wm_get C co_Survey (rp_survey hR) 2 (by decide) fl_Survey_23 rfl d_Survey_leastWaiting_7 ?_
    refine wm_getN C co_Row (rp_row hR (by decide)) 1 (by decide) fl_Survey_26 rfl d_Survey_leastWaiting_10 ?_
    refine wm_icmp_ge (tgt := 42) C d_Survey_leastWaiting_13 (by decide) (fun (h_13 : (nI (s.1 3).length) ≤ p) => ?_) (fun (h_13 : ¬ (nI (s.1 3).length) ≤ p) => ?_)
    · refine wm_iconst (v := -1) C d_Survey_leastWaiting_42 (by decide) ?_
      refine wm_iret C P d_Survey_leastWaiting_43 ?_
      have e : cy_Survey_leastWaiting_l (q + 1 + 1) s p = ((-1), s) := by rw [cy_Survey_leastWaiting_l, if_pos h_13]
      rw [e] at h
      exact h _ hR
    · refine wm_aload_n C d_Survey_leastWaiting_16 rfl (j := 1) rfl ?_
      refine wm_get C co_Survey (rp_survey hR) 2 (by decide) fl_Survey_23 rfl d_Survey_leastWaiting_17 ?_
      refine wm_iload_n C d_Survey_leastWaiting_20 rfl (j := 0) rfl ?_
      refine wm_iconst (v := 0) C d_Survey_leastWaiting_21 (by decide) ?_
      refine wm_callVN (d2 := 0) (mc := 0) (ms := 0) C mo_Row_at co_Row ml_Survey_67 [.int p, .int 0] [] rfl (rp_row hR (by decide)) rfl (by decide) (Nat.le_of_ble_eq_true rfl) (Nat.le_refl _) (Nat.le_refl _) d_Survey_leastWaiting_22 (cy_ki ?_)
      refine c_at hE hR (by decide) _ _ ⟨_, rfl, ?_⟩
      refine wm_iconst (v := 1) C d_Survey_leastWaiting_25 (by decide) ?_
      refine wm_icmp_ne (tgt := 36) C d_Survey_leastWaiting_26 (by decide) (fun (h_26 : ¬ (cy_rat s 3 p 0) = 1) => ?_) (fun (h_26 : (cy_rat s 3 p 0) = 1) => ?_)
      · refine wm_iinc (v := p + 1) (lv' := [(1, .int (p + 1)), (0, .ref (E.2.2.1 135))]) C d_Survey_leastWaiting_36 (k := 0) rfl rfl (by decide) rfl ?_
        refine wm_goto (tgt := 5) C d_Survey_leastWaiting_39 (by decide) ?_
        have e : cy_Survey_leastWaiting_l (q + 1 + 1) s p = cy_Survey_leastWaiting_l (q + 1) s (p + 1) := by rw [cy_Survey_leastWaiting_l, if_neg h_13, if_neg h_26]
        rw [e] at h
        exact wm_sub [(1, .int (p + 1)), (0, .ref (E.2.2.1 135))] (by simp) (ih s (p + 1) _ hR (cy_n1 hb h_13) h)
      · refine wm_aload_n C d_Survey_leastWaiting_29 rfl (j := 1) rfl ?_
        refine wm_iload_n C d_Survey_leastWaiting_30 rfl (j := 0) rfl ?_
        refine wm_put C co_Survey (rp_survey hR) 5 (by decide) fl_Survey_57 rfl rfl rfl (Nat.le_of_ble_eq_true rfl) d_Survey_leastWaiting_31 ?_
        refine wm_gen (rp_p_searchFrom hE hR p) (fun M1 hR1 => ?_)
        refine wm_iload_n C d_Survey_leastWaiting_34 rfl (j := 0) rfl ?_
        refine wm_iret C P d_Survey_leastWaiting_35 ?_
        have e : cy_Survey_leastWaiting_l (q + 1 + 1) s p = (p, (cy_s_searchFrom s p)) := by rw [cy_Survey_leastWaiting_l, if_neg h_13, if_pos h_26]
        rw [e] at h
        exact h _ hR1
def cy_Survey_leastWaiting (s : cy_S) : Int32 × cy_S :=
  cy_Survey_leastWaiting_l (((nI (s.1 3).length).toInt - s.2.2.2.2.2.toInt).toNat + 1) s s.2.2.2.2.2
set_option maxHeartbeats 4000000 in
theorem c_Survey_leastWaiting {G : cy_G} {E : cy_E} {s : cy_S} {M : cy_Hp} {post : Option Value → cy_Hp → Prop} (hE : cy_Eo G E) (hR : cy_R E s M)   (h : ∀ M', cy_R E (cy_Survey_leastWaiting s).2 M' → post (some (.int (cy_Survey_leastWaiting s).1)) M') : cy_Ct G 1 m_Survey_leastWaiting [.ref (E.2.2.1 135)] M 0 0 post := by
  refine cy_Ct.of (by decide) (Nat.le_of_ble_eq_true rfl) ?_
  intro F C P _
  have C : cy_C G F R_Survey b_Survey_leastWaiting 2 1 0 0 := C
  have P : cy_P G F (some .int) post 0 0 := P
  show WM G F 2 0 0 0 [(0, .ref (E.2.2.1 135))] [] M
  refine wm_aload_n C d_Survey_leastWaiting_0 rfl (j := 0) rfl ?_
  refine wm_get C co_Survey (rp_survey hR) 5 (by decide) fl_Survey_57 rfl d_Survey_leastWaiting_1 ?_
  refine wm_istore_n (lv' := [(1, .int s.2.2.2.2.2), (0, .ref (E.2.2.1 135))]) C d_Survey_leastWaiting_4 rfl (by decide) rfl ?_
  have e : cy_Survey_leastWaiting s = cy_Survey_leastWaiting_l (((nI (s.1 3).length).toInt - s.2.2.2.2.2.toInt).toNat + 1) s s.2.2.2.2.2 := by rw [cy_Survey_leastWaiting]
  rw [e] at h
  exact wm_sub [(1, .int s.2.2.2.2.2), (0, .ref (E.2.2.1 135))] (by simp) (l_Survey_leastWaiting hE C P _ _ _ _ hR (cy_fuel _ _) h)
