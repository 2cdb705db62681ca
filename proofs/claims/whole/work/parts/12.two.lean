def cy_Run_callNull (s : cy_S) (b : Int32) : cy_S :=
  if s.2.2.1.1 = 7 then
    (cy_Run_fail s 4)
  else
    (cy_Run_fail s 4)
set_option maxHeartbeats 4000000 in
theorem c_Run_callNull {G : cy_G} {E : cy_E} {s : cy_S} {M : cy_Hp} {post : Option Value → cy_Hp → Prop} (hE : cy_Eo G E) (hR : cy_R E s M)  (b : Int32) (h : ∀ M', cy_R E (cy_Run_callNull s b) M' → post none M') : cy_Ct G 3 m_Run_callCode [.ref (E.2.2.1 136), .null, .int b] M 0 0 post := by
  refine cy_Ct.of (by decide) (Nat.le_of_ble_eq_true rfl) ?_
  intro F C P _
  have C : cy_C G F R_Run b_Run_callCode 4 3 0 0 := C
  have P : cy_P G F none post 0 0 := P
  show WM G F 4 0 0 0 [(0, .ref (E.2.2.1 136)), (1, .null), (2, .int b)] [] M
  refine wm_aload_n C d_Run_callCode_0 rfl (j := 0) rfl ?_
  refine wm_get C co_Run (rp_run hR) 4 (by decide) fl_Run_39 rfl d_Run_callCode_1 ?_
  by_cases f_4 : s.2.2.1.1 = 7
  · refine wm_getN (v := .null) C co_Frame (rp_frame hR (rp_work (s := s) hR)) 2 (by decide) fl_Run_42 (cy_inner_n f_4) d_Run_callCode_4 ?_
    refine wm_astore_nN (lv' := [(3, .null), (0, .ref (E.2.2.1 136)), (1, .null), (2, .int b)]) C d_Run_callCode_7 rfl (by decide) rfl ?_
    refine wm_aload_nN C d_Run_callCode_8 rfl (j := 2) rfl ?_
    refine wm_ifnonnullN C d_Run_callCode_9 ?_
    refine wm_aload_n C d_Run_callCode_12 rfl (j := 1) rfl ?_
    refine wm_iconst (v := 4) C d_Run_callCode_13 (by decide) ?_
    refine wm_callV (d2 := 0) (mc := 0) (ms := 0) C mo_Run_fail co_Run ml_Run_104 [.int 4] [] rfl (rp_run hR) rfl (by decide) (Nat.le_of_ble_eq_true rfl) (Nat.le_refl _) (Nat.le_refl _) d_Run_callCode_14 (cy_kv ?_)
    refine c_Run_fail hE hR  _ (fun M1 hR1 => ⟨rfl, ?_⟩)
    refine wm_goto (tgt := 43) C d_Run_callCode_17 (by decide) ?_
    refine wm_vret C P d_Run_callCode_43 ?_
    have e : cy_Run_callNull s b = (cy_Run_fail s 4) := by rw [cy_Run_callNull, if_pos f_4]
    rw [e] at h
    exact h _ hR1
  · refine wm_getN (v := .ref (E.2.2.1 (125 + (s.2.2.1.1 + 1)))) C co_Frame (rp_frame hR (rp_work (s := s) hR)) 2 (by decide) fl_Run_42 (cy_inner_s f_4) d_Run_callCode_4 ?_
    refine wm_astore_n (lv' := [(3, .ref (E.2.2.1 (125 + (s.2.2.1.1 + 1)))), (0, .ref (E.2.2.1 136)), (1, .null), (2, .int b)]) C d_Run_callCode_7 rfl (by decide) rfl ?_
    refine wm_aload_nN C d_Run_callCode_8 rfl (j := 2) rfl ?_
    refine wm_ifnonnullN C d_Run_callCode_9 ?_
    refine wm_aload_n C d_Run_callCode_12 rfl (j := 1) rfl ?_
    refine wm_iconst (v := 4) C d_Run_callCode_13 (by decide) ?_
    refine wm_callV (d2 := 0) (mc := 0) (ms := 0) C mo_Run_fail co_Run ml_Run_104 [.int 4] [] rfl (rp_run hR) rfl (by decide) (Nat.le_of_ble_eq_true rfl) (Nat.le_refl _) (Nat.le_refl _) d_Run_callCode_14 (cy_kv ?_)
    refine c_Run_fail hE hR  _ (fun M2 hR2 => ⟨rfl, ?_⟩)
    refine wm_goto (tgt := 43) C d_Run_callCode_17 (by decide) ?_
    refine wm_vret C P d_Run_callCode_43 ?_
    have e : cy_Run_callNull s b = (cy_Run_fail s 4) := by rw [cy_Run_callNull, if_neg f_4]
    rw [e] at h
    exact h _ hR2
def cy_Run_callCode (s : cy_S) (k : Nat) (b : Int32) : cy_S :=
  if s.2.2.1.1 = 7 then
    (cy_Run_fail s 5)
  else
    (cy_s_work (cy_Frame_enter s (s.2.2.1.1 + 1) k b) (s.2.2.1.1 + 1))
set_option maxHeartbeats 4000000 in
theorem c_Run_callCode {G : cy_G} {E : cy_E} {s : cy_S} {M : cy_Hp} {post : Option Value → cy_Hp → Prop} (hE : cy_Eo G E) (hR : cy_R E s M)  {k : Nat} (hk : k < 9) (b : Int32) (h : ∀ M', cy_R E (cy_Run_callCode s k b) M' → post none M') : cy_Ct G 3 m_Run_callCode [.ref (E.2.2.1 136), .ref (E.2.2.1 (116 + k)), .int b] M 0 0 post := by
  refine cy_Ct.of (by decide) (Nat.le_of_ble_eq_true rfl) ?_
  intro F C P _
  have C : cy_C G F R_Run b_Run_callCode 4 3 0 0 := C
  have P : cy_P G F none post 0 0 := P
  show WM G F 4 0 0 0 [(0, .ref (E.2.2.1 136)), (1, .ref (E.2.2.1 (116 + k))), (2, .int b)] [] M
  refine wm_aload_n C d_Run_callCode_0 rfl (j := 0) rfl ?_
  refine wm_get C co_Run (rp_run hR) 4 (by decide) fl_Run_39 rfl d_Run_callCode_1 ?_
  by_cases f_4 : s.2.2.1.1 = 7
  · refine wm_getN (v := .null) C co_Frame (rp_frame hR (rp_work (s := s) hR)) 2 (by decide) fl_Run_42 (cy_inner_n f_4) d_Run_callCode_4 ?_
    refine wm_astore_nN (lv' := [(3, .null), (0, .ref (E.2.2.1 136)), (1, .ref (E.2.2.1 (116 + k))), (2, .int b)]) C d_Run_callCode_7 rfl (by decide) rfl ?_
    refine wm_aload_n C d_Run_callCode_8 rfl (j := 2) rfl ?_
    refine wm_ifnonnull (tgt := 20) C d_Run_callCode_9 (by decide) ?_
    refine wm_aload_nN C d_Run_callCode_20 rfl (j := 0) rfl ?_
    refine wm_ifnonnullN C d_Run_callCode_21 ?_
    refine wm_aload_n C d_Run_callCode_24 rfl (j := 1) rfl ?_
    refine wm_iconst (v := 5) C d_Run_callCode_25 (by decide) ?_
    refine wm_callV (d2 := 0) (mc := 0) (ms := 0) C mo_Run_fail co_Run ml_Run_104 [.int 5] [] rfl (rp_run hR) rfl (by decide) (Nat.le_of_ble_eq_true rfl) (Nat.le_refl _) (Nat.le_refl _) d_Run_callCode_26 (cy_kv ?_)
    refine c_Run_fail hE hR  _ (fun M1 hR1 => ⟨rfl, ?_⟩)
    refine wm_goto (tgt := 43) C d_Run_callCode_29 (by decide) ?_
    refine wm_vret C P d_Run_callCode_43 ?_
    have e : cy_Run_callCode s k b = (cy_Run_fail s 5) := by rw [cy_Run_callCode, if_pos f_4]
    rw [e] at h
    exact h _ hR1
  · refine wm_getN (v := .ref (E.2.2.1 (125 + (s.2.2.1.1 + 1)))) C co_Frame (rp_frame hR (rp_work (s := s) hR)) 2 (by decide) fl_Run_42 (cy_inner_s f_4) d_Run_callCode_4 ?_
    refine wm_astore_n (lv' := [(3, .ref (E.2.2.1 (125 + (s.2.2.1.1 + 1)))), (0, .ref (E.2.2.1 136)), (1, .ref (E.2.2.1 (116 + k))), (2, .int b)]) C d_Run_callCode_7 rfl (by decide) rfl ?_
    refine wm_aload_n C d_Run_callCode_8 rfl (j := 2) rfl ?_
    refine wm_ifnonnull (tgt := 20) C d_Run_callCode_9 (by decide) ?_
    refine wm_aload_n C d_Run_callCode_20 rfl (j := 0) rfl ?_
    refine wm_ifnonnull (tgt := 32) C d_Run_callCode_21 (by decide) ?_
    refine wm_aload_n C d_Run_callCode_32 rfl (j := 0) rfl ?_
    refine wm_aload_n C d_Run_callCode_33 rfl (j := 2) rfl ?_
    refine wm_iload_n C d_Run_callCode_34 rfl (j := 3) rfl ?_
    refine wm_callVN (d2 := 2) (mc := 0) (ms := 0) C mo_Frame_enter co_Frame ml_Run_72 [.ref (E.2.2.1 (116 + k)), .int b] [] rfl (rp_frame hR (cy_lt_in (rp_work (s := s) hR) f_4)) rfl (by decide) (Nat.le_of_ble_eq_true rfl) (Nat.le_refl _) (Nat.le_refl _) d_Run_callCode_35 (cy_kv ?_)
    refine c_Frame_enter hE hR (cy_lt_in (rp_work (s := s) hR) f_4) hk _ (fun M2 hR2 => ⟨rfl, ?_⟩)
    refine wm_aload_n C d_Run_callCode_38 rfl (j := 1) rfl ?_
    refine wm_aload_n C d_Run_callCode_39 rfl (j := 0) rfl ?_
    refine wm_put C co_Run (rp_run hR2) 4 (by decide) fl_Run_39 rfl rfl rfl (Nat.le_of_ble_eq_true rfl) d_Run_callCode_40 ?_
    refine wm_gen (rp_p_work hE hR2 (cy_lt_in (rp_work (s := s) hR) f_4)) (fun M3 hR3 => ?_)
    refine wm_vret C P d_Run_callCode_43 ?_
    have e : cy_Run_callCode s k b = (cy_s_work (cy_Frame_enter s (s.2.2.1.1 + 1) k b) (s.2.2.1.1 + 1)) := by rw [cy_Run_callCode, if_neg f_4]
    rw [e] at h
    exact h _ hR3
def cy_Run_doOther (s : cy_S) (op : Int32) (n : Int32) : cy_S :=
  if op = 19 then
    (cy_Run_readInput (cy_rdrop s (42 + 2 * s.2.2.1.1)) (cy_rlast s (42 + 2 * s.2.2.1.1)))
  else
    if op = 20 then
      (cy_radd s (42 + 2 * s.2.2.1.1) (nI (s.1 4).length))
    else
      if op = 21 then
        (cy_Run_putOut (cy_rdrop s (42 + 2 * s.2.2.1.1)) (cy_rlast s (42 + 2 * s.2.2.1.1)))
      else
        if op = 22 then
          (cy_Run_finish (cy_rdrop s (42 + 2 * s.2.2.1.1)) (cy_rlast s (42 + 2 * s.2.2.1.1)))
        else
          if op = 23 then
            (cy_Run_finish s 0)
          else
            if op = 24 then
              (cy_Run_fail s 1)
            else
              if op = 25 then
                (cy_Run_divide s op)
              else
                if op = 26 then
                  (cy_Run_divide s op)
                else
                  if op = 27 then
                    if cy_no s (n - n / 8 * 8) then
                      (cy_Run_callNull s (n / 8))
                    else
                      (cy_Run_callCode s ((n - n / 8 * 8).toNatClampNeg) (n / 8))
                  else
                    (cy_Run_fail s 1)
set_option maxHeartbeats 4000000 in
theorem c_Run_doOther {G : cy_G} {E : cy_E} {s : cy_S} {M : cy_Hp} {post : Option Value → cy_Hp → Prop} (hE : cy_Eo G E) (hR : cy_R E s M)  (op : Int32) (n : Int32) (h : ∀ M', cy_R E (cy_Run_doOther s op n) M' → post none M') : cy_Ct G 4 m_Run_doOther [.ref (E.2.2.1 136), .int op, .int n] M 0 0 post := by
  refine cy_Ct.of (by decide) (Nat.le_of_ble_eq_true rfl) ?_
  intro F C P _
  have C : cy_C G F R_Run b_Run_doOther 3 4 0 0 := C
  have P : cy_P G F none post 0 0 := P
  show WM G F 3 0 0 0 [(0, .ref (E.2.2.1 136)), (1, .int op), (2, .int n)] [] M
  refine wm_iload_n C d_Run_doOther_0 rfl (j := 1) rfl ?_
  by_cases e_1_19 : op = 19
  · refine wm_tableIn (tgt := 52) C d_Run_doOther_1 (by rw [e_1_19]; decide) (by rw [e_1_19]; decide) (by rw [e_1_19]; rfl) (by decide) ?_
    refine wm_aload_n C d_Run_doOther_52 rfl (j := 0) rfl ?_
    refine wm_aload_n C d_Run_doOther_53 rfl (j := 0) rfl ?_
    refine wm_get C co_Run (rp_run hR) 4 (by decide) fl_Run_39 rfl d_Run_doOther_54 ?_
    refine wm_getN C co_Frame (rp_frame hR (rp_work (s := s) hR)) 3 (by decide) fl_Run_131 rfl d_Run_doOther_57 ?_
    refine wm_callVN (d2 := 0) (mc := 0) (ms := 0) C mo_Row_takeLast co_Row ml_Run_144 [] [.ref (E.2.2.1 136)] rfl (rp_row hR (rb42 (rp_work (s := s) hR))) rfl (by decide) (Nat.le_of_ble_eq_true rfl) (Nat.le_refl _) (Nat.le_refl _) d_Run_doOther_60 (cy_ki ?_)
    refine c_take hE hR (rb42 (rp_work (s := s) hR)) (fun M1 hR1 => ⟨_, rfl, ?_⟩)
    refine wm_callV (d2 := 1) (mc := 0) (ms := 0) C mo_Run_readInput co_Run ml_Run_157 [.int (cy_rlast s (42 + 2 * s.2.2.1.1))] [] rfl (rp_run hR1) rfl (by decide) (Nat.le_of_ble_eq_true rfl) (Nat.le_refl _) (Nat.le_refl _) d_Run_doOther_63 (cy_kv ?_)
    refine c_Run_readInput hE hR1  _ (fun M2 hR2 => ⟨rfl, ?_⟩)
    refine wm_goto (tgt := 166) C d_Run_doOther_66 (by decide) ?_
    refine wm_vret C P d_Run_doOther_166 ?_
    have e : cy_Run_doOther s op n = (cy_Run_readInput (cy_rdrop s (42 + 2 * s.2.2.1.1)) (cy_rlast s (42 + 2 * s.2.2.1.1))) := by rw [cy_Run_doOther, if_pos e_1_19]
    rw [e] at h
    exact h _ hR2
  by_cases e_1_20 : op = 20
  · refine wm_tableIn (tgt := 69) C d_Run_doOther_1 (by rw [e_1_20]; decide) (by rw [e_1_20]; decide) (by rw [e_1_20]; rfl) (by decide) ?_
    refine wm_aload_n C d_Run_doOther_69 rfl (j := 0) rfl ?_
    refine wm_get C co_Run (rp_run hR) 4 (by decide) fl_Run_39 rfl d_Run_doOther_70 ?_
    refine wm_getN C co_Frame (rp_frame hR (rp_work (s := s) hR)) 3 (by decide) fl_Run_131 rfl d_Run_doOther_73 ?_
    refine wm_aload_n C d_Run_doOther_76 rfl (j := 0) rfl ?_
    refine wm_get C co_Run (rp_run hR) 2 (by decide) fl_Run_20 rfl d_Run_doOther_77 ?_
    refine wm_getN C co_Row (rp_row hR (by decide)) 1 (by decide) fl_Run_101 rfl d_Run_doOther_80 ?_
    refine wm_callVN (d2 := 0) (mc := 0) (ms := 0) C mo_Row_add co_Row ml_Run_134 [.int (nI (s.1 4).length)] [] rfl (rp_row hR (rb42 (rp_work (s := s) hR))) rfl (by decide) (Nat.le_of_ble_eq_true rfl) (Nat.le_refl _) (Nat.le_refl _) d_Run_doOther_83 (cy_kv ?_)
    refine c_add hE hR (rb42 (rp_work (s := s) hR)) _ (fun M3 hR3 => ⟨rfl, ?_⟩)
    refine wm_goto (tgt := 166) C d_Run_doOther_86 (by decide) ?_
    refine wm_vret C P d_Run_doOther_166 ?_
    have e : cy_Run_doOther s op n = (cy_radd s (42 + 2 * s.2.2.1.1) (nI (s.1 4).length)) := by rw [cy_Run_doOther, if_neg e_1_19, if_pos e_1_20]
    rw [e] at h
    exact h _ hR3
  by_cases e_1_21 : op = 21
  · refine wm_tableIn (tgt := 89) C d_Run_doOther_1 (by rw [e_1_21]; decide) (by rw [e_1_21]; decide) (by rw [e_1_21]; rfl) (by decide) ?_
    refine wm_aload_n C d_Run_doOther_89 rfl (j := 0) rfl ?_
    refine wm_aload_n C d_Run_doOther_90 rfl (j := 0) rfl ?_
    refine wm_get C co_Run (rp_run hR) 4 (by decide) fl_Run_39 rfl d_Run_doOther_91 ?_
    refine wm_getN C co_Frame (rp_frame hR (rp_work (s := s) hR)) 3 (by decide) fl_Run_131 rfl d_Run_doOther_94 ?_
    refine wm_callVN (d2 := 0) (mc := 0) (ms := 0) C mo_Row_takeLast co_Row ml_Run_144 [] [.ref (E.2.2.1 136)] rfl (rp_row hR (rb42 (rp_work (s := s) hR))) rfl (by decide) (Nat.le_of_ble_eq_true rfl) (Nat.le_refl _) (Nat.le_refl _) d_Run_doOther_97 (cy_ki ?_)
    refine c_take hE hR (rb42 (rp_work (s := s) hR)) (fun M4 hR4 => ⟨_, rfl, ?_⟩)
    refine wm_callV (d2 := 1) (mc := 0) (ms := 0) C mo_Run_putOut co_Run ml_Run_160 [.int (cy_rlast s (42 + 2 * s.2.2.1.1))] [] rfl (rp_run hR4) rfl (by decide) (Nat.le_of_ble_eq_true rfl) (Nat.le_refl _) (Nat.le_refl _) d_Run_doOther_100 (cy_kv ?_)
    refine c_Run_putOut hE hR4  _ (fun M5 hR5 => ⟨rfl, ?_⟩)
    refine wm_goto (tgt := 166) C d_Run_doOther_103 (by decide) ?_
    refine wm_vret C P d_Run_doOther_166 ?_
    have e : cy_Run_doOther s op n = (cy_Run_putOut (cy_rdrop s (42 + 2 * s.2.2.1.1)) (cy_rlast s (42 + 2 * s.2.2.1.1))) := by rw [cy_Run_doOther, if_neg e_1_19, if_neg e_1_20, if_pos e_1_21]
    rw [e] at h
    exact h _ hR5
  by_cases e_1_22 : op = 22
  · refine wm_tableIn (tgt := 106) C d_Run_doOther_1 (by rw [e_1_22]; decide) (by rw [e_1_22]; decide) (by rw [e_1_22]; rfl) (by decide) ?_
    refine wm_aload_n C d_Run_doOther_106 rfl (j := 0) rfl ?_
    refine wm_aload_n C d_Run_doOther_107 rfl (j := 0) rfl ?_
    refine wm_get C co_Run (rp_run hR) 4 (by decide) fl_Run_39 rfl d_Run_doOther_108 ?_
    refine wm_getN C co_Frame (rp_frame hR (rp_work (s := s) hR)) 3 (by decide) fl_Run_131 rfl d_Run_doOther_111 ?_
    refine wm_callVN (d2 := 0) (mc := 0) (ms := 0) C mo_Row_takeLast co_Row ml_Run_144 [] [.ref (E.2.2.1 136)] rfl (rp_row hR (rb42 (rp_work (s := s) hR))) rfl (by decide) (Nat.le_of_ble_eq_true rfl) (Nat.le_refl _) (Nat.le_refl _) d_Run_doOther_114 (cy_ki ?_)
    refine c_take hE hR (rb42 (rp_work (s := s) hR)) (fun M6 hR6 => ⟨_, rfl, ?_⟩)
    refine wm_callV (d2 := 1) (mc := 0) (ms := 0) C mo_Run_finish co_Run ml_Run_163 [.int (cy_rlast s (42 + 2 * s.2.2.1.1))] [] rfl (rp_run hR6) rfl (by decide) (Nat.le_of_ble_eq_true rfl) (Nat.le_refl _) (Nat.le_refl _) d_Run_doOther_117 (cy_kv ?_)
    refine c_Run_finish hE hR6  _ (fun M7 hR7 => ⟨rfl, ?_⟩)
    refine wm_goto (tgt := 166) C d_Run_doOther_120 (by decide) ?_
    refine wm_vret C P d_Run_doOther_166 ?_
    have e : cy_Run_doOther s op n = (cy_Run_finish (cy_rdrop s (42 + 2 * s.2.2.1.1)) (cy_rlast s (42 + 2 * s.2.2.1.1))) := by rw [cy_Run_doOther, if_neg e_1_19, if_neg e_1_20, if_neg e_1_21, if_pos e_1_22]
    rw [e] at h
    exact h _ hR7
  by_cases e_1_23 : op = 23
  · refine wm_tableIn (tgt := 123) C d_Run_doOther_1 (by rw [e_1_23]; decide) (by rw [e_1_23]; decide) (by rw [e_1_23]; rfl) (by decide) ?_
    refine wm_aload_n C d_Run_doOther_123 rfl (j := 0) rfl ?_
    refine wm_iconst (v := 0) C d_Run_doOther_124 (by decide) ?_
    refine wm_callV (d2 := 1) (mc := 0) (ms := 0) C mo_Run_finish co_Run ml_Run_163 [.int 0] [] rfl (rp_run hR) rfl (by decide) (Nat.le_of_ble_eq_true rfl) (Nat.le_refl _) (Nat.le_refl _) d_Run_doOther_125 (cy_kv ?_)
    refine c_Run_finish hE hR  _ (fun M8 hR8 => ⟨rfl, ?_⟩)
    refine wm_goto (tgt := 166) C d_Run_doOther_128 (by decide) ?_
    refine wm_vret C P d_Run_doOther_166 ?_
    have e : cy_Run_doOther s op n = (cy_Run_finish s 0) := by rw [cy_Run_doOther, if_neg e_1_19, if_neg e_1_20, if_neg e_1_21, if_neg e_1_22, if_pos e_1_23]
    rw [e] at h
    exact h _ hR8
  by_cases e_1_24 : op = 24
  · refine wm_tableIn (tgt := 161) C d_Run_doOther_1 (by rw [e_1_24]; decide) (by rw [e_1_24]; decide) (by rw [e_1_24]; rfl) (by decide) ?_
    refine wm_aload_n C d_Run_doOther_161 rfl (j := 0) rfl ?_
    refine wm_iconst (v := 1) C d_Run_doOther_162 (by decide) ?_
    refine wm_callV (d2 := 0) (mc := 0) (ms := 0) C mo_Run_fail co_Run ml_Run_104 [.int 1] [] rfl (rp_run hR) rfl (by decide) (Nat.le_of_ble_eq_true rfl) (Nat.le_refl _) (Nat.le_refl _) d_Run_doOther_163 (cy_kv ?_)
    refine c_Run_fail hE hR  _ (fun M9 hR9 => ⟨rfl, ?_⟩)
    refine wm_vret C P d_Run_doOther_166 ?_
    have e : cy_Run_doOther s op n = (cy_Run_fail s 1) := by rw [cy_Run_doOther, if_neg e_1_19, if_neg e_1_20, if_neg e_1_21, if_neg e_1_22, if_neg e_1_23, if_pos e_1_24]
    rw [e] at h
    exact h _ hR9
  by_cases e_1_25 : op = 25
  · refine wm_tableIn (tgt := 131) C d_Run_doOther_1 (by rw [e_1_25]; decide) (by rw [e_1_25]; decide) (by rw [e_1_25]; rfl) (by decide) ?_
    refine wm_aload_n C d_Run_doOther_131 rfl (j := 0) rfl ?_
    refine wm_iload_n C d_Run_doOther_132 rfl (j := 1) rfl ?_
    refine wm_callV (d2 := 1) (mc := 0) (ms := 0) C mo_Run_divide co_Run ml_Run_166 [.int op] [] rfl (rp_run hR) rfl (by decide) (Nat.le_of_ble_eq_true rfl) (Nat.le_refl _) (Nat.le_refl _) d_Run_doOther_133 (cy_kv ?_)
    refine c_Run_divide hE hR  _ (fun M10 hR10 => ⟨rfl, ?_⟩)
    refine wm_goto (tgt := 166) C d_Run_doOther_136 (by decide) ?_
    refine wm_vret C P d_Run_doOther_166 ?_
    have e : cy_Run_doOther s op n = (cy_Run_divide s op) := by rw [cy_Run_doOther, if_neg e_1_19, if_neg e_1_20, if_neg e_1_21, if_neg e_1_22, if_neg e_1_23, if_neg e_1_24, if_pos e_1_25]
    rw [e] at h
    exact h _ hR10
  by_cases e_1_26 : op = 26
  · refine wm_tableIn (tgt := 131) C d_Run_doOther_1 (by rw [e_1_26]; decide) (by rw [e_1_26]; decide) (by rw [e_1_26]; rfl) (by decide) ?_
    refine wm_aload_n C d_Run_doOther_131 rfl (j := 0) rfl ?_
    refine wm_iload_n C d_Run_doOther_132 rfl (j := 1) rfl ?_
    refine wm_callV (d2 := 1) (mc := 0) (ms := 0) C mo_Run_divide co_Run ml_Run_166 [.int op] [] rfl (rp_run hR) rfl (by decide) (Nat.le_of_ble_eq_true rfl) (Nat.le_refl _) (Nat.le_refl _) d_Run_doOther_133 (cy_kv ?_)
    refine c_Run_divide hE hR  _ (fun M11 hR11 => ⟨rfl, ?_⟩)
    refine wm_goto (tgt := 166) C d_Run_doOther_136 (by decide) ?_
    refine wm_vret C P d_Run_doOther_166 ?_
    have e : cy_Run_doOther s op n = (cy_Run_divide s op) := by rw [cy_Run_doOther, if_neg e_1_19, if_neg e_1_20, if_neg e_1_21, if_neg e_1_22, if_neg e_1_23, if_neg e_1_24, if_neg e_1_25, if_pos e_1_26]
    rw [e] at h
    exact h _ hR11
  by_cases e_1_27 : op = 27
  · refine wm_tableIn (tgt := 139) C d_Run_doOther_1 (by rw [e_1_27]; decide) (by rw [e_1_27]; decide) (by rw [e_1_27]; rfl) (by decide) ?_
    refine wm_aload_n C d_Run_doOther_139 rfl (j := 0) rfl ?_
    refine wm_aload_n C d_Run_doOther_140 rfl (j := 0) rfl ?_
    refine wm_get C co_Run (rp_run hR) 0 (by decide) fl_Run_9 rfl d_Run_doOther_141 ?_
    refine wm_iload_n C d_Run_doOther_144 rfl (j := 2) rfl ?_
    refine wm_bipush (v := 8) C d_Run_doOther_145 (by decide) ?_
    refine wm_irem C d_Run_doOther_147 (by decide) ?_
    refine wm_callVN (d2 := 1) (mc := 0) (ms := 0) C mo_Shelf_taken co_Shelf ml_Run_169 [.int (n - n / 8 * 8)] [.ref (E.2.2.1 136)] rfl (rp_shelf hR) rfl (by decide) (Nat.le_of_ble_eq_true rfl) (Nat.le_refl _) (Nat.le_refl _) d_Run_doOther_148 (cy_ki ?_)
    refine c_taken hE hR _ (fun (g_148 : cy_no s (n - n / 8 * 8)) => ⟨_, rfl, ?_⟩) (fun (g_148 : ¬ cy_no s (n - n / 8 * 8)) => ⟨_, rfl, ?_⟩)
    · refine wm_iload_n C d_Run_doOther_151 rfl (j := 2) rfl ?_
      refine wm_bipush (v := 8) C d_Run_doOther_152 (by decide) ?_
      refine wm_idiv C d_Run_doOther_154 (by decide) ?_
      refine wm_callV (d2 := 3) (mc := 0) (ms := 0) C mo_Run_callCode co_Run ml_Run_173 [.null, .int (n / 8)] [] rfl (rp_run hR) rfl (by decide) (Nat.le_of_ble_eq_true rfl) (Nat.le_refl _) (Nat.le_refl _) d_Run_doOther_155 (cy_kv ?_)
      refine c_Run_callNull hE hR  _ (fun M12 hR12 => ⟨rfl, ?_⟩)
      refine wm_goto (tgt := 166) C d_Run_doOther_158 (by decide) ?_
      refine wm_vret C P d_Run_doOther_166 ?_
      have e : cy_Run_doOther s op n = (cy_Run_callNull s (n / 8)) := by rw [cy_Run_doOther, if_neg e_1_19, if_neg e_1_20, if_neg e_1_21, if_neg e_1_22, if_neg e_1_23, if_neg e_1_24, if_neg e_1_25, if_neg e_1_26, if_pos e_1_27, if_pos g_148]
      rw [e] at h
      exact h _ hR12
    · refine wm_iload_n C d_Run_doOther_151 rfl (j := 2) rfl ?_
      refine wm_bipush (v := 8) C d_Run_doOther_152 (by decide) ?_
      refine wm_idiv C d_Run_doOther_154 (by decide) ?_
      refine wm_callV (d2 := 3) (mc := 0) (ms := 0) C mo_Run_callCode co_Run ml_Run_173 [.ref (E.2.2.1 (116 + ((n - n / 8 * 8).toNatClampNeg))), .int (n / 8)] [] rfl (rp_run hR) rfl (by decide) (Nat.le_of_ble_eq_true rfl) (Nat.le_refl _) (Nat.le_refl _) d_Run_doOther_155 (cy_kv ?_)
      refine c_Run_callCode hE hR (cy_no_lt g_148) _ (fun M13 hR13 => ⟨rfl, ?_⟩)
      refine wm_goto (tgt := 166) C d_Run_doOther_158 (by decide) ?_
      refine wm_vret C P d_Run_doOther_166 ?_
      have e : cy_Run_doOther s op n = (cy_Run_callCode s ((n - n / 8 * 8).toNatClampNeg) (n / 8)) := by rw [cy_Run_doOther, if_neg e_1_19, if_neg e_1_20, if_neg e_1_21, if_neg e_1_22, if_neg e_1_23, if_neg e_1_24, if_neg e_1_25, if_neg e_1_26, if_pos e_1_27, if_neg g_148]
      rw [e] at h
      exact h _ hR13
  · refine wm_tableOut (tgt := 161) C d_Run_doOther_1 (by have n0 := lv_neT e_1_19 (a := 19) (by decide); have n1 := lv_neT e_1_20 (a := 20) (by decide); have n2 := lv_neT e_1_21 (a := 21) (by decide); have n3 := lv_neT e_1_22 (a := 22) (by decide); have n4 := lv_neT e_1_23 (a := 23) (by decide); have n5 := lv_neT e_1_24 (a := 24) (by decide); have n6 := lv_neT e_1_25 (a := 25) (by decide); have n7 := lv_neT e_1_26 (a := 26) (by decide); have n8 := lv_neT e_1_27 (a := 27) (by decide); omega) (by decide) ?_
    refine wm_aload_n C d_Run_doOther_161 rfl (j := 0) rfl ?_
    refine wm_iconst (v := 1) C d_Run_doOther_162 (by decide) ?_
    refine wm_callV (d2 := 0) (mc := 0) (ms := 0) C mo_Run_fail co_Run ml_Run_104 [.int 1] [] rfl (rp_run hR) rfl (by decide) (Nat.le_of_ble_eq_true rfl) (Nat.le_refl _) (Nat.le_refl _) d_Run_doOther_163 (cy_kv ?_)
    refine c_Run_fail hE hR  _ (fun M14 hR14 => ⟨rfl, ?_⟩)
    refine wm_vret C P d_Run_doOther_166 ?_
    have e : cy_Run_doOther s op n = (cy_Run_fail s 1) := by rw [cy_Run_doOther, if_neg e_1_19, if_neg e_1_20, if_neg e_1_21, if_neg e_1_22, if_neg e_1_23, if_neg e_1_24, if_neg e_1_25, if_neg e_1_26, if_neg e_1_27]
    rw [e] at h
    exact h _ hR14
def cy_Run_step (s : cy_S) : cy_S :=
  if s.2.2.1.2.2.2.2.2 < 2000 then
    if (cy_Yard_hasOperand ((cy_Frame_nextByte (cy_s_done s (s.2.2.1.2.2.2.2.2 + 1)) s.2.2.1.1).1)) = 0 then
      if 4 < ((cy_Frame_nextByte (cy_s_done s (s.2.2.1.2.2.2.2.2 + 1)) s.2.2.1.1).1) then
        if 12 < ((cy_Frame_nextByte (cy_s_done s (s.2.2.1.2.2.2.2.2 + 1)) s.2.2.1.1).1) then
          if 15 < ((cy_Frame_nextByte (cy_s_done s (s.2.2.1.2.2.2.2.2 + 1)) s.2.2.1.1).1) then
            if 18 < ((cy_Frame_nextByte (cy_s_done s (s.2.2.1.2.2.2.2.2 + 1)) s.2.2.1.1).1) then
              (cy_Run_doOther ((cy_Frame_nextByte (cy_s_done s (s.2.2.1.2.2.2.2.2 + 1)) s.2.2.1.1).2) ((cy_Frame_nextByte (cy_s_done s (s.2.2.1.2.2.2.2.2 + 1)) s.2.2.1.1).1) 0)
            else
              (cy_Run_jump ((cy_Frame_nextByte (cy_s_done s (s.2.2.1.2.2.2.2.2 + 1)) s.2.2.1.1).2) ((cy_Frame_nextByte (cy_s_done s (s.2.2.1.2.2.2.2.2 + 1)) s.2.2.1.1).1) 0)
          else
            (cy_Run_rearrange ((cy_Frame_nextByte (cy_s_done s (s.2.2.1.2.2.2.2.2 + 1)) s.2.2.1.1).2) ((cy_Frame_nextByte (cy_s_done s (s.2.2.1.2.2.2.2.2 + 1)) s.2.2.1.1).1))
        else
          (cy_Run_combine ((cy_Frame_nextByte (cy_s_done s (s.2.2.1.2.2.2.2.2 + 1)) s.2.2.1.1).2) ((cy_Frame_nextByte (cy_s_done s (s.2.2.1.2.2.2.2.2 + 1)) s.2.2.1.1).1))
      else
        (cy_Run_move ((cy_Frame_nextByte (cy_s_done s (s.2.2.1.2.2.2.2.2 + 1)) s.2.2.1.1).2) ((cy_Frame_nextByte (cy_s_done s (s.2.2.1.2.2.2.2.2 + 1)) s.2.2.1.1).1) 0)
    else
      if 4 < ((cy_Frame_nextByte (cy_s_done s (s.2.2.1.2.2.2.2.2 + 1)) s.2.2.1.1).1) then
        if 12 < ((cy_Frame_nextByte (cy_s_done s (s.2.2.1.2.2.2.2.2 + 1)) s.2.2.1.1).1) then
          if 15 < ((cy_Frame_nextByte (cy_s_done s (s.2.2.1.2.2.2.2.2 + 1)) s.2.2.1.1).1) then
            if 18 < ((cy_Frame_nextByte (cy_s_done s (s.2.2.1.2.2.2.2.2 + 1)) s.2.2.1.1).1) then
              (cy_Run_doOther ((cy_Frame_nextByte ((cy_Frame_nextByte (cy_s_done s (s.2.2.1.2.2.2.2.2 + 1)) s.2.2.1.1).2) (((cy_Frame_nextByte (cy_s_done s (s.2.2.1.2.2.2.2.2 + 1)) s.2.2.1.1).2).2.2.1.1)).2) ((cy_Frame_nextByte (cy_s_done s (s.2.2.1.2.2.2.2.2 + 1)) s.2.2.1.1).1) ((cy_Frame_nextByte ((cy_Frame_nextByte (cy_s_done s (s.2.2.1.2.2.2.2.2 + 1)) s.2.2.1.1).2) (((cy_Frame_nextByte (cy_s_done s (s.2.2.1.2.2.2.2.2 + 1)) s.2.2.1.1).2).2.2.1.1)).1))
            else
              (cy_Run_jump ((cy_Frame_nextByte ((cy_Frame_nextByte (cy_s_done s (s.2.2.1.2.2.2.2.2 + 1)) s.2.2.1.1).2) (((cy_Frame_nextByte (cy_s_done s (s.2.2.1.2.2.2.2.2 + 1)) s.2.2.1.1).2).2.2.1.1)).2) ((cy_Frame_nextByte (cy_s_done s (s.2.2.1.2.2.2.2.2 + 1)) s.2.2.1.1).1) ((cy_Frame_nextByte ((cy_Frame_nextByte (cy_s_done s (s.2.2.1.2.2.2.2.2 + 1)) s.2.2.1.1).2) (((cy_Frame_nextByte (cy_s_done s (s.2.2.1.2.2.2.2.2 + 1)) s.2.2.1.1).2).2.2.1.1)).1))
          else
            (cy_Run_rearrange ((cy_Frame_nextByte ((cy_Frame_nextByte (cy_s_done s (s.2.2.1.2.2.2.2.2 + 1)) s.2.2.1.1).2) (((cy_Frame_nextByte (cy_s_done s (s.2.2.1.2.2.2.2.2 + 1)) s.2.2.1.1).2).2.2.1.1)).2) ((cy_Frame_nextByte (cy_s_done s (s.2.2.1.2.2.2.2.2 + 1)) s.2.2.1.1).1))
        else
          (cy_Run_combine ((cy_Frame_nextByte ((cy_Frame_nextByte (cy_s_done s (s.2.2.1.2.2.2.2.2 + 1)) s.2.2.1.1).2) (((cy_Frame_nextByte (cy_s_done s (s.2.2.1.2.2.2.2.2 + 1)) s.2.2.1.1).2).2.2.1.1)).2) ((cy_Frame_nextByte (cy_s_done s (s.2.2.1.2.2.2.2.2 + 1)) s.2.2.1.1).1))
      else
        (cy_Run_move ((cy_Frame_nextByte ((cy_Frame_nextByte (cy_s_done s (s.2.2.1.2.2.2.2.2 + 1)) s.2.2.1.1).2) (((cy_Frame_nextByte (cy_s_done s (s.2.2.1.2.2.2.2.2 + 1)) s.2.2.1.1).2).2.2.1.1)).2) ((cy_Frame_nextByte (cy_s_done s (s.2.2.1.2.2.2.2.2 + 1)) s.2.2.1.1).1) ((cy_Frame_nextByte ((cy_Frame_nextByte (cy_s_done s (s.2.2.1.2.2.2.2.2 + 1)) s.2.2.1.1).2) (((cy_Frame_nextByte (cy_s_done s (s.2.2.1.2.2.2.2.2 + 1)) s.2.2.1.1).2).2.2.1.1)).1))
  else
    (cy_Run_fail s 6)
set_option maxHeartbeats 4000000 in
theorem c_Run_step {G : cy_G} {E : cy_E} {s : cy_S} {M : cy_Hp} {post : Option Value → cy_Hp → Prop} (hE : cy_Eo G E) (hR : cy_R E s M)   (h : ∀ M', cy_R E (cy_Run_step s) M' → post none M') : cy_Ct G 5 m_Run_step [.ref (E.2.2.1 136)] M 0 0 post := by
  refine cy_Ct.of (by decide) (Nat.le_of_ble_eq_true rfl) ?_
  intro F C P _
  have C : cy_C G F R_Run b_Run_step 3 5 0 0 := C
  have P : cy_P G F none post 0 0 := P
  show WM G F 3 0 0 0 [(0, .ref (E.2.2.1 136))] [] M
  refine wm_aload_n C d_Run_step_0 rfl (j := 0) rfl ?_
  refine wm_get C co_Run (rp_run hR) 9 (by decide) fl_Run_82 rfl d_Run_step_1 ?_
  refine wm_sipush (v := 2000) C d_Run_step_4 (by decide) ?_
  refine wm_icmp_lt (tgt := 17) C d_Run_step_7 (by decide) (fun (h_7 : s.2.2.1.2.2.2.2.2 < 2000) => ?_) (fun (h_7 : ¬ s.2.2.1.2.2.2.2.2 < 2000) => ?_)
  · refine wm_aload_n C d_Run_step_17 rfl (j := 0) rfl ?_
    refine wm_dup C d_Run_step_18 rfl ?_
    refine wm_get C co_Run (rp_run hR) 9 (by decide) fl_Run_82 rfl d_Run_step_19 ?_
    refine wm_iconst (v := 1) C d_Run_step_22 (by decide) ?_
    refine wm_iadd C d_Run_step_23 ?_
    refine wm_put C co_Run (rp_run hR) 9 (by decide) fl_Run_82 rfl rfl rfl (Nat.le_of_ble_eq_true rfl) d_Run_step_24 ?_
    refine wm_gen (rp_p_done hE hR (s.2.2.1.2.2.2.2.2 + 1)) (fun M1 hR1 => ?_)
    refine wm_aload_n C d_Run_step_27 rfl (j := 0) rfl ?_
    refine wm_get C co_Run (rp_run hR1) 4 (by decide) fl_Run_39 rfl d_Run_step_28 ?_
    refine wm_callVN (d2 := 1) (mc := 0) (ms := 0) C mo_Frame_nextByte co_Frame ml_Run_107 [] [] rfl (rp_frame hR1 (rp_work (s := s) hR)) rfl (by decide) (Nat.le_of_ble_eq_true rfl) (Nat.le_refl _) (Nat.le_refl _) d_Run_step_31 (cy_ki ?_)
    refine c_Frame_nextByte hE hR1 (rp_work (s := s) hR)  (fun M2 hR2 => ⟨_, rfl, ?_⟩)
    refine wm_istore_n (lv' := [(1, .int ((cy_Frame_nextByte (cy_s_done s (s.2.2.1.2.2.2.2.2 + 1)) s.2.2.1.1).1)), (0, .ref (E.2.2.1 136))]) C d_Run_step_34 rfl (by decide) rfl ?_
    refine wm_iload_n C d_Run_step_35 rfl (j := 0) rfl ?_
    refine wm_callSN (d2 := 2) (mc := 0) (ms := 0) C mo_Yard_hasOperand ml_Run_111 [.int ((cy_Frame_nextByte (cy_s_done s (s.2.2.1.2.2.2.2.2 + 1)) s.2.2.1.1).1)] [] rfl rfl (by decide) (Nat.le_of_ble_eq_true rfl) (Nat.le_refl _) (Nat.le_refl _) d_Run_step_36 (cy_ki ?_)
    refine c_Yard_hasOperand hE hR2  _ ⟨_, rfl, ?_⟩
    refine wm_if_eq (tgt := 52) C d_Run_step_39 (by decide) (fun (h_39 : (cy_Yard_hasOperand ((cy_Frame_nextByte (cy_s_done s (s.2.2.1.2.2.2.2.2 + 1)) s.2.2.1.1).1)) = 0) => ?_) (fun (h_39 : ¬ (cy_Yard_hasOperand ((cy_Frame_nextByte (cy_s_done s (s.2.2.1.2.2.2.2.2 + 1)) s.2.2.1.1).1)) = 0) => ?_)
    · refine wm_iconst (v := 0) C d_Run_step_52 (by decide) ?_
      refine wm_istore_n (lv' := [(2, .int 0), (1, .int ((cy_Frame_nextByte (cy_s_done s (s.2.2.1.2.2.2.2.2 + 1)) s.2.2.1.1).1)), (0, .ref (E.2.2.1 136))]) C d_Run_step_53 rfl (by decide) rfl ?_
      refine wm_iload_n C d_Run_step_54 rfl (j := 1) rfl ?_
      refine wm_iconst (v := 4) C d_Run_step_55 (by decide) ?_
      refine wm_icmp_gt (tgt := 68) C d_Run_step_56 (by decide) (fun (h_56 : 4 < ((cy_Frame_nextByte (cy_s_done s (s.2.2.1.2.2.2.2.2 + 1)) s.2.2.1.1).1)) => ?_) (fun (h_56 : ¬ 4 < ((cy_Frame_nextByte (cy_s_done s (s.2.2.1.2.2.2.2.2 + 1)) s.2.2.1.1).1)) => ?_)
      · refine wm_iload_n C d_Run_step_68 rfl (j := 1) rfl ?_
        refine wm_bipush (v := 12) C d_Run_step_69 (by decide) ?_
        refine wm_icmp_gt (tgt := 82) C d_Run_step_71 (by decide) (fun (h_71 : 12 < ((cy_Frame_nextByte (cy_s_done s (s.2.2.1.2.2.2.2.2 + 1)) s.2.2.1.1).1)) => ?_) (fun (h_71 : ¬ 12 < ((cy_Frame_nextByte (cy_s_done s (s.2.2.1.2.2.2.2.2 + 1)) s.2.2.1.1).1)) => ?_)
        · refine wm_iload_n C d_Run_step_82 rfl (j := 1) rfl ?_
          refine wm_bipush (v := 15) C d_Run_step_83 (by decide) ?_
          refine wm_icmp_gt (tgt := 96) C d_Run_step_85 (by decide) (fun (h_85 : 15 < ((cy_Frame_nextByte (cy_s_done s (s.2.2.1.2.2.2.2.2 + 1)) s.2.2.1.1).1)) => ?_) (fun (h_85 : ¬ 15 < ((cy_Frame_nextByte (cy_s_done s (s.2.2.1.2.2.2.2.2 + 1)) s.2.2.1.1).1)) => ?_)
          · refine wm_iload_n C d_Run_step_96 rfl (j := 1) rfl ?_
            refine wm_bipush (v := 18) C d_Run_step_97 (by decide) ?_
            refine wm_icmp_gt (tgt := 111) C d_Run_step_99 (by decide) (fun (h_99 : 18 < ((cy_Frame_nextByte (cy_s_done s (s.2.2.1.2.2.2.2.2 + 1)) s.2.2.1.1).1)) => ?_) (fun (h_99 : ¬ 18 < ((cy_Frame_nextByte (cy_s_done s (s.2.2.1.2.2.2.2.2 + 1)) s.2.2.1.1).1)) => ?_)
            · refine wm_aload_n C d_Run_step_111 rfl (j := 2) rfl ?_
              refine wm_iload_n C d_Run_step_112 rfl (j := 1) rfl ?_
              refine wm_iload_n C d_Run_step_113 rfl (j := 0) rfl ?_
              refine wm_callV (d2 := 4) (mc := 0) (ms := 0) C mo_Run_doOther co_Run ml_Run_128 [.int ((cy_Frame_nextByte (cy_s_done s (s.2.2.1.2.2.2.2.2 + 1)) s.2.2.1.1).1), .int 0] [] rfl (rp_run hR2) rfl (by decide) (Nat.le_of_ble_eq_true rfl) (Nat.le_refl _) (Nat.le_refl _) d_Run_step_114 (cy_kv ?_)
              refine c_Run_doOther hE hR2  _ _ (fun M3 hR3 => ⟨rfl, ?_⟩)
              refine wm_vret C P d_Run_step_117 ?_
              have e : cy_Run_step s = (cy_Run_doOther ((cy_Frame_nextByte (cy_s_done s (s.2.2.1.2.2.2.2.2 + 1)) s.2.2.1.1).2) ((cy_Frame_nextByte (cy_s_done s (s.2.2.1.2.2.2.2.2 + 1)) s.2.2.1.1).1) 0) := by rw [cy_Run_step, if_pos h_7, if_pos h_39, if_pos h_56, if_pos h_71, if_pos h_85, if_pos h_99]
              rw [e] at h
              exact h _ hR3
            · refine wm_aload_n C d_Run_step_102 rfl (j := 2) rfl ?_
              refine wm_iload_n C d_Run_step_103 rfl (j := 1) rfl ?_
              refine wm_iload_n C d_Run_step_104 rfl (j := 0) rfl ?_
              refine wm_callV (d2 := 1) (mc := 0) (ms := 0) C mo_Run_jump co_Run ml_Run_125 [.int ((cy_Frame_nextByte (cy_s_done s (s.2.2.1.2.2.2.2.2 + 1)) s.2.2.1.1).1), .int 0] [] rfl (rp_run hR2) rfl (by decide) (Nat.le_of_ble_eq_true rfl) (Nat.le_refl _) (Nat.le_refl _) d_Run_step_105 (cy_kv ?_)
              refine c_Run_jump hE hR2  _ _ (fun M4 hR4 => ⟨rfl, ?_⟩)
              refine wm_goto (tgt := 117) C d_Run_step_108 (by decide) ?_
              refine wm_vret C P d_Run_step_117 ?_
              have e : cy_Run_step s = (cy_Run_jump ((cy_Frame_nextByte (cy_s_done s (s.2.2.1.2.2.2.2.2 + 1)) s.2.2.1.1).2) ((cy_Frame_nextByte (cy_s_done s (s.2.2.1.2.2.2.2.2 + 1)) s.2.2.1.1).1) 0) := by rw [cy_Run_step, if_pos h_7, if_pos h_39, if_pos h_56, if_pos h_71, if_pos h_85, if_neg h_99]
              rw [e] at h
              exact h _ hR4
          · refine wm_aload_n C d_Run_step_88 rfl (j := 2) rfl ?_
            refine wm_iload_n C d_Run_step_89 rfl (j := 1) rfl ?_
            refine wm_callV (d2 := 1) (mc := 0) (ms := 0) C mo_Run_rearrange co_Run ml_Run_122 [.int ((cy_Frame_nextByte (cy_s_done s (s.2.2.1.2.2.2.2.2 + 1)) s.2.2.1.1).1)] [] rfl (rp_run hR2) rfl (by decide) (Nat.le_of_ble_eq_true rfl) (Nat.le_refl _) (Nat.le_refl _) d_Run_step_90 (cy_kv ?_)
            refine c_Run_rearrange hE hR2  _ (fun M5 hR5 => ⟨rfl, ?_⟩)
            refine wm_goto (tgt := 117) C d_Run_step_93 (by decide) ?_
            refine wm_vret C P d_Run_step_117 ?_
            have e : cy_Run_step s = (cy_Run_rearrange ((cy_Frame_nextByte (cy_s_done s (s.2.2.1.2.2.2.2.2 + 1)) s.2.2.1.1).2) ((cy_Frame_nextByte (cy_s_done s (s.2.2.1.2.2.2.2.2 + 1)) s.2.2.1.1).1)) := by rw [cy_Run_step, if_pos h_7, if_pos h_39, if_pos h_56, if_pos h_71, if_neg h_85]
            rw [e] at h
            exact h _ hR5
        · refine wm_aload_n C d_Run_step_74 rfl (j := 2) rfl ?_
          refine wm_iload_n C d_Run_step_75 rfl (j := 1) rfl ?_
          refine wm_callV (d2 := 1) (mc := 0) (ms := 0) C mo_Run_combine co_Run ml_Run_119 [.int ((cy_Frame_nextByte (cy_s_done s (s.2.2.1.2.2.2.2.2 + 1)) s.2.2.1.1).1)] [] rfl (rp_run hR2) rfl (by decide) (Nat.le_of_ble_eq_true rfl) (Nat.le_refl _) (Nat.le_refl _) d_Run_step_76 (cy_kv ?_)
          refine c_Run_combine hE hR2  _ (fun M6 hR6 => ⟨rfl, ?_⟩)
          refine wm_goto (tgt := 117) C d_Run_step_79 (by decide) ?_
          refine wm_vret C P d_Run_step_117 ?_
          have e : cy_Run_step s = (cy_Run_combine ((cy_Frame_nextByte (cy_s_done s (s.2.2.1.2.2.2.2.2 + 1)) s.2.2.1.1).2) ((cy_Frame_nextByte (cy_s_done s (s.2.2.1.2.2.2.2.2 + 1)) s.2.2.1.1).1)) := by rw [cy_Run_step, if_pos h_7, if_pos h_39, if_pos h_56, if_neg h_71]
          rw [e] at h
          exact h _ hR6
      · refine wm_aload_n C d_Run_step_59 rfl (j := 2) rfl ?_
        refine wm_iload_n C d_Run_step_60 rfl (j := 1) rfl ?_
        refine wm_iload_n C d_Run_step_61 rfl (j := 0) rfl ?_
        refine wm_callV (d2 := 1) (mc := 0) (ms := 0) C mo_Run_move co_Run ml_Run_115 [.int ((cy_Frame_nextByte (cy_s_done s (s.2.2.1.2.2.2.2.2 + 1)) s.2.2.1.1).1), .int 0] [] rfl (rp_run hR2) rfl (by decide) (Nat.le_of_ble_eq_true rfl) (Nat.le_refl _) (Nat.le_refl _) d_Run_step_62 (cy_kv ?_)
        refine c_Run_move hE hR2  _ _ (fun M7 hR7 => ⟨rfl, ?_⟩)
        refine wm_goto (tgt := 117) C d_Run_step_65 (by decide) ?_
        refine wm_vret C P d_Run_step_117 ?_
        have e : cy_Run_step s = (cy_Run_move ((cy_Frame_nextByte (cy_s_done s (s.2.2.1.2.2.2.2.2 + 1)) s.2.2.1.1).2) ((cy_Frame_nextByte (cy_s_done s (s.2.2.1.2.2.2.2.2 + 1)) s.2.2.1.1).1) 0) := by rw [cy_Run_step, if_pos h_7, if_pos h_39, if_neg h_56]
        rw [e] at h
        exact h _ hR7
    · refine wm_aload_n C d_Run_step_42 rfl (j := 1) rfl ?_
      refine wm_get C co_Run (rp_run hR2) 4 (by decide) fl_Run_39 rfl d_Run_step_43 ?_
      refine wm_callVN (d2 := 1) (mc := 0) (ms := 0) C mo_Frame_nextByte co_Frame ml_Run_107 [] [] rfl (rp_frame hR2 (rp_work (s := (cy_Frame_nextByte (cy_s_done s (s.2.2.1.2.2.2.2.2 + 1)) s.2.2.1.1).2) hR2)) rfl (by decide) (Nat.le_of_ble_eq_true rfl) (Nat.le_refl _) (Nat.le_refl _) d_Run_step_46 (cy_ki ?_)
      refine c_Frame_nextByte hE hR2 (rp_work (s := (cy_Frame_nextByte (cy_s_done s (s.2.2.1.2.2.2.2.2 + 1)) s.2.2.1.1).2) hR2)  (fun M8 hR8 => ⟨_, rfl, ?_⟩)
      refine wm_goto (tgt := 53) C d_Run_step_49 (by decide) ?_
      refine wm_istore_n (lv' := [(2, .int ((cy_Frame_nextByte ((cy_Frame_nextByte (cy_s_done s (s.2.2.1.2.2.2.2.2 + 1)) s.2.2.1.1).2) (((cy_Frame_nextByte (cy_s_done s (s.2.2.1.2.2.2.2.2 + 1)) s.2.2.1.1).2).2.2.1.1)).1)), (1, .int ((cy_Frame_nextByte (cy_s_done s (s.2.2.1.2.2.2.2.2 + 1)) s.2.2.1.1).1)), (0, .ref (E.2.2.1 136))]) C d_Run_step_53 rfl (by decide) rfl ?_
      refine wm_iload_n C d_Run_step_54 rfl (j := 1) rfl ?_
      refine wm_iconst (v := 4) C d_Run_step_55 (by decide) ?_
      refine wm_icmp_gt (tgt := 68) C d_Run_step_56 (by decide) (fun (h_56_7 : 4 < ((cy_Frame_nextByte (cy_s_done s (s.2.2.1.2.2.2.2.2 + 1)) s.2.2.1.1).1)) => ?_) (fun (h_56_7 : ¬ 4 < ((cy_Frame_nextByte (cy_s_done s (s.2.2.1.2.2.2.2.2 + 1)) s.2.2.1.1).1)) => ?_)
      · refine wm_iload_n C d_Run_step_68 rfl (j := 1) rfl ?_
        refine wm_bipush (v := 12) C d_Run_step_69 (by decide) ?_
        refine wm_icmp_gt (tgt := 82) C d_Run_step_71 (by decide) (fun (h_71_8 : 12 < ((cy_Frame_nextByte (cy_s_done s (s.2.2.1.2.2.2.2.2 + 1)) s.2.2.1.1).1)) => ?_) (fun (h_71_8 : ¬ 12 < ((cy_Frame_nextByte (cy_s_done s (s.2.2.1.2.2.2.2.2 + 1)) s.2.2.1.1).1)) => ?_)
        · refine wm_iload_n C d_Run_step_82 rfl (j := 1) rfl ?_
          refine wm_bipush (v := 15) C d_Run_step_83 (by decide) ?_
          refine wm_icmp_gt (tgt := 96) C d_Run_step_85 (by decide) (fun (h_85_9 : 15 < ((cy_Frame_nextByte (cy_s_done s (s.2.2.1.2.2.2.2.2 + 1)) s.2.2.1.1).1)) => ?_) (fun (h_85_9 : ¬ 15 < ((cy_Frame_nextByte (cy_s_done s (s.2.2.1.2.2.2.2.2 + 1)) s.2.2.1.1).1)) => ?_)
          · refine wm_iload_n C d_Run_step_96 rfl (j := 1) rfl ?_
            refine wm_bipush (v := 18) C d_Run_step_97 (by decide) ?_
            refine wm_icmp_gt (tgt := 111) C d_Run_step_99 (by decide) (fun (h_99_10 : 18 < ((cy_Frame_nextByte (cy_s_done s (s.2.2.1.2.2.2.2.2 + 1)) s.2.2.1.1).1)) => ?_) (fun (h_99_10 : ¬ 18 < ((cy_Frame_nextByte (cy_s_done s (s.2.2.1.2.2.2.2.2 + 1)) s.2.2.1.1).1)) => ?_)
            · refine wm_aload_n C d_Run_step_111 rfl (j := 2) rfl ?_
              refine wm_iload_n C d_Run_step_112 rfl (j := 1) rfl ?_
              refine wm_iload_n C d_Run_step_113 rfl (j := 0) rfl ?_
              refine wm_callV (d2 := 4) (mc := 0) (ms := 0) C mo_Run_doOther co_Run ml_Run_128 [.int ((cy_Frame_nextByte (cy_s_done s (s.2.2.1.2.2.2.2.2 + 1)) s.2.2.1.1).1), .int ((cy_Frame_nextByte ((cy_Frame_nextByte (cy_s_done s (s.2.2.1.2.2.2.2.2 + 1)) s.2.2.1.1).2) (((cy_Frame_nextByte (cy_s_done s (s.2.2.1.2.2.2.2.2 + 1)) s.2.2.1.1).2).2.2.1.1)).1)] [] rfl (rp_run hR8) rfl (by decide) (Nat.le_of_ble_eq_true rfl) (Nat.le_refl _) (Nat.le_refl _) d_Run_step_114 (cy_kv ?_)
              refine c_Run_doOther hE hR8  _ _ (fun M9 hR9 => ⟨rfl, ?_⟩)
              refine wm_vret C P d_Run_step_117 ?_
              have e : cy_Run_step s = (cy_Run_doOther ((cy_Frame_nextByte ((cy_Frame_nextByte (cy_s_done s (s.2.2.1.2.2.2.2.2 + 1)) s.2.2.1.1).2) (((cy_Frame_nextByte (cy_s_done s (s.2.2.1.2.2.2.2.2 + 1)) s.2.2.1.1).2).2.2.1.1)).2) ((cy_Frame_nextByte (cy_s_done s (s.2.2.1.2.2.2.2.2 + 1)) s.2.2.1.1).1) ((cy_Frame_nextByte ((cy_Frame_nextByte (cy_s_done s (s.2.2.1.2.2.2.2.2 + 1)) s.2.2.1.1).2) (((cy_Frame_nextByte (cy_s_done s (s.2.2.1.2.2.2.2.2 + 1)) s.2.2.1.1).2).2.2.1.1)).1)) := by rw [cy_Run_step, if_pos h_7, if_neg h_39, if_pos h_56_7, if_pos h_71_8, if_pos h_85_9, if_pos h_99_10]
              rw [e] at h
              exact h _ hR9
            · refine wm_aload_n C d_Run_step_102 rfl (j := 2) rfl ?_
              refine wm_iload_n C d_Run_step_103 rfl (j := 1) rfl ?_
              refine wm_iload_n C d_Run_step_104 rfl (j := 0) rfl ?_
              refine wm_callV (d2 := 1) (mc := 0) (ms := 0) C mo_Run_jump co_Run ml_Run_125 [.int ((cy_Frame_nextByte (cy_s_done s (s.2.2.1.2.2.2.2.2 + 1)) s.2.2.1.1).1), .int ((cy_Frame_nextByte ((cy_Frame_nextByte (cy_s_done s (s.2.2.1.2.2.2.2.2 + 1)) s.2.2.1.1).2) (((cy_Frame_nextByte (cy_s_done s (s.2.2.1.2.2.2.2.2 + 1)) s.2.2.1.1).2).2.2.1.1)).1)] [] rfl (rp_run hR8) rfl (by decide) (Nat.le_of_ble_eq_true rfl) (Nat.le_refl _) (Nat.le_refl _) d_Run_step_105 (cy_kv ?_)
              refine c_Run_jump hE hR8  _ _ (fun M10 hR10 => ⟨rfl, ?_⟩)
              refine wm_goto (tgt := 117) C d_Run_step_108 (by decide) ?_
              refine wm_vret C P d_Run_step_117 ?_
              have e : cy_Run_step s = (cy_Run_jump ((cy_Frame_nextByte ((cy_Frame_nextByte (cy_s_done s (s.2.2.1.2.2.2.2.2 + 1)) s.2.2.1.1).2) (((cy_Frame_nextByte (cy_s_done s (s.2.2.1.2.2.2.2.2 + 1)) s.2.2.1.1).2).2.2.1.1)).2) ((cy_Frame_nextByte (cy_s_done s (s.2.2.1.2.2.2.2.2 + 1)) s.2.2.1.1).1) ((cy_Frame_nextByte ((cy_Frame_nextByte (cy_s_done s (s.2.2.1.2.2.2.2.2 + 1)) s.2.2.1.1).2) (((cy_Frame_nextByte (cy_s_done s (s.2.2.1.2.2.2.2.2 + 1)) s.2.2.1.1).2).2.2.1.1)).1)) := by rw [cy_Run_step, if_pos h_7, if_neg h_39, if_pos h_56_7, if_pos h_71_8, if_pos h_85_9, if_neg h_99_10]
              rw [e] at h
              exact h _ hR10
          · refine wm_aload_n C d_Run_step_88 rfl (j := 2) rfl ?_
            refine wm_iload_n C d_Run_step_89 rfl (j := 1) rfl ?_
            refine wm_callV (d2 := 1) (mc := 0) (ms := 0) C mo_Run_rearrange co_Run ml_Run_122 [.int ((cy_Frame_nextByte (cy_s_done s (s.2.2.1.2.2.2.2.2 + 1)) s.2.2.1.1).1)] [] rfl (rp_run hR8) rfl (by decide) (Nat.le_of_ble_eq_true rfl) (Nat.le_refl _) (Nat.le_refl _) d_Run_step_90 (cy_kv ?_)
            refine c_Run_rearrange hE hR8  _ (fun M11 hR11 => ⟨rfl, ?_⟩)
            refine wm_goto (tgt := 117) C d_Run_step_93 (by decide) ?_
            refine wm_vret C P d_Run_step_117 ?_
            have e : cy_Run_step s = (cy_Run_rearrange ((cy_Frame_nextByte ((cy_Frame_nextByte (cy_s_done s (s.2.2.1.2.2.2.2.2 + 1)) s.2.2.1.1).2) (((cy_Frame_nextByte (cy_s_done s (s.2.2.1.2.2.2.2.2 + 1)) s.2.2.1.1).2).2.2.1.1)).2) ((cy_Frame_nextByte (cy_s_done s (s.2.2.1.2.2.2.2.2 + 1)) s.2.2.1.1).1)) := by rw [cy_Run_step, if_pos h_7, if_neg h_39, if_pos h_56_7, if_pos h_71_8, if_neg h_85_9]
            rw [e] at h
            exact h _ hR11
        · refine wm_aload_n C d_Run_step_74 rfl (j := 2) rfl ?_
          refine wm_iload_n C d_Run_step_75 rfl (j := 1) rfl ?_
          refine wm_callV (d2 := 1) (mc := 0) (ms := 0) C mo_Run_combine co_Run ml_Run_119 [.int ((cy_Frame_nextByte (cy_s_done s (s.2.2.1.2.2.2.2.2 + 1)) s.2.2.1.1).1)] [] rfl (rp_run hR8) rfl (by decide) (Nat.le_of_ble_eq_true rfl) (Nat.le_refl _) (Nat.le_refl _) d_Run_step_76 (cy_kv ?_)
          refine c_Run_combine hE hR8  _ (fun M12 hR12 => ⟨rfl, ?_⟩)
          refine wm_goto (tgt := 117) C d_Run_step_79 (by decide) ?_
          refine wm_vret C P d_Run_step_117 ?_
          have e : cy_Run_step s = (cy_Run_combine ((cy_Frame_nextByte ((cy_Frame_nextByte (cy_s_done s (s.2.2.1.2.2.2.2.2 + 1)) s.2.2.1.1).2) (((cy_Frame_nextByte (cy_s_done s (s.2.2.1.2.2.2.2.2 + 1)) s.2.2.1.1).2).2.2.1.1)).2) ((cy_Frame_nextByte (cy_s_done s (s.2.2.1.2.2.2.2.2 + 1)) s.2.2.1.1).1)) := by rw [cy_Run_step, if_pos h_7, if_neg h_39, if_pos h_56_7, if_neg h_71_8]
          rw [e] at h
          exact h _ hR12
      · refine wm_aload_n C d_Run_step_59 rfl (j := 2) rfl ?_
        refine wm_iload_n C d_Run_step_60 rfl (j := 1) rfl ?_
        refine wm_iload_n C d_Run_step_61 rfl (j := 0) rfl ?_
        refine wm_callV (d2 := 1) (mc := 0) (ms := 0) C mo_Run_move co_Run ml_Run_115 [.int ((cy_Frame_nextByte (cy_s_done s (s.2.2.1.2.2.2.2.2 + 1)) s.2.2.1.1).1), .int ((cy_Frame_nextByte ((cy_Frame_nextByte (cy_s_done s (s.2.2.1.2.2.2.2.2 + 1)) s.2.2.1.1).2) (((cy_Frame_nextByte (cy_s_done s (s.2.2.1.2.2.2.2.2 + 1)) s.2.2.1.1).2).2.2.1.1)).1)] [] rfl (rp_run hR8) rfl (by decide) (Nat.le_of_ble_eq_true rfl) (Nat.le_refl _) (Nat.le_refl _) d_Run_step_62 (cy_kv ?_)
        refine c_Run_move hE hR8  _ _ (fun M13 hR13 => ⟨rfl, ?_⟩)
        refine wm_goto (tgt := 117) C d_Run_step_65 (by decide) ?_
        refine wm_vret C P d_Run_step_117 ?_
        have e : cy_Run_step s = (cy_Run_move ((cy_Frame_nextByte ((cy_Frame_nextByte (cy_s_done s (s.2.2.1.2.2.2.2.2 + 1)) s.2.2.1.1).2) (((cy_Frame_nextByte (cy_s_done s (s.2.2.1.2.2.2.2.2 + 1)) s.2.2.1.1).2).2.2.1.1)).2) ((cy_Frame_nextByte (cy_s_done s (s.2.2.1.2.2.2.2.2 + 1)) s.2.2.1.1).1) ((cy_Frame_nextByte ((cy_Frame_nextByte (cy_s_done s (s.2.2.1.2.2.2.2.2 + 1)) s.2.2.1.1).2) (((cy_Frame_nextByte (cy_s_done s (s.2.2.1.2.2.2.2.2 + 1)) s.2.2.1.1).2).2.2.1.1)).1)) := by rw [cy_Run_step, if_pos h_7, if_neg h_39, if_neg h_56_7]
        rw [e] at h
        exact h _ hR13
  · refine wm_aload_n C d_Run_step_10 rfl (j := 0) rfl ?_
    refine wm_bipush (v := 6) C d_Run_step_11 (by decide) ?_
    refine wm_callV (d2 := 0) (mc := 0) (ms := 0) C mo_Run_fail co_Run ml_Run_104 [.int 6] [] rfl (rp_run hR) rfl (by decide) (Nat.le_of_ble_eq_true rfl) (Nat.le_refl _) (Nat.le_refl _) d_Run_step_13 (cy_kv ?_)
    refine c_Run_fail hE hR  _ (fun M14 hR14 => ⟨rfl, ?_⟩)
    refine wm_vret C P d_Run_step_16 ?_
    have e : cy_Run_step s = (cy_Run_fail s 6) := by rw [cy_Run_step, if_neg h_7]
    rw [e] at h
    exact h _ hR14
def cy_Run_tell (s : cy_S) (what : Int32) : Int32 :=
  if s.2.2.1.2.1 = 0 then
    (-1)
  else
    if what = 0 then
      s.2.2.1.2.2.1
    else
      if what = 1 then
        s.2.2.1.2.2.2.1
      else
        if what = 2 then
          s.2.2.1.2.2.2.2.1
        else
          if what = 3 then
            s.2.2.1.2.2.2.2.2
          else
            if what = 4 then
              if s.2.2.1.2.2.1 = 1 then
                nI (s.2.2.1.1 + 1)
              else
                0
            else
              if what = 5 then
                if s.2.2.1.2.2.1 = 1 then
                  cy_num ((s.2.1 s.2.2.1.1).1)
                else
                  (-1)
              else
                if what = 6 then
                  if s.2.2.1.2.2.1 = 1 then
                    (s.2.1 s.2.2.1.1).2
                  else
                    (-1)
                else
                  if what = 7 then
                    nI (s.1 5).length
                  else
                    (-1)
set_option maxHeartbeats 4000000 in
theorem c_Run_tell {G : cy_G} {E : cy_E} {s : cy_S} {M : cy_Hp} {post : Option Value → cy_Hp → Prop} (hE : cy_Eo G E) (hR : cy_R E s M)  (what : Int32) (h : post (some (.int (cy_Run_tell s what))) M) : cy_Ct G 0 m_Run_tell [.ref (E.2.2.1 136), .int what] M 0 0 post := by
  refine cy_Ct.of (by decide) (Nat.le_of_ble_eq_true rfl) ?_
  intro F C P _
  have C : cy_C G F R_Run b_Run_tell 2 0 0 0 := C
  have P : cy_P G F (some .int) post 0 0 := P
  show WM G F 2 0 0 0 [(0, .ref (E.2.2.1 136)), (1, .int what)] [] M
  refine wm_aload_n C d_Run_tell_0 rfl (j := 0) rfl ?_
  refine wm_get C co_Run (rp_run hR) 5 (by decide) fl_Run_45 rfl d_Run_tell_1 ?_
  refine wm_if_ne (tgt := 9) C d_Run_tell_4 (by decide) (fun (h_4 : ¬ s.2.2.1.2.1 = 0) => ?_) (fun (h_4 : s.2.2.1.2.1 = 0) => ?_)
  · refine wm_iload_n C d_Run_tell_9 rfl (j := 1) rfl ?_
    by_cases e_10_0 : what = 0
    · refine wm_tableIn (tgt := 56) C d_Run_tell_10 (by rw [e_10_0]; decide) (by rw [e_10_0]; decide) (by rw [e_10_0]; rfl) (by decide) ?_
      refine wm_aload_n C d_Run_tell_56 rfl (j := 0) rfl ?_
      refine wm_get C co_Run (rp_run hR) 6 (by decide) fl_Run_49 rfl d_Run_tell_57 ?_
      refine wm_iret C P d_Run_tell_60 ?_
      have e : cy_Run_tell s what = s.2.2.1.2.2.1 := by rw [cy_Run_tell, if_neg h_4, if_pos e_10_0]
      rw [e] at h
      exact h
    by_cases e_10_1 : what = 1
    · refine wm_tableIn (tgt := 61) C d_Run_tell_10 (by rw [e_10_1]; decide) (by rw [e_10_1]; decide) (by rw [e_10_1]; rfl) (by decide) ?_
      refine wm_aload_n C d_Run_tell_61 rfl (j := 0) rfl ?_
      refine wm_get C co_Run (rp_run hR) 7 (by decide) fl_Run_76 rfl d_Run_tell_62 ?_
      refine wm_iret C P d_Run_tell_65 ?_
      have e : cy_Run_tell s what = s.2.2.1.2.2.2.1 := by rw [cy_Run_tell, if_neg h_4, if_neg e_10_0, if_pos e_10_1]
      rw [e] at h
      exact h
    by_cases e_10_2 : what = 2
    · refine wm_tableIn (tgt := 66) C d_Run_tell_10 (by rw [e_10_2]; decide) (by rw [e_10_2]; decide) (by rw [e_10_2]; rfl) (by decide) ?_
      refine wm_aload_n C d_Run_tell_66 rfl (j := 0) rfl ?_
      refine wm_get C co_Run (rp_run hR) 8 (by decide) fl_Run_79 rfl d_Run_tell_67 ?_
      refine wm_iret C P d_Run_tell_70 ?_
      have e : cy_Run_tell s what = s.2.2.1.2.2.2.2.1 := by rw [cy_Run_tell, if_neg h_4, if_neg e_10_0, if_neg e_10_1, if_pos e_10_2]
      rw [e] at h
      exact h
    by_cases e_10_3 : what = 3
    · refine wm_tableIn (tgt := 71) C d_Run_tell_10 (by rw [e_10_3]; decide) (by rw [e_10_3]; decide) (by rw [e_10_3]; rfl) (by decide) ?_
      refine wm_aload_n C d_Run_tell_71 rfl (j := 0) rfl ?_
      refine wm_get C co_Run (rp_run hR) 9 (by decide) fl_Run_82 rfl d_Run_tell_72 ?_
      refine wm_iret C P d_Run_tell_75 ?_
      have e : cy_Run_tell s what = s.2.2.1.2.2.2.2.2 := by rw [cy_Run_tell, if_neg h_4, if_neg e_10_0, if_neg e_10_1, if_neg e_10_2, if_pos e_10_3]
      rw [e] at h
      exact h
    by_cases e_10_4 : what = 4
    · refine wm_tableIn (tgt := 76) C d_Run_tell_10 (by rw [e_10_4]; decide) (by rw [e_10_4]; decide) (by rw [e_10_4]; rfl) (by decide) ?_
      refine wm_aload_n C d_Run_tell_76 rfl (j := 0) rfl ?_
      refine wm_get C co_Run (rp_run hR) 6 (by decide) fl_Run_49 rfl d_Run_tell_77 ?_
      refine wm_iconst (v := 1) C d_Run_tell_80 (by decide) ?_
      refine wm_icmp_ne (tgt := 94) C d_Run_tell_81 (by decide) (fun (h_81 : ¬ s.2.2.1.2.2.1 = 1) => ?_) (fun (h_81 : s.2.2.1.2.2.1 = 1) => ?_)
      · refine wm_iconst (v := 0) C d_Run_tell_94 (by decide) ?_
        refine wm_iret C P d_Run_tell_95 ?_
        have e : cy_Run_tell s what = 0 := by rw [cy_Run_tell, if_neg h_4, if_neg e_10_0, if_neg e_10_1, if_neg e_10_2, if_neg e_10_3, if_pos e_10_4, if_neg h_81]
        rw [e] at h
        exact h
      · refine wm_aload_n C d_Run_tell_84 rfl (j := 0) rfl ?_
        refine wm_get C co_Run (rp_run hR) 4 (by decide) fl_Run_39 rfl d_Run_tell_85 ?_
        refine wm_getN C co_Frame (rp_frame hR (rp_work (s := s) hR)) 0 (by decide) fl_Run_88 rfl d_Run_tell_88 ?_
        refine wm_goto (tgt := 95) C d_Run_tell_91 (by decide) ?_
        refine wm_iret C P d_Run_tell_95 ?_
        have e : cy_Run_tell s what = nI (s.2.2.1.1 + 1) := by rw [cy_Run_tell, if_neg h_4, if_neg e_10_0, if_neg e_10_1, if_neg e_10_2, if_neg e_10_3, if_pos e_10_4, if_pos h_81]
        rw [e] at h
        exact h
    by_cases e_10_5 : what = 5
    · refine wm_tableIn (tgt := 96) C d_Run_tell_10 (by rw [e_10_5]; decide) (by rw [e_10_5]; decide) (by rw [e_10_5]; rfl) (by decide) ?_
      refine wm_aload_n C d_Run_tell_96 rfl (j := 0) rfl ?_
      refine wm_get C co_Run (rp_run hR) 6 (by decide) fl_Run_49 rfl d_Run_tell_97 ?_
      refine wm_iconst (v := 1) C d_Run_tell_100 (by decide) ?_
      refine wm_icmp_ne (tgt := 117) C d_Run_tell_101 (by decide) (fun (h_101 : ¬ s.2.2.1.2.2.1 = 1) => ?_) (fun (h_101 : s.2.2.1.2.2.1 = 1) => ?_)
      · refine wm_iconst (v := -1) C d_Run_tell_117 (by decide) ?_
        refine wm_iret C P d_Run_tell_118 ?_
        have e : cy_Run_tell s what = (-1) := by rw [cy_Run_tell, if_neg h_4, if_neg e_10_0, if_neg e_10_1, if_neg e_10_2, if_neg e_10_3, if_neg e_10_4, if_pos e_10_5, if_neg h_101]
        rw [e] at h
        exact h
      · refine wm_aload_n C d_Run_tell_104 rfl (j := 0) rfl ?_
        refine wm_get C co_Run (rp_run hR) 4 (by decide) fl_Run_39 rfl d_Run_tell_105 ?_
        refine wm_getN C co_Frame (rp_frame hR (rp_work (s := s) hR)) 5 (by decide) fl_Run_91 rfl d_Run_tell_108 ?_
        refine wm_getN C co_Code (rp_code hR (rp_fc (s := s) hR (rp_work (s := s) hR))) 0 (by decide) fl_Run_95 rfl d_Run_tell_111 ?_
        refine wm_goto (tgt := 118) C d_Run_tell_114 (by decide) ?_
        refine wm_iret C P d_Run_tell_118 ?_
        have e : cy_Run_tell s what = cy_num ((s.2.1 s.2.2.1.1).1) := by rw [cy_Run_tell, if_neg h_4, if_neg e_10_0, if_neg e_10_1, if_neg e_10_2, if_neg e_10_3, if_neg e_10_4, if_pos e_10_5, if_pos h_101]
        rw [e] at h
        exact h
    by_cases e_10_6 : what = 6
    · refine wm_tableIn (tgt := 119) C d_Run_tell_10 (by rw [e_10_6]; decide) (by rw [e_10_6]; decide) (by rw [e_10_6]; rfl) (by decide) ?_
      refine wm_aload_n C d_Run_tell_119 rfl (j := 0) rfl ?_
      refine wm_get C co_Run (rp_run hR) 6 (by decide) fl_Run_49 rfl d_Run_tell_120 ?_
      refine wm_iconst (v := 1) C d_Run_tell_123 (by decide) ?_
      refine wm_icmp_ne (tgt := 137) C d_Run_tell_124 (by decide) (fun (h_124 : ¬ s.2.2.1.2.2.1 = 1) => ?_) (fun (h_124 : s.2.2.1.2.2.1 = 1) => ?_)
      · refine wm_iconst (v := -1) C d_Run_tell_137 (by decide) ?_
        refine wm_iret C P d_Run_tell_138 ?_
        have e : cy_Run_tell s what = (-1) := by rw [cy_Run_tell, if_neg h_4, if_neg e_10_0, if_neg e_10_1, if_neg e_10_2, if_neg e_10_3, if_neg e_10_4, if_neg e_10_5, if_pos e_10_6, if_neg h_124]
        rw [e] at h
        exact h
      · refine wm_aload_n C d_Run_tell_127 rfl (j := 0) rfl ?_
        refine wm_get C co_Run (rp_run hR) 4 (by decide) fl_Run_39 rfl d_Run_tell_128 ?_
        refine wm_getN C co_Frame (rp_frame hR (rp_work (s := s) hR)) 6 (by decide) fl_Run_98 rfl d_Run_tell_131 ?_
        refine wm_goto (tgt := 138) C d_Run_tell_134 (by decide) ?_
        refine wm_iret C P d_Run_tell_138 ?_
        have e : cy_Run_tell s what = (s.2.1 s.2.2.1.1).2 := by rw [cy_Run_tell, if_neg h_4, if_neg e_10_0, if_neg e_10_1, if_neg e_10_2, if_neg e_10_3, if_neg e_10_4, if_neg e_10_5, if_pos e_10_6, if_pos h_124]
        rw [e] at h
        exact h
    by_cases e_10_7 : what = 7
    · refine wm_tableIn (tgt := 139) C d_Run_tell_10 (by rw [e_10_7]; decide) (by rw [e_10_7]; decide) (by rw [e_10_7]; rfl) (by decide) ?_
      refine wm_aload_n C d_Run_tell_139 rfl (j := 0) rfl ?_
      refine wm_get C co_Run (rp_run hR) 3 (by decide) fl_Run_24 rfl d_Run_tell_140 ?_
      refine wm_getN C co_Row (rp_row hR (by decide)) 1 (by decide) fl_Run_101 rfl d_Run_tell_143 ?_
      refine wm_iret C P d_Run_tell_146 ?_
      have e : cy_Run_tell s what = nI (s.1 5).length := by rw [cy_Run_tell, if_neg h_4, if_neg e_10_0, if_neg e_10_1, if_neg e_10_2, if_neg e_10_3, if_neg e_10_4, if_neg e_10_5, if_neg e_10_6, if_pos e_10_7]
      rw [e] at h
      exact h
    · refine wm_tableOut (tgt := 147) C d_Run_tell_10 (by have n0 := lv_neT e_10_0 (a := 0) (by decide); have n1 := lv_neT e_10_1 (a := 1) (by decide); have n2 := lv_neT e_10_2 (a := 2) (by decide); have n3 := lv_neT e_10_3 (a := 3) (by decide); have n4 := lv_neT e_10_4 (a := 4) (by decide); have n5 := lv_neT e_10_5 (a := 5) (by decide); have n6 := lv_neT e_10_6 (a := 6) (by decide); have n7 := lv_neT e_10_7 (a := 7) (by decide); omega) (by decide) ?_
      refine wm_iconst (v := -1) C d_Run_tell_147 (by decide) ?_
      refine wm_iret C P d_Run_tell_148 ?_
      have e : cy_Run_tell s what = (-1) := by rw [cy_Run_tell, if_neg h_4, if_neg e_10_0, if_neg e_10_1, if_neg e_10_2, if_neg e_10_3, if_neg e_10_4, if_neg e_10_5, if_neg e_10_6, if_neg e_10_7]
      rw [e] at h
      exact h
  · refine wm_iconst (v := -1) C d_Run_tell_7 (by decide) ?_
    refine wm_iret C P d_Run_tell_8 ?_
    have e : cy_Run_tell s what = (-1) := by rw [cy_Run_tell, if_pos h_4]
    rw [e] at h
    exact h
def cy_Shelf_keepCells (s : cy_S) : cy_S :=
  (cy_rlike (cy_rlike (cy_rlike (cy_rlike (cy_rlike (cy_rlike (cy_rlike (cy_rlike s (9 + 4 * 0) (8 + 4 * 0)) (9 + 4 * 1) (8 + 4 * 1)) (9 + 4 * 2) (8 + 4 * 2)) (9 + 4 * 3) (8 + 4 * 3)) (9 + 4 * 4) (8 + 4 * 4)) (9 + 4 * 5) (8 + 4 * 5)) (9 + 4 * 6) (8 + 4 * 6)) (9 + 4 * 7) (8 + 4 * 7))
set_option maxHeartbeats 4000000 in
theorem c_Shelf_keepCells {G : cy_G} {E : cy_E} {s : cy_S} {M : cy_Hp} {post : Option Value → cy_Hp → Prop} (hE : cy_Eo G E) (hR : cy_R E s M)   (h : ∀ M', cy_R E (cy_Shelf_keepCells s) M' → post none M') : cy_Ct G 2 m_Shelf_keepCells [.ref (E.2.2.1 134)] M 0 0 post := by
  refine cy_Ct.of (by decide) (Nat.le_of_ble_eq_true rfl) ?_
  intro F C P _
  have C : cy_C G F R_Shelf b_Shelf_keepCells 3 2 0 0 := C
  have P : cy_P G F none post 0 0 := P
  show WM G F 3 0 0 0 [(0, .ref (E.2.2.1 134))] [] M
  refine wm_iconst (v := 0) C d_Shelf_keepCells_0 (by decide) ?_
  refine wm_istore_n (lv' := [(1, .int 0), (0, .ref (E.2.2.1 134))]) C d_Shelf_keepCells_1 rfl (by decide) rfl ?_
  refine wm_iload_n C d_Shelf_keepCells_2 rfl (j := 0) rfl ?_
  refine wm_bipush (v := 8) C d_Shelf_keepCells_3 (by decide) ?_
  refine wm_icmp_ge (tgt := 35) C d_Shelf_keepCells_5 (by decide) (fun (h_5 : 8 ≤ 0) => ?_) (fun (h_5 : ¬ 8 ≤ 0) => ?_)
  · exact absurd h_5 (by decide)
  · refine wm_aload_n C d_Shelf_keepCells_8 rfl (j := 1) rfl ?_
    refine wm_iload_n C d_Shelf_keepCells_9 rfl (j := 0) rfl ?_
    refine wm_callV (d2 := 0) (mc := 0) (ms := 0) C mo_Shelf_slot co_Shelf ml_Shelf_20 [.int 0] [] rfl (rp_shelf hR) rfl (by decide) (Nat.le_of_ble_eq_true rfl) (Nat.le_refl _) (Nat.le_refl _) d_Shelf_keepCells_10 (cy_ki ?_)
    refine c_slot_in hE hR (k := 0) (by decide) ⟨_, rfl, ?_⟩
    refine wm_astore_n (lv' := [(2, .ref (E.2.2.1 (116 + 0))), (1, .int 0), (0, .ref (E.2.2.1 134))]) C d_Shelf_keepCells_13 rfl (by decide) rfl ?_
    refine wm_aload_n C d_Shelf_keepCells_14 rfl (j := 0) rfl ?_
    refine wm_ifnull C d_Shelf_keepCells_15 ?_
    refine wm_aload_n C d_Shelf_keepCells_18 rfl (j := 0) rfl ?_
    refine wm_getN C co_Code (rp_code hR (show 0 < 9 by decide)) 4 (by decide) fl_Shelf_28 rfl d_Shelf_keepCells_19 ?_
    refine wm_aload_n C d_Shelf_keepCells_22 rfl (j := 0) rfl ?_
    refine wm_getN C co_Code (rp_code hR (show 0 < 9 by decide)) 3 (by decide) fl_Shelf_32 rfl d_Shelf_keepCells_23 ?_
    refine wm_callVN (d2 := 1) (mc := 0) (ms := 0) C mo_Row_becomeLike co_Row ml_Shelf_35 [.ref (E.2.2.1 (2 * (8 + 4 * 0)))] [] rfl (rp_row hR (rb9 (show 0 < 9 by decide))) rfl (by decide) (Nat.le_of_ble_eq_true rfl) (Nat.le_refl _) (Nat.le_refl _) d_Shelf_keepCells_26 (cy_kv ?_)
    refine c_like hE hR (rb9 (show 0 < 9 by decide)) (rb8 (show 0 < 9 by decide)) (by omega) (fun M1 hR1 => ⟨rfl, ?_⟩)
    refine wm_iinc (v := 1) (lv' := [(1, .int 1), (2, .ref (E.2.2.1 (116 + 0))), (0, .ref (E.2.2.1 134))]) C d_Shelf_keepCells_29 (k := 1) rfl (by decide) (by decide) rfl ?_
    refine wm_goto (tgt := 2) C d_Shelf_keepCells_32 (by decide) ?_
    refine wm_iload_n C d_Shelf_keepCells_2 rfl (j := 0) rfl ?_
    refine wm_bipush (v := 8) C d_Shelf_keepCells_3 (by decide) ?_
    refine wm_icmp_ge (tgt := 35) C d_Shelf_keepCells_5 (by decide) (fun (h_5_2 : 8 ≤ 1) => ?_) (fun (h_5_2 : ¬ 8 ≤ 1) => ?_)
    · exact absurd h_5_2 (by decide)
    · refine wm_aload_n C d_Shelf_keepCells_8 rfl (j := 2) rfl ?_
      refine wm_iload_n C d_Shelf_keepCells_9 rfl (j := 0) rfl ?_
      refine wm_callV (d2 := 0) (mc := 0) (ms := 0) C mo_Shelf_slot co_Shelf ml_Shelf_20 [.int 1] [] rfl (rp_shelf hR1) rfl (by decide) (Nat.le_of_ble_eq_true rfl) (Nat.le_refl _) (Nat.le_refl _) d_Shelf_keepCells_10 (cy_ki ?_)
      refine c_slot_in hE hR1 (k := 1) (by decide) ⟨_, rfl, ?_⟩
      refine wm_astore_n (lv' := [(2, .ref (E.2.2.1 (116 + 1))), (1, .int 1), (0, .ref (E.2.2.1 134))]) C d_Shelf_keepCells_13 rfl (by decide) rfl ?_
      refine wm_aload_n C d_Shelf_keepCells_14 rfl (j := 0) rfl ?_
      refine wm_ifnull C d_Shelf_keepCells_15 ?_
      refine wm_aload_n C d_Shelf_keepCells_18 rfl (j := 0) rfl ?_
      refine wm_getN C co_Code (rp_code hR1 (show 1 < 9 by decide)) 4 (by decide) fl_Shelf_28 rfl d_Shelf_keepCells_19 ?_
      refine wm_aload_n C d_Shelf_keepCells_22 rfl (j := 0) rfl ?_
      refine wm_getN C co_Code (rp_code hR1 (show 1 < 9 by decide)) 3 (by decide) fl_Shelf_32 rfl d_Shelf_keepCells_23 ?_
      refine wm_callVN (d2 := 1) (mc := 0) (ms := 0) C mo_Row_becomeLike co_Row ml_Shelf_35 [.ref (E.2.2.1 (2 * (8 + 4 * 1)))] [] rfl (rp_row hR1 (rb9 (show 1 < 9 by decide))) rfl (by decide) (Nat.le_of_ble_eq_true rfl) (Nat.le_refl _) (Nat.le_refl _) d_Shelf_keepCells_26 (cy_kv ?_)
      refine c_like hE hR1 (rb9 (show 1 < 9 by decide)) (rb8 (show 1 < 9 by decide)) (by omega) (fun M2 hR2 => ⟨rfl, ?_⟩)
      refine wm_iinc (v := 2) (lv' := [(1, .int 2), (2, .ref (E.2.2.1 (116 + 1))), (0, .ref (E.2.2.1 134))]) C d_Shelf_keepCells_29 (k := 1) rfl (by decide) (by decide) rfl ?_
      refine wm_goto (tgt := 2) C d_Shelf_keepCells_32 (by decide) ?_
      refine wm_iload_n C d_Shelf_keepCells_2 rfl (j := 0) rfl ?_
      refine wm_bipush (v := 8) C d_Shelf_keepCells_3 (by decide) ?_
      refine wm_icmp_ge (tgt := 35) C d_Shelf_keepCells_5 (by decide) (fun (h_5_3 : 8 ≤ 2) => ?_) (fun (h_5_3 : ¬ 8 ≤ 2) => ?_)
      · exact absurd h_5_3 (by decide)
      · refine wm_aload_n C d_Shelf_keepCells_8 rfl (j := 2) rfl ?_
        refine wm_iload_n C d_Shelf_keepCells_9 rfl (j := 0) rfl ?_
        refine wm_callV (d2 := 0) (mc := 0) (ms := 0) C mo_Shelf_slot co_Shelf ml_Shelf_20 [.int 2] [] rfl (rp_shelf hR2) rfl (by decide) (Nat.le_of_ble_eq_true rfl) (Nat.le_refl _) (Nat.le_refl _) d_Shelf_keepCells_10 (cy_ki ?_)
        refine c_slot_in hE hR2 (k := 2) (by decide) ⟨_, rfl, ?_⟩
        refine wm_astore_n (lv' := [(2, .ref (E.2.2.1 (116 + 2))), (1, .int 2), (0, .ref (E.2.2.1 134))]) C d_Shelf_keepCells_13 rfl (by decide) rfl ?_
        refine wm_aload_n C d_Shelf_keepCells_14 rfl (j := 0) rfl ?_
        refine wm_ifnull C d_Shelf_keepCells_15 ?_
        refine wm_aload_n C d_Shelf_keepCells_18 rfl (j := 0) rfl ?_
        refine wm_getN C co_Code (rp_code hR2 (show 2 < 9 by decide)) 4 (by decide) fl_Shelf_28 rfl d_Shelf_keepCells_19 ?_
        refine wm_aload_n C d_Shelf_keepCells_22 rfl (j := 0) rfl ?_
        refine wm_getN C co_Code (rp_code hR2 (show 2 < 9 by decide)) 3 (by decide) fl_Shelf_32 rfl d_Shelf_keepCells_23 ?_
        refine wm_callVN (d2 := 1) (mc := 0) (ms := 0) C mo_Row_becomeLike co_Row ml_Shelf_35 [.ref (E.2.2.1 (2 * (8 + 4 * 2)))] [] rfl (rp_row hR2 (rb9 (show 2 < 9 by decide))) rfl (by decide) (Nat.le_of_ble_eq_true rfl) (Nat.le_refl _) (Nat.le_refl _) d_Shelf_keepCells_26 (cy_kv ?_)
        refine c_like hE hR2 (rb9 (show 2 < 9 by decide)) (rb8 (show 2 < 9 by decide)) (by omega) (fun M3 hR3 => ⟨rfl, ?_⟩)
        refine wm_iinc (v := 3) (lv' := [(1, .int 3), (2, .ref (E.2.2.1 (116 + 2))), (0, .ref (E.2.2.1 134))]) C d_Shelf_keepCells_29 (k := 1) rfl (by decide) (by decide) rfl ?_
        refine wm_goto (tgt := 2) C d_Shelf_keepCells_32 (by decide) ?_
        refine wm_iload_n C d_Shelf_keepCells_2 rfl (j := 0) rfl ?_
        refine wm_bipush (v := 8) C d_Shelf_keepCells_3 (by decide) ?_
        refine wm_icmp_ge (tgt := 35) C d_Shelf_keepCells_5 (by decide) (fun (h_5_4 : 8 ≤ 3) => ?_) (fun (h_5_4 : ¬ 8 ≤ 3) => ?_)
        · exact absurd h_5_4 (by decide)
        · refine wm_aload_n C d_Shelf_keepCells_8 rfl (j := 2) rfl ?_
          refine wm_iload_n C d_Shelf_keepCells_9 rfl (j := 0) rfl ?_
          refine wm_callV (d2 := 0) (mc := 0) (ms := 0) C mo_Shelf_slot co_Shelf ml_Shelf_20 [.int 3] [] rfl (rp_shelf hR3) rfl (by decide) (Nat.le_of_ble_eq_true rfl) (Nat.le_refl _) (Nat.le_refl _) d_Shelf_keepCells_10 (cy_ki ?_)
          refine c_slot_in hE hR3 (k := 3) (by decide) ⟨_, rfl, ?_⟩
          refine wm_astore_n (lv' := [(2, .ref (E.2.2.1 (116 + 3))), (1, .int 3), (0, .ref (E.2.2.1 134))]) C d_Shelf_keepCells_13 rfl (by decide) rfl ?_
          refine wm_aload_n C d_Shelf_keepCells_14 rfl (j := 0) rfl ?_
          refine wm_ifnull C d_Shelf_keepCells_15 ?_
          refine wm_aload_n C d_Shelf_keepCells_18 rfl (j := 0) rfl ?_
          refine wm_getN C co_Code (rp_code hR3 (show 3 < 9 by decide)) 4 (by decide) fl_Shelf_28 rfl d_Shelf_keepCells_19 ?_
          refine wm_aload_n C d_Shelf_keepCells_22 rfl (j := 0) rfl ?_
          refine wm_getN C co_Code (rp_code hR3 (show 3 < 9 by decide)) 3 (by decide) fl_Shelf_32 rfl d_Shelf_keepCells_23 ?_
          refine wm_callVN (d2 := 1) (mc := 0) (ms := 0) C mo_Row_becomeLike co_Row ml_Shelf_35 [.ref (E.2.2.1 (2 * (8 + 4 * 3)))] [] rfl (rp_row hR3 (rb9 (show 3 < 9 by decide))) rfl (by decide) (Nat.le_of_ble_eq_true rfl) (Nat.le_refl _) (Nat.le_refl _) d_Shelf_keepCells_26 (cy_kv ?_)
          refine c_like hE hR3 (rb9 (show 3 < 9 by decide)) (rb8 (show 3 < 9 by decide)) (by omega) (fun M4 hR4 => ⟨rfl, ?_⟩)
          refine wm_iinc (v := 4) (lv' := [(1, .int 4), (2, .ref (E.2.2.1 (116 + 3))), (0, .ref (E.2.2.1 134))]) C d_Shelf_keepCells_29 (k := 1) rfl (by decide) (by decide) rfl ?_
          refine wm_goto (tgt := 2) C d_Shelf_keepCells_32 (by decide) ?_
          refine wm_iload_n C d_Shelf_keepCells_2 rfl (j := 0) rfl ?_
          refine wm_bipush (v := 8) C d_Shelf_keepCells_3 (by decide) ?_
          refine wm_icmp_ge (tgt := 35) C d_Shelf_keepCells_5 (by decide) (fun (h_5_5 : 8 ≤ 4) => ?_) (fun (h_5_5 : ¬ 8 ≤ 4) => ?_)
          · exact absurd h_5_5 (by decide)
          · refine wm_aload_n C d_Shelf_keepCells_8 rfl (j := 2) rfl ?_
            refine wm_iload_n C d_Shelf_keepCells_9 rfl (j := 0) rfl ?_
            refine wm_callV (d2 := 0) (mc := 0) (ms := 0) C mo_Shelf_slot co_Shelf ml_Shelf_20 [.int 4] [] rfl (rp_shelf hR4) rfl (by decide) (Nat.le_of_ble_eq_true rfl) (Nat.le_refl _) (Nat.le_refl _) d_Shelf_keepCells_10 (cy_ki ?_)
            refine c_slot_in hE hR4 (k := 4) (by decide) ⟨_, rfl, ?_⟩
            refine wm_astore_n (lv' := [(2, .ref (E.2.2.1 (116 + 4))), (1, .int 4), (0, .ref (E.2.2.1 134))]) C d_Shelf_keepCells_13 rfl (by decide) rfl ?_
            refine wm_aload_n C d_Shelf_keepCells_14 rfl (j := 0) rfl ?_
            refine wm_ifnull C d_Shelf_keepCells_15 ?_
            refine wm_aload_n C d_Shelf_keepCells_18 rfl (j := 0) rfl ?_
            refine wm_getN C co_Code (rp_code hR4 (show 4 < 9 by decide)) 4 (by decide) fl_Shelf_28 rfl d_Shelf_keepCells_19 ?_
            refine wm_aload_n C d_Shelf_keepCells_22 rfl (j := 0) rfl ?_
            refine wm_getN C co_Code (rp_code hR4 (show 4 < 9 by decide)) 3 (by decide) fl_Shelf_32 rfl d_Shelf_keepCells_23 ?_
            refine wm_callVN (d2 := 1) (mc := 0) (ms := 0) C mo_Row_becomeLike co_Row ml_Shelf_35 [.ref (E.2.2.1 (2 * (8 + 4 * 4)))] [] rfl (rp_row hR4 (rb9 (show 4 < 9 by decide))) rfl (by decide) (Nat.le_of_ble_eq_true rfl) (Nat.le_refl _) (Nat.le_refl _) d_Shelf_keepCells_26 (cy_kv ?_)
            refine c_like hE hR4 (rb9 (show 4 < 9 by decide)) (rb8 (show 4 < 9 by decide)) (by omega) (fun M5 hR5 => ⟨rfl, ?_⟩)
            refine wm_iinc (v := 5) (lv' := [(1, .int 5), (2, .ref (E.2.2.1 (116 + 4))), (0, .ref (E.2.2.1 134))]) C d_Shelf_keepCells_29 (k := 1) rfl (by decide) (by decide) rfl ?_
            refine wm_goto (tgt := 2) C d_Shelf_keepCells_32 (by decide) ?_
            refine wm_iload_n C d_Shelf_keepCells_2 rfl (j := 0) rfl ?_
            refine wm_bipush (v := 8) C d_Shelf_keepCells_3 (by decide) ?_
            refine wm_icmp_ge (tgt := 35) C d_Shelf_keepCells_5 (by decide) (fun (h_5_6 : 8 ≤ 5) => ?_) (fun (h_5_6 : ¬ 8 ≤ 5) => ?_)
            · exact absurd h_5_6 (by decide)
            · refine wm_aload_n C d_Shelf_keepCells_8 rfl (j := 2) rfl ?_
              refine wm_iload_n C d_Shelf_keepCells_9 rfl (j := 0) rfl ?_
              refine wm_callV (d2 := 0) (mc := 0) (ms := 0) C mo_Shelf_slot co_Shelf ml_Shelf_20 [.int 5] [] rfl (rp_shelf hR5) rfl (by decide) (Nat.le_of_ble_eq_true rfl) (Nat.le_refl _) (Nat.le_refl _) d_Shelf_keepCells_10 (cy_ki ?_)
              refine c_slot_in hE hR5 (k := 5) (by decide) ⟨_, rfl, ?_⟩
              refine wm_astore_n (lv' := [(2, .ref (E.2.2.1 (116 + 5))), (1, .int 5), (0, .ref (E.2.2.1 134))]) C d_Shelf_keepCells_13 rfl (by decide) rfl ?_
              refine wm_aload_n C d_Shelf_keepCells_14 rfl (j := 0) rfl ?_
              refine wm_ifnull C d_Shelf_keepCells_15 ?_
              refine wm_aload_n C d_Shelf_keepCells_18 rfl (j := 0) rfl ?_
              refine wm_getN C co_Code (rp_code hR5 (show 5 < 9 by decide)) 4 (by decide) fl_Shelf_28 rfl d_Shelf_keepCells_19 ?_
              refine wm_aload_n C d_Shelf_keepCells_22 rfl (j := 0) rfl ?_
              refine wm_getN C co_Code (rp_code hR5 (show 5 < 9 by decide)) 3 (by decide) fl_Shelf_32 rfl d_Shelf_keepCells_23 ?_
              refine wm_callVN (d2 := 1) (mc := 0) (ms := 0) C mo_Row_becomeLike co_Row ml_Shelf_35 [.ref (E.2.2.1 (2 * (8 + 4 * 5)))] [] rfl (rp_row hR5 (rb9 (show 5 < 9 by decide))) rfl (by decide) (Nat.le_of_ble_eq_true rfl) (Nat.le_refl _) (Nat.le_refl _) d_Shelf_keepCells_26 (cy_kv ?_)
              refine c_like hE hR5 (rb9 (show 5 < 9 by decide)) (rb8 (show 5 < 9 by decide)) (by omega) (fun M6 hR6 => ⟨rfl, ?_⟩)
              refine wm_iinc (v := 6) (lv' := [(1, .int 6), (2, .ref (E.2.2.1 (116 + 5))), (0, .ref (E.2.2.1 134))]) C d_Shelf_keepCells_29 (k := 1) rfl (by decide) (by decide) rfl ?_
              refine wm_goto (tgt := 2) C d_Shelf_keepCells_32 (by decide) ?_
              refine wm_iload_n C d_Shelf_keepCells_2 rfl (j := 0) rfl ?_
              refine wm_bipush (v := 8) C d_Shelf_keepCells_3 (by decide) ?_
              refine wm_icmp_ge (tgt := 35) C d_Shelf_keepCells_5 (by decide) (fun (h_5_7 : 8 ≤ 6) => ?_) (fun (h_5_7 : ¬ 8 ≤ 6) => ?_)
              · exact absurd h_5_7 (by decide)
              · refine wm_aload_n C d_Shelf_keepCells_8 rfl (j := 2) rfl ?_
                refine wm_iload_n C d_Shelf_keepCells_9 rfl (j := 0) rfl ?_
                refine wm_callV (d2 := 0) (mc := 0) (ms := 0) C mo_Shelf_slot co_Shelf ml_Shelf_20 [.int 6] [] rfl (rp_shelf hR6) rfl (by decide) (Nat.le_of_ble_eq_true rfl) (Nat.le_refl _) (Nat.le_refl _) d_Shelf_keepCells_10 (cy_ki ?_)
                refine c_slot_in hE hR6 (k := 6) (by decide) ⟨_, rfl, ?_⟩
                refine wm_astore_n (lv' := [(2, .ref (E.2.2.1 (116 + 6))), (1, .int 6), (0, .ref (E.2.2.1 134))]) C d_Shelf_keepCells_13 rfl (by decide) rfl ?_
                refine wm_aload_n C d_Shelf_keepCells_14 rfl (j := 0) rfl ?_
                refine wm_ifnull C d_Shelf_keepCells_15 ?_
                refine wm_aload_n C d_Shelf_keepCells_18 rfl (j := 0) rfl ?_
                refine wm_getN C co_Code (rp_code hR6 (show 6 < 9 by decide)) 4 (by decide) fl_Shelf_28 rfl d_Shelf_keepCells_19 ?_
                refine wm_aload_n C d_Shelf_keepCells_22 rfl (j := 0) rfl ?_
                refine wm_getN C co_Code (rp_code hR6 (show 6 < 9 by decide)) 3 (by decide) fl_Shelf_32 rfl d_Shelf_keepCells_23 ?_
                refine wm_callVN (d2 := 1) (mc := 0) (ms := 0) C mo_Row_becomeLike co_Row ml_Shelf_35 [.ref (E.2.2.1 (2 * (8 + 4 * 6)))] [] rfl (rp_row hR6 (rb9 (show 6 < 9 by decide))) rfl (by decide) (Nat.le_of_ble_eq_true rfl) (Nat.le_refl _) (Nat.le_refl _) d_Shelf_keepCells_26 (cy_kv ?_)
                refine c_like hE hR6 (rb9 (show 6 < 9 by decide)) (rb8 (show 6 < 9 by decide)) (by omega) (fun M7 hR7 => ⟨rfl, ?_⟩)
                refine wm_iinc (v := 7) (lv' := [(1, .int 7), (2, .ref (E.2.2.1 (116 + 6))), (0, .ref (E.2.2.1 134))]) C d_Shelf_keepCells_29 (k := 1) rfl (by decide) (by decide) rfl ?_
                refine wm_goto (tgt := 2) C d_Shelf_keepCells_32 (by decide) ?_
                refine wm_iload_n C d_Shelf_keepCells_2 rfl (j := 0) rfl ?_
                refine wm_bipush (v := 8) C d_Shelf_keepCells_3 (by decide) ?_
                refine wm_icmp_ge (tgt := 35) C d_Shelf_keepCells_5 (by decide) (fun (h_5_8 : 8 ≤ 7) => ?_) (fun (h_5_8 : ¬ 8 ≤ 7) => ?_)
                · exact absurd h_5_8 (by decide)
                · refine wm_aload_n C d_Shelf_keepCells_8 rfl (j := 2) rfl ?_
                  refine wm_iload_n C d_Shelf_keepCells_9 rfl (j := 0) rfl ?_
                  refine wm_callV (d2 := 0) (mc := 0) (ms := 0) C mo_Shelf_slot co_Shelf ml_Shelf_20 [.int 7] [] rfl (rp_shelf hR7) rfl (by decide) (Nat.le_of_ble_eq_true rfl) (Nat.le_refl _) (Nat.le_refl _) d_Shelf_keepCells_10 (cy_ki ?_)
                  refine c_slot_in hE hR7 (k := 7) (by decide) ⟨_, rfl, ?_⟩
                  refine wm_astore_n (lv' := [(2, .ref (E.2.2.1 (116 + 7))), (1, .int 7), (0, .ref (E.2.2.1 134))]) C d_Shelf_keepCells_13 rfl (by decide) rfl ?_
                  refine wm_aload_n C d_Shelf_keepCells_14 rfl (j := 0) rfl ?_
                  refine wm_ifnull C d_Shelf_keepCells_15 ?_
                  refine wm_aload_n C d_Shelf_keepCells_18 rfl (j := 0) rfl ?_
                  refine wm_getN C co_Code (rp_code hR7 (show 7 < 9 by decide)) 4 (by decide) fl_Shelf_28 rfl d_Shelf_keepCells_19 ?_
                  refine wm_aload_n C d_Shelf_keepCells_22 rfl (j := 0) rfl ?_
                  refine wm_getN C co_Code (rp_code hR7 (show 7 < 9 by decide)) 3 (by decide) fl_Shelf_32 rfl d_Shelf_keepCells_23 ?_
                  refine wm_callVN (d2 := 1) (mc := 0) (ms := 0) C mo_Row_becomeLike co_Row ml_Shelf_35 [.ref (E.2.2.1 (2 * (8 + 4 * 7)))] [] rfl (rp_row hR7 (rb9 (show 7 < 9 by decide))) rfl (by decide) (Nat.le_of_ble_eq_true rfl) (Nat.le_refl _) (Nat.le_refl _) d_Shelf_keepCells_26 (cy_kv ?_)
                  refine c_like hE hR7 (rb9 (show 7 < 9 by decide)) (rb8 (show 7 < 9 by decide)) (by omega) (fun M8 hR8 => ⟨rfl, ?_⟩)
                  refine wm_iinc (v := 8) (lv' := [(1, .int 8), (2, .ref (E.2.2.1 (116 + 7))), (0, .ref (E.2.2.1 134))]) C d_Shelf_keepCells_29 (k := 1) rfl (by decide) (by decide) rfl ?_
                  refine wm_goto (tgt := 2) C d_Shelf_keepCells_32 (by decide) ?_
                  refine wm_iload_n C d_Shelf_keepCells_2 rfl (j := 0) rfl ?_
                  refine wm_bipush (v := 8) C d_Shelf_keepCells_3 (by decide) ?_
                  refine wm_icmp_ge (tgt := 35) C d_Shelf_keepCells_5 (by decide) (fun (h_5_9 : 8 ≤ 8) => ?_) (fun (h_5_9 : ¬ 8 ≤ 8) => ?_)
                  · refine wm_vret C P d_Shelf_keepCells_35 ?_
                    have e : cy_Shelf_keepCells s = (cy_rlike (cy_rlike (cy_rlike (cy_rlike (cy_rlike (cy_rlike (cy_rlike (cy_rlike s (9 + 4 * 0) (8 + 4 * 0)) (9 + 4 * 1) (8 + 4 * 1)) (9 + 4 * 2) (8 + 4 * 2)) (9 + 4 * 3) (8 + 4 * 3)) (9 + 4 * 4) (8 + 4 * 4)) (9 + 4 * 5) (8 + 4 * 5)) (9 + 4 * 6) (8 + 4 * 6)) (9 + 4 * 7) (8 + 4 * 7)) := by rw [cy_Shelf_keepCells]
                    rw [e] at h
                    exact h _ hR8
                  · exact absurd h_5_9 (by decide)
def cy_Shelf_bringCellsBack (s : cy_S) : cy_S :=
  (cy_rlike (cy_rlike (cy_rlike (cy_rlike (cy_rlike (cy_rlike (cy_rlike (cy_rlike s (8 + 4 * 0) (9 + 4 * 0)) (8 + 4 * 1) (9 + 4 * 1)) (8 + 4 * 2) (9 + 4 * 2)) (8 + 4 * 3) (9 + 4 * 3)) (8 + 4 * 4) (9 + 4 * 4)) (8 + 4 * 5) (9 + 4 * 5)) (8 + 4 * 6) (9 + 4 * 6)) (8 + 4 * 7) (9 + 4 * 7))
set_option maxHeartbeats 4000000 in
theorem c_Shelf_bringCellsBack {G : cy_G} {E : cy_E} {s : cy_S} {M : cy_Hp} {post : Option Value → cy_Hp → Prop} (hE : cy_Eo G E) (hR : cy_R E s M)   (h : ∀ M', cy_R E (cy_Shelf_bringCellsBack s) M' → post none M') : cy_Ct G 2 m_Shelf_bringCellsBack [.ref (E.2.2.1 134)] M 0 0 post := by
  refine cy_Ct.of (by decide) (Nat.le_of_ble_eq_true rfl) ?_
  intro F C P _
  have C : cy_C G F R_Shelf b_Shelf_bringCellsBack 3 2 0 0 := C
  have P : cy_P G F none post 0 0 := P
  show WM G F 3 0 0 0 [(0, .ref (E.2.2.1 134))] [] M
  refine wm_iconst (v := 0) C d_Shelf_bringCellsBack_0 (by decide) ?_
  refine wm_istore_n (lv' := [(1, .int 0), (0, .ref (E.2.2.1 134))]) C d_Shelf_bringCellsBack_1 rfl (by decide) rfl ?_
  refine wm_iload_n C d_Shelf_bringCellsBack_2 rfl (j := 0) rfl ?_
  refine wm_bipush (v := 8) C d_Shelf_bringCellsBack_3 (by decide) ?_
  refine wm_icmp_ge (tgt := 35) C d_Shelf_bringCellsBack_5 (by decide) (fun (h_5 : 8 ≤ 0) => ?_) (fun (h_5 : ¬ 8 ≤ 0) => ?_)
  · exact absurd h_5 (by decide)
  · refine wm_aload_n C d_Shelf_bringCellsBack_8 rfl (j := 1) rfl ?_
    refine wm_iload_n C d_Shelf_bringCellsBack_9 rfl (j := 0) rfl ?_
    refine wm_callV (d2 := 0) (mc := 0) (ms := 0) C mo_Shelf_slot co_Shelf ml_Shelf_20 [.int 0] [] rfl (rp_shelf hR) rfl (by decide) (Nat.le_of_ble_eq_true rfl) (Nat.le_refl _) (Nat.le_refl _) d_Shelf_bringCellsBack_10 (cy_ki ?_)
    refine c_slot_in hE hR (k := 0) (by decide) ⟨_, rfl, ?_⟩
    refine wm_astore_n (lv' := [(2, .ref (E.2.2.1 (116 + 0))), (1, .int 0), (0, .ref (E.2.2.1 134))]) C d_Shelf_bringCellsBack_13 rfl (by decide) rfl ?_
    refine wm_aload_n C d_Shelf_bringCellsBack_14 rfl (j := 0) rfl ?_
    refine wm_ifnull C d_Shelf_bringCellsBack_15 ?_
    refine wm_aload_n C d_Shelf_bringCellsBack_18 rfl (j := 0) rfl ?_
    refine wm_getN C co_Code (rp_code hR (show 0 < 9 by decide)) 3 (by decide) fl_Shelf_32 rfl d_Shelf_bringCellsBack_19 ?_
    refine wm_aload_n C d_Shelf_bringCellsBack_22 rfl (j := 0) rfl ?_
    refine wm_getN C co_Code (rp_code hR (show 0 < 9 by decide)) 4 (by decide) fl_Shelf_28 rfl d_Shelf_bringCellsBack_23 ?_
    refine wm_callVN (d2 := 1) (mc := 0) (ms := 0) C mo_Row_becomeLike co_Row ml_Shelf_35 [.ref (E.2.2.1 (2 * (9 + 4 * 0)))] [] rfl (rp_row hR (rb8 (show 0 < 9 by decide))) rfl (by decide) (Nat.le_of_ble_eq_true rfl) (Nat.le_refl _) (Nat.le_refl _) d_Shelf_bringCellsBack_26 (cy_kv ?_)
    refine c_like hE hR (rb8 (show 0 < 9 by decide)) (rb9 (show 0 < 9 by decide)) (by omega) (fun M1 hR1 => ⟨rfl, ?_⟩)
    refine wm_iinc (v := 1) (lv' := [(1, .int 1), (2, .ref (E.2.2.1 (116 + 0))), (0, .ref (E.2.2.1 134))]) C d_Shelf_bringCellsBack_29 (k := 1) rfl (by decide) (by decide) rfl ?_
    refine wm_goto (tgt := 2) C d_Shelf_bringCellsBack_32 (by decide) ?_
    refine wm_iload_n C d_Shelf_bringCellsBack_2 rfl (j := 0) rfl ?_
    refine wm_bipush (v := 8) C d_Shelf_bringCellsBack_3 (by decide) ?_
    refine wm_icmp_ge (tgt := 35) C d_Shelf_bringCellsBack_5 (by decide) (fun (h_5_2 : 8 ≤ 1) => ?_) (fun (h_5_2 : ¬ 8 ≤ 1) => ?_)
    · exact absurd h_5_2 (by decide)
    · refine wm_aload_n C d_Shelf_bringCellsBack_8 rfl (j := 2) rfl ?_
      refine wm_iload_n C d_Shelf_bringCellsBack_9 rfl (j := 0) rfl ?_
      refine wm_callV (d2 := 0) (mc := 0) (ms := 0) C mo_Shelf_slot co_Shelf ml_Shelf_20 [.int 1] [] rfl (rp_shelf hR1) rfl (by decide) (Nat.le_of_ble_eq_true rfl) (Nat.le_refl _) (Nat.le_refl _) d_Shelf_bringCellsBack_10 (cy_ki ?_)
      refine c_slot_in hE hR1 (k := 1) (by decide) ⟨_, rfl, ?_⟩
      refine wm_astore_n (lv' := [(2, .ref (E.2.2.1 (116 + 1))), (1, .int 1), (0, .ref (E.2.2.1 134))]) C d_Shelf_bringCellsBack_13 rfl (by decide) rfl ?_
      refine wm_aload_n C d_Shelf_bringCellsBack_14 rfl (j := 0) rfl ?_
      refine wm_ifnull C d_Shelf_bringCellsBack_15 ?_
      refine wm_aload_n C d_Shelf_bringCellsBack_18 rfl (j := 0) rfl ?_
      refine wm_getN C co_Code (rp_code hR1 (show 1 < 9 by decide)) 3 (by decide) fl_Shelf_32 rfl d_Shelf_bringCellsBack_19 ?_
      refine wm_aload_n C d_Shelf_bringCellsBack_22 rfl (j := 0) rfl ?_
      refine wm_getN C co_Code (rp_code hR1 (show 1 < 9 by decide)) 4 (by decide) fl_Shelf_28 rfl d_Shelf_bringCellsBack_23 ?_
      refine wm_callVN (d2 := 1) (mc := 0) (ms := 0) C mo_Row_becomeLike co_Row ml_Shelf_35 [.ref (E.2.2.1 (2 * (9 + 4 * 1)))] [] rfl (rp_row hR1 (rb8 (show 1 < 9 by decide))) rfl (by decide) (Nat.le_of_ble_eq_true rfl) (Nat.le_refl _) (Nat.le_refl _) d_Shelf_bringCellsBack_26 (cy_kv ?_)
      refine c_like hE hR1 (rb8 (show 1 < 9 by decide)) (rb9 (show 1 < 9 by decide)) (by omega) (fun M2 hR2 => ⟨rfl, ?_⟩)
      refine wm_iinc (v := 2) (lv' := [(1, .int 2), (2, .ref (E.2.2.1 (116 + 1))), (0, .ref (E.2.2.1 134))]) C d_Shelf_bringCellsBack_29 (k := 1) rfl (by decide) (by decide) rfl ?_
      refine wm_goto (tgt := 2) C d_Shelf_bringCellsBack_32 (by decide) ?_
      refine wm_iload_n C d_Shelf_bringCellsBack_2 rfl (j := 0) rfl ?_
      refine wm_bipush (v := 8) C d_Shelf_bringCellsBack_3 (by decide) ?_
      refine wm_icmp_ge (tgt := 35) C d_Shelf_bringCellsBack_5 (by decide) (fun (h_5_3 : 8 ≤ 2) => ?_) (fun (h_5_3 : ¬ 8 ≤ 2) => ?_)
      · exact absurd h_5_3 (by decide)
      · refine wm_aload_n C d_Shelf_bringCellsBack_8 rfl (j := 2) rfl ?_
        refine wm_iload_n C d_Shelf_bringCellsBack_9 rfl (j := 0) rfl ?_
        refine wm_callV (d2 := 0) (mc := 0) (ms := 0) C mo_Shelf_slot co_Shelf ml_Shelf_20 [.int 2] [] rfl (rp_shelf hR2) rfl (by decide) (Nat.le_of_ble_eq_true rfl) (Nat.le_refl _) (Nat.le_refl _) d_Shelf_bringCellsBack_10 (cy_ki ?_)
        refine c_slot_in hE hR2 (k := 2) (by decide) ⟨_, rfl, ?_⟩
        refine wm_astore_n (lv' := [(2, .ref (E.2.2.1 (116 + 2))), (1, .int 2), (0, .ref (E.2.2.1 134))]) C d_Shelf_bringCellsBack_13 rfl (by decide) rfl ?_
        refine wm_aload_n C d_Shelf_bringCellsBack_14 rfl (j := 0) rfl ?_
        refine wm_ifnull C d_Shelf_bringCellsBack_15 ?_
        refine wm_aload_n C d_Shelf_bringCellsBack_18 rfl (j := 0) rfl ?_
        refine wm_getN C co_Code (rp_code hR2 (show 2 < 9 by decide)) 3 (by decide) fl_Shelf_32 rfl d_Shelf_bringCellsBack_19 ?_
        refine wm_aload_n C d_Shelf_bringCellsBack_22 rfl (j := 0) rfl ?_
        refine wm_getN C co_Code (rp_code hR2 (show 2 < 9 by decide)) 4 (by decide) fl_Shelf_28 rfl d_Shelf_bringCellsBack_23 ?_
        refine wm_callVN (d2 := 1) (mc := 0) (ms := 0) C mo_Row_becomeLike co_Row ml_Shelf_35 [.ref (E.2.2.1 (2 * (9 + 4 * 2)))] [] rfl (rp_row hR2 (rb8 (show 2 < 9 by decide))) rfl (by decide) (Nat.le_of_ble_eq_true rfl) (Nat.le_refl _) (Nat.le_refl _) d_Shelf_bringCellsBack_26 (cy_kv ?_)
        refine c_like hE hR2 (rb8 (show 2 < 9 by decide)) (rb9 (show 2 < 9 by decide)) (by omega) (fun M3 hR3 => ⟨rfl, ?_⟩)
        refine wm_iinc (v := 3) (lv' := [(1, .int 3), (2, .ref (E.2.2.1 (116 + 2))), (0, .ref (E.2.2.1 134))]) C d_Shelf_bringCellsBack_29 (k := 1) rfl (by decide) (by decide) rfl ?_
        refine wm_goto (tgt := 2) C d_Shelf_bringCellsBack_32 (by decide) ?_
        refine wm_iload_n C d_Shelf_bringCellsBack_2 rfl (j := 0) rfl ?_
        refine wm_bipush (v := 8) C d_Shelf_bringCellsBack_3 (by decide) ?_
        refine wm_icmp_ge (tgt := 35) C d_Shelf_bringCellsBack_5 (by decide) (fun (h_5_4 : 8 ≤ 3) => ?_) (fun (h_5_4 : ¬ 8 ≤ 3) => ?_)
        · exact absurd h_5_4 (by decide)
        · refine wm_aload_n C d_Shelf_bringCellsBack_8 rfl (j := 2) rfl ?_
          refine wm_iload_n C d_Shelf_bringCellsBack_9 rfl (j := 0) rfl ?_
          refine wm_callV (d2 := 0) (mc := 0) (ms := 0) C mo_Shelf_slot co_Shelf ml_Shelf_20 [.int 3] [] rfl (rp_shelf hR3) rfl (by decide) (Nat.le_of_ble_eq_true rfl) (Nat.le_refl _) (Nat.le_refl _) d_Shelf_bringCellsBack_10 (cy_ki ?_)
          refine c_slot_in hE hR3 (k := 3) (by decide) ⟨_, rfl, ?_⟩
          refine wm_astore_n (lv' := [(2, .ref (E.2.2.1 (116 + 3))), (1, .int 3), (0, .ref (E.2.2.1 134))]) C d_Shelf_bringCellsBack_13 rfl (by decide) rfl ?_
          refine wm_aload_n C d_Shelf_bringCellsBack_14 rfl (j := 0) rfl ?_
          refine wm_ifnull C d_Shelf_bringCellsBack_15 ?_
          refine wm_aload_n C d_Shelf_bringCellsBack_18 rfl (j := 0) rfl ?_
          refine wm_getN C co_Code (rp_code hR3 (show 3 < 9 by decide)) 3 (by decide) fl_Shelf_32 rfl d_Shelf_bringCellsBack_19 ?_
          refine wm_aload_n C d_Shelf_bringCellsBack_22 rfl (j := 0) rfl ?_
          refine wm_getN C co_Code (rp_code hR3 (show 3 < 9 by decide)) 4 (by decide) fl_Shelf_28 rfl d_Shelf_bringCellsBack_23 ?_
          refine wm_callVN (d2 := 1) (mc := 0) (ms := 0) C mo_Row_becomeLike co_Row ml_Shelf_35 [.ref (E.2.2.1 (2 * (9 + 4 * 3)))] [] rfl (rp_row hR3 (rb8 (show 3 < 9 by decide))) rfl (by decide) (Nat.le_of_ble_eq_true rfl) (Nat.le_refl _) (Nat.le_refl _) d_Shelf_bringCellsBack_26 (cy_kv ?_)
          refine c_like hE hR3 (rb8 (show 3 < 9 by decide)) (rb9 (show 3 < 9 by decide)) (by omega) (fun M4 hR4 => ⟨rfl, ?_⟩)
          refine wm_iinc (v := 4) (lv' := [(1, .int 4), (2, .ref (E.2.2.1 (116 + 3))), (0, .ref (E.2.2.1 134))]) C d_Shelf_bringCellsBack_29 (k := 1) rfl (by decide) (by decide) rfl ?_
          refine wm_goto (tgt := 2) C d_Shelf_bringCellsBack_32 (by decide) ?_
          refine wm_iload_n C d_Shelf_bringCellsBack_2 rfl (j := 0) rfl ?_
          refine wm_bipush (v := 8) C d_Shelf_bringCellsBack_3 (by decide) ?_
          refine wm_icmp_ge (tgt := 35) C d_Shelf_bringCellsBack_5 (by decide) (fun (h_5_5 : 8 ≤ 4) => ?_) (fun (h_5_5 : ¬ 8 ≤ 4) => ?_)
          · exact absurd h_5_5 (by decide)
          · refine wm_aload_n C d_Shelf_bringCellsBack_8 rfl (j := 2) rfl ?_
            refine wm_iload_n C d_Shelf_bringCellsBack_9 rfl (j := 0) rfl ?_
            refine wm_callV (d2 := 0) (mc := 0) (ms := 0) C mo_Shelf_slot co_Shelf ml_Shelf_20 [.int 4] [] rfl (rp_shelf hR4) rfl (by decide) (Nat.le_of_ble_eq_true rfl) (Nat.le_refl _) (Nat.le_refl _) d_Shelf_bringCellsBack_10 (cy_ki ?_)
            refine c_slot_in hE hR4 (k := 4) (by decide) ⟨_, rfl, ?_⟩
            refine wm_astore_n (lv' := [(2, .ref (E.2.2.1 (116 + 4))), (1, .int 4), (0, .ref (E.2.2.1 134))]) C d_Shelf_bringCellsBack_13 rfl (by decide) rfl ?_
            refine wm_aload_n C d_Shelf_bringCellsBack_14 rfl (j := 0) rfl ?_
            refine wm_ifnull C d_Shelf_bringCellsBack_15 ?_
            refine wm_aload_n C d_Shelf_bringCellsBack_18 rfl (j := 0) rfl ?_
            refine wm_getN C co_Code (rp_code hR4 (show 4 < 9 by decide)) 3 (by decide) fl_Shelf_32 rfl d_Shelf_bringCellsBack_19 ?_
            refine wm_aload_n C d_Shelf_bringCellsBack_22 rfl (j := 0) rfl ?_
            refine wm_getN C co_Code (rp_code hR4 (show 4 < 9 by decide)) 4 (by decide) fl_Shelf_28 rfl d_Shelf_bringCellsBack_23 ?_
            refine wm_callVN (d2 := 1) (mc := 0) (ms := 0) C mo_Row_becomeLike co_Row ml_Shelf_35 [.ref (E.2.2.1 (2 * (9 + 4 * 4)))] [] rfl (rp_row hR4 (rb8 (show 4 < 9 by decide))) rfl (by decide) (Nat.le_of_ble_eq_true rfl) (Nat.le_refl _) (Nat.le_refl _) d_Shelf_bringCellsBack_26 (cy_kv ?_)
            refine c_like hE hR4 (rb8 (show 4 < 9 by decide)) (rb9 (show 4 < 9 by decide)) (by omega) (fun M5 hR5 => ⟨rfl, ?_⟩)
            refine wm_iinc (v := 5) (lv' := [(1, .int 5), (2, .ref (E.2.2.1 (116 + 4))), (0, .ref (E.2.2.1 134))]) C d_Shelf_bringCellsBack_29 (k := 1) rfl (by decide) (by decide) rfl ?_
            refine wm_goto (tgt := 2) C d_Shelf_bringCellsBack_32 (by decide) ?_
            refine wm_iload_n C d_Shelf_bringCellsBack_2 rfl (j := 0) rfl ?_
            refine wm_bipush (v := 8) C d_Shelf_bringCellsBack_3 (by decide) ?_
            refine wm_icmp_ge (tgt := 35) C d_Shelf_bringCellsBack_5 (by decide) (fun (h_5_6 : 8 ≤ 5) => ?_) (fun (h_5_6 : ¬ 8 ≤ 5) => ?_)
            · exact absurd h_5_6 (by decide)
            · refine wm_aload_n C d_Shelf_bringCellsBack_8 rfl (j := 2) rfl ?_
              refine wm_iload_n C d_Shelf_bringCellsBack_9 rfl (j := 0) rfl ?_
              refine wm_callV (d2 := 0) (mc := 0) (ms := 0) C mo_Shelf_slot co_Shelf ml_Shelf_20 [.int 5] [] rfl (rp_shelf hR5) rfl (by decide) (Nat.le_of_ble_eq_true rfl) (Nat.le_refl _) (Nat.le_refl _) d_Shelf_bringCellsBack_10 (cy_ki ?_)
              refine c_slot_in hE hR5 (k := 5) (by decide) ⟨_, rfl, ?_⟩
              refine wm_astore_n (lv' := [(2, .ref (E.2.2.1 (116 + 5))), (1, .int 5), (0, .ref (E.2.2.1 134))]) C d_Shelf_bringCellsBack_13 rfl (by decide) rfl ?_
              refine wm_aload_n C d_Shelf_bringCellsBack_14 rfl (j := 0) rfl ?_
              refine wm_ifnull C d_Shelf_bringCellsBack_15 ?_
              refine wm_aload_n C d_Shelf_bringCellsBack_18 rfl (j := 0) rfl ?_
              refine wm_getN C co_Code (rp_code hR5 (show 5 < 9 by decide)) 3 (by decide) fl_Shelf_32 rfl d_Shelf_bringCellsBack_19 ?_
              refine wm_aload_n C d_Shelf_bringCellsBack_22 rfl (j := 0) rfl ?_
              refine wm_getN C co_Code (rp_code hR5 (show 5 < 9 by decide)) 4 (by decide) fl_Shelf_28 rfl d_Shelf_bringCellsBack_23 ?_
              refine wm_callVN (d2 := 1) (mc := 0) (ms := 0) C mo_Row_becomeLike co_Row ml_Shelf_35 [.ref (E.2.2.1 (2 * (9 + 4 * 5)))] [] rfl (rp_row hR5 (rb8 (show 5 < 9 by decide))) rfl (by decide) (Nat.le_of_ble_eq_true rfl) (Nat.le_refl _) (Nat.le_refl _) d_Shelf_bringCellsBack_26 (cy_kv ?_)
              refine c_like hE hR5 (rb8 (show 5 < 9 by decide)) (rb9 (show 5 < 9 by decide)) (by omega) (fun M6 hR6 => ⟨rfl, ?_⟩)
              refine wm_iinc (v := 6) (lv' := [(1, .int 6), (2, .ref (E.2.2.1 (116 + 5))), (0, .ref (E.2.2.1 134))]) C d_Shelf_bringCellsBack_29 (k := 1) rfl (by decide) (by decide) rfl ?_
              refine wm_goto (tgt := 2) C d_Shelf_bringCellsBack_32 (by decide) ?_
              refine wm_iload_n C d_Shelf_bringCellsBack_2 rfl (j := 0) rfl ?_
              refine wm_bipush (v := 8) C d_Shelf_bringCellsBack_3 (by decide) ?_
              refine wm_icmp_ge (tgt := 35) C d_Shelf_bringCellsBack_5 (by decide) (fun (h_5_7 : 8 ≤ 6) => ?_) (fun (h_5_7 : ¬ 8 ≤ 6) => ?_)
              · exact absurd h_5_7 (by decide)
              · refine wm_aload_n C d_Shelf_bringCellsBack_8 rfl (j := 2) rfl ?_
                refine wm_iload_n C d_Shelf_bringCellsBack_9 rfl (j := 0) rfl ?_
                refine wm_callV (d2 := 0) (mc := 0) (ms := 0) C mo_Shelf_slot co_Shelf ml_Shelf_20 [.int 6] [] rfl (rp_shelf hR6) rfl (by decide) (Nat.le_of_ble_eq_true rfl) (Nat.le_refl _) (Nat.le_refl _) d_Shelf_bringCellsBack_10 (cy_ki ?_)
                refine c_slot_in hE hR6 (k := 6) (by decide) ⟨_, rfl, ?_⟩
                refine wm_astore_n (lv' := [(2, .ref (E.2.2.1 (116 + 6))), (1, .int 6), (0, .ref (E.2.2.1 134))]) C d_Shelf_bringCellsBack_13 rfl (by decide) rfl ?_
                refine wm_aload_n C d_Shelf_bringCellsBack_14 rfl (j := 0) rfl ?_
                refine wm_ifnull C d_Shelf_bringCellsBack_15 ?_
                refine wm_aload_n C d_Shelf_bringCellsBack_18 rfl (j := 0) rfl ?_
                refine wm_getN C co_Code (rp_code hR6 (show 6 < 9 by decide)) 3 (by decide) fl_Shelf_32 rfl d_Shelf_bringCellsBack_19 ?_
                refine wm_aload_n C d_Shelf_bringCellsBack_22 rfl (j := 0) rfl ?_
                refine wm_getN C co_Code (rp_code hR6 (show 6 < 9 by decide)) 4 (by decide) fl_Shelf_28 rfl d_Shelf_bringCellsBack_23 ?_
                refine wm_callVN (d2 := 1) (mc := 0) (ms := 0) C mo_Row_becomeLike co_Row ml_Shelf_35 [.ref (E.2.2.1 (2 * (9 + 4 * 6)))] [] rfl (rp_row hR6 (rb8 (show 6 < 9 by decide))) rfl (by decide) (Nat.le_of_ble_eq_true rfl) (Nat.le_refl _) (Nat.le_refl _) d_Shelf_bringCellsBack_26 (cy_kv ?_)
                refine c_like hE hR6 (rb8 (show 6 < 9 by decide)) (rb9 (show 6 < 9 by decide)) (by omega) (fun M7 hR7 => ⟨rfl, ?_⟩)
                refine wm_iinc (v := 7) (lv' := [(1, .int 7), (2, .ref (E.2.2.1 (116 + 6))), (0, .ref (E.2.2.1 134))]) C d_Shelf_bringCellsBack_29 (k := 1) rfl (by decide) (by decide) rfl ?_
                refine wm_goto (tgt := 2) C d_Shelf_bringCellsBack_32 (by decide) ?_
                refine wm_iload_n C d_Shelf_bringCellsBack_2 rfl (j := 0) rfl ?_
                refine wm_bipush (v := 8) C d_Shelf_bringCellsBack_3 (by decide) ?_
                refine wm_icmp_ge (tgt := 35) C d_Shelf_bringCellsBack_5 (by decide) (fun (h_5_8 : 8 ≤ 7) => ?_) (fun (h_5_8 : ¬ 8 ≤ 7) => ?_)
                · exact absurd h_5_8 (by decide)
                · refine wm_aload_n C d_Shelf_bringCellsBack_8 rfl (j := 2) rfl ?_
                  refine wm_iload_n C d_Shelf_bringCellsBack_9 rfl (j := 0) rfl ?_
                  refine wm_callV (d2 := 0) (mc := 0) (ms := 0) C mo_Shelf_slot co_Shelf ml_Shelf_20 [.int 7] [] rfl (rp_shelf hR7) rfl (by decide) (Nat.le_of_ble_eq_true rfl) (Nat.le_refl _) (Nat.le_refl _) d_Shelf_bringCellsBack_10 (cy_ki ?_)
                  refine c_slot_in hE hR7 (k := 7) (by decide) ⟨_, rfl, ?_⟩
                  refine wm_astore_n (lv' := [(2, .ref (E.2.2.1 (116 + 7))), (1, .int 7), (0, .ref (E.2.2.1 134))]) C d_Shelf_bringCellsBack_13 rfl (by decide) rfl ?_
                  refine wm_aload_n C d_Shelf_bringCellsBack_14 rfl (j := 0) rfl ?_
                  refine wm_ifnull C d_Shelf_bringCellsBack_15 ?_
                  refine wm_aload_n C d_Shelf_bringCellsBack_18 rfl (j := 0) rfl ?_
                  refine wm_getN C co_Code (rp_code hR7 (show 7 < 9 by decide)) 3 (by decide) fl_Shelf_32 rfl d_Shelf_bringCellsBack_19 ?_
                  refine wm_aload_n C d_Shelf_bringCellsBack_22 rfl (j := 0) rfl ?_
                  refine wm_getN C co_Code (rp_code hR7 (show 7 < 9 by decide)) 4 (by decide) fl_Shelf_28 rfl d_Shelf_bringCellsBack_23 ?_
                  refine wm_callVN (d2 := 1) (mc := 0) (ms := 0) C mo_Row_becomeLike co_Row ml_Shelf_35 [.ref (E.2.2.1 (2 * (9 + 4 * 7)))] [] rfl (rp_row hR7 (rb8 (show 7 < 9 by decide))) rfl (by decide) (Nat.le_of_ble_eq_true rfl) (Nat.le_refl _) (Nat.le_refl _) d_Shelf_bringCellsBack_26 (cy_kv ?_)
                  refine c_like hE hR7 (rb8 (show 7 < 9 by decide)) (rb9 (show 7 < 9 by decide)) (by omega) (fun M8 hR8 => ⟨rfl, ?_⟩)
                  refine wm_iinc (v := 8) (lv' := [(1, .int 8), (2, .ref (E.2.2.1 (116 + 7))), (0, .ref (E.2.2.1 134))]) C d_Shelf_bringCellsBack_29 (k := 1) rfl (by decide) (by decide) rfl ?_
                  refine wm_goto (tgt := 2) C d_Shelf_bringCellsBack_32 (by decide) ?_
                  refine wm_iload_n C d_Shelf_bringCellsBack_2 rfl (j := 0) rfl ?_
                  refine wm_bipush (v := 8) C d_Shelf_bringCellsBack_3 (by decide) ?_
                  refine wm_icmp_ge (tgt := 35) C d_Shelf_bringCellsBack_5 (by decide) (fun (h_5_9 : 8 ≤ 8) => ?_) (fun (h_5_9 : ¬ 8 ≤ 8) => ?_)
                  · refine wm_vret C P d_Shelf_bringCellsBack_35 ?_
                    have e : cy_Shelf_bringCellsBack s = (cy_rlike (cy_rlike (cy_rlike (cy_rlike (cy_rlike (cy_rlike (cy_rlike (cy_rlike s (8 + 4 * 0) (9 + 4 * 0)) (8 + 4 * 1) (9 + 4 * 1)) (8 + 4 * 2) (9 + 4 * 2)) (8 + 4 * 3) (9 + 4 * 3)) (8 + 4 * 4) (9 + 4 * 4)) (8 + 4 * 5) (9 + 4 * 5)) (8 + 4 * 6) (9 + 4 * 6)) (8 + 4 * 7) (9 + 4 * 7)) := by rw [cy_Shelf_bringCellsBack]
                    rw [e] at h
                    exact h _ hR8
                  · exact absurd h_5_9 (by decide)
def cy_Code_take (s : cy_S) (k : Nat) : cy_S :=
  (cy_rfill (cy_rlike (cy_rlike s (6 + 4 * k) 0) (7 + 4 * k) 2) (8 + 4 * k) 16 0)
set_option maxHeartbeats 4000000 in
theorem c_Code_take {G : cy_G} {E : cy_E} {s : cy_S} {M : cy_Hp} {post : Option Value → cy_Hp → Prop} (hE : cy_Eo G E) (hR : cy_R E s M) {k : Nat} (hk : k < 9)  (h : ∀ M', cy_R E (cy_Code_take s k) M' → post none M') : cy_Ct G 2 m_Code_take [.ref (E.2.2.1 (116 + k)), .ref (E.2.2.1 (2 * 0)), .ref (E.2.2.1 (2 * 2))] M 0 0 post := by
  refine cy_Ct.of (by decide) (Nat.le_of_ble_eq_true rfl) ?_
  intro F C P _
  have C : cy_C G F R_Code b_Code_take 3 2 0 0 := C
  have P : cy_P G F none post 0 0 := P
  show WM G F 3 0 0 0 [(0, .ref (E.2.2.1 (116 + k))), (1, .ref (E.2.2.1 (2 * 0))), (2, .ref (E.2.2.1 (2 * 2)))] [] M
  refine wm_aload_n C d_Code_take_0 rfl (j := 0) rfl ?_
  refine wm_get C co_Code (rp_code hR hk) 1 (by decide) fl_Code_20 rfl d_Code_take_1 ?_
  refine wm_aload_n C d_Code_take_4 rfl (j := 1) rfl ?_
  refine wm_callVN (d2 := 1) (mc := 0) (ms := 0) C mo_Row_becomeLike co_Row ml_Code_36 [.ref (E.2.2.1 (2 * 0))] [] rfl (rp_row hR (rb6 hk)) rfl (by decide) (Nat.le_of_ble_eq_true rfl) (Nat.le_refl _) (Nat.le_refl _) d_Code_take_5 (cy_kv ?_)
  refine c_like hE hR (rb6 hk) (by decide) (by omega) (fun M1 hR1 => ⟨rfl, ?_⟩)
  refine wm_aload_n C d_Code_take_8 rfl (j := 0) rfl ?_
  refine wm_get C co_Code (rp_code hR1 hk) 2 (by decide) fl_Code_24 rfl d_Code_take_9 ?_
  refine wm_aload_n C d_Code_take_12 rfl (j := 2) rfl ?_
  refine wm_callVN (d2 := 1) (mc := 0) (ms := 0) C mo_Row_becomeLike co_Row ml_Code_36 [.ref (E.2.2.1 (2 * 2))] [] rfl (rp_row hR1 (rb7 hk)) rfl (by decide) (Nat.le_of_ble_eq_true rfl) (Nat.le_refl _) (Nat.le_refl _) d_Code_take_13 (cy_kv ?_)
  refine c_like hE hR1 (rb7 hk) (by decide) (by omega) (fun M2 hR2 => ⟨rfl, ?_⟩)
  refine wm_aload_n C d_Code_take_16 rfl (j := 0) rfl ?_
  refine wm_get C co_Code (rp_code hR2 hk) 3 (by decide) fl_Code_27 rfl d_Code_take_17 ?_
  refine wm_bipush (v := 16) C d_Code_take_20 (by decide) ?_
  refine wm_iconst (v := 0) C d_Code_take_22 (by decide) ?_
  refine wm_callVN (d2 := 1) (mc := 0) (ms := 0) C mo_Row_become co_Row ml_Code_40 [.int 16, .int 0] [] rfl (rp_row hR2 (rb8 hk)) rfl (by decide) (Nat.le_of_ble_eq_true rfl) (Nat.le_refl _) (Nat.le_refl _) d_Code_take_23 (cy_kv ?_)
  refine c_fill hE hR2 (rb8 hk) _ _ (fun M3 hR3 => ⟨rfl, ?_⟩)
  refine wm_vret C P d_Code_take_26 ?_
  have e : cy_Code_take s k = (cy_rfill (cy_rlike (cy_rlike s (6 + 4 * k) 0) (7 + 4 * k) 2) (8 + 4 * k) 16 0) := by rw [cy_Code_take]
  rw [e] at h
  exact h _ hR3
def cy_Run_start (s : cy_S) (k : Nat) (b : Int32) : cy_S :=
  if (cy_Run_isHeld s) = 0 then
    (cy_s_done (cy_s_reason (cy_s_result (cy_s_status (cy_s_begun (cy_s_work (cy_Frame_enter (cy_rcut (cy_rlike (cy_Shelf_keepCells s) 4 0) 5 0) 0 k b) 0) 1) 1) 0) 0) 0)
  else
    (cy_s_done (cy_s_reason (cy_s_result (cy_s_status (cy_s_begun (cy_s_work (cy_Frame_enter (cy_rcut (cy_rlike (cy_Shelf_keepCells (cy_Shelf_bringCellsBack s)) 4 0) 5 0) 0 k b) 0) 1) 1) 0) 0) 0)
set_option maxHeartbeats 4000000 in
theorem c_Run_start {G : cy_G} {E : cy_E} {s : cy_S} {M : cy_Hp} {post : Option Value → cy_Hp → Prop} (hE : cy_Eo G E) (hR : cy_R E s M)  {k : Nat} (hk : k < 9) (b : Int32) (h : ∀ M', cy_R E (cy_Run_start s k b) M' → post none M') : cy_Ct G 3 m_Run_start [.ref (E.2.2.1 136), .ref (E.2.2.1 (116 + k)), .int b, .ref (E.2.2.1 (2 * 0))] M 0 0 post := by
  refine cy_Ct.of (by decide) (Nat.le_of_ble_eq_true rfl) ?_
  intro F C P _
  have C : cy_C G F R_Run b_Run_start 4 3 0 0 := C
  have P : cy_P G F none post 0 0 := P
  show WM G F 4 0 0 0 [(0, .ref (E.2.2.1 136)), (1, .ref (E.2.2.1 (116 + k))), (2, .int b), (3, .ref (E.2.2.1 (2 * 0)))] [] M
  refine wm_aload_n C d_Run_start_0 rfl (j := 0) rfl ?_
  refine wm_callV (d2 := 0) (mc := 0) (ms := 0) C mo_Run_isHeld co_Run ml_Run_53 [] [] rfl (rp_run hR) rfl (by decide) (Nat.le_of_ble_eq_true rfl) (Nat.le_refl _) (Nat.le_refl _) d_Run_start_1 (cy_ki ?_)
  refine c_Run_isHeld hE hR   ⟨_, rfl, ?_⟩
  refine wm_if_eq (tgt := 14) C d_Run_start_4 (by decide) (fun (h_4 : (cy_Run_isHeld s) = 0) => ?_) (fun (h_4 : ¬ (cy_Run_isHeld s) = 0) => ?_)
  · refine wm_aload_n C d_Run_start_14 rfl (j := 0) rfl ?_
    refine wm_get C co_Run (rp_run hR) 0 (by decide) fl_Run_9 rfl d_Run_start_15 ?_
    refine wm_callVN (d2 := 2) (mc := 0) (ms := 0) C mo_Shelf_keepCells co_Shelf ml_Run_62 [] [] rfl (rp_shelf hR) rfl (by decide) (Nat.le_of_ble_eq_true rfl) (Nat.le_refl _) (Nat.le_refl _) d_Run_start_18 (cy_kv ?_)
    refine c_Shelf_keepCells hE hR   (fun M1 hR1 => ⟨rfl, ?_⟩)
    refine wm_aload_n C d_Run_start_21 rfl (j := 0) rfl ?_
    refine wm_get C co_Run (rp_run hR1) 2 (by decide) fl_Run_20 rfl d_Run_start_22 ?_
    refine wm_aload_n C d_Run_start_25 rfl (j := 3) rfl ?_
    refine wm_callVN (d2 := 1) (mc := 0) (ms := 0) C mo_Row_becomeLike co_Row ml_Run_65 [.ref (E.2.2.1 (2 * 0))] [] rfl (rp_row hR1 (by decide)) rfl (by decide) (Nat.le_of_ble_eq_true rfl) (Nat.le_refl _) (Nat.le_refl _) d_Run_start_26 (cy_kv ?_)
    refine c_like hE hR1 (by decide) (by decide) (by omega) (fun M2 hR2 => ⟨rfl, ?_⟩)
    refine wm_aload_n C d_Run_start_29 rfl (j := 0) rfl ?_
    refine wm_get C co_Run (rp_run hR2) 3 (by decide) fl_Run_24 rfl d_Run_start_30 ?_
    refine wm_iconst (v := 0) C d_Run_start_33 (by decide) ?_
    refine wm_callVN (d2 := 1) (mc := 0) (ms := 0) C mo_Row_shorten co_Row ml_Run_69 [.int 0] [] rfl (rp_row hR2 (by decide)) rfl (by decide) (Nat.le_of_ble_eq_true rfl) (Nat.le_refl _) (Nat.le_refl _) d_Run_start_34 (cy_kv ?_)
    refine c_cut hE hR2 (by decide) _ (fun M3 hR3 => ⟨rfl, ?_⟩)
    refine wm_aload_n C d_Run_start_37 rfl (j := 0) rfl ?_
    refine wm_get C co_Run (rp_run hR3) 1 (by decide) fl_Run_35 rfl d_Run_start_38 ?_
    refine wm_aload_n C d_Run_start_41 rfl (j := 1) rfl ?_
    refine wm_iload_n C d_Run_start_42 rfl (j := 2) rfl ?_
    refine wm_callVN (d2 := 2) (mc := 0) (ms := 0) C mo_Frame_enter co_Frame ml_Run_72 [.ref (E.2.2.1 (116 + k)), .int b] [] rfl (rp_frame hR3 (show 0 < 8 by decide)) rfl (by decide) (Nat.le_of_ble_eq_true rfl) (Nat.le_refl _) (Nat.le_refl _) d_Run_start_43 (cy_kv ?_)
    refine c_Frame_enter hE hR3 (show 0 < 8 by decide) hk _ (fun M4 hR4 => ⟨rfl, ?_⟩)
    refine wm_aload_n C d_Run_start_46 rfl (j := 0) rfl ?_
    refine wm_aload_n C d_Run_start_47 rfl (j := 0) rfl ?_
    refine wm_get C co_Run (rp_run hR4) 1 (by decide) fl_Run_35 rfl d_Run_start_48 ?_
    refine wm_put C co_Run (rp_run hR4) 4 (by decide) fl_Run_39 rfl rfl rfl (Nat.le_of_ble_eq_true rfl) d_Run_start_51 ?_
    refine wm_gen (rp_p_work hE hR4 (show 0 < 8 by decide)) (fun M5 hR5 => ?_)
    refine wm_aload_n C d_Run_start_54 rfl (j := 0) rfl ?_
    refine wm_iconst (v := 1) C d_Run_start_55 (by decide) ?_
    refine wm_put C co_Run (rp_run hR5) 5 (by decide) fl_Run_45 rfl rfl rfl (Nat.le_of_ble_eq_true rfl) d_Run_start_56 ?_
    refine wm_gen (rp_p_begun hE hR5 1) (fun M6 hR6 => ?_)
    refine wm_aload_n C d_Run_start_59 rfl (j := 0) rfl ?_
    refine wm_iconst (v := 1) C d_Run_start_60 (by decide) ?_
    refine wm_put C co_Run (rp_run hR6) 6 (by decide) fl_Run_49 rfl rfl rfl (Nat.le_of_ble_eq_true rfl) d_Run_start_61 ?_
    refine wm_gen (rp_p_status hE hR6 1) (fun M7 hR7 => ?_)
    refine wm_aload_n C d_Run_start_64 rfl (j := 0) rfl ?_
    refine wm_iconst (v := 0) C d_Run_start_65 (by decide) ?_
    refine wm_put C co_Run (rp_run hR7) 7 (by decide) fl_Run_76 rfl rfl rfl (Nat.le_of_ble_eq_true rfl) d_Run_start_66 ?_
    refine wm_gen (rp_p_result hE hR7 0) (fun M8 hR8 => ?_)
    refine wm_aload_n C d_Run_start_69 rfl (j := 0) rfl ?_
    refine wm_iconst (v := 0) C d_Run_start_70 (by decide) ?_
    refine wm_put C co_Run (rp_run hR8) 8 (by decide) fl_Run_79 rfl rfl rfl (Nat.le_of_ble_eq_true rfl) d_Run_start_71 ?_
    refine wm_gen (rp_p_reason hE hR8 0) (fun M9 hR9 => ?_)
    refine wm_aload_n C d_Run_start_74 rfl (j := 0) rfl ?_
    refine wm_iconst (v := 0) C d_Run_start_75 (by decide) ?_
    refine wm_put C co_Run (rp_run hR9) 9 (by decide) fl_Run_82 rfl rfl rfl (Nat.le_of_ble_eq_true rfl) d_Run_start_76 ?_
    refine wm_gen (rp_p_done hE hR9 0) (fun M10 hR10 => ?_)
    refine wm_vret C P d_Run_start_79 ?_
    have e : cy_Run_start s k b = (cy_s_done (cy_s_reason (cy_s_result (cy_s_status (cy_s_begun (cy_s_work (cy_Frame_enter (cy_rcut (cy_rlike (cy_Shelf_keepCells s) 4 0) 5 0) 0 k b) 0) 1) 1) 0) 0) 0) := by rw [cy_Run_start, if_pos h_4]
    rw [e] at h
    exact h _ hR10
  · refine wm_aload_n C d_Run_start_7 rfl (j := 0) rfl ?_
    refine wm_get C co_Run (rp_run hR) 0 (by decide) fl_Run_9 rfl d_Run_start_8 ?_
    refine wm_callVN (d2 := 2) (mc := 0) (ms := 0) C mo_Shelf_bringCellsBack co_Shelf ml_Run_57 [] [] rfl (rp_shelf hR) rfl (by decide) (Nat.le_of_ble_eq_true rfl) (Nat.le_refl _) (Nat.le_refl _) d_Run_start_11 (cy_kv ?_)
    refine c_Shelf_bringCellsBack hE hR   (fun M11 hR11 => ⟨rfl, ?_⟩)
    refine wm_aload_n C d_Run_start_14 rfl (j := 0) rfl ?_
    refine wm_get C co_Run (rp_run hR11) 0 (by decide) fl_Run_9 rfl d_Run_start_15 ?_
    refine wm_callVN (d2 := 2) (mc := 0) (ms := 0) C mo_Shelf_keepCells co_Shelf ml_Run_62 [] [] rfl (rp_shelf hR11) rfl (by decide) (Nat.le_of_ble_eq_true rfl) (Nat.le_refl _) (Nat.le_refl _) d_Run_start_18 (cy_kv ?_)
    refine c_Shelf_keepCells hE hR11   (fun M12 hR12 => ⟨rfl, ?_⟩)
    refine wm_aload_n C d_Run_start_21 rfl (j := 0) rfl ?_
    refine wm_get C co_Run (rp_run hR12) 2 (by decide) fl_Run_20 rfl d_Run_start_22 ?_
    refine wm_aload_n C d_Run_start_25 rfl (j := 3) rfl ?_
    refine wm_callVN (d2 := 1) (mc := 0) (ms := 0) C mo_Row_becomeLike co_Row ml_Run_65 [.ref (E.2.2.1 (2 * 0))] [] rfl (rp_row hR12 (by decide)) rfl (by decide) (Nat.le_of_ble_eq_true rfl) (Nat.le_refl _) (Nat.le_refl _) d_Run_start_26 (cy_kv ?_)
    refine c_like hE hR12 (by decide) (by decide) (by omega) (fun M13 hR13 => ⟨rfl, ?_⟩)
    refine wm_aload_n C d_Run_start_29 rfl (j := 0) rfl ?_
    refine wm_get C co_Run (rp_run hR13) 3 (by decide) fl_Run_24 rfl d_Run_start_30 ?_
    refine wm_iconst (v := 0) C d_Run_start_33 (by decide) ?_
    refine wm_callVN (d2 := 1) (mc := 0) (ms := 0) C mo_Row_shorten co_Row ml_Run_69 [.int 0] [] rfl (rp_row hR13 (by decide)) rfl (by decide) (Nat.le_of_ble_eq_true rfl) (Nat.le_refl _) (Nat.le_refl _) d_Run_start_34 (cy_kv ?_)
    refine c_cut hE hR13 (by decide) _ (fun M14 hR14 => ⟨rfl, ?_⟩)
    refine wm_aload_n C d_Run_start_37 rfl (j := 0) rfl ?_
    refine wm_get C co_Run (rp_run hR14) 1 (by decide) fl_Run_35 rfl d_Run_start_38 ?_
    refine wm_aload_n C d_Run_start_41 rfl (j := 1) rfl ?_
    refine wm_iload_n C d_Run_start_42 rfl (j := 2) rfl ?_
    refine wm_callVN (d2 := 2) (mc := 0) (ms := 0) C mo_Frame_enter co_Frame ml_Run_72 [.ref (E.2.2.1 (116 + k)), .int b] [] rfl (rp_frame hR14 (show 0 < 8 by decide)) rfl (by decide) (Nat.le_of_ble_eq_true rfl) (Nat.le_refl _) (Nat.le_refl _) d_Run_start_43 (cy_kv ?_)
    refine c_Frame_enter hE hR14 (show 0 < 8 by decide) hk _ (fun M15 hR15 => ⟨rfl, ?_⟩)
    refine wm_aload_n C d_Run_start_46 rfl (j := 0) rfl ?_
    refine wm_aload_n C d_Run_start_47 rfl (j := 0) rfl ?_
    refine wm_get C co_Run (rp_run hR15) 1 (by decide) fl_Run_35 rfl d_Run_start_48 ?_
    refine wm_put C co_Run (rp_run hR15) 4 (by decide) fl_Run_39 rfl rfl rfl (Nat.le_of_ble_eq_true rfl) d_Run_start_51 ?_
    refine wm_gen (rp_p_work hE hR15 (show 0 < 8 by decide)) (fun M16 hR16 => ?_)
    refine wm_aload_n C d_Run_start_54 rfl (j := 0) rfl ?_
    refine wm_iconst (v := 1) C d_Run_start_55 (by decide) ?_
    refine wm_put C co_Run (rp_run hR16) 5 (by decide) fl_Run_45 rfl rfl rfl (Nat.le_of_ble_eq_true rfl) d_Run_start_56 ?_
    refine wm_gen (rp_p_begun hE hR16 1) (fun M17 hR17 => ?_)
    refine wm_aload_n C d_Run_start_59 rfl (j := 0) rfl ?_
    refine wm_iconst (v := 1) C d_Run_start_60 (by decide) ?_
    refine wm_put C co_Run (rp_run hR17) 6 (by decide) fl_Run_49 rfl rfl rfl (Nat.le_of_ble_eq_true rfl) d_Run_start_61 ?_
    refine wm_gen (rp_p_status hE hR17 1) (fun M18 hR18 => ?_)
    refine wm_aload_n C d_Run_start_64 rfl (j := 0) rfl ?_
    refine wm_iconst (v := 0) C d_Run_start_65 (by decide) ?_
    refine wm_put C co_Run (rp_run hR18) 7 (by decide) fl_Run_76 rfl rfl rfl (Nat.le_of_ble_eq_true rfl) d_Run_start_66 ?_
    refine wm_gen (rp_p_result hE hR18 0) (fun M19 hR19 => ?_)
    refine wm_aload_n C d_Run_start_69 rfl (j := 0) rfl ?_
    refine wm_iconst (v := 0) C d_Run_start_70 (by decide) ?_
    refine wm_put C co_Run (rp_run hR19) 8 (by decide) fl_Run_79 rfl rfl rfl (Nat.le_of_ble_eq_true rfl) d_Run_start_71 ?_
    refine wm_gen (rp_p_reason hE hR19 0) (fun M20 hR20 => ?_)
    refine wm_aload_n C d_Run_start_74 rfl (j := 0) rfl ?_
    refine wm_iconst (v := 0) C d_Run_start_75 (by decide) ?_
    refine wm_put C co_Run (rp_run hR20) 9 (by decide) fl_Run_82 rfl rfl rfl (Nat.le_of_ble_eq_true rfl) d_Run_start_76 ?_
    refine wm_gen (rp_p_done hE hR20 0) (fun M21 hR21 => ?_)
    refine wm_vret C P d_Run_start_79 ?_
    have e : cy_Run_start s k b = (cy_s_done (cy_s_reason (cy_s_result (cy_s_status (cy_s_begun (cy_s_work (cy_Frame_enter (cy_rcut (cy_rlike (cy_Shelf_keepCells (cy_Shelf_bringCellsBack s)) 4 0) 5 0) 0 k b) 0) 1) 1) 0) 0) 0) := by rw [cy_Run_start, if_neg h_4]
    rw [e] at h
    exact h _ hR21
def cy_Yard_addBytes (s : cy_S) (four : Int32) : cy_S :=
  (cy_radd (cy_radd (cy_radd (cy_radd s 0 (((four.toUInt32 >>> ((24 : Int32).toUInt32 &&& Int32.toUInt32 31)).toInt32) &&& 255)) 0 (((four.toUInt32 >>> ((16 : Int32).toUInt32 &&& Int32.toUInt32 31)).toInt32) &&& 255)) 0 (((four.toUInt32 >>> ((8 : Int32).toUInt32 &&& Int32.toUInt32 31)).toInt32) &&& 255)) 0 (((four.toUInt32 >>> ((0 : Int32).toUInt32 &&& Int32.toUInt32 31)).toInt32) &&& 255))
set_option maxHeartbeats 4000000 in
theorem c_Yard_addBytes {G : cy_G} {E : cy_E} {s : cy_S} {M : cy_Hp} {post : Option Value → cy_Hp → Prop} (hE : cy_Eo G E) (hR : cy_R E s M)  (four : Int32) (h : ∀ M', cy_R E (cy_Yard_addBytes s four) M' → post none M') : cy_Ct G 1 m_Yard_addBytes [.ref (E.2.2.1 133), .int four] M 0 0 post := by
  refine cy_Ct.of (by decide) (Nat.le_of_ble_eq_true rfl) ?_
  intro F C P _
  have C : cy_C G F R_Yard b_Yard_addBytes 3 1 0 0 := C
  have P : cy_P G F none post 0 0 := P
  show WM G F 3 0 0 0 [(0, .ref (E.2.2.1 133)), (1, .int four)] [] M
  refine wm_bipush (v := 24) C d_Yard_addBytes_0 (by decide) ?_
  refine wm_istore_n (lv' := [(2, .int 24), (0, .ref (E.2.2.1 133)), (1, .int four)]) C d_Yard_addBytes_2 rfl (by decide) rfl ?_
  refine wm_iload_n C d_Yard_addBytes_3 rfl (j := 0) rfl ?_
  refine wm_if_lt (tgt := 27) C d_Yard_addBytes_4 (by decide) (fun (h_4 : 24 < 0) => ?_) (fun (h_4 : ¬ 24 < 0) => ?_)
  · exact absurd h_4 (by decide)
  · refine wm_aload_n C d_Yard_addBytes_7 rfl (j := 1) rfl ?_
    refine wm_get C co_Yard (rp_yard hR) 0 (by decide) fl_Yard_14 rfl d_Yard_addBytes_8 ?_
    refine wm_iload_n C d_Yard_addBytes_11 rfl (j := 2) rfl ?_
    refine wm_iload_n C d_Yard_addBytes_12 rfl (j := 0) rfl ?_
    refine wm_iushr C d_Yard_addBytes_13 rfl ?_
    refine wm_sipush (v := 255) C d_Yard_addBytes_14 (by decide) ?_
    refine wm_iand C d_Yard_addBytes_17 ?_
    refine wm_callVN (d2 := 0) (mc := 0) (ms := 0) C mo_Row_add co_Row ml_Yard_48 [.int (((four.toUInt32 >>> ((24 : Int32).toUInt32 &&& Int32.toUInt32 31)).toInt32) &&& 255)] [] rfl (rp_row hR (by decide)) rfl (by decide) (Nat.le_of_ble_eq_true rfl) (Nat.le_refl _) (Nat.le_refl _) d_Yard_addBytes_18 (cy_kv ?_)
    refine c_add hE hR (by decide) _ (fun M1 hR1 => ⟨rfl, ?_⟩)
    refine wm_iinc (v := 16) (lv' := [(2, .int 16), (0, .ref (E.2.2.1 133)), (1, .int four)]) C d_Yard_addBytes_21 (k := 0) rfl (by decide) (by decide) rfl ?_
    refine wm_goto (tgt := 3) C d_Yard_addBytes_24 (by decide) ?_
    refine wm_iload_n C d_Yard_addBytes_3 rfl (j := 0) rfl ?_
    refine wm_if_lt (tgt := 27) C d_Yard_addBytes_4 (by decide) (fun (h_4_2 : 16 < 0) => ?_) (fun (h_4_2 : ¬ 16 < 0) => ?_)
    · exact absurd h_4_2 (by decide)
    · refine wm_aload_n C d_Yard_addBytes_7 rfl (j := 1) rfl ?_
      refine wm_get C co_Yard (rp_yard hR1) 0 (by decide) fl_Yard_14 rfl d_Yard_addBytes_8 ?_
      refine wm_iload_n C d_Yard_addBytes_11 rfl (j := 2) rfl ?_
      refine wm_iload_n C d_Yard_addBytes_12 rfl (j := 0) rfl ?_
      refine wm_iushr C d_Yard_addBytes_13 rfl ?_
      refine wm_sipush (v := 255) C d_Yard_addBytes_14 (by decide) ?_
      refine wm_iand C d_Yard_addBytes_17 ?_
      refine wm_callVN (d2 := 0) (mc := 0) (ms := 0) C mo_Row_add co_Row ml_Yard_48 [.int (((four.toUInt32 >>> ((16 : Int32).toUInt32 &&& Int32.toUInt32 31)).toInt32) &&& 255)] [] rfl (rp_row hR1 (by decide)) rfl (by decide) (Nat.le_of_ble_eq_true rfl) (Nat.le_refl _) (Nat.le_refl _) d_Yard_addBytes_18 (cy_kv ?_)
      refine c_add hE hR1 (by decide) _ (fun M2 hR2 => ⟨rfl, ?_⟩)
      refine wm_iinc (v := 8) (lv' := [(2, .int 8), (0, .ref (E.2.2.1 133)), (1, .int four)]) C d_Yard_addBytes_21 (k := 0) rfl (by decide) (by decide) rfl ?_
      refine wm_goto (tgt := 3) C d_Yard_addBytes_24 (by decide) ?_
      refine wm_iload_n C d_Yard_addBytes_3 rfl (j := 0) rfl ?_
      refine wm_if_lt (tgt := 27) C d_Yard_addBytes_4 (by decide) (fun (h_4_3 : 8 < 0) => ?_) (fun (h_4_3 : ¬ 8 < 0) => ?_)
      · exact absurd h_4_3 (by decide)
      · refine wm_aload_n C d_Yard_addBytes_7 rfl (j := 1) rfl ?_
        refine wm_get C co_Yard (rp_yard hR2) 0 (by decide) fl_Yard_14 rfl d_Yard_addBytes_8 ?_
        refine wm_iload_n C d_Yard_addBytes_11 rfl (j := 2) rfl ?_
        refine wm_iload_n C d_Yard_addBytes_12 rfl (j := 0) rfl ?_
        refine wm_iushr C d_Yard_addBytes_13 rfl ?_
        refine wm_sipush (v := 255) C d_Yard_addBytes_14 (by decide) ?_
        refine wm_iand C d_Yard_addBytes_17 ?_
        refine wm_callVN (d2 := 0) (mc := 0) (ms := 0) C mo_Row_add co_Row ml_Yard_48 [.int (((four.toUInt32 >>> ((8 : Int32).toUInt32 &&& Int32.toUInt32 31)).toInt32) &&& 255)] [] rfl (rp_row hR2 (by decide)) rfl (by decide) (Nat.le_of_ble_eq_true rfl) (Nat.le_refl _) (Nat.le_refl _) d_Yard_addBytes_18 (cy_kv ?_)
        refine c_add hE hR2 (by decide) _ (fun M3 hR3 => ⟨rfl, ?_⟩)
        refine wm_iinc (v := 0) (lv' := [(2, .int 0), (0, .ref (E.2.2.1 133)), (1, .int four)]) C d_Yard_addBytes_21 (k := 0) rfl (by decide) (by decide) rfl ?_
        refine wm_goto (tgt := 3) C d_Yard_addBytes_24 (by decide) ?_
        refine wm_iload_n C d_Yard_addBytes_3 rfl (j := 0) rfl ?_
        refine wm_if_lt (tgt := 27) C d_Yard_addBytes_4 (by decide) (fun (h_4_4 : 0 < 0) => ?_) (fun (h_4_4 : ¬ 0 < 0) => ?_)
        · exact absurd h_4_4 (by decide)
        · refine wm_aload_n C d_Yard_addBytes_7 rfl (j := 1) rfl ?_
          refine wm_get C co_Yard (rp_yard hR3) 0 (by decide) fl_Yard_14 rfl d_Yard_addBytes_8 ?_
          refine wm_iload_n C d_Yard_addBytes_11 rfl (j := 2) rfl ?_
          refine wm_iload_n C d_Yard_addBytes_12 rfl (j := 0) rfl ?_
          refine wm_iushr C d_Yard_addBytes_13 rfl ?_
          refine wm_sipush (v := 255) C d_Yard_addBytes_14 (by decide) ?_
          refine wm_iand C d_Yard_addBytes_17 ?_
          refine wm_callVN (d2 := 0) (mc := 0) (ms := 0) C mo_Row_add co_Row ml_Yard_48 [.int (((four.toUInt32 >>> ((0 : Int32).toUInt32 &&& Int32.toUInt32 31)).toInt32) &&& 255)] [] rfl (rp_row hR3 (by decide)) rfl (by decide) (Nat.le_of_ble_eq_true rfl) (Nat.le_refl _) (Nat.le_refl _) d_Yard_addBytes_18 (cy_kv ?_)
          refine c_add hE hR3 (by decide) _ (fun M4 hR4 => ⟨rfl, ?_⟩)
          refine wm_iinc (v := (-8)) (lv' := [(2, .int (-8)), (0, .ref (E.2.2.1 133)), (1, .int four)]) C d_Yard_addBytes_21 (k := 0) rfl (by decide) (by decide) rfl ?_
          refine wm_goto (tgt := 3) C d_Yard_addBytes_24 (by decide) ?_
          refine wm_iload_n C d_Yard_addBytes_3 rfl (j := 0) rfl ?_
          refine wm_if_lt (tgt := 27) C d_Yard_addBytes_4 (by decide) (fun (h_4_5 : (-8) < 0) => ?_) (fun (h_4_5 : ¬ (-8) < 0) => ?_)
          · refine wm_vret C P d_Yard_addBytes_27 ?_
            have e : cy_Yard_addBytes s four = (cy_radd (cy_radd (cy_radd (cy_radd s 0 (((four.toUInt32 >>> ((24 : Int32).toUInt32 &&& Int32.toUInt32 31)).toInt32) &&& 255)) 0 (((four.toUInt32 >>> ((16 : Int32).toUInt32 &&& Int32.toUInt32 31)).toInt32) &&& 255)) 0 (((four.toUInt32 >>> ((8 : Int32).toUInt32 &&& Int32.toUInt32 31)).toInt32) &&& 255)) 0 (((four.toUInt32 >>> ((0 : Int32).toUInt32 &&& Int32.toUInt32 31)).toInt32) &&& 255)) := by rw [cy_Yard_addBytes]
            rw [e] at h
            exact h _ hR4
          · exact absurd h_4_5 (by decide)
def cy_Yard_feed (s : cy_S) (a : Int32) (b : Int32) (c : Int32) (d : Int32) (e : Int32) : Int32 × cy_S :=
  if ((nI (s.1 0).length) + 20) ≤ 300 then
    (nI ((cy_Yard_addBytes (cy_Yard_addBytes (cy_Yard_addBytes (cy_Yard_addBytes (cy_Yard_addBytes s a) b) c) d) e).1 0).length, (cy_Yard_addBytes (cy_Yard_addBytes (cy_Yard_addBytes (cy_Yard_addBytes (cy_Yard_addBytes s a) b) c) d) e))
  else
    ((-1), s)
set_option maxHeartbeats 4000000 in
theorem c_Yard_feed {G : cy_G} {E : cy_E} {s : cy_S} {M : cy_Hp} {post : Option Value → cy_Hp → Prop} (hE : cy_Eo G E) (hR : cy_R E s M)  (a : Int32) (b : Int32) (c : Int32) (d : Int32) (e : Int32) (h : ∀ M', cy_R E (cy_Yard_feed s a b c d e).2 M' → post (some (.int (cy_Yard_feed s a b c d e).1)) M') : cy_Ct G 2 m_Yard_feed [.ref (E.2.2.1 133), .int a, .int b, .int c, .int d, .int e] M 0 0 post := by
  refine cy_Ct.of (by decide) (Nat.le_of_ble_eq_true rfl) ?_
  intro F C P _
  have C : cy_C G F R_Yard b_Yard_feed 6 2 0 0 := C
  have P : cy_P G F (some .int) post 0 0 := P
  show WM G F 6 0 0 0 [(0, .ref (E.2.2.1 133)), (1, .int a), (2, .int b), (3, .int c), (4, .int d), (5, .int e)] [] M
  refine wm_aload_n C d_Yard_feed_0 rfl (j := 0) rfl ?_
  refine wm_get C co_Yard (rp_yard hR) 0 (by decide) fl_Yard_14 rfl d_Yard_feed_1 ?_
  refine wm_getN C co_Row (rp_row hR (by decide)) 1 (by decide) fl_Yard_41 rfl d_Yard_feed_4 ?_
  refine wm_bipush (v := 20) C d_Yard_feed_7 (by decide) ?_
  refine wm_iadd C d_Yard_feed_9 ?_
  refine wm_sipush (v := 300) C d_Yard_feed_10 (by decide) ?_
  refine wm_icmp_le (tgt := 18) C d_Yard_feed_13 (by decide) (fun (h_13 : ((nI (s.1 0).length) + 20) ≤ 300) => ?_) (fun (h_13 : ¬ ((nI (s.1 0).length) + 20) ≤ 300) => ?_)
  · refine wm_aload_n C d_Yard_feed_18 rfl (j := 0) rfl ?_
    refine wm_iload_n C d_Yard_feed_19 rfl (j := 1) rfl ?_
    refine wm_callV (d2 := 1) (mc := 0) (ms := 0) C mo_Yard_addBytes co_Yard ml_Yard_45 [.int a] [] rfl (rp_yard hR) rfl (by decide) (Nat.le_of_ble_eq_true rfl) (Nat.le_refl _) (Nat.le_refl _) d_Yard_feed_20 (cy_kv ?_)
    refine c_Yard_addBytes hE hR  _ (fun M1 hR1 => ⟨rfl, ?_⟩)
    refine wm_aload_n C d_Yard_feed_23 rfl (j := 0) rfl ?_
    refine wm_iload_n C d_Yard_feed_24 rfl (j := 2) rfl ?_
    refine wm_callV (d2 := 1) (mc := 0) (ms := 0) C mo_Yard_addBytes co_Yard ml_Yard_45 [.int b] [] rfl (rp_yard hR1) rfl (by decide) (Nat.le_of_ble_eq_true rfl) (Nat.le_refl _) (Nat.le_refl _) d_Yard_feed_25 (cy_kv ?_)
    refine c_Yard_addBytes hE hR1  _ (fun M2 hR2 => ⟨rfl, ?_⟩)
    refine wm_aload_n C d_Yard_feed_28 rfl (j := 0) rfl ?_
    refine wm_iload_n C d_Yard_feed_29 rfl (j := 3) rfl ?_
    refine wm_callV (d2 := 1) (mc := 0) (ms := 0) C mo_Yard_addBytes co_Yard ml_Yard_45 [.int c] [] rfl (rp_yard hR2) rfl (by decide) (Nat.le_of_ble_eq_true rfl) (Nat.le_refl _) (Nat.le_refl _) d_Yard_feed_30 (cy_kv ?_)
    refine c_Yard_addBytes hE hR2  _ (fun M3 hR3 => ⟨rfl, ?_⟩)
    refine wm_aload_n C d_Yard_feed_33 rfl (j := 0) rfl ?_
    refine wm_iload C d_Yard_feed_34 (j := 4) rfl ?_
    refine wm_callV (d2 := 1) (mc := 0) (ms := 0) C mo_Yard_addBytes co_Yard ml_Yard_45 [.int d] [] rfl (rp_yard hR3) rfl (by decide) (Nat.le_of_ble_eq_true rfl) (Nat.le_refl _) (Nat.le_refl _) d_Yard_feed_36 (cy_kv ?_)
    refine c_Yard_addBytes hE hR3  _ (fun M4 hR4 => ⟨rfl, ?_⟩)
    refine wm_aload_n C d_Yard_feed_39 rfl (j := 0) rfl ?_
    refine wm_iload C d_Yard_feed_40 (j := 5) rfl ?_
    refine wm_callV (d2 := 1) (mc := 0) (ms := 0) C mo_Yard_addBytes co_Yard ml_Yard_45 [.int e] [] rfl (rp_yard hR4) rfl (by decide) (Nat.le_of_ble_eq_true rfl) (Nat.le_refl _) (Nat.le_refl _) d_Yard_feed_42 (cy_kv ?_)
    refine c_Yard_addBytes hE hR4  _ (fun M5 hR5 => ⟨rfl, ?_⟩)
    refine wm_aload_n C d_Yard_feed_45 rfl (j := 0) rfl ?_
    refine wm_get C co_Yard (rp_yard hR5) 0 (by decide) fl_Yard_14 rfl d_Yard_feed_46 ?_
    refine wm_getN C co_Row (rp_row hR5 (by decide)) 1 (by decide) fl_Yard_41 rfl d_Yard_feed_49 ?_
    refine wm_iret C P d_Yard_feed_52 ?_
    have e : cy_Yard_feed s a b c d e = (nI ((cy_Yard_addBytes (cy_Yard_addBytes (cy_Yard_addBytes (cy_Yard_addBytes (cy_Yard_addBytes s a) b) c) d) e).1 0).length, (cy_Yard_addBytes (cy_Yard_addBytes (cy_Yard_addBytes (cy_Yard_addBytes (cy_Yard_addBytes s a) b) c) d) e)) := by rw [cy_Yard_feed, if_pos h_13]
    rw [e] at h
    exact h _ hR5
  · refine wm_iconst (v := -1) C d_Yard_feed_16 (by decide) ?_
    refine wm_iret C P d_Yard_feed_17 ?_
    have e : cy_Yard_feed s a b c d e = ((-1), s) := by rw [cy_Yard_feed, if_neg h_13]
    rw [e] at h
    exact h _ hR
def cy_Yard_end (s : cy_S) (n : Int32) : Int32 × cy_S :=
  if n < 0 then
    ((-1), s)
  else
    if n ≤ (nI (s.1 0).length) then
      (n, (cy_rcut s 0 n))
    else
      ((-1), s)
set_option maxHeartbeats 4000000 in
theorem c_Yard_end {G : cy_G} {E : cy_E} {s : cy_S} {M : cy_Hp} {post : Option Value → cy_Hp → Prop} (hE : cy_Eo G E) (hR : cy_R E s M)  (n : Int32) (h : ∀ M', cy_R E (cy_Yard_end s n).2 M' → post (some (.int (cy_Yard_end s n).1)) M') : cy_Ct G 2 m_Yard_end [.ref (E.2.2.1 133), .int n] M 0 0 post := by
  refine cy_Ct.of (by decide) (Nat.le_of_ble_eq_true rfl) ?_
  intro F C P _
  have C : cy_C G F R_Yard b_Yard_end 2 2 0 0 := C
  have P : cy_P G F (some .int) post 0 0 := P
  show WM G F 2 0 0 0 [(0, .ref (E.2.2.1 133)), (1, .int n)] [] M
  refine wm_iload_n C d_Yard_end_0 rfl (j := 1) rfl ?_
  refine wm_if_lt (tgt := 15) C d_Yard_end_1 (by decide) (fun (h_1 : n < 0) => ?_) (fun (h_1 : ¬ n < 0) => ?_)
  · refine wm_iconst (v := -1) C d_Yard_end_15 (by decide) ?_
    refine wm_iret C P d_Yard_end_16 ?_
    have e : cy_Yard_end s n = ((-1), s) := by rw [cy_Yard_end, if_pos h_1]
    rw [e] at h
    exact h _ hR
  · refine wm_iload_n C d_Yard_end_4 rfl (j := 1) rfl ?_
    refine wm_aload_n C d_Yard_end_5 rfl (j := 0) rfl ?_
    refine wm_get C co_Yard (rp_yard hR) 0 (by decide) fl_Yard_14 rfl d_Yard_end_6 ?_
    refine wm_getN C co_Row (rp_row hR (by decide)) 1 (by decide) fl_Yard_41 rfl d_Yard_end_9 ?_
    refine wm_icmp_le (tgt := 17) C d_Yard_end_12 (by decide) (fun (h_12 : n ≤ (nI (s.1 0).length)) => ?_) (fun (h_12 : ¬ n ≤ (nI (s.1 0).length)) => ?_)
    · refine wm_aload_n C d_Yard_end_17 rfl (j := 0) rfl ?_
      refine wm_get C co_Yard (rp_yard hR) 0 (by decide) fl_Yard_14 rfl d_Yard_end_18 ?_
      refine wm_iload_n C d_Yard_end_21 rfl (j := 1) rfl ?_
      refine wm_callVN (d2 := 1) (mc := 0) (ms := 0) C mo_Row_shorten co_Row ml_Yard_51 [.int n] [] rfl (rp_row hR (by decide)) rfl (by decide) (Nat.le_of_ble_eq_true rfl) (Nat.le_refl _) (Nat.le_refl _) d_Yard_end_22 (cy_kv ?_)
      refine c_cut hE hR (by decide) _ (fun M1 hR1 => ⟨rfl, ?_⟩)
      refine wm_iload_n C d_Yard_end_25 rfl (j := 1) rfl ?_
      refine wm_iret C P d_Yard_end_26 ?_
      have e : cy_Yard_end s n = (n, (cy_rcut s 0 n)) := by rw [cy_Yard_end, if_neg h_1, if_pos h_12]
      rw [e] at h
      exact h _ hR1
    · refine wm_iconst (v := -1) C d_Yard_end_15 (by decide) ?_
      refine wm_iret C P d_Yard_end_16 ?_
      have e : cy_Yard_end s n = ((-1), s) := by rw [cy_Yard_end, if_neg h_1, if_neg h_12]
      rw [e] at h
      exact h _ hR
def cy_Yard_poke (s : cy_S) (i : Int32) (v : Int32) : Int32 × cy_S :=
  (cy_rat s 0 i (-1), (cy_rput s 0 i (v &&& 255)))
set_option maxHeartbeats 4000000 in
theorem c_Yard_poke {G : cy_G} {E : cy_E} {s : cy_S} {M : cy_Hp} {post : Option Value → cy_Hp → Prop} (hE : cy_Eo G E) (hR : cy_R E s M)  (i : Int32) (v : Int32) (h : ∀ M', cy_R E (cy_Yard_poke s i v).2 M' → post (some (.int (cy_Yard_poke s i v).1)) M') : cy_Ct G 1 m_Yard_poke [.ref (E.2.2.1 133), .int i, .int v] M 0 0 post := by
  refine cy_Ct.of (by decide) (Nat.le_of_ble_eq_true rfl) ?_
  intro F C P _
  have C : cy_C G F R_Yard b_Yard_poke 4 1 0 0 := C
  have P : cy_P G F (some .int) post 0 0 := P
  show WM G F 4 0 0 0 [(0, .ref (E.2.2.1 133)), (1, .int i), (2, .int v)] [] M
  refine wm_aload_n C d_Yard_poke_0 rfl (j := 0) rfl ?_
  refine wm_get C co_Yard (rp_yard hR) 0 (by decide) fl_Yard_14 rfl d_Yard_poke_1 ?_
  refine wm_iload_n C d_Yard_poke_4 rfl (j := 1) rfl ?_
  refine wm_iconst (v := -1) C d_Yard_poke_5 (by decide) ?_
  refine wm_callVN (d2 := 0) (mc := 0) (ms := 0) C mo_Row_at co_Row ml_Yard_54 [.int i, .int (-1)] [] rfl (rp_row hR (by decide)) rfl (by decide) (Nat.le_of_ble_eq_true rfl) (Nat.le_refl _) (Nat.le_refl _) d_Yard_poke_6 (cy_ki ?_)
  refine c_at hE hR (by decide) _ _ ⟨_, rfl, ?_⟩
  refine wm_istore_n (lv' := [(3, .int (cy_rat s 0 i (-1))), (0, .ref (E.2.2.1 133)), (1, .int i), (2, .int v)]) C d_Yard_poke_9 rfl (by decide) rfl ?_
  refine wm_aload_n C d_Yard_poke_10 rfl (j := 1) rfl ?_
  refine wm_get C co_Yard (rp_yard hR) 0 (by decide) fl_Yard_14 rfl d_Yard_poke_11 ?_
  refine wm_iload_n C d_Yard_poke_14 rfl (j := 2) rfl ?_
  refine wm_iload_n C d_Yard_poke_15 rfl (j := 3) rfl ?_
  refine wm_sipush (v := 255) C d_Yard_poke_16 (by decide) ?_
  refine wm_iand C d_Yard_poke_19 ?_
  refine wm_callVN (d2 := 0) (mc := 0) (ms := 0) C mo_Row_put co_Row ml_Yard_58 [.int i, .int (v &&& 255)] [] rfl (rp_row hR (by decide)) rfl (by decide) (Nat.le_of_ble_eq_true rfl) (Nat.le_refl _) (Nat.le_refl _) d_Yard_poke_20 (cy_kv ?_)
  refine c_put hE hR (by decide) _ _ (fun M1 hR1 => ⟨rfl, ?_⟩)
  refine wm_iload_n C d_Yard_poke_23 rfl (j := 0) rfl ?_
  refine wm_iret C P d_Yard_poke_24 ?_
  have e : cy_Yard_poke s i v = (cy_rat s 0 i (-1), (cy_rput s 0 i (v &&& 255))) := by rw [cy_Yard_poke]
  rw [e] at h
  exact h _ hR1
def cy_Yard_begin (s : cy_S) (k : Int32) (b : Int32) : Int32 × cy_S :=
  if cy_no s k then
    ((-1), s)
  else
    if b < 0 then
      ((-1), s)
    else
      if b < 3 then
        (1, (cy_rcut (cy_Run_start s k.toNatClampNeg b) 0 0))
      else
        ((-1), s)
set_option maxHeartbeats 4000000 in
theorem c_Yard_begin {G : cy_G} {E : cy_E} {s : cy_S} {M : cy_Hp} {post : Option Value → cy_Hp → Prop} (hE : cy_Eo G E) (hR : cy_R E s M)  (k : Int32) (b : Int32) (h : ∀ M', cy_R E (cy_Yard_begin s k b).2 M' → post (some (.int (cy_Yard_begin s k b).1)) M') : cy_Ct G 4 m_Yard_begin [.ref (E.2.2.1 133), .int k, .int b] M 0 0 post := by
  refine cy_Ct.of (by decide) (Nat.le_of_ble_eq_true rfl) ?_
  intro F C P _
  have C : cy_C G F R_Yard b_Yard_begin 4 4 0 0 := C
  have P : cy_P G F (some .int) post 0 0 := P
  show WM G F 4 0 0 0 [(0, .ref (E.2.2.1 133)), (1, .int k), (2, .int b)] [] M
  refine wm_aload_n C d_Yard_begin_0 rfl (j := 0) rfl ?_
  refine wm_get C co_Yard (rp_yard hR) 1 (by decide) fl_Yard_21 rfl d_Yard_begin_1 ?_
  refine wm_iload_n C d_Yard_begin_4 rfl (j := 1) rfl ?_
  refine wm_callVN (d2 := 1) (mc := 0) (ms := 0) C mo_Shelf_taken co_Shelf ml_Yard_86 [.int k] [] rfl (rp_shelf hR) rfl (by decide) (Nat.le_of_ble_eq_true rfl) (Nat.le_refl _) (Nat.le_refl _) d_Yard_begin_5 (cy_ki ?_)
  refine c_taken hE hR _ (fun (g_5 : cy_no s k) => ⟨_, rfl, ?_⟩) (fun (g_5 : ¬ cy_no s k) => ⟨_, rfl, ?_⟩)
  · refine wm_astore_nN (lv' := [(3, .null), (0, .ref (E.2.2.1 133)), (1, .int k), (2, .int b)]) C d_Yard_begin_8 rfl (by decide) rfl ?_
    refine wm_aload_nN C d_Yard_begin_9 rfl (j := 0) rfl ?_
    refine wm_ifnullN (tgt := 22) C d_Yard_begin_10 (by decide) ?_
    refine wm_iconst (v := -1) C d_Yard_begin_22 (by decide) ?_
    refine wm_iret C P d_Yard_begin_23 ?_
    have e : cy_Yard_begin s k b = ((-1), s) := by rw [cy_Yard_begin, if_pos g_5]
    rw [e] at h
    exact h _ hR
  · refine wm_astore_n (lv' := [(3, .ref (E.2.2.1 (116 + k.toNatClampNeg))), (0, .ref (E.2.2.1 133)), (1, .int k), (2, .int b)]) C d_Yard_begin_8 rfl (by decide) rfl ?_
    refine wm_aload_n C d_Yard_begin_9 rfl (j := 0) rfl ?_
    refine wm_ifnull C d_Yard_begin_10 ?_
    refine wm_iload_n C d_Yard_begin_13 rfl (j := 3) rfl ?_
    refine wm_if_lt (tgt := 22) C d_Yard_begin_14 (by decide) (fun (h_14 : b < 0) => ?_) (fun (h_14 : ¬ b < 0) => ?_)
    · refine wm_iconst (v := -1) C d_Yard_begin_22 (by decide) ?_
      refine wm_iret C P d_Yard_begin_23 ?_
      have e : cy_Yard_begin s k b = ((-1), s) := by rw [cy_Yard_begin, if_neg g_5, if_pos h_14]
      rw [e] at h
      exact h _ hR
    · refine wm_iload_n C d_Yard_begin_17 rfl (j := 3) rfl ?_
      refine wm_iconst (v := 3) C d_Yard_begin_18 (by decide) ?_
      refine wm_icmp_lt (tgt := 24) C d_Yard_begin_19 (by decide) (fun (h_19 : b < 3) => ?_) (fun (h_19 : ¬ b < 3) => ?_)
      · refine wm_aload_n C d_Yard_begin_24 rfl (j := 1) rfl ?_
        refine wm_get C co_Yard (rp_yard hR) 3 (by decide) fl_Yard_37 rfl d_Yard_begin_25 ?_
        refine wm_aload_n C d_Yard_begin_28 rfl (j := 0) rfl ?_
        refine wm_iload_n C d_Yard_begin_29 rfl (j := 3) rfl ?_
        refine wm_aload_n C d_Yard_begin_30 rfl (j := 1) rfl ?_
        refine wm_get C co_Yard (rp_yard hR) 0 (by decide) fl_Yard_14 rfl d_Yard_begin_31 ?_
        refine wm_callVN (d2 := 3) (mc := 0) (ms := 0) C mo_Run_start co_Run ml_Yard_89 [.ref (E.2.2.1 (116 + k.toNatClampNeg)), .int b, .ref (E.2.2.1 (2 * 0))] [] rfl (rp_run hR) rfl (by decide) (Nat.le_of_ble_eq_true rfl) (Nat.le_refl _) (Nat.le_refl _) d_Yard_begin_34 (cy_kv ?_)
        refine c_Run_start hE hR (cy_no_lt g_5) _ (fun M1 hR1 => ⟨rfl, ?_⟩)
        refine wm_aload_n C d_Yard_begin_37 rfl (j := 1) rfl ?_
        refine wm_get C co_Yard (rp_yard hR1) 0 (by decide) fl_Yard_14 rfl d_Yard_begin_38 ?_
        refine wm_iconst (v := 0) C d_Yard_begin_41 (by decide) ?_
        refine wm_callVN (d2 := 1) (mc := 0) (ms := 0) C mo_Row_shorten co_Row ml_Yard_51 [.int 0] [] rfl (rp_row hR1 (by decide)) rfl (by decide) (Nat.le_of_ble_eq_true rfl) (Nat.le_refl _) (Nat.le_refl _) d_Yard_begin_42 (cy_kv ?_)
        refine c_cut hE hR1 (by decide) _ (fun M2 hR2 => ⟨rfl, ?_⟩)
        refine wm_iconst (v := 1) C d_Yard_begin_45 (by decide) ?_
        refine wm_iret C P d_Yard_begin_46 ?_
        have e : cy_Yard_begin s k b = (1, (cy_rcut (cy_Run_start s k.toNatClampNeg b) 0 0)) := by rw [cy_Yard_begin, if_neg g_5, if_neg h_14, if_pos h_19]
        rw [e] at h
        exact h _ hR2
      · refine wm_iconst (v := -1) C d_Yard_begin_22 (by decide) ?_
        refine wm_iret C P d_Yard_begin_23 ?_
        have e : cy_Yard_begin s k b = ((-1), s) := by rw [cy_Yard_begin, if_neg g_5, if_neg h_14, if_neg h_19]
        rw [e] at h
        exact h _ hR
def cy_Yard_state (s : cy_S) (what : Int32) : Int32 :=
  cy_Run_tell s what
set_option maxHeartbeats 4000000 in
theorem c_Yard_state {G : cy_G} {E : cy_E} {s : cy_S} {M : cy_Hp} {post : Option Value → cy_Hp → Prop} (hE : cy_Eo G E) (hR : cy_R E s M)  (what : Int32) (h : post (some (.int (cy_Yard_state s what))) M) : cy_Ct G 1 m_Yard_state [.ref (E.2.2.1 133), .int what] M 0 0 post := by
  refine cy_Ct.of (by decide) (Nat.le_of_ble_eq_true rfl) ?_
  intro F C P _
  have C : cy_C G F R_Yard b_Yard_state 2 1 0 0 := C
  have P : cy_P G F (some .int) post 0 0 := P
  show WM G F 2 0 0 0 [(0, .ref (E.2.2.1 133)), (1, .int what)] [] M
  refine wm_aload_n C d_Yard_state_0 rfl (j := 0) rfl ?_
  refine wm_get C co_Yard (rp_yard hR) 3 (by decide) fl_Yard_37 rfl d_Yard_state_1 ?_
  refine wm_iload_n C d_Yard_state_4 rfl (j := 1) rfl ?_
  refine wm_callVN (d2 := 0) (mc := 0) (ms := 0) C mo_Run_tell co_Run ml_Yard_97 [.int what] [] rfl (rp_run hR) rfl (by decide) (Nat.le_of_ble_eq_true rfl) (Nat.le_refl _) (Nat.le_refl _) d_Yard_state_5 (cy_ki ?_)
  refine c_Run_tell hE hR  _ ⟨_, rfl, ?_⟩
  refine wm_iret C P d_Yard_state_8 ?_
  have e : cy_Yard_state s what = cy_Run_tell s what := by rw [cy_Yard_state]
  rw [e] at h
  exact h
def cy_Yard_stack (s : cy_S) (i : Int32) : Int32 :=
  if (cy_Run_isHeld s) = 0 then
    0
  else
    cy_rat s (42 + 2 * s.2.2.1.1) i 0
set_option maxHeartbeats 4000000 in
theorem c_Yard_stack {G : cy_G} {E : cy_E} {s : cy_S} {M : cy_Hp} {post : Option Value → cy_Hp → Prop} (hE : cy_Eo G E) (hR : cy_R E s M)  (i : Int32) (h : post (some (.int (cy_Yard_stack s i))) M) : cy_Ct G 1 m_Yard_stack [.ref (E.2.2.1 133), .int i] M 0 0 post := by
  refine cy_Ct.of (by decide) (Nat.le_of_ble_eq_true rfl) ?_
  intro F C P _
  have C : cy_C G F R_Yard b_Yard_stack 2 1 0 0 := C
  have P : cy_P G F (some .int) post 0 0 := P
  show WM G F 2 0 0 0 [(0, .ref (E.2.2.1 133)), (1, .int i)] [] M
  refine wm_aload_n C d_Yard_stack_0 rfl (j := 0) rfl ?_
  refine wm_get C co_Yard (rp_yard hR) 3 (by decide) fl_Yard_37 rfl d_Yard_stack_1 ?_
  refine wm_callVN (d2 := 0) (mc := 0) (ms := 0) C mo_Run_isHeld co_Run ml_Yard_66 [] [] rfl (rp_run hR) rfl (by decide) (Nat.le_of_ble_eq_true rfl) (Nat.le_refl _) (Nat.le_refl _) d_Yard_stack_4 (cy_ki ?_)
  refine c_Run_isHeld hE hR   ⟨_, rfl, ?_⟩
  refine wm_if_eq (tgt := 28) C d_Yard_stack_7 (by decide) (fun (h_7 : (cy_Run_isHeld s) = 0) => ?_) (fun (h_7 : ¬ (cy_Run_isHeld s) = 0) => ?_)
  · refine wm_iconst (v := 0) C d_Yard_stack_28 (by decide) ?_
    refine wm_iret C P d_Yard_stack_29 ?_
    have e : cy_Yard_stack s i = 0 := by rw [cy_Yard_stack, if_pos h_7]
    rw [e] at h
    exact h
  · refine wm_aload_n C d_Yard_stack_10 rfl (j := 0) rfl ?_
    refine wm_get C co_Yard (rp_yard hR) 3 (by decide) fl_Yard_37 rfl d_Yard_stack_11 ?_
    refine wm_getN C co_Run (rp_run hR) 4 (by decide) fl_Yard_100 rfl d_Yard_stack_14 ?_
    refine wm_getN C co_Frame (rp_frame hR (rp_work (s := s) hR)) 3 (by decide) fl_Yard_104 rfl d_Yard_stack_17 ?_
    refine wm_iload_n C d_Yard_stack_20 rfl (j := 1) rfl ?_
    refine wm_iconst (v := 0) C d_Yard_stack_21 (by decide) ?_
    refine wm_callVN (d2 := 0) (mc := 0) (ms := 0) C mo_Row_at co_Row ml_Yard_54 [.int i, .int 0] [] rfl (rp_row hR (rb42 (rp_work (s := s) hR))) rfl (by decide) (Nat.le_of_ble_eq_true rfl) (Nat.le_refl _) (Nat.le_refl _) d_Yard_stack_22 (cy_ki ?_)
    refine c_at hE hR (rb42 (rp_work (s := s) hR)) _ _ ⟨_, rfl, ?_⟩
    refine wm_goto (tgt := 29) C d_Yard_stack_25 (by decide) ?_
    refine wm_iret C P d_Yard_stack_29 ?_
    have e : cy_Yard_stack s i = cy_rat s (42 + 2 * s.2.2.1.1) i 0 := by rw [cy_Yard_stack, if_neg h_7]
    rw [e] at h
    exact h
def cy_Yard_local (s : cy_S) (i : Int32) : Int32 :=
  if (cy_Run_isHeld s) = 0 then
    0
  else
    cy_rat s (43 + 2 * s.2.2.1.1) i 0
set_option maxHeartbeats 4000000 in
theorem c_Yard_local {G : cy_G} {E : cy_E} {s : cy_S} {M : cy_Hp} {post : Option Value → cy_Hp → Prop} (hE : cy_Eo G E) (hR : cy_R E s M)  (i : Int32) (h : post (some (.int (cy_Yard_local s i))) M) : cy_Ct G 1 m_Yard_local [.ref (E.2.2.1 133), .int i] M 0 0 post := by
  refine cy_Ct.of (by decide) (Nat.le_of_ble_eq_true rfl) ?_
  intro F C P _
  have C : cy_C G F R_Yard b_Yard_local 2 1 0 0 := C
  have P : cy_P G F (some .int) post 0 0 := P
  show WM G F 2 0 0 0 [(0, .ref (E.2.2.1 133)), (1, .int i)] [] M
  refine wm_aload_n C d_Yard_local_0 rfl (j := 0) rfl ?_
  refine wm_get C co_Yard (rp_yard hR) 3 (by decide) fl_Yard_37 rfl d_Yard_local_1 ?_
  refine wm_callVN (d2 := 0) (mc := 0) (ms := 0) C mo_Run_isHeld co_Run ml_Yard_66 [] [] rfl (rp_run hR) rfl (by decide) (Nat.le_of_ble_eq_true rfl) (Nat.le_refl _) (Nat.le_refl _) d_Yard_local_4 (cy_ki ?_)
  refine c_Run_isHeld hE hR   ⟨_, rfl, ?_⟩
  refine wm_if_eq (tgt := 28) C d_Yard_local_7 (by decide) (fun (h_7 : (cy_Run_isHeld s) = 0) => ?_) (fun (h_7 : ¬ (cy_Run_isHeld s) = 0) => ?_)
  · refine wm_iconst (v := 0) C d_Yard_local_28 (by decide) ?_
    refine wm_iret C P d_Yard_local_29 ?_
    have e : cy_Yard_local s i = 0 := by rw [cy_Yard_local, if_pos h_7]
    rw [e] at h
    exact h
  · refine wm_aload_n C d_Yard_local_10 rfl (j := 0) rfl ?_
    refine wm_get C co_Yard (rp_yard hR) 3 (by decide) fl_Yard_37 rfl d_Yard_local_11 ?_
    refine wm_getN C co_Run (rp_run hR) 4 (by decide) fl_Yard_100 rfl d_Yard_local_14 ?_
    refine wm_getN C co_Frame (rp_frame hR (rp_work (s := s) hR)) 4 (by decide) fl_Yard_109 rfl d_Yard_local_17 ?_
    refine wm_iload_n C d_Yard_local_20 rfl (j := 1) rfl ?_
    refine wm_iconst (v := 0) C d_Yard_local_21 (by decide) ?_
    refine wm_callVN (d2 := 0) (mc := 0) (ms := 0) C mo_Row_at co_Row ml_Yard_54 [.int i, .int 0] [] rfl (rp_row hR (rb43 (rp_work (s := s) hR))) rfl (by decide) (Nat.le_of_ble_eq_true rfl) (Nat.le_refl _) (Nat.le_refl _) d_Yard_local_22 (cy_ki ?_)
    refine c_at hE hR (rb43 (rp_work (s := s) hR)) _ _ ⟨_, rfl, ?_⟩
    refine wm_goto (tgt := 29) C d_Yard_local_25 (by decide) ?_
    refine wm_iret C P d_Yard_local_29 ?_
    have e : cy_Yard_local s i = cy_rat s (43 + 2 * s.2.2.1.1) i 0 := by rw [cy_Yard_local, if_neg h_7]
    rw [e] at h
    exact h
def cy_Yard_cell (s : cy_S) (k : Int32) (i : Int32) : Int32 :=
  if cy_no s k then
    0
  else
    cy_rat s (8 + 4 * k.toNatClampNeg) i 0
set_option maxHeartbeats 4000000 in
theorem c_Yard_cell {G : cy_G} {E : cy_E} {s : cy_S} {M : cy_Hp} {post : Option Value → cy_Hp → Prop} (hE : cy_Eo G E) (hR : cy_R E s M)  (k : Int32) (i : Int32) (h : post (some (.int (cy_Yard_cell s k i))) M) : cy_Ct G 3 m_Yard_cell [.ref (E.2.2.1 133), .int k, .int i] M 0 0 post := by
  refine cy_Ct.of (by decide) (Nat.le_of_ble_eq_true rfl) ?_
  intro F C P _
  have C : cy_C G F R_Yard b_Yard_cell 4 3 0 0 := C
  have P : cy_P G F (some .int) post 0 0 := P
  show WM G F 4 0 0 0 [(0, .ref (E.2.2.1 133)), (1, .int k), (2, .int i)] [] M
  refine wm_aload_n C d_Yard_cell_0 rfl (j := 0) rfl ?_
  refine wm_get C co_Yard (rp_yard hR) 1 (by decide) fl_Yard_21 rfl d_Yard_cell_1 ?_
  refine wm_iload_n C d_Yard_cell_4 rfl (j := 1) rfl ?_
  refine wm_callVN (d2 := 1) (mc := 0) (ms := 0) C mo_Shelf_taken co_Shelf ml_Yard_86 [.int k] [] rfl (rp_shelf hR) rfl (by decide) (Nat.le_of_ble_eq_true rfl) (Nat.le_refl _) (Nat.le_refl _) d_Yard_cell_5 (cy_ki ?_)
  refine c_taken hE hR _ (fun (g_5 : cy_no s k) => ⟨_, rfl, ?_⟩) (fun (g_5 : ¬ cy_no s k) => ⟨_, rfl, ?_⟩)
  · refine wm_astore_nN (lv' := [(3, .null), (0, .ref (E.2.2.1 133)), (1, .int k), (2, .int i)]) C d_Yard_cell_8 rfl (by decide) rfl ?_
    refine wm_aload_nN C d_Yard_cell_9 rfl (j := 0) rfl ?_
    refine wm_ifnonnullN C d_Yard_cell_10 ?_
    refine wm_iconst (v := 0) C d_Yard_cell_13 (by decide) ?_
    refine wm_goto (tgt := 26) C d_Yard_cell_14 (by decide) ?_
    refine wm_iret C P d_Yard_cell_26 ?_
    have e : cy_Yard_cell s k i = 0 := by rw [cy_Yard_cell, if_pos g_5]
    rw [e] at h
    exact h
  · refine wm_astore_n (lv' := [(3, .ref (E.2.2.1 (116 + k.toNatClampNeg))), (0, .ref (E.2.2.1 133)), (1, .int k), (2, .int i)]) C d_Yard_cell_8 rfl (by decide) rfl ?_
    refine wm_aload_n C d_Yard_cell_9 rfl (j := 0) rfl ?_
    refine wm_ifnonnull (tgt := 17) C d_Yard_cell_10 (by decide) ?_
    refine wm_aload_n C d_Yard_cell_17 rfl (j := 0) rfl ?_
    refine wm_getN C co_Code (rp_code hR (cy_no_lt g_5)) 3 (by decide) fl_Yard_112 rfl d_Yard_cell_18 ?_
    refine wm_iload_n C d_Yard_cell_21 rfl (j := 3) rfl ?_
    refine wm_iconst (v := 0) C d_Yard_cell_22 (by decide) ?_
    refine wm_callVN (d2 := 0) (mc := 0) (ms := 0) C mo_Row_at co_Row ml_Yard_54 [.int i, .int 0] [] rfl (rp_row hR (rb8 (cy_no_lt g_5))) rfl (by decide) (Nat.le_of_ble_eq_true rfl) (Nat.le_refl _) (Nat.le_refl _) d_Yard_cell_23 (cy_ki ?_)
    refine c_at hE hR (rb8 (cy_no_lt g_5)) _ _ ⟨_, rfl, ?_⟩
    refine wm_iret C P d_Yard_cell_26 ?_
    have e : cy_Yard_cell s k i = cy_rat s (8 + 4 * k.toNatClampNeg) i 0 := by rw [cy_Yard_cell, if_neg g_5]
    rw [e] at h
    exact h
def cy_Yard_out (s : cy_S) (i : Int32) : Int32 :=
  cy_rat s 5 i (-1)
set_option maxHeartbeats 4000000 in
theorem c_Yard_out {G : cy_G} {E : cy_E} {s : cy_S} {M : cy_Hp} {post : Option Value → cy_Hp → Prop} (hE : cy_Eo G E) (hR : cy_R E s M)  (i : Int32) (h : post (some (.int (cy_Yard_out s i))) M) : cy_Ct G 1 m_Yard_out [.ref (E.2.2.1 133), .int i] M 0 0 post := by
  refine cy_Ct.of (by decide) (Nat.le_of_ble_eq_true rfl) ?_
  intro F C P _
  have C : cy_C G F R_Yard b_Yard_out 2 1 0 0 := C
  have P : cy_P G F (some .int) post 0 0 := P
  show WM G F 2 0 0 0 [(0, .ref (E.2.2.1 133)), (1, .int i)] [] M
  refine wm_aload_n C d_Yard_out_0 rfl (j := 0) rfl ?_
  refine wm_get C co_Yard (rp_yard hR) 3 (by decide) fl_Yard_37 rfl d_Yard_out_1 ?_
  refine wm_getN C co_Run (rp_run hR) 3 (by decide) fl_Yard_115 rfl d_Yard_out_4 ?_
  refine wm_iload_n C d_Yard_out_7 rfl (j := 1) rfl ?_
  refine wm_iconst (v := -1) C d_Yard_out_8 (by decide) ?_
  refine wm_callVN (d2 := 0) (mc := 0) (ms := 0) C mo_Row_at co_Row ml_Yard_54 [.int i, .int (-1)] [] rfl (rp_row hR (by decide)) rfl (by decide) (Nat.le_of_ble_eq_true rfl) (Nat.le_refl _) (Nat.le_refl _) d_Yard_out_9 (cy_ki ?_)
  refine c_at hE hR (by decide) _ _ ⟨_, rfl, ?_⟩
  refine wm_iret C P d_Yard_out_12 ?_
  have e : cy_Yard_out s i = cy_rat s 5 i (-1) := by rw [cy_Yard_out]
  rw [e] at h
  exact h
def cy_Yard_height (s : cy_S) (k : Int32) (p : Int32) : Int32 :=
  if cy_no s k then
    (-1)
  else
    cy_rat s (7 + 4 * k.toNatClampNeg) p (-1)
set_option maxHeartbeats 4000000 in
theorem c_Yard_height {G : cy_G} {E : cy_E} {s : cy_S} {M : cy_Hp} {post : Option Value → cy_Hp → Prop} (hE : cy_Eo G E) (hR : cy_R E s M)  (k : Int32) (p : Int32) (h : post (some (.int (cy_Yard_height s k p))) M) : cy_Ct G 3 m_Yard_height [.ref (E.2.2.1 133), .int k, .int p] M 0 0 post := by
  refine cy_Ct.of (by decide) (Nat.le_of_ble_eq_true rfl) ?_
  intro F C P _
  have C : cy_C G F R_Yard b_Yard_height 4 3 0 0 := C
  have P : cy_P G F (some .int) post 0 0 := P
  show WM G F 4 0 0 0 [(0, .ref (E.2.2.1 133)), (1, .int k), (2, .int p)] [] M
  refine wm_aload_n C d_Yard_height_0 rfl (j := 0) rfl ?_
  refine wm_get C co_Yard (rp_yard hR) 1 (by decide) fl_Yard_21 rfl d_Yard_height_1 ?_
  refine wm_iload_n C d_Yard_height_4 rfl (j := 1) rfl ?_
  refine wm_callVN (d2 := 1) (mc := 0) (ms := 0) C mo_Shelf_taken co_Shelf ml_Yard_86 [.int k] [] rfl (rp_shelf hR) rfl (by decide) (Nat.le_of_ble_eq_true rfl) (Nat.le_refl _) (Nat.le_refl _) d_Yard_height_5 (cy_ki ?_)
  refine c_taken hE hR _ (fun (g_5 : cy_no s k) => ⟨_, rfl, ?_⟩) (fun (g_5 : ¬ cy_no s k) => ⟨_, rfl, ?_⟩)
  · refine wm_astore_nN (lv' := [(3, .null), (0, .ref (E.2.2.1 133)), (1, .int k), (2, .int p)]) C d_Yard_height_8 rfl (by decide) rfl ?_
    refine wm_aload_nN C d_Yard_height_9 rfl (j := 0) rfl ?_
    refine wm_ifnonnullN C d_Yard_height_10 ?_
    refine wm_iconst (v := -1) C d_Yard_height_13 (by decide) ?_
    refine wm_goto (tgt := 26) C d_Yard_height_14 (by decide) ?_
    refine wm_iret C P d_Yard_height_26 ?_
    have e : cy_Yard_height s k p = (-1) := by rw [cy_Yard_height, if_pos g_5]
    rw [e] at h
    exact h
  · refine wm_astore_n (lv' := [(3, .ref (E.2.2.1 (116 + k.toNatClampNeg))), (0, .ref (E.2.2.1 133)), (1, .int k), (2, .int p)]) C d_Yard_height_8 rfl (by decide) rfl ?_
    refine wm_aload_n C d_Yard_height_9 rfl (j := 0) rfl ?_
    refine wm_ifnonnull (tgt := 17) C d_Yard_height_10 (by decide) ?_
    refine wm_aload_n C d_Yard_height_17 rfl (j := 0) rfl ?_
    refine wm_getN C co_Code (rp_code hR (cy_no_lt g_5)) 2 (by decide) fl_Yard_118 rfl d_Yard_height_18 ?_
    refine wm_iload_n C d_Yard_height_21 rfl (j := 3) rfl ?_
    refine wm_iconst (v := -1) C d_Yard_height_22 (by decide) ?_
    refine wm_callVN (d2 := 0) (mc := 0) (ms := 0) C mo_Row_at co_Row ml_Yard_54 [.int p, .int (-1)] [] rfl (rp_row hR (rb7 (cy_no_lt g_5))) rfl (by decide) (Nat.le_of_ble_eq_true rfl) (Nat.le_refl _) (Nat.le_refl _) d_Yard_height_23 (cy_ki ?_)
    refine c_at hE hR (rb7 (cy_no_lt g_5)) _ _ ⟨_, rfl, ?_⟩
    refine wm_iret C P d_Yard_height_26 ?_
    have e : cy_Yard_height s k p = cy_rat s (7 + 4 * k.toNatClampNeg) p (-1) := by rw [cy_Yard_height, if_neg g_5]
    rw [e] at h
    exact h
def cy_Yard_size (s : cy_S) (k : Int32) : Int32 :=
  if cy_no s k then
    (-1)
  else
    nI (s.1 (6 + 4 * k.toNatClampNeg)).length
set_option maxHeartbeats 4000000 in
theorem c_Yard_size {G : cy_G} {E : cy_E} {s : cy_S} {M : cy_Hp} {post : Option Value → cy_Hp → Prop} (hE : cy_Eo G E) (hR : cy_R E s M)  (k : Int32) (h : post (some (.int (cy_Yard_size s k))) M) : cy_Ct G 3 m_Yard_size [.ref (E.2.2.1 133), .int k] M 0 0 post := by
  refine cy_Ct.of (by decide) (Nat.le_of_ble_eq_true rfl) ?_
  intro F C P _
  have C : cy_C G F R_Yard b_Yard_size 3 3 0 0 := C
  have P : cy_P G F (some .int) post 0 0 := P
  show WM G F 3 0 0 0 [(0, .ref (E.2.2.1 133)), (1, .int k)] [] M
  refine wm_aload_n C d_Yard_size_0 rfl (j := 0) rfl ?_
  refine wm_get C co_Yard (rp_yard hR) 1 (by decide) fl_Yard_21 rfl d_Yard_size_1 ?_
  refine wm_iload_n C d_Yard_size_4 rfl (j := 1) rfl ?_
  refine wm_callVN (d2 := 1) (mc := 0) (ms := 0) C mo_Shelf_taken co_Shelf ml_Yard_86 [.int k] [] rfl (rp_shelf hR) rfl (by decide) (Nat.le_of_ble_eq_true rfl) (Nat.le_refl _) (Nat.le_refl _) d_Yard_size_5 (cy_ki ?_)
  refine c_taken hE hR _ (fun (g_5 : cy_no s k) => ⟨_, rfl, ?_⟩) (fun (g_5 : ¬ cy_no s k) => ⟨_, rfl, ?_⟩)
  · refine wm_astore_nN (lv' := [(2, .null), (0, .ref (E.2.2.1 133)), (1, .int k)]) C d_Yard_size_8 rfl (by decide) rfl ?_
    refine wm_aload_nN C d_Yard_size_9 rfl (j := 0) rfl ?_
    refine wm_ifnonnullN C d_Yard_size_10 ?_
    refine wm_iconst (v := -1) C d_Yard_size_13 (by decide) ?_
    refine wm_goto (tgt := 24) C d_Yard_size_14 (by decide) ?_
    refine wm_iret C P d_Yard_size_24 ?_
    have e : cy_Yard_size s k = (-1) := by rw [cy_Yard_size, if_pos g_5]
    rw [e] at h
    exact h
  · refine wm_astore_n (lv' := [(2, .ref (E.2.2.1 (116 + k.toNatClampNeg))), (0, .ref (E.2.2.1 133)), (1, .int k)]) C d_Yard_size_8 rfl (by decide) rfl ?_
    refine wm_aload_n C d_Yard_size_9 rfl (j := 0) rfl ?_
    refine wm_ifnonnull (tgt := 17) C d_Yard_size_10 (by decide) ?_
    refine wm_aload_n C d_Yard_size_17 rfl (j := 0) rfl ?_
    refine wm_getN C co_Code (rp_code hR (cy_no_lt g_5)) 1 (by decide) fl_Yard_119 rfl d_Yard_size_18 ?_
    refine wm_getN C co_Row (rp_row hR (rb6 (cy_no_lt g_5))) 1 (by decide) fl_Yard_41 rfl d_Yard_size_21 ?_
    refine wm_iret C P d_Yard_size_24 ?_
    have e : cy_Yard_size s k = nI (s.1 (6 + 4 * k.toNatClampNeg)).length := by rw [cy_Yard_size, if_neg g_5]
    rw [e] at h
    exact h
