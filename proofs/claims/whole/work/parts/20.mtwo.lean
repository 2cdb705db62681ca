def md_k129 : Nat := 129
def md_k17 : Nat := 17
def md_k9 : Nat := 9
def md_k4 : Nat := 4
def md_undo_l : Nat → md_S → Int32 → md_S
  | 0, s, _ => s
  | q + 1, s, p =>
    if 128 ≤ p then
      s
    else
      md_undo_l q (md_sa s 4 p (s.1 5 p.toNatClampNeg)) (p + 1)
def md_undo_l_ok : Nat → md_S → Int32 → Prop
  | 0, _, _ => False
  | q + 1, s, p =>
    if 128 ≤ p then
      True
    else
      (vp_in p 128) ∧ (vp_in p 128) ∧ (
      md_undo_l_ok q (md_sa s 4 p (s.1 5 p.toNatClampNeg)) (p + 1))
set_option maxHeartbeats 4000000 in
theorem g_undo_l {G : cy_G} {D : md_E} {F : cy_F} (hD : md_Eo G D) (C : cy_C G F R_Model b_Model_undo 2 0 0 0) : ∀ (q : Nat) (s : md_S) (p : Int32) (M : cy_Hp), md_R D s M → md_undo_l_ok q s p → (∀ M', md_R D (md_undo_l q s p) M' → WM G F 2 0 0 27 [(0, .ref D.2.2.2.1)] [] M') → WM G F 2 0 0 2 [(1, .int p), (0, .ref D.2.2.2.1)] [] M := by
  intro q
  induction q with
  | zero =>
    intro s p M hR ho hk
    exact absurd ho id
  | succ q ih =>
    intro s p M hR ho hk
    unfold md_undo_l_ok at ho
    refine wm_iload_n C d_Model_undo_2 rfl (j := 0) rfl ?_
    refine wm_sipush (v := 128) C d_Model_undo_3 (by decide) ?_
    refine wm_icmp_ge (tgt := 27) C d_Model_undo_6 (by decide) (fun (h_6 : 128 ≤ p) => ?_) (fun (h_6 : ¬ 128 ≤ p) => ?_)
    · rw [if_pos h_6] at ho
      have e : md_undo_l (q + 1) s p = s := by rw [md_undo_l, if_pos h_6]
      rw [e] at hk
      exact wm_sub [(0, .ref D.2.2.2.1)] (by simp) (hk _ hR)
    · rw [if_neg h_6] at ho
      refine wm_aload_n C d_Model_undo_9 rfl (j := 1) rfl ?_
      refine wm_get C co_Model hR.1 5 (by decide) fl_Model_23 rfl d_Model_undo_10 ?_
      refine wm_iload_n C d_Model_undo_13 rfl (j := 0) rfl ?_
      refine wm_aload_n C d_Model_undo_14 rfl (j := 1) rfl ?_
      refine wm_get C co_Model hR.1 6 (by decide) fl_Model_26 rfl d_Model_undo_15 ?_
      refine wm_iload_n C d_Model_undo_18 rfl (j := 0) rfl ?_
      obtain ⟨o1, ho⟩ := ho
      refine wm_iald C (md_arr hR 5 (by decide)) hD.1 o1 d_Model_undo_19 ?_
      obtain ⟨o2, ho⟩ := ho
      refine wm_iast C (md_arr hR 4 (by decide)) hD.1 o2 d_Model_undo_20 ?_
      refine md_gen (md_R_sa hR (a := 4) (by decide) p (s.1 5 p.toNatClampNeg)) (fun M1 hR1 => ?_)
      refine wm_iinc (v := p + 1) (lv' := [(1, .int (p + 1)), (0, .ref D.2.2.2.1)]) C d_Model_undo_21 (k := 0) rfl rfl (by decide) rfl ?_
      refine wm_goto (tgt := 2) C d_Model_undo_24 (by decide) ?_
      have e : md_undo_l (q + 1) s p = md_undo_l q (md_sa s 4 p (s.1 5 p.toNatClampNeg)) (p + 1) := by rw [md_undo_l, if_neg h_6]
      rw [e] at hk
      exact wm_sub [(1, .int (p + 1)), (0, .ref D.2.2.2.1)] (by simp) (ih (md_sa s 4 p (s.1 5 p.toNatClampNeg)) (p + 1) _ hR1 ho hk)
def md_undo (s : md_S) : md_S :=
  (md_undo_l md_k129 s 0)
def md_undo_ok (s : md_S) : Prop :=
  (md_undo_l_ok md_k129 s 0) ∧ (
  True)
set_option maxHeartbeats 4000000 in
theorem k_undo {G : cy_G} {D : md_E} {s : md_S} {M : cy_Hp} {post : Option Value → cy_Hp → Prop} (hD : md_Eo G D) (hR : md_R D s M)  (ho : md_undo_ok s) (h : ∀ M', md_R D (md_undo s) M' → post none M') : cy_Ct G 0 m_Model_undo [.ref D.2.2.2.1] M 0 0 post := by
  refine cy_Ct.of (by decide) (Nat.le_of_ble_eq_true rfl) ?_
  intro F C P _
  have C : cy_C G F R_Model b_Model_undo 2 0 0 0 := C
  have P : cy_P G F none post 0 0 := P
  unfold md_undo_ok at ho
  show WM G F 2 0 0 0 [(0, .ref D.2.2.2.1)] [] M
  refine wm_iconst (v := 0) C d_Model_undo_0 (by decide) ?_
  refine wm_istore_n (lv' := [(1, .int 0), (0, .ref D.2.2.2.1)]) C d_Model_undo_1 rfl (by decide) rfl ?_
  obtain ⟨o1, ho⟩ := ho
  refine wm_sub [(1, .int 0), (0, .ref D.2.2.2.1)] (by simp) (g_undo_l hD C md_k129 s 0 _ hR o1 (fun M1 hR1 => ?_))
  refine wm_vret C P d_Model_undo_27 ?_
  have e : md_undo s = (md_undo_l md_k129 s 0) := by rw [md_undo]
  rw [e] at h
  exact h _ hR1
def md_throwFor (s : md_S) (why : Int32) : md_S :=
  (md_ss (md_ss (md_ss (md_undo s) 5 0) 6 1) 8 why)
def md_throwFor_ok (s : md_S) (why : Int32) : Prop :=
  (md_undo_ok s) ∧ (
  True)
set_option maxHeartbeats 4000000 in
theorem k_throwFor {G : cy_G} {D : md_E} {s : md_S} {M : cy_Hp} {post : Option Value → cy_Hp → Prop} (hD : md_Eo G D) (hR : md_R D s M) (why : Int32) (ho : md_throwFor_ok s why) (h : ∀ M', md_R D (md_throwFor s why) M' → post none M') : cy_Ct G 1 m_Model_throwFor [.ref D.2.2.2.1, .int why] M 0 0 post := by
  refine cy_Ct.of (by decide) (Nat.le_of_ble_eq_true rfl) ?_
  intro F C P _
  have C : cy_C G F R_Model b_Model_throwFor 2 1 0 0 := C
  have P : cy_P G F none post 0 0 := P
  unfold md_throwFor_ok at ho
  show WM G F 2 0 0 0 [(0, .ref D.2.2.2.1), (1, .int why)] [] M
  refine wm_aload_n C d_Model_throwFor_0 rfl (j := 0) rfl ?_
  refine wm_callV (d2 := 0) (mc := 0) (ms := 0) C mo_Model_undo co_Model ml_Model_116 [] [] rfl hR.1 rfl (by decide) (Nat.le_of_ble_eq_true rfl) (Nat.le_refl _) (Nat.le_refl _) d_Model_throwFor_1 (cy_kv ?_)
  obtain ⟨o1, ho⟩ := ho
  refine k_undo hD hR  o1 (fun M1 hR1 => ⟨rfl, ?_⟩)
  refine wm_aload_n C d_Model_throwFor_4 rfl (j := 0) rfl ?_
  refine wm_iconst (v := 0) C d_Model_throwFor_5 (by decide) ?_
  refine wm_put C co_Model hR1.1 14 (by decide) fl_Model_108 rfl rfl rfl (Nat.le_of_ble_eq_true rfl) d_Model_throwFor_6 ?_
  refine md_gen (md_R_ss hR1 5 0) (fun M2 hR2 => ?_)
  refine wm_aload_n C d_Model_throwFor_9 rfl (j := 0) rfl ?_
  refine wm_iconst (v := 1) C d_Model_throwFor_10 (by decide) ?_
  refine wm_put C co_Model hR2.1 15 (by decide) fl_Model_128 rfl rfl rfl (Nat.le_of_ble_eq_true rfl) d_Model_throwFor_11 ?_
  refine md_gen (md_R_ss hR2 6 1) (fun M3 hR3 => ?_)
  refine wm_aload_n C d_Model_throwFor_14 rfl (j := 0) rfl ?_
  refine wm_iload_n C d_Model_throwFor_15 rfl (j := 1) rfl ?_
  refine wm_put C co_Model hR3.1 17 (by decide) fl_Model_134 rfl rfl rfl (Nat.le_of_ble_eq_true rfl) d_Model_throwFor_16 ?_
  refine md_gen (md_R_ss hR3 8 why) (fun M4 hR4 => ?_)
  refine wm_vret C P d_Model_throwFor_19 ?_
  have e : md_throwFor s why = (md_ss (md_ss (md_ss (md_undo s) 5 0) 6 1) 8 why) := by rw [md_throwFor]
  rw [e] at h
  exact h _ hR4
def md_enter_l : Nat → md_S → Int32 → md_S
  | 0, s, _ => s
  | q + 1, s, p =>
    if 8 ≤ p then
      s
    else
      md_enter_l q (md_sa (md_sa s 12 ((8 * (s.2 10)) + p) 0) 13 ((8 * (s.2 10)) + p) 0) (p + 1)
def md_enter_l_ok : Nat → md_S → Int32 → Prop
  | 0, _, _ => False
  | q + 1, s, p =>
    if 8 ≤ p then
      True
    else
      (vp_in ((8 * (s.2 10)) + p) 64) ∧ (vp_in ((8 * (s.2 10)) + p) 64) ∧ (
      md_enter_l_ok q (md_sa (md_sa s 12 ((8 * (s.2 10)) + p) 0) 13 ((8 * (s.2 10)) + p) 0) (p + 1))
set_option maxHeartbeats 4000000 in
theorem g_enter_l {G : cy_G} {D : md_E} {F : cy_F} (hD : md_Eo G D) (C : cy_C G F R_Model b_Model_enter 4 0 0 0) : ∀ (q : Nat) (s : md_S) (p : Int32) (M : cy_Hp), md_R D s M → md_enter_l_ok q s p → (∀ M', md_R D (md_enter_l q s p) M' → WM G F 4 0 0 89 [(0, .ref D.2.2.2.1)] [] M') → WM G F 4 0 0 47 [(3, .int p), (0, .ref D.2.2.2.1)] [] M := by
  intro q
  induction q with
  | zero =>
    intro s p M hR ho hk
    exact absurd ho id
  | succ q ih =>
    intro s p M hR ho hk
    unfold md_enter_l_ok at ho
    refine wm_iload_n C d_Model_enter_47 rfl (j := 0) rfl ?_
    refine wm_bipush (v := 8) C d_Model_enter_48 (by decide) ?_
    refine wm_icmp_ge (tgt := 89) C d_Model_enter_50 (by decide) (fun (h_50 : 8 ≤ p) => ?_) (fun (h_50 : ¬ 8 ≤ p) => ?_)
    · rw [if_pos h_50] at ho
      have e : md_enter_l (q + 1) s p = s := by rw [md_enter_l, if_pos h_50]
      rw [e] at hk
      exact wm_sub [(0, .ref D.2.2.2.1)] (by simp) (hk _ hR)
    · rw [if_neg h_50] at ho
      refine wm_aload_n C d_Model_enter_53 rfl (j := 1) rfl ?_
      refine wm_get C co_Model hR.1 23 (by decide) fl_Model_48 rfl d_Model_enter_54 ?_
      refine wm_bipush (v := 8) C d_Model_enter_57 (by decide) ?_
      refine wm_aload_n C d_Model_enter_59 rfl (j := 1) rfl ?_
      refine wm_get C co_Model hR.1 19 (by decide) fl_Model_140 rfl d_Model_enter_60 ?_
      refine wm_imul C d_Model_enter_63 ?_
      refine wm_iload_n C d_Model_enter_64 rfl (j := 0) rfl ?_
      refine wm_iadd C d_Model_enter_65 ?_
      refine wm_iconst (v := 0) C d_Model_enter_66 (by decide) ?_
      obtain ⟨o1, ho⟩ := ho
      refine wm_iast C (md_arr hR 12 (by decide)) hD.1 o1 d_Model_enter_67 ?_
      refine md_gen (md_R_sa hR (a := 12) (by decide) ((8 * (s.2 10)) + p) 0) (fun M1 hR1 => ?_)
      refine wm_aload_n C d_Model_enter_68 rfl (j := 1) rfl ?_
      refine wm_get C co_Model hR1.1 24 (by decide) fl_Model_51 rfl d_Model_enter_69 ?_
      refine wm_bipush (v := 8) C d_Model_enter_72 (by decide) ?_
      refine wm_aload_n C d_Model_enter_74 rfl (j := 1) rfl ?_
      refine wm_get C co_Model hR1.1 19 (by decide) fl_Model_140 rfl d_Model_enter_75 ?_
      refine wm_imul C d_Model_enter_78 ?_
      refine wm_iload_n C d_Model_enter_79 rfl (j := 0) rfl ?_
      refine wm_iadd C d_Model_enter_80 ?_
      refine wm_iconst (v := 0) C d_Model_enter_81 (by decide) ?_
      obtain ⟨o2, ho⟩ := ho
      refine wm_iast C (md_arr hR1 13 (by decide)) hD.1 o2 d_Model_enter_82 ?_
      refine md_gen (md_R_sa hR1 (a := 13) (by decide) ((8 * (s.2 10)) + p) 0) (fun M2 hR2 => ?_)
      refine wm_iinc (v := p + 1) (lv' := [(3, .int (p + 1)), (0, .ref D.2.2.2.1)]) C d_Model_enter_83 (k := 0) rfl rfl (by decide) rfl ?_
      refine wm_goto (tgt := 47) C d_Model_enter_86 (by decide) ?_
      have e : md_enter_l (q + 1) s p = md_enter_l q (md_sa (md_sa s 12 ((8 * (s.2 10)) + p) 0) 13 ((8 * (s.2 10)) + p) 0) (p + 1) := by rw [md_enter_l, if_neg h_50]
      rw [e] at hk
      exact wm_sub [(3, .int (p + 1)), (0, .ref D.2.2.2.1)] (by simp) (ih (md_sa (md_sa s 12 ((8 * (s.2 10)) + p) 0) 13 ((8 * (s.2 10)) + p) 0) (p + 1) _ hR2 ho hk)
def md_enter (s : md_S) (k : Int32) (b : Int32) : md_S :=
  (md_ss (md_enter_l md_k9 (md_sa (md_sa (md_sa s 9 (s.2 10) k) 10 (s.2 10) (((md_sa s 9 (s.2 10) k).1 1 ((k * 256) + b).toNatClampNeg) &&& 255)) 11 (s.2 10) 0) 0) 10 (((md_enter_l md_k9 (md_sa (md_sa (md_sa s 9 (s.2 10) k) 10 (s.2 10) (((md_sa s 9 (s.2 10) k).1 1 ((k * 256) + b).toNatClampNeg) &&& 255)) 11 (s.2 10) 0) 0).2 10) + 1))
def md_enter_ok (s : md_S) (k : Int32) (b : Int32) : Prop :=
  (vp_in (s.2 10) 8) ∧ (vp_in ((k * 256) + b) 2048) ∧ (vp_in (s.2 10) 8) ∧ (vp_in (s.2 10) 8) ∧ (md_enter_l_ok md_k9 (md_sa (md_sa (md_sa s 9 (s.2 10) k) 10 (s.2 10) (((md_sa s 9 (s.2 10) k).1 1 ((k * 256) + b).toNatClampNeg) &&& 255)) 11 (s.2 10) 0) 0) ∧ (
  True)
set_option maxHeartbeats 4000000 in
theorem k_enter {G : cy_G} {D : md_E} {s : md_S} {M : cy_Hp} {post : Option Value → cy_Hp → Prop} (hD : md_Eo G D) (hR : md_R D s M) (k : Int32) (b : Int32) (ho : md_enter_ok s k b) (h : ∀ M', md_R D (md_enter s k b) M' → post none M') : cy_Ct G 0 m_Model_enter [.ref D.2.2.2.1, .int k, .int b] M 0 0 post := by
  refine cy_Ct.of (by decide) (Nat.le_of_ble_eq_true rfl) ?_
  intro F C P _
  have C : cy_C G F R_Model b_Model_enter 4 0 0 0 := C
  have P : cy_P G F none post 0 0 := P
  unfold md_enter_ok at ho
  show WM G F 4 0 0 0 [(0, .ref D.2.2.2.1), (1, .int k), (2, .int b)] [] M
  refine wm_aload_n C d_Model_enter_0 rfl (j := 0) rfl ?_
  refine wm_get C co_Model hR.1 20 (by decide) fl_Model_39 rfl d_Model_enter_1 ?_
  refine wm_aload_n C d_Model_enter_4 rfl (j := 0) rfl ?_
  refine wm_get C co_Model hR.1 19 (by decide) fl_Model_140 rfl d_Model_enter_5 ?_
  refine wm_iload_n C d_Model_enter_8 rfl (j := 1) rfl ?_
  obtain ⟨o1, ho⟩ := ho
  refine wm_iast C (md_arr hR 9 (by decide)) hD.1 o1 d_Model_enter_9 ?_
  refine md_gen (md_R_sa hR (a := 9) (by decide) (s.2 10) k) (fun M1 hR1 => ?_)
  refine wm_aload_n C d_Model_enter_10 rfl (j := 0) rfl ?_
  refine wm_get C co_Model hR1.1 21 (by decide) fl_Model_42 rfl d_Model_enter_11 ?_
  refine wm_aload_n C d_Model_enter_14 rfl (j := 0) rfl ?_
  refine wm_get C co_Model hR1.1 19 (by decide) fl_Model_140 rfl d_Model_enter_15 ?_
  refine wm_aload_n C d_Model_enter_18 rfl (j := 0) rfl ?_
  refine wm_get C co_Model hR1.1 2 (by decide) fl_Model_13 rfl d_Model_enter_19 ?_
  refine wm_iload_n C d_Model_enter_22 rfl (j := 1) rfl ?_
  refine wm_sipush (v := 256) C d_Model_enter_23 (by decide) ?_
  refine wm_imul C d_Model_enter_26 ?_
  refine wm_iload_n C d_Model_enter_27 rfl (j := 2) rfl ?_
  refine wm_iadd C d_Model_enter_28 ?_
  obtain ⟨o2, ho⟩ := ho
  refine wm_bald C (md_arr hR1 1 (by decide)) hD.2.1 o2 d_Model_enter_29 ?_
  refine wm_sipush (v := 255) C d_Model_enter_30 (by decide) ?_
  refine wm_iand C d_Model_enter_33 ?_
  obtain ⟨o3, ho⟩ := ho
  refine wm_iast C (md_arr hR1 10 (by decide)) hD.1 o3 d_Model_enter_34 ?_
  refine md_gen (md_R_sa hR1 (a := 10) (by decide) (s.2 10) (((md_sa s 9 (s.2 10) k).1 1 ((k * 256) + b).toNatClampNeg) &&& 255)) (fun M2 hR2 => ?_)
  refine wm_aload_n C d_Model_enter_35 rfl (j := 0) rfl ?_
  refine wm_get C co_Model hR2.1 22 (by decide) fl_Model_45 rfl d_Model_enter_36 ?_
  refine wm_aload_n C d_Model_enter_39 rfl (j := 0) rfl ?_
  refine wm_get C co_Model hR2.1 19 (by decide) fl_Model_140 rfl d_Model_enter_40 ?_
  refine wm_iconst (v := 0) C d_Model_enter_43 (by decide) ?_
  obtain ⟨o4, ho⟩ := ho
  refine wm_iast C (md_arr hR2 11 (by decide)) hD.1 o4 d_Model_enter_44 ?_
  refine md_gen (md_R_sa hR2 (a := 11) (by decide) (s.2 10) 0) (fun M3 hR3 => ?_)
  refine wm_iconst (v := 0) C d_Model_enter_45 (by decide) ?_
  refine wm_istore_n (lv' := [(3, .int 0), (0, .ref D.2.2.2.1), (1, .int k), (2, .int b)]) C d_Model_enter_46 rfl (by decide) rfl ?_
  obtain ⟨o5, ho⟩ := ho
  refine wm_sub [(3, .int 0), (0, .ref D.2.2.2.1)] (by simp) (g_enter_l hD C md_k9 (md_sa (md_sa (md_sa s 9 (s.2 10) k) 10 (s.2 10) (((md_sa s 9 (s.2 10) k).1 1 ((k * 256) + b).toNatClampNeg) &&& 255)) 11 (s.2 10) 0) 0 _ hR3 o5 (fun M4 hR4 => ?_))
  refine wm_aload_n C d_Model_enter_89 rfl (j := 0) rfl ?_
  refine wm_dup C d_Model_enter_90 rfl ?_
  refine wm_get C co_Model hR4.1 19 (by decide) fl_Model_140 rfl d_Model_enter_91 ?_
  refine wm_iconst (v := 1) C d_Model_enter_94 (by decide) ?_
  refine wm_iadd C d_Model_enter_95 ?_
  refine wm_put C co_Model hR4.1 19 (by decide) fl_Model_140 rfl rfl rfl (Nat.le_of_ble_eq_true rfl) d_Model_enter_96 ?_
  refine md_gen (md_R_ss hR4 10 (((md_enter_l md_k9 (md_sa (md_sa (md_sa s 9 (s.2 10) k) 10 (s.2 10) (((md_sa s 9 (s.2 10) k).1 1 ((k * 256) + b).toNatClampNeg) &&& 255)) 11 (s.2 10) 0) 0).2 10) + 1)) (fun M5 hR5 => ?_)
  refine wm_vret C P d_Model_enter_99 ?_
  have e : md_enter s k b = (md_ss (md_enter_l md_k9 (md_sa (md_sa (md_sa s 9 (s.2 10) k) 10 (s.2 10) (((md_sa s 9 (s.2 10) k).1 1 ((k * 256) + b).toNatClampNeg) &&& 255)) 11 (s.2 10) 0) 0) 10 (((md_enter_l md_k9 (md_sa (md_sa (md_sa s 9 (s.2 10) k) 10 (s.2 10) (((md_sa s 9 (s.2 10) k).1 1 ((k * 256) + b).toNatClampNeg) &&& 255)) 11 (s.2 10) 0) 0).2 10) + 1)) := by rw [md_enter]
  rw [e] at h
  exact h _ hR5
def md_simple (s : md_S) (op : Int32) (v : Int32) (d : Int32) (k : Int32) : md_S :=
  if op = 0 then
    (md_push s v)
  else
    if op = 1 then
      (md_push s (s.1 4 ((k * 16) + v).toNatClampNeg))
    else
      if op = 2 then
        (md_sa ((md_pop s).2) 4 ((k * 16) + v) ((md_pop s).1))
      else
        if op = 3 then
          (md_push s (s.1 13 ((8 * d) + v).toNatClampNeg))
        else
          (md_sa ((md_pop s).2) 13 ((8 * d) + v) ((md_pop s).1))
def md_simple_ok (s : md_S) (op : Int32) (v : Int32) (d : Int32) (k : Int32) : Prop :=
  if op = 0 then
    (md_push_ok s v) ∧ (
    True)
  else
    if op = 1 then
      (vp_in ((k * 16) + v) 128) ∧ (md_push_ok s (s.1 4 ((k * 16) + v).toNatClampNeg)) ∧ (
      True)
    else
      if op = 2 then
        (md_pop_ok s) ∧ (vp_in ((k * 16) + v) 128) ∧ (
        True)
      else
        if op = 3 then
          (vp_in ((8 * d) + v) 64) ∧ (md_push_ok s (s.1 13 ((8 * d) + v).toNatClampNeg)) ∧ (
          True)
        else
          (md_pop_ok s) ∧ (vp_in ((8 * d) + v) 64) ∧ (
          True)
set_option maxHeartbeats 4000000 in
theorem k_simple {G : cy_G} {D : md_E} {s : md_S} {M : cy_Hp} {post : Option Value → cy_Hp → Prop} (hD : md_Eo G D) (hR : md_R D s M) (op : Int32) (v : Int32) (d : Int32) (k : Int32) (ho : md_simple_ok s op v d k) (h : ∀ M', md_R D (md_simple s op v d k) M' → post none M') : cy_Ct G 1 m_Model_simple [.ref D.2.2.2.1, .int op, .int v, .int d, .int k] M 0 0 post := by
  refine cy_Ct.of (by decide) (Nat.le_of_ble_eq_true rfl) ?_
  intro F C P _
  have C : cy_C G F R_Model b_Model_simple 5 1 0 0 := C
  have P : cy_P G F none post 0 0 := P
  unfold md_simple_ok at ho
  show WM G F 5 0 0 0 [(0, .ref D.2.2.2.1), (1, .int op), (2, .int v), (3, .int d), (4, .int k)] [] M
  refine wm_iload_n C d_Model_simple_0 rfl (j := 1) rfl ?_
  by_cases e_1_0 : op = 0
  · refine wm_tableIn (tgt := 32) C d_Model_simple_1 (by rw [e_1_0]; decide) (by rw [e_1_0]; decide) (by rw [e_1_0]; rfl) (by decide) ?_
    rw [if_pos e_1_0] at ho
    refine wm_aload_n C d_Model_simple_32 rfl (j := 0) rfl ?_
    refine wm_iload_n C d_Model_simple_33 rfl (j := 2) rfl ?_
    refine wm_callV (d2 := 0) (mc := 0) (ms := 0) C mo_Model_push co_Model ml_Model_146 [.int v] [] rfl hR.1 rfl (by decide) (Nat.le_of_ble_eq_true rfl) (Nat.le_refl _) (Nat.le_refl _) d_Model_simple_34 (cy_kv ?_)
    obtain ⟨o1, ho⟩ := ho
    refine k_push hD hR _ o1 (fun M1 hR1 => ⟨rfl, ?_⟩)
    refine wm_goto (tgt := 111) C d_Model_simple_37 (by decide) ?_
    refine wm_vret C P d_Model_simple_111 ?_
    have e : md_simple s op v d k = (md_push s v) := by rw [md_simple, if_pos e_1_0]
    rw [e] at h
    exact h _ hR1
  by_cases e_1_1 : op = 1
  · refine wm_tableIn (tgt := 40) C d_Model_simple_1 (by rw [e_1_1]; decide) (by rw [e_1_1]; decide) (by rw [e_1_1]; rfl) (by decide) ?_
    rw [if_neg e_1_0, if_pos e_1_1] at ho
    refine wm_aload_n C d_Model_simple_40 rfl (j := 0) rfl ?_
    refine wm_aload_n C d_Model_simple_41 rfl (j := 0) rfl ?_
    refine wm_get C co_Model hR.1 5 (by decide) fl_Model_23 rfl d_Model_simple_42 ?_
    refine wm_iload C d_Model_simple_45 (j := 4) rfl ?_
    refine wm_bipush (v := 16) C d_Model_simple_47 (by decide) ?_
    refine wm_imul C d_Model_simple_49 ?_
    refine wm_iload_n C d_Model_simple_50 rfl (j := 2) rfl ?_
    refine wm_iadd C d_Model_simple_51 ?_
    obtain ⟨o2, ho⟩ := ho
    refine wm_iald C (md_arr hR 4 (by decide)) hD.1 o2 d_Model_simple_52 ?_
    refine wm_callV (d2 := 0) (mc := 0) (ms := 0) C mo_Model_push co_Model ml_Model_146 [.int (s.1 4 ((k * 16) + v).toNatClampNeg)] [] rfl hR.1 rfl (by decide) (Nat.le_of_ble_eq_true rfl) (Nat.le_refl _) (Nat.le_refl _) d_Model_simple_53 (cy_kv ?_)
    obtain ⟨o3, ho⟩ := ho
    refine k_push hD hR _ o3 (fun M2 hR2 => ⟨rfl, ?_⟩)
    refine wm_goto (tgt := 111) C d_Model_simple_56 (by decide) ?_
    refine wm_vret C P d_Model_simple_111 ?_
    have e : md_simple s op v d k = (md_push s (s.1 4 ((k * 16) + v).toNatClampNeg)) := by rw [md_simple, if_neg e_1_0, if_pos e_1_1]
    rw [e] at h
    exact h _ hR2
  by_cases e_1_2 : op = 2
  · refine wm_tableIn (tgt := 59) C d_Model_simple_1 (by rw [e_1_2]; decide) (by rw [e_1_2]; decide) (by rw [e_1_2]; rfl) (by decide) ?_
    rw [if_neg e_1_0, if_neg e_1_1, if_pos e_1_2] at ho
    refine wm_aload_n C d_Model_simple_59 rfl (j := 0) rfl ?_
    refine wm_get C co_Model hR.1 5 (by decide) fl_Model_23 rfl d_Model_simple_60 ?_
    refine wm_iload C d_Model_simple_63 (j := 4) rfl ?_
    refine wm_bipush (v := 16) C d_Model_simple_65 (by decide) ?_
    refine wm_imul C d_Model_simple_67 ?_
    refine wm_iload_n C d_Model_simple_68 rfl (j := 2) rfl ?_
    refine wm_iadd C d_Model_simple_69 ?_
    refine wm_aload_n C d_Model_simple_70 rfl (j := 0) rfl ?_
    refine wm_callV (d2 := 0) (mc := 0) (ms := 0) C mo_Model_pop co_Model ml_Model_178 [] [.int ((k * 16) + v), .ref (D.2.2.2.1 + 5)] rfl hR.1 rfl (by decide) (Nat.le_of_ble_eq_true rfl) (Nat.le_refl _) (Nat.le_refl _) d_Model_simple_71 (cy_ki ?_)
    obtain ⟨o4, ho⟩ := ho
    refine k_pop hD hR  o4 (fun M3 hR3 => ⟨_, rfl, ?_⟩)
    obtain ⟨o5, ho⟩ := ho
    refine wm_iast C (md_arr hR3 4 (by decide)) hD.1 o5 d_Model_simple_74 ?_
    refine md_gen (md_R_sa hR3 (a := 4) (by decide) ((k * 16) + v) ((md_pop s).1)) (fun M4 hR4 => ?_)
    refine wm_goto (tgt := 111) C d_Model_simple_75 (by decide) ?_
    refine wm_vret C P d_Model_simple_111 ?_
    have e : md_simple s op v d k = (md_sa ((md_pop s).2) 4 ((k * 16) + v) ((md_pop s).1)) := by rw [md_simple, if_neg e_1_0, if_neg e_1_1, if_pos e_1_2]
    rw [e] at h
    exact h _ hR4
  by_cases e_1_3 : op = 3
  · refine wm_tableIn (tgt := 78) C d_Model_simple_1 (by rw [e_1_3]; decide) (by rw [e_1_3]; decide) (by rw [e_1_3]; rfl) (by decide) ?_
    rw [if_neg e_1_0, if_neg e_1_1, if_neg e_1_2, if_pos e_1_3] at ho
    refine wm_aload_n C d_Model_simple_78 rfl (j := 0) rfl ?_
    refine wm_aload_n C d_Model_simple_79 rfl (j := 0) rfl ?_
    refine wm_get C co_Model hR.1 24 (by decide) fl_Model_51 rfl d_Model_simple_80 ?_
    refine wm_bipush (v := 8) C d_Model_simple_83 (by decide) ?_
    refine wm_iload_n C d_Model_simple_85 rfl (j := 3) rfl ?_
    refine wm_imul C d_Model_simple_86 ?_
    refine wm_iload_n C d_Model_simple_87 rfl (j := 2) rfl ?_
    refine wm_iadd C d_Model_simple_88 ?_
    obtain ⟨o6, ho⟩ := ho
    refine wm_iald C (md_arr hR 13 (by decide)) hD.1 o6 d_Model_simple_89 ?_
    refine wm_callV (d2 := 0) (mc := 0) (ms := 0) C mo_Model_push co_Model ml_Model_146 [.int (s.1 13 ((8 * d) + v).toNatClampNeg)] [] rfl hR.1 rfl (by decide) (Nat.le_of_ble_eq_true rfl) (Nat.le_refl _) (Nat.le_refl _) d_Model_simple_90 (cy_kv ?_)
    obtain ⟨o7, ho⟩ := ho
    refine k_push hD hR _ o7 (fun M5 hR5 => ⟨rfl, ?_⟩)
    refine wm_goto (tgt := 111) C d_Model_simple_93 (by decide) ?_
    refine wm_vret C P d_Model_simple_111 ?_
    have e : md_simple s op v d k = (md_push s (s.1 13 ((8 * d) + v).toNatClampNeg)) := by rw [md_simple, if_neg e_1_0, if_neg e_1_1, if_neg e_1_2, if_pos e_1_3]
    rw [e] at h
    exact h _ hR5
  · refine wm_tableOut (tgt := 96) C d_Model_simple_1 (by have n0 := lv_neT e_1_0 (a := 0) (by decide); have n1 := lv_neT e_1_1 (a := 1) (by decide); have n2 := lv_neT e_1_2 (a := 2) (by decide); have n3 := lv_neT e_1_3 (a := 3) (by decide); omega) (by decide) ?_
    rw [if_neg e_1_0, if_neg e_1_1, if_neg e_1_2, if_neg e_1_3] at ho
    refine wm_aload_n C d_Model_simple_96 rfl (j := 0) rfl ?_
    refine wm_get C co_Model hR.1 24 (by decide) fl_Model_51 rfl d_Model_simple_97 ?_
    refine wm_bipush (v := 8) C d_Model_simple_100 (by decide) ?_
    refine wm_iload_n C d_Model_simple_102 rfl (j := 3) rfl ?_
    refine wm_imul C d_Model_simple_103 ?_
    refine wm_iload_n C d_Model_simple_104 rfl (j := 2) rfl ?_
    refine wm_iadd C d_Model_simple_105 ?_
    refine wm_aload_n C d_Model_simple_106 rfl (j := 0) rfl ?_
    refine wm_callV (d2 := 0) (mc := 0) (ms := 0) C mo_Model_pop co_Model ml_Model_178 [] [.int ((8 * d) + v), .ref (D.2.2.2.1 + 14)] rfl hR.1 rfl (by decide) (Nat.le_of_ble_eq_true rfl) (Nat.le_refl _) (Nat.le_refl _) d_Model_simple_107 (cy_ki ?_)
    obtain ⟨o8, ho⟩ := ho
    refine k_pop hD hR  o8 (fun M6 hR6 => ⟨_, rfl, ?_⟩)
    obtain ⟨o9, ho⟩ := ho
    refine wm_iast C (md_arr hR6 13 (by decide)) hD.1 o9 d_Model_simple_110 ?_
    refine md_gen (md_R_sa hR6 (a := 13) (by decide) ((8 * d) + v) ((md_pop s).1)) (fun M7 hR7 => ?_)
    refine wm_vret C P d_Model_simple_111 ?_
    have e : md_simple s op v d k = (md_sa ((md_pop s).2) 13 ((8 * d) + v) ((md_pop s).1)) := by rw [md_simple, if_neg e_1_0, if_neg e_1_1, if_neg e_1_2, if_neg e_1_3]
    rw [e] at h
    exact h _ hR7
def md_works (s : md_S) (op : Int32) : md_S :=
  if op = 13 then
    (md_push (md_push ((md_pop s).2) ((md_pop s).1)) ((md_pop s).1))
  else
    if op = 14 then
      (md_pop s).2
    else
      if op = 5 then
        (md_push ((md_pop ((md_pop s).2)).2) (((md_pop ((md_pop s).2)).1) + ((md_pop s).1)))
      else
        if op = 6 then
          (md_push ((md_pop ((md_pop s).2)).2) (((md_pop ((md_pop s).2)).1) - ((md_pop s).1)))
        else
          if op = 7 then
            (md_push ((md_pop ((md_pop s).2)).2) (((md_pop ((md_pop s).2)).1) * ((md_pop s).1)))
          else
            if op = 8 then
              (md_push ((md_pop ((md_pop s).2)).2) (((md_pop ((md_pop s).2)).1) &&& ((md_pop s).1)))
            else
              if op = 9 then
                (md_push ((md_pop ((md_pop s).2)).2) (((md_pop ((md_pop s).2)).1) ||| ((md_pop s).1)))
              else
                if op = 10 then
                  (md_push ((md_pop ((md_pop s).2)).2) (((md_pop ((md_pop s).2)).1) ^^^ ((md_pop s).1)))
                else
                  if op = 11 then
                    (md_push ((md_pop ((md_pop s).2)).2) (((md_pop ((md_pop s).2)).1) <<< ((((md_pop s).1) &&& 31) &&& 31)))
                  else
                    if op = 12 then
                      (md_push ((md_pop ((md_pop s).2)).2) (((md_pop ((md_pop s).2)).1) >>> ((((md_pop s).1) &&& 31) &&& 31)))
                    else
                      (md_push (md_push ((md_pop ((md_pop s).2)).2) ((md_pop s).1)) ((md_pop ((md_pop s).2)).1))
def md_works_ok (s : md_S) (op : Int32) : Prop :=
  (md_pop_ok s) ∧ (
  if op = 13 then
    (md_push_ok ((md_pop s).2) ((md_pop s).1)) ∧ (md_push_ok (md_push ((md_pop s).2) ((md_pop s).1)) ((md_pop s).1)) ∧ (
    True)
  else
    if op = 14 then
      True
    else
      (md_pop_ok ((md_pop s).2)) ∧ (
      if op = 5 then
        (md_push_ok ((md_pop ((md_pop s).2)).2) (((md_pop ((md_pop s).2)).1) + ((md_pop s).1))) ∧ (
        True)
      else
        if op = 6 then
          (md_push_ok ((md_pop ((md_pop s).2)).2) (((md_pop ((md_pop s).2)).1) - ((md_pop s).1))) ∧ (
          True)
        else
          if op = 7 then
            (md_push_ok ((md_pop ((md_pop s).2)).2) (((md_pop ((md_pop s).2)).1) * ((md_pop s).1))) ∧ (
            True)
          else
            if op = 8 then
              (md_push_ok ((md_pop ((md_pop s).2)).2) (((md_pop ((md_pop s).2)).1) &&& ((md_pop s).1))) ∧ (
              True)
            else
              if op = 9 then
                (md_push_ok ((md_pop ((md_pop s).2)).2) (((md_pop ((md_pop s).2)).1) ||| ((md_pop s).1))) ∧ (
                True)
              else
                if op = 10 then
                  (md_push_ok ((md_pop ((md_pop s).2)).2) (((md_pop ((md_pop s).2)).1) ^^^ ((md_pop s).1))) ∧ (
                  True)
                else
                  if op = 11 then
                    (md_push_ok ((md_pop ((md_pop s).2)).2) (((md_pop ((md_pop s).2)).1) <<< ((((md_pop s).1) &&& 31) &&& 31))) ∧ (
                    True)
                  else
                    if op = 12 then
                      (md_push_ok ((md_pop ((md_pop s).2)).2) (((md_pop ((md_pop s).2)).1) >>> ((((md_pop s).1) &&& 31) &&& 31))) ∧ (
                      True)
                    else
                      (md_push_ok ((md_pop ((md_pop s).2)).2) ((md_pop s).1)) ∧ (md_push_ok (md_push ((md_pop ((md_pop s).2)).2) ((md_pop s).1)) ((md_pop ((md_pop s).2)).1)) ∧ (
                      True)))
set_option maxHeartbeats 4000000 in
theorem k_works {G : cy_G} {D : md_E} {s : md_S} {M : cy_Hp} {post : Option Value → cy_Hp → Prop} (hD : md_Eo G D) (hR : md_R D s M) (op : Int32) (ho : md_works_ok s op) (h : ∀ M', md_R D (md_works s op) M' → post none M') : cy_Ct G 1 m_Model_works [.ref D.2.2.2.1, .int op] M 0 0 post := by
  refine cy_Ct.of (by decide) (Nat.le_of_ble_eq_true rfl) ?_
  intro F C P _
  have C : cy_C G F R_Model b_Model_works 4 1 0 0 := C
  have P : cy_P G F none post 0 0 := P
  unfold md_works_ok at ho
  show WM G F 4 0 0 0 [(0, .ref D.2.2.2.1), (1, .int op)] [] M
  refine wm_aload_n C d_Model_works_0 rfl (j := 0) rfl ?_
  refine wm_callV (d2 := 0) (mc := 0) (ms := 0) C mo_Model_pop co_Model ml_Model_178 [] [] rfl hR.1 rfl (by decide) (Nat.le_of_ble_eq_true rfl) (Nat.le_refl _) (Nat.le_refl _) d_Model_works_1 (cy_ki ?_)
  obtain ⟨o1, ho⟩ := ho
  refine k_pop hD hR  o1 (fun M1 hR1 => ⟨_, rfl, ?_⟩)
  refine wm_istore_n (lv' := [(2, .int ((md_pop s).1)), (0, .ref D.2.2.2.1), (1, .int op)]) C d_Model_works_4 rfl (by decide) rfl ?_
  refine wm_iload_n C d_Model_works_5 rfl (j := 2) rfl ?_
  refine wm_bipush (v := 13) C d_Model_works_6 (by decide) ?_
  refine wm_icmp_ne (tgt := 22) C d_Model_works_8 (by decide) (fun (h_8 : ¬ op = 13) => ?_) (fun (h_8 : op = 13) => ?_)
  · rw [if_neg h_8] at ho
    refine wm_iload_n C d_Model_works_22 rfl (j := 2) rfl ?_
    refine wm_bipush (v := 14) C d_Model_works_23 (by decide) ?_
    refine wm_icmp_ne (tgt := 29) C d_Model_works_25 (by decide) (fun (h_25 : ¬ op = 14) => ?_) (fun (h_25 : op = 14) => ?_)
    · rw [if_neg h_25] at ho
      refine wm_aload_n C d_Model_works_29 rfl (j := 1) rfl ?_
      refine wm_callV (d2 := 0) (mc := 0) (ms := 0) C mo_Model_pop co_Model ml_Model_178 [] [] rfl hR1.1 rfl (by decide) (Nat.le_of_ble_eq_true rfl) (Nat.le_refl _) (Nat.le_refl _) d_Model_works_30 (cy_ki ?_)
      obtain ⟨o2, ho⟩ := ho
      refine k_pop hD hR1  o2 (fun M2 hR2 => ⟨_, rfl, ?_⟩)
      refine wm_istore_n (lv' := [(3, .int ((md_pop ((md_pop s).2)).1)), (2, .int ((md_pop s).1)), (0, .ref D.2.2.2.1), (1, .int op)]) C d_Model_works_33 rfl (by decide) rfl ?_
      refine wm_iload_n C d_Model_works_34 rfl (j := 3) rfl ?_
      by_cases e_35_5 : op = 5
      · refine wm_tableIn (tgt := 80) C d_Model_works_35 (by rw [e_35_5]; decide) (by rw [e_35_5]; decide) (by rw [e_35_5]; rfl) (by decide) ?_
        rw [if_pos e_35_5] at ho
        refine wm_aload_n C d_Model_works_80 rfl (j := 2) rfl ?_
        refine wm_iload_n C d_Model_works_81 rfl (j := 0) rfl ?_
        refine wm_iload_n C d_Model_works_82 rfl (j := 1) rfl ?_
        refine wm_iadd C d_Model_works_83 ?_
        refine wm_callV (d2 := 0) (mc := 0) (ms := 0) C mo_Model_push co_Model ml_Model_146 [.int (((md_pop ((md_pop s).2)).1) + ((md_pop s).1))] [] rfl hR2.1 rfl (by decide) (Nat.le_of_ble_eq_true rfl) (Nat.le_refl _) (Nat.le_refl _) d_Model_works_84 (cy_kv ?_)
        obtain ⟨o3, ho⟩ := ho
        refine k_push hD hR2 _ o3 (fun M3 hR3 => ⟨rfl, ?_⟩)
        refine wm_goto (tgt := 176) C d_Model_works_87 (by decide) ?_
        refine wm_vret C P d_Model_works_176 ?_
        have e : md_works s op = (md_push ((md_pop ((md_pop s).2)).2) (((md_pop ((md_pop s).2)).1) + ((md_pop s).1))) := by rw [md_works, if_neg h_8, if_neg h_25, if_pos e_35_5]
        rw [e] at h
        exact h _ hR3
      by_cases e_35_6 : op = 6
      · refine wm_tableIn (tgt := 90) C d_Model_works_35 (by rw [e_35_6]; decide) (by rw [e_35_6]; decide) (by rw [e_35_6]; rfl) (by decide) ?_
        rw [if_neg e_35_5, if_pos e_35_6] at ho
        refine wm_aload_n C d_Model_works_90 rfl (j := 2) rfl ?_
        refine wm_iload_n C d_Model_works_91 rfl (j := 0) rfl ?_
        refine wm_iload_n C d_Model_works_92 rfl (j := 1) rfl ?_
        refine wm_isub C d_Model_works_93 ?_
        refine wm_callV (d2 := 0) (mc := 0) (ms := 0) C mo_Model_push co_Model ml_Model_146 [.int (((md_pop ((md_pop s).2)).1) - ((md_pop s).1))] [] rfl hR2.1 rfl (by decide) (Nat.le_of_ble_eq_true rfl) (Nat.le_refl _) (Nat.le_refl _) d_Model_works_94 (cy_kv ?_)
        obtain ⟨o4, ho⟩ := ho
        refine k_push hD hR2 _ o4 (fun M4 hR4 => ⟨rfl, ?_⟩)
        refine wm_goto (tgt := 176) C d_Model_works_97 (by decide) ?_
        refine wm_vret C P d_Model_works_176 ?_
        have e : md_works s op = (md_push ((md_pop ((md_pop s).2)).2) (((md_pop ((md_pop s).2)).1) - ((md_pop s).1))) := by rw [md_works, if_neg h_8, if_neg h_25, if_neg e_35_5, if_pos e_35_6]
        rw [e] at h
        exact h _ hR4
      by_cases e_35_7 : op = 7
      · refine wm_tableIn (tgt := 100) C d_Model_works_35 (by rw [e_35_7]; decide) (by rw [e_35_7]; decide) (by rw [e_35_7]; rfl) (by decide) ?_
        rw [if_neg e_35_5, if_neg e_35_6, if_pos e_35_7] at ho
        refine wm_aload_n C d_Model_works_100 rfl (j := 2) rfl ?_
        refine wm_iload_n C d_Model_works_101 rfl (j := 0) rfl ?_
        refine wm_iload_n C d_Model_works_102 rfl (j := 1) rfl ?_
        refine wm_imul C d_Model_works_103 ?_
        refine wm_callV (d2 := 0) (mc := 0) (ms := 0) C mo_Model_push co_Model ml_Model_146 [.int (((md_pop ((md_pop s).2)).1) * ((md_pop s).1))] [] rfl hR2.1 rfl (by decide) (Nat.le_of_ble_eq_true rfl) (Nat.le_refl _) (Nat.le_refl _) d_Model_works_104 (cy_kv ?_)
        obtain ⟨o5, ho⟩ := ho
        refine k_push hD hR2 _ o5 (fun M5 hR5 => ⟨rfl, ?_⟩)
        refine wm_goto (tgt := 176) C d_Model_works_107 (by decide) ?_
        refine wm_vret C P d_Model_works_176 ?_
        have e : md_works s op = (md_push ((md_pop ((md_pop s).2)).2) (((md_pop ((md_pop s).2)).1) * ((md_pop s).1))) := by rw [md_works, if_neg h_8, if_neg h_25, if_neg e_35_5, if_neg e_35_6, if_pos e_35_7]
        rw [e] at h
        exact h _ hR5
      by_cases e_35_8 : op = 8
      · refine wm_tableIn (tgt := 110) C d_Model_works_35 (by rw [e_35_8]; decide) (by rw [e_35_8]; decide) (by rw [e_35_8]; rfl) (by decide) ?_
        rw [if_neg e_35_5, if_neg e_35_6, if_neg e_35_7, if_pos e_35_8] at ho
        refine wm_aload_n C d_Model_works_110 rfl (j := 2) rfl ?_
        refine wm_iload_n C d_Model_works_111 rfl (j := 0) rfl ?_
        refine wm_iload_n C d_Model_works_112 rfl (j := 1) rfl ?_
        refine wm_iand C d_Model_works_113 ?_
        refine wm_callV (d2 := 0) (mc := 0) (ms := 0) C mo_Model_push co_Model ml_Model_146 [.int (((md_pop ((md_pop s).2)).1) &&& ((md_pop s).1))] [] rfl hR2.1 rfl (by decide) (Nat.le_of_ble_eq_true rfl) (Nat.le_refl _) (Nat.le_refl _) d_Model_works_114 (cy_kv ?_)
        obtain ⟨o6, ho⟩ := ho
        refine k_push hD hR2 _ o6 (fun M6 hR6 => ⟨rfl, ?_⟩)
        refine wm_goto (tgt := 176) C d_Model_works_117 (by decide) ?_
        refine wm_vret C P d_Model_works_176 ?_
        have e : md_works s op = (md_push ((md_pop ((md_pop s).2)).2) (((md_pop ((md_pop s).2)).1) &&& ((md_pop s).1))) := by rw [md_works, if_neg h_8, if_neg h_25, if_neg e_35_5, if_neg e_35_6, if_neg e_35_7, if_pos e_35_8]
        rw [e] at h
        exact h _ hR6
      by_cases e_35_9 : op = 9
      · refine wm_tableIn (tgt := 120) C d_Model_works_35 (by rw [e_35_9]; decide) (by rw [e_35_9]; decide) (by rw [e_35_9]; rfl) (by decide) ?_
        rw [if_neg e_35_5, if_neg e_35_6, if_neg e_35_7, if_neg e_35_8, if_pos e_35_9] at ho
        refine wm_aload_n C d_Model_works_120 rfl (j := 2) rfl ?_
        refine wm_iload_n C d_Model_works_121 rfl (j := 0) rfl ?_
        refine wm_iload_n C d_Model_works_122 rfl (j := 1) rfl ?_
        refine wm_ior C d_Model_works_123 ?_
        refine wm_callV (d2 := 0) (mc := 0) (ms := 0) C mo_Model_push co_Model ml_Model_146 [.int (((md_pop ((md_pop s).2)).1) ||| ((md_pop s).1))] [] rfl hR2.1 rfl (by decide) (Nat.le_of_ble_eq_true rfl) (Nat.le_refl _) (Nat.le_refl _) d_Model_works_124 (cy_kv ?_)
        obtain ⟨o7, ho⟩ := ho
        refine k_push hD hR2 _ o7 (fun M7 hR7 => ⟨rfl, ?_⟩)
        refine wm_goto (tgt := 176) C d_Model_works_127 (by decide) ?_
        refine wm_vret C P d_Model_works_176 ?_
        have e : md_works s op = (md_push ((md_pop ((md_pop s).2)).2) (((md_pop ((md_pop s).2)).1) ||| ((md_pop s).1))) := by rw [md_works, if_neg h_8, if_neg h_25, if_neg e_35_5, if_neg e_35_6, if_neg e_35_7, if_neg e_35_8, if_pos e_35_9]
        rw [e] at h
        exact h _ hR7
      by_cases e_35_10 : op = 10
      · refine wm_tableIn (tgt := 130) C d_Model_works_35 (by rw [e_35_10]; decide) (by rw [e_35_10]; decide) (by rw [e_35_10]; rfl) (by decide) ?_
        rw [if_neg e_35_5, if_neg e_35_6, if_neg e_35_7, if_neg e_35_8, if_neg e_35_9, if_pos e_35_10] at ho
        refine wm_aload_n C d_Model_works_130 rfl (j := 2) rfl ?_
        refine wm_iload_n C d_Model_works_131 rfl (j := 0) rfl ?_
        refine wm_iload_n C d_Model_works_132 rfl (j := 1) rfl ?_
        refine wm_ixor C d_Model_works_133 ?_
        refine wm_callV (d2 := 0) (mc := 0) (ms := 0) C mo_Model_push co_Model ml_Model_146 [.int (((md_pop ((md_pop s).2)).1) ^^^ ((md_pop s).1))] [] rfl hR2.1 rfl (by decide) (Nat.le_of_ble_eq_true rfl) (Nat.le_refl _) (Nat.le_refl _) d_Model_works_134 (cy_kv ?_)
        obtain ⟨o8, ho⟩ := ho
        refine k_push hD hR2 _ o8 (fun M8 hR8 => ⟨rfl, ?_⟩)
        refine wm_goto (tgt := 176) C d_Model_works_137 (by decide) ?_
        refine wm_vret C P d_Model_works_176 ?_
        have e : md_works s op = (md_push ((md_pop ((md_pop s).2)).2) (((md_pop ((md_pop s).2)).1) ^^^ ((md_pop s).1))) := by rw [md_works, if_neg h_8, if_neg h_25, if_neg e_35_5, if_neg e_35_6, if_neg e_35_7, if_neg e_35_8, if_neg e_35_9, if_pos e_35_10]
        rw [e] at h
        exact h _ hR8
      by_cases e_35_11 : op = 11
      · refine wm_tableIn (tgt := 140) C d_Model_works_35 (by rw [e_35_11]; decide) (by rw [e_35_11]; decide) (by rw [e_35_11]; rfl) (by decide) ?_
        rw [if_neg e_35_5, if_neg e_35_6, if_neg e_35_7, if_neg e_35_8, if_neg e_35_9, if_neg e_35_10, if_pos e_35_11] at ho
        refine wm_aload_n C d_Model_works_140 rfl (j := 2) rfl ?_
        refine wm_iload_n C d_Model_works_141 rfl (j := 0) rfl ?_
        refine wm_iload_n C d_Model_works_142 rfl (j := 1) rfl ?_
        refine wm_bipush (v := 31) C d_Model_works_143 (by decide) ?_
        refine wm_iand C d_Model_works_145 ?_
        refine wm_ishl C d_Model_works_146 ?_
        refine wm_callV (d2 := 0) (mc := 0) (ms := 0) C mo_Model_push co_Model ml_Model_146 [.int (((md_pop ((md_pop s).2)).1) <<< ((((md_pop s).1) &&& 31) &&& 31))] [] rfl hR2.1 rfl (by decide) (Nat.le_of_ble_eq_true rfl) (Nat.le_refl _) (Nat.le_refl _) d_Model_works_147 (cy_kv ?_)
        obtain ⟨o9, ho⟩ := ho
        refine k_push hD hR2 _ o9 (fun M9 hR9 => ⟨rfl, ?_⟩)
        refine wm_goto (tgt := 176) C d_Model_works_150 (by decide) ?_
        refine wm_vret C P d_Model_works_176 ?_
        have e : md_works s op = (md_push ((md_pop ((md_pop s).2)).2) (((md_pop ((md_pop s).2)).1) <<< ((((md_pop s).1) &&& 31) &&& 31))) := by rw [md_works, if_neg h_8, if_neg h_25, if_neg e_35_5, if_neg e_35_6, if_neg e_35_7, if_neg e_35_8, if_neg e_35_9, if_neg e_35_10, if_pos e_35_11]
        rw [e] at h
        exact h _ hR9
      by_cases e_35_12 : op = 12
      · refine wm_tableIn (tgt := 153) C d_Model_works_35 (by rw [e_35_12]; decide) (by rw [e_35_12]; decide) (by rw [e_35_12]; rfl) (by decide) ?_
        rw [if_neg e_35_5, if_neg e_35_6, if_neg e_35_7, if_neg e_35_8, if_neg e_35_9, if_neg e_35_10, if_neg e_35_11, if_pos e_35_12] at ho
        refine wm_aload_n C d_Model_works_153 rfl (j := 2) rfl ?_
        refine wm_iload_n C d_Model_works_154 rfl (j := 0) rfl ?_
        refine wm_iload_n C d_Model_works_155 rfl (j := 1) rfl ?_
        refine wm_bipush (v := 31) C d_Model_works_156 (by decide) ?_
        refine wm_iand C d_Model_works_158 ?_
        refine wm_ishr C d_Model_works_159 ?_
        refine wm_callV (d2 := 0) (mc := 0) (ms := 0) C mo_Model_push co_Model ml_Model_146 [.int (((md_pop ((md_pop s).2)).1) >>> ((((md_pop s).1) &&& 31) &&& 31))] [] rfl hR2.1 rfl (by decide) (Nat.le_of_ble_eq_true rfl) (Nat.le_refl _) (Nat.le_refl _) d_Model_works_160 (cy_kv ?_)
        obtain ⟨o10, ho⟩ := ho
        refine k_push hD hR2 _ o10 (fun M10 hR10 => ⟨rfl, ?_⟩)
        refine wm_goto (tgt := 176) C d_Model_works_163 (by decide) ?_
        refine wm_vret C P d_Model_works_176 ?_
        have e : md_works s op = (md_push ((md_pop ((md_pop s).2)).2) (((md_pop ((md_pop s).2)).1) >>> ((((md_pop s).1) &&& 31) &&& 31))) := by rw [md_works, if_neg h_8, if_neg h_25, if_neg e_35_5, if_neg e_35_6, if_neg e_35_7, if_neg e_35_8, if_neg e_35_9, if_neg e_35_10, if_neg e_35_11, if_pos e_35_12]
        rw [e] at h
        exact h _ hR10
      · refine wm_tableOut (tgt := 166) C d_Model_works_35 (by have n0 := lv_neT e_35_5 (a := 5) (by decide); have n1 := lv_neT e_35_6 (a := 6) (by decide); have n2 := lv_neT e_35_7 (a := 7) (by decide); have n3 := lv_neT e_35_8 (a := 8) (by decide); have n4 := lv_neT e_35_9 (a := 9) (by decide); have n5 := lv_neT e_35_10 (a := 10) (by decide); have n6 := lv_neT e_35_11 (a := 11) (by decide); have n7 := lv_neT e_35_12 (a := 12) (by decide); omega) (by decide) ?_
        rw [if_neg e_35_5, if_neg e_35_6, if_neg e_35_7, if_neg e_35_8, if_neg e_35_9, if_neg e_35_10, if_neg e_35_11, if_neg e_35_12] at ho
        refine wm_aload_n C d_Model_works_166 rfl (j := 2) rfl ?_
        refine wm_iload_n C d_Model_works_167 rfl (j := 1) rfl ?_
        refine wm_callV (d2 := 0) (mc := 0) (ms := 0) C mo_Model_push co_Model ml_Model_146 [.int ((md_pop s).1)] [] rfl hR2.1 rfl (by decide) (Nat.le_of_ble_eq_true rfl) (Nat.le_refl _) (Nat.le_refl _) d_Model_works_168 (cy_kv ?_)
        obtain ⟨o11, ho⟩ := ho
        refine k_push hD hR2 _ o11 (fun M11 hR11 => ⟨rfl, ?_⟩)
        refine wm_aload_n C d_Model_works_171 rfl (j := 2) rfl ?_
        refine wm_iload_n C d_Model_works_172 rfl (j := 0) rfl ?_
        refine wm_callV (d2 := 0) (mc := 0) (ms := 0) C mo_Model_push co_Model ml_Model_146 [.int ((md_pop ((md_pop s).2)).1)] [] rfl hR11.1 rfl (by decide) (Nat.le_of_ble_eq_true rfl) (Nat.le_refl _) (Nat.le_refl _) d_Model_works_173 (cy_kv ?_)
        obtain ⟨o12, ho⟩ := ho
        refine k_push hD hR11 _ o12 (fun M12 hR12 => ⟨rfl, ?_⟩)
        refine wm_vret C P d_Model_works_176 ?_
        have e : md_works s op = (md_push (md_push ((md_pop ((md_pop s).2)).2) ((md_pop s).1)) ((md_pop ((md_pop s).2)).1)) := by rw [md_works, if_neg h_8, if_neg h_25, if_neg e_35_5, if_neg e_35_6, if_neg e_35_7, if_neg e_35_8, if_neg e_35_9, if_neg e_35_10, if_neg e_35_11, if_neg e_35_12]
        rw [e] at h
        exact h _ hR12
    · rw [if_pos h_25] at ho
      refine wm_vret C P d_Model_works_28 ?_
      have e : md_works s op = (md_pop s).2 := by rw [md_works, if_neg h_8, if_pos h_25]
      rw [e] at h
      exact h _ hR1
  · rw [if_pos h_8] at ho
    refine wm_aload_n C d_Model_works_11 rfl (j := 1) rfl ?_
    refine wm_iload_n C d_Model_works_12 rfl (j := 0) rfl ?_
    refine wm_callV (d2 := 0) (mc := 0) (ms := 0) C mo_Model_push co_Model ml_Model_146 [.int ((md_pop s).1)] [] rfl hR1.1 rfl (by decide) (Nat.le_of_ble_eq_true rfl) (Nat.le_refl _) (Nat.le_refl _) d_Model_works_13 (cy_kv ?_)
    obtain ⟨o13, ho⟩ := ho
    refine k_push hD hR1 _ o13 (fun M13 hR13 => ⟨rfl, ?_⟩)
    refine wm_aload_n C d_Model_works_16 rfl (j := 1) rfl ?_
    refine wm_iload_n C d_Model_works_17 rfl (j := 0) rfl ?_
    refine wm_callV (d2 := 0) (mc := 0) (ms := 0) C mo_Model_push co_Model ml_Model_146 [.int ((md_pop s).1)] [] rfl hR13.1 rfl (by decide) (Nat.le_of_ble_eq_true rfl) (Nat.le_refl _) (Nat.le_refl _) d_Model_works_18 (cy_kv ?_)
    obtain ⟨o14, ho⟩ := ho
    refine k_push hD hR13 _ o14 (fun M14 hR14 => ⟨rfl, ?_⟩)
    refine wm_vret C P d_Model_works_21 ?_
    have e : md_works s op = (md_push (md_push ((md_pop s).2) ((md_pop s).1)) ((md_pop s).1)) := by rw [md_works, if_pos h_8]
    rw [e] at h
    exact h _ hR14
def md_jumps (s : md_S) (op : Int32) (to : Int32) (d : Int32) : md_S :=
  if op = 17 then
    if ((md_pop s).1) = 0 then
      (md_sa ((md_pop s).2) 10 d to)
    else
      (md_sa ((md_pop s).2) 10 d (((md_pop s).2).1 10 d.toNatClampNeg))
  else
    if op = 18 then
      if ((md_pop s).1) ≤ ((md_pop ((md_pop s).2)).1) then
        (md_sa ((md_pop ((md_pop s).2)).2) 10 d (((md_pop ((md_pop s).2)).2).1 10 d.toNatClampNeg))
      else
        (md_sa ((md_pop ((md_pop s).2)).2) 10 d to)
    else
      (md_sa s 10 d to)
def md_jumps_ok (s : md_S) (op : Int32) (to : Int32) (d : Int32) : Prop :=
  if op = 17 then
    (md_pop_ok s) ∧ (
    if ((md_pop s).1) = 0 then
      (vp_in d 8) ∧ (
      True)
    else
      (vp_in d 8) ∧ (vp_in d 8) ∧ (
      True))
  else
    if op = 18 then
      (md_pop_ok s) ∧ (md_pop_ok ((md_pop s).2)) ∧ (
      if ((md_pop s).1) ≤ ((md_pop ((md_pop s).2)).1) then
        (vp_in d 8) ∧ (vp_in d 8) ∧ (
        True)
      else
        (vp_in d 8) ∧ (
        True))
    else
      (vp_in d 8) ∧ (
      True)
set_option maxHeartbeats 4000000 in
theorem k_jumps {G : cy_G} {D : md_E} {s : md_S} {M : cy_Hp} {post : Option Value → cy_Hp → Prop} (hD : md_Eo G D) (hR : md_R D s M) (op : Int32) (to : Int32) (d : Int32) (ho : md_jumps_ok s op to d) (h : ∀ M', md_R D (md_jumps s op to d) M' → post none M') : cy_Ct G 1 m_Model_jumps [.ref D.2.2.2.1, .int op, .int to, .int d] M 0 0 post := by
  refine cy_Ct.of (by decide) (Nat.le_of_ble_eq_true rfl) ?_
  intro F C P _
  have C : cy_C G F R_Model b_Model_jumps 6 1 0 0 := C
  have P : cy_P G F none post 0 0 := P
  unfold md_jumps_ok at ho
  show WM G F 6 0 0 0 [(0, .ref D.2.2.2.1), (1, .int op), (2, .int to), (3, .int d)] [] M
  refine wm_iconst (v := 1) C d_Model_jumps_0 (by decide) ?_
  refine wm_istore (lv' := [(4, .int 1), (0, .ref D.2.2.2.1), (1, .int op), (2, .int to), (3, .int d)]) C d_Model_jumps_1 (by decide) rfl ?_
  refine wm_iload_n C d_Model_jumps_3 rfl (j := 2) rfl ?_
  refine wm_bipush (v := 17) C d_Model_jumps_4 (by decide) ?_
  refine wm_icmp_ne (tgt := 26) C d_Model_jumps_6 (by decide) (fun (h_6 : ¬ op = 17) => ?_) (fun (h_6 : op = 17) => ?_)
  · rw [if_neg h_6] at ho
    refine wm_iload_n C d_Model_jumps_26 rfl (j := 2) rfl ?_
    refine wm_bipush (v := 18) C d_Model_jumps_27 (by decide) ?_
    refine wm_icmp_ne (tgt := 54) C d_Model_jumps_29 (by decide) (fun (h_29 : ¬ op = 18) => ?_) (fun (h_29 : op = 18) => ?_)
    · rw [if_neg h_29] at ho
      refine wm_aload_n C d_Model_jumps_54 rfl (j := 1) rfl ?_
      refine wm_get C co_Model hR.1 21 (by decide) fl_Model_42 rfl d_Model_jumps_55 ?_
      refine wm_iload_n C d_Model_jumps_58 rfl (j := 4) rfl ?_
      refine wm_iload C d_Model_jumps_59 (j := 0) rfl ?_
      refine wm_if_eq (tgt := 68) C d_Model_jumps_61 (by decide) (fun (h_61 : 1 = 0) => ?_) (fun (h_61 : ¬ 1 = 0) => ?_)
      · exact absurd h_61 (by decide)
      · refine wm_iload_n C d_Model_jumps_64 rfl (j := 3) rfl ?_
        refine wm_goto (tgt := 74) C d_Model_jumps_65 (by decide) ?_
        obtain ⟨o1, ho⟩ := ho
        refine wm_iast C (md_arr hR 10 (by decide)) hD.1 o1 d_Model_jumps_74 ?_
        refine md_gen (md_R_sa hR (a := 10) (by decide) d to) (fun M1 hR1 => ?_)
        refine wm_vret C P d_Model_jumps_75 ?_
        have e : md_jumps s op to d = (md_sa s 10 d to) := by rw [md_jumps, if_neg h_6, if_neg h_29]
        rw [e] at h
        exact h _ hR1
    · rw [if_pos h_29] at ho
      refine wm_aload_n C d_Model_jumps_32 rfl (j := 1) rfl ?_
      refine wm_callV (d2 := 0) (mc := 0) (ms := 0) C mo_Model_pop co_Model ml_Model_178 [] [] rfl hR.1 rfl (by decide) (Nat.le_of_ble_eq_true rfl) (Nat.le_refl _) (Nat.le_refl _) d_Model_jumps_33 (cy_ki ?_)
      obtain ⟨o2, ho⟩ := ho
      refine k_pop hD hR  o2 (fun M2 hR2 => ⟨_, rfl, ?_⟩)
      refine wm_istore (lv' := [(5, .int ((md_pop s).1)), (4, .int 1), (0, .ref D.2.2.2.1), (1, .int op), (2, .int to), (3, .int d)]) C d_Model_jumps_36 (by decide) rfl ?_
      refine wm_aload_n C d_Model_jumps_38 rfl (j := 2) rfl ?_
      refine wm_callV (d2 := 0) (mc := 0) (ms := 0) C mo_Model_pop co_Model ml_Model_178 [] [] rfl hR2.1 rfl (by decide) (Nat.le_of_ble_eq_true rfl) (Nat.le_refl _) (Nat.le_refl _) d_Model_jumps_39 (cy_ki ?_)
      obtain ⟨o3, ho⟩ := ho
      refine k_pop hD hR2  o3 (fun M3 hR3 => ⟨_, rfl, ?_⟩)
      refine wm_iload C d_Model_jumps_42 (j := 0) rfl ?_
      refine wm_icmp_ge (tgt := 51) C d_Model_jumps_44 (by decide) (fun (h_44 : ((md_pop s).1) ≤ ((md_pop ((md_pop s).2)).1)) => ?_) (fun (h_44 : ¬ ((md_pop s).1) ≤ ((md_pop ((md_pop s).2)).1)) => ?_)
      · rw [if_pos h_44] at ho
        refine wm_iconst (v := 0) C d_Model_jumps_51 (by decide) ?_
        refine wm_istore (lv' := [(4, .int 0), (5, .int ((md_pop s).1)), (0, .ref D.2.2.2.1), (1, .int op), (2, .int to), (3, .int d)]) C d_Model_jumps_52 (by decide) rfl ?_
        refine wm_aload_n C d_Model_jumps_54 rfl (j := 2) rfl ?_
        refine wm_get C co_Model hR3.1 21 (by decide) fl_Model_42 rfl d_Model_jumps_55 ?_
        refine wm_iload_n C d_Model_jumps_58 rfl (j := 5) rfl ?_
        refine wm_iload C d_Model_jumps_59 (j := 0) rfl ?_
        refine wm_if_eq (tgt := 68) C d_Model_jumps_61 (by decide) (fun (h_61_5 : 0 = 0) => ?_) (fun (h_61_5 : ¬ 0 = 0) => ?_)
        · refine wm_aload_n C d_Model_jumps_68 rfl (j := 2) rfl ?_
          refine wm_get C co_Model hR3.1 21 (by decide) fl_Model_42 rfl d_Model_jumps_69 ?_
          refine wm_iload_n C d_Model_jumps_72 rfl (j := 5) rfl ?_
          obtain ⟨o4, ho⟩ := ho
          refine wm_iald C (md_arr hR3 10 (by decide)) hD.1 o4 d_Model_jumps_73 ?_
          obtain ⟨o5, ho⟩ := ho
          refine wm_iast C (md_arr hR3 10 (by decide)) hD.1 o5 d_Model_jumps_74 ?_
          refine md_gen (md_R_sa hR3 (a := 10) (by decide) d (((md_pop ((md_pop s).2)).2).1 10 d.toNatClampNeg)) (fun M4 hR4 => ?_)
          refine wm_vret C P d_Model_jumps_75 ?_
          have e : md_jumps s op to d = (md_sa ((md_pop ((md_pop s).2)).2) 10 d (((md_pop ((md_pop s).2)).2).1 10 d.toNatClampNeg)) := by rw [md_jumps, if_neg h_6, if_pos h_29, if_pos h_44]
          rw [e] at h
          exact h _ hR4
        · exact absurd h_61_5 (by decide)
      · rw [if_neg h_44] at ho
        refine wm_iconst (v := 1) C d_Model_jumps_47 (by decide) ?_
        refine wm_goto (tgt := 52) C d_Model_jumps_48 (by decide) ?_
        refine wm_istore (lv' := [(4, .int 1), (5, .int ((md_pop s).1)), (0, .ref D.2.2.2.1), (1, .int op), (2, .int to), (3, .int d)]) C d_Model_jumps_52 (by decide) rfl ?_
        refine wm_aload_n C d_Model_jumps_54 rfl (j := 2) rfl ?_
        refine wm_get C co_Model hR3.1 21 (by decide) fl_Model_42 rfl d_Model_jumps_55 ?_
        refine wm_iload_n C d_Model_jumps_58 rfl (j := 5) rfl ?_
        refine wm_iload C d_Model_jumps_59 (j := 0) rfl ?_
        refine wm_if_eq (tgt := 68) C d_Model_jumps_61 (by decide) (fun (h_61_6 : 1 = 0) => ?_) (fun (h_61_6 : ¬ 1 = 0) => ?_)
        · exact absurd h_61_6 (by decide)
        · refine wm_iload_n C d_Model_jumps_64 rfl (j := 4) rfl ?_
          refine wm_goto (tgt := 74) C d_Model_jumps_65 (by decide) ?_
          obtain ⟨o6, ho⟩ := ho
          refine wm_iast C (md_arr hR3 10 (by decide)) hD.1 o6 d_Model_jumps_74 ?_
          refine md_gen (md_R_sa hR3 (a := 10) (by decide) d to) (fun M5 hR5 => ?_)
          refine wm_vret C P d_Model_jumps_75 ?_
          have e : md_jumps s op to d = (md_sa ((md_pop ((md_pop s).2)).2) 10 d to) := by rw [md_jumps, if_neg h_6, if_pos h_29, if_neg h_44]
          rw [e] at h
          exact h _ hR5
  · rw [if_pos h_6] at ho
    refine wm_aload_n C d_Model_jumps_9 rfl (j := 1) rfl ?_
    refine wm_callV (d2 := 0) (mc := 0) (ms := 0) C mo_Model_pop co_Model ml_Model_178 [] [] rfl hR.1 rfl (by decide) (Nat.le_of_ble_eq_true rfl) (Nat.le_refl _) (Nat.le_refl _) d_Model_jumps_10 (cy_ki ?_)
    obtain ⟨o7, ho⟩ := ho
    refine k_pop hD hR  o7 (fun M6 hR6 => ⟨_, rfl, ?_⟩)
    refine wm_if_ne (tgt := 20) C d_Model_jumps_13 (by decide) (fun (h_13 : ¬ ((md_pop s).1) = 0) => ?_) (fun (h_13 : ((md_pop s).1) = 0) => ?_)
    · rw [if_neg h_13] at ho
      refine wm_iconst (v := 0) C d_Model_jumps_20 (by decide) ?_
      refine wm_istore (lv' := [(4, .int 0), (0, .ref D.2.2.2.1), (1, .int op), (2, .int to), (3, .int d)]) C d_Model_jumps_21 (by decide) rfl ?_
      refine wm_goto (tgt := 54) C d_Model_jumps_23 (by decide) ?_
      refine wm_aload_n C d_Model_jumps_54 rfl (j := 1) rfl ?_
      refine wm_get C co_Model hR6.1 21 (by decide) fl_Model_42 rfl d_Model_jumps_55 ?_
      refine wm_iload_n C d_Model_jumps_58 rfl (j := 4) rfl ?_
      refine wm_iload C d_Model_jumps_59 (j := 0) rfl ?_
      refine wm_if_eq (tgt := 68) C d_Model_jumps_61 (by decide) (fun (h_61_8 : 0 = 0) => ?_) (fun (h_61_8 : ¬ 0 = 0) => ?_)
      · refine wm_aload_n C d_Model_jumps_68 rfl (j := 1) rfl ?_
        refine wm_get C co_Model hR6.1 21 (by decide) fl_Model_42 rfl d_Model_jumps_69 ?_
        refine wm_iload_n C d_Model_jumps_72 rfl (j := 4) rfl ?_
        obtain ⟨o8, ho⟩ := ho
        refine wm_iald C (md_arr hR6 10 (by decide)) hD.1 o8 d_Model_jumps_73 ?_
        obtain ⟨o9, ho⟩ := ho
        refine wm_iast C (md_arr hR6 10 (by decide)) hD.1 o9 d_Model_jumps_74 ?_
        refine md_gen (md_R_sa hR6 (a := 10) (by decide) d (((md_pop s).2).1 10 d.toNatClampNeg)) (fun M7 hR7 => ?_)
        refine wm_vret C P d_Model_jumps_75 ?_
        have e : md_jumps s op to d = (md_sa ((md_pop s).2) 10 d (((md_pop s).2).1 10 d.toNatClampNeg)) := by rw [md_jumps, if_pos h_6, if_neg h_13]
        rw [e] at h
        exact h _ hR7
      · exact absurd h_61_8 (by decide)
    · rw [if_pos h_13] at ho
      refine wm_iconst (v := 1) C d_Model_jumps_16 (by decide) ?_
      refine wm_goto (tgt := 21) C d_Model_jumps_17 (by decide) ?_
      refine wm_istore (lv' := [(4, .int 1), (0, .ref D.2.2.2.1), (1, .int op), (2, .int to), (3, .int d)]) C d_Model_jumps_21 (by decide) rfl ?_
      refine wm_goto (tgt := 54) C d_Model_jumps_23 (by decide) ?_
      refine wm_aload_n C d_Model_jumps_54 rfl (j := 1) rfl ?_
      refine wm_get C co_Model hR6.1 21 (by decide) fl_Model_42 rfl d_Model_jumps_55 ?_
      refine wm_iload_n C d_Model_jumps_58 rfl (j := 4) rfl ?_
      refine wm_iload C d_Model_jumps_59 (j := 0) rfl ?_
      refine wm_if_eq (tgt := 68) C d_Model_jumps_61 (by decide) (fun (h_61_9 : 1 = 0) => ?_) (fun (h_61_9 : ¬ 1 = 0) => ?_)
      · exact absurd h_61_9 (by decide)
      · refine wm_iload_n C d_Model_jumps_64 rfl (j := 3) rfl ?_
        refine wm_goto (tgt := 74) C d_Model_jumps_65 (by decide) ?_
        obtain ⟨o10, ho⟩ := ho
        refine wm_iast C (md_arr hR6 10 (by decide)) hD.1 o10 d_Model_jumps_74 ?_
        refine md_gen (md_R_sa hR6 (a := 10) (by decide) d to) (fun M8 hR8 => ?_)
        refine wm_vret C P d_Model_jumps_75 ?_
        have e : md_jumps s op to d = (md_sa ((md_pop s).2) 10 d to) := by rw [md_jumps, if_pos h_6, if_pos h_13]
        rw [e] at h
        exact h _ hR8
def md_bytes (s : md_S) (op : Int32) : md_S :=
  if op = 20 then
    (md_push s (s.2 11))
  else
    if op = 19 then
      if ((md_pop s).1) < 0 then
        (md_throwFor ((md_pop s).2) 2)
      else
        if ((md_pop s).1) < (((md_pop s).2).2 11) then
          (md_push ((md_pop s).2) ((((md_pop s).2).1 14 ((md_pop s).1).toNatClampNeg) &&& 255))
        else
          (md_throwFor ((md_pop s).2) 2)
    else
      if (((md_pop s).2).2 12) = 64 then
        (md_throwFor ((md_pop s).2) 3)
      else
        (md_ss (md_sa ((md_pop s).2) 15 (((md_pop s).2).2 12) ((((md_pop s).1).toInt8.toInt32).toInt8.toInt32)) 12 ((((md_pop s).2).2 12) + 1))
def md_bytes_ok (s : md_S) (op : Int32) : Prop :=
  if op = 20 then
    (md_push_ok s (s.2 11)) ∧ (
    True)
  else
    (md_pop_ok s) ∧ (
    if op = 19 then
      if ((md_pop s).1) < 0 then
        (md_throwFor_ok ((md_pop s).2) 2) ∧ (
        True)
      else
        if ((md_pop s).1) < (((md_pop s).2).2 11) then
          (vp_in ((md_pop s).1) 300) ∧ (md_push_ok ((md_pop s).2) ((((md_pop s).2).1 14 ((md_pop s).1).toNatClampNeg) &&& 255)) ∧ (
          True)
        else
          (md_throwFor_ok ((md_pop s).2) 2) ∧ (
          True)
    else
      if (((md_pop s).2).2 12) = 64 then
        (md_throwFor_ok ((md_pop s).2) 3) ∧ (
        True)
      else
        (vp_in (((md_pop s).2).2 12) 64) ∧ (
        True))
set_option maxHeartbeats 4000000 in
theorem k_bytes {G : cy_G} {D : md_E} {s : md_S} {M : cy_Hp} {post : Option Value → cy_Hp → Prop} (hD : md_Eo G D) (hR : md_R D s M) (op : Int32) (ho : md_bytes_ok s op) (h : ∀ M', md_R D (md_bytes s op) M' → post none M') : cy_Ct G 2 m_Model_bytes [.ref D.2.2.2.1, .int op] M 0 0 post := by
  refine cy_Ct.of (by decide) (Nat.le_of_ble_eq_true rfl) ?_
  intro F C P _
  have C : cy_C G F R_Model b_Model_bytes 3 2 0 0 := C
  have P : cy_P G F none post 0 0 := P
  unfold md_bytes_ok at ho
  show WM G F 3 0 0 0 [(0, .ref D.2.2.2.1), (1, .int op)] [] M
  refine wm_iload_n C d_Model_bytes_0 rfl (j := 1) rfl ?_
  refine wm_bipush (v := 20) C d_Model_bytes_1 (by decide) ?_
  refine wm_icmp_ne (tgt := 15) C d_Model_bytes_3 (by decide) (fun (h_3 : ¬ op = 20) => ?_) (fun (h_3 : op = 20) => ?_)
  · rw [if_neg h_3] at ho
    refine wm_aload_n C d_Model_bytes_15 rfl (j := 0) rfl ?_
    refine wm_callV (d2 := 0) (mc := 0) (ms := 0) C mo_Model_pop co_Model ml_Model_178 [] [] rfl hR.1 rfl (by decide) (Nat.le_of_ble_eq_true rfl) (Nat.le_refl _) (Nat.le_refl _) d_Model_bytes_16 (cy_ki ?_)
    obtain ⟨o1, ho⟩ := ho
    refine k_pop hD hR  o1 (fun M1 hR1 => ⟨_, rfl, ?_⟩)
    refine wm_istore_n (lv' := [(2, .int ((md_pop s).1)), (0, .ref D.2.2.2.1), (1, .int op)]) C d_Model_bytes_19 rfl (by decide) rfl ?_
    refine wm_iload_n C d_Model_bytes_20 rfl (j := 2) rfl ?_
    refine wm_bipush (v := 19) C d_Model_bytes_21 (by decide) ?_
    refine wm_icmp_ne (tgt := 61) C d_Model_bytes_23 (by decide) (fun (h_23 : ¬ op = 19) => ?_) (fun (h_23 : op = 19) => ?_)
    · rw [if_neg h_23] at ho
      refine wm_aload_n C d_Model_bytes_61 rfl (j := 1) rfl ?_
      refine wm_get C co_Model hR1.1 28 (by decide) fl_Model_122 rfl d_Model_bytes_62 ?_
      refine wm_bipush (v := 64) C d_Model_bytes_65 (by decide) ?_
      refine wm_icmp_ne (tgt := 76) C d_Model_bytes_67 (by decide) (fun (h_67 : ¬ (((md_pop s).2).2 12) = 64) => ?_) (fun (h_67 : (((md_pop s).2).2 12) = 64) => ?_)
      · rw [if_neg h_67] at ho
        refine wm_aload_n C d_Model_bytes_76 rfl (j := 1) rfl ?_
        refine wm_get C co_Model hR1.1 27 (by decide) fl_Model_57 rfl d_Model_bytes_77 ?_
        refine wm_aload_n C d_Model_bytes_80 rfl (j := 1) rfl ?_
        refine wm_get C co_Model hR1.1 28 (by decide) fl_Model_122 rfl d_Model_bytes_81 ?_
        refine wm_iload_n C d_Model_bytes_84 rfl (j := 0) rfl ?_
        refine wm_i2b C d_Model_bytes_85 rfl ?_
        obtain ⟨o2, ho⟩ := ho
        refine wm_bast C (md_arr hR1 15 (by decide)) hD.2.1 o2 d_Model_bytes_86 ?_
        refine md_gen (md_R_sa hR1 (a := 15) (by decide) (((md_pop s).2).2 12) ((((md_pop s).1).toInt8.toInt32).toInt8.toInt32)) (fun M2 hR2 => ?_)
        refine wm_aload_n C d_Model_bytes_87 rfl (j := 1) rfl ?_
        refine wm_dup C d_Model_bytes_88 rfl ?_
        refine wm_get C co_Model hR2.1 28 (by decide) fl_Model_122 rfl d_Model_bytes_89 ?_
        refine wm_iconst (v := 1) C d_Model_bytes_92 (by decide) ?_
        refine wm_iadd C d_Model_bytes_93 ?_
        refine wm_put C co_Model hR2.1 28 (by decide) fl_Model_122 rfl rfl rfl (Nat.le_of_ble_eq_true rfl) d_Model_bytes_94 ?_
        refine md_gen (md_R_ss hR2 12 ((((md_pop s).2).2 12) + 1)) (fun M3 hR3 => ?_)
        refine wm_vret C P d_Model_bytes_97 ?_
        have e : md_bytes s op = (md_ss (md_sa ((md_pop s).2) 15 (((md_pop s).2).2 12) ((((md_pop s).1).toInt8.toInt32).toInt8.toInt32)) 12 ((((md_pop s).2).2 12) + 1)) := by rw [md_bytes, if_neg h_3, if_neg h_23, if_neg h_67]
        rw [e] at h
        exact h _ hR3
      · rw [if_pos h_67] at ho
        refine wm_aload_n C d_Model_bytes_70 rfl (j := 1) rfl ?_
        refine wm_iconst (v := 3) C d_Model_bytes_71 (by decide) ?_
        refine wm_callV (d2 := 1) (mc := 0) (ms := 0) C mo_Model_throwFor co_Model ml_Model_149 [.int 3] [] rfl hR1.1 rfl (by decide) (Nat.le_of_ble_eq_true rfl) (Nat.le_refl _) (Nat.le_refl _) d_Model_bytes_72 (cy_kv ?_)
        obtain ⟨o3, ho⟩ := ho
        refine k_throwFor hD hR1 _ o3 (fun M4 hR4 => ⟨rfl, ?_⟩)
        refine wm_vret C P d_Model_bytes_75 ?_
        have e : md_bytes s op = (md_throwFor ((md_pop s).2) 3) := by rw [md_bytes, if_neg h_3, if_neg h_23, if_pos h_67]
        rw [e] at h
        exact h _ hR4
    · rw [if_pos h_23] at ho
      refine wm_iload_n C d_Model_bytes_26 rfl (j := 0) rfl ?_
      refine wm_if_lt (tgt := 38) C d_Model_bytes_27 (by decide) (fun (h_27 : ((md_pop s).1) < 0) => ?_) (fun (h_27 : ¬ ((md_pop s).1) < 0) => ?_)
      · rw [if_pos h_27] at ho
        refine wm_aload_n C d_Model_bytes_38 rfl (j := 1) rfl ?_
        refine wm_iconst (v := 2) C d_Model_bytes_39 (by decide) ?_
        refine wm_callV (d2 := 1) (mc := 0) (ms := 0) C mo_Model_throwFor co_Model ml_Model_149 [.int 2] [] rfl hR1.1 rfl (by decide) (Nat.le_of_ble_eq_true rfl) (Nat.le_refl _) (Nat.le_refl _) d_Model_bytes_40 (cy_kv ?_)
        obtain ⟨o4, ho⟩ := ho
        refine k_throwFor hD hR1 _ o4 (fun M5 hR5 => ⟨rfl, ?_⟩)
        refine wm_goto (tgt := 60) C d_Model_bytes_43 (by decide) ?_
        refine wm_vret C P d_Model_bytes_60 ?_
        have e : md_bytes s op = (md_throwFor ((md_pop s).2) 2) := by rw [md_bytes, if_neg h_3, if_pos h_23, if_pos h_27]
        rw [e] at h
        exact h _ hR5
      · rw [if_neg h_27] at ho
        refine wm_iload_n C d_Model_bytes_30 rfl (j := 0) rfl ?_
        refine wm_aload_n C d_Model_bytes_31 rfl (j := 1) rfl ?_
        refine wm_get C co_Model hR1.1 26 (by decide) fl_Model_119 rfl d_Model_bytes_32 ?_
        refine wm_icmp_lt (tgt := 46) C d_Model_bytes_35 (by decide) (fun (h_35 : ((md_pop s).1) < (((md_pop s).2).2 11)) => ?_) (fun (h_35 : ¬ ((md_pop s).1) < (((md_pop s).2).2 11)) => ?_)
        · rw [if_pos h_35] at ho
          refine wm_aload_n C d_Model_bytes_46 rfl (j := 1) rfl ?_
          refine wm_aload_n C d_Model_bytes_47 rfl (j := 1) rfl ?_
          refine wm_get C co_Model hR1.1 25 (by decide) fl_Model_54 rfl d_Model_bytes_48 ?_
          refine wm_iload_n C d_Model_bytes_51 rfl (j := 0) rfl ?_
          obtain ⟨o5, ho⟩ := ho
          refine wm_bald C (md_arr hR1 14 (by decide)) hD.2.1 o5 d_Model_bytes_52 ?_
          refine wm_sipush (v := 255) C d_Model_bytes_53 (by decide) ?_
          refine wm_iand C d_Model_bytes_56 ?_
          refine wm_callV (d2 := 0) (mc := 0) (ms := 0) C mo_Model_push co_Model ml_Model_146 [.int ((((md_pop s).2).1 14 ((md_pop s).1).toNatClampNeg) &&& 255)] [] rfl hR1.1 rfl (by decide) (Nat.le_of_ble_eq_true rfl) (Nat.le_refl _) (Nat.le_refl _) d_Model_bytes_57 (cy_kv ?_)
          obtain ⟨o6, ho⟩ := ho
          refine k_push hD hR1 _ o6 (fun M6 hR6 => ⟨rfl, ?_⟩)
          refine wm_vret C P d_Model_bytes_60 ?_
          have e : md_bytes s op = (md_push ((md_pop s).2) ((((md_pop s).2).1 14 ((md_pop s).1).toNatClampNeg) &&& 255)) := by rw [md_bytes, if_neg h_3, if_pos h_23, if_neg h_27, if_pos h_35]
          rw [e] at h
          exact h _ hR6
        · rw [if_neg h_35] at ho
          refine wm_aload_n C d_Model_bytes_38 rfl (j := 1) rfl ?_
          refine wm_iconst (v := 2) C d_Model_bytes_39 (by decide) ?_
          refine wm_callV (d2 := 1) (mc := 0) (ms := 0) C mo_Model_throwFor co_Model ml_Model_149 [.int 2] [] rfl hR1.1 rfl (by decide) (Nat.le_of_ble_eq_true rfl) (Nat.le_refl _) (Nat.le_refl _) d_Model_bytes_40 (cy_kv ?_)
          obtain ⟨o7, ho⟩ := ho
          refine k_throwFor hD hR1 _ o7 (fun M7 hR7 => ⟨rfl, ?_⟩)
          refine wm_goto (tgt := 60) C d_Model_bytes_43 (by decide) ?_
          refine wm_vret C P d_Model_bytes_60 ?_
          have e : md_bytes s op = (md_throwFor ((md_pop s).2) 2) := by rw [md_bytes, if_neg h_3, if_pos h_23, if_neg h_27, if_neg h_35]
          rw [e] at h
          exact h _ hR7
  · rw [if_pos h_3] at ho
    refine wm_aload_n C d_Model_bytes_6 rfl (j := 0) rfl ?_
    refine wm_aload_n C d_Model_bytes_7 rfl (j := 0) rfl ?_
    refine wm_get C co_Model hR.1 26 (by decide) fl_Model_119 rfl d_Model_bytes_8 ?_
    refine wm_callV (d2 := 0) (mc := 0) (ms := 0) C mo_Model_push co_Model ml_Model_146 [.int (s.2 11)] [] rfl hR.1 rfl (by decide) (Nat.le_of_ble_eq_true rfl) (Nat.le_refl _) (Nat.le_refl _) d_Model_bytes_11 (cy_kv ?_)
    obtain ⟨o8, ho⟩ := ho
    refine k_push hD hR _ o8 (fun M8 hR8 => ⟨rfl, ?_⟩)
    refine wm_vret C P d_Model_bytes_14 ?_
    have e : md_bytes s op = (md_push s (s.2 11)) := by rw [md_bytes, if_pos h_3]
    rw [e] at h
    exact h _ hR8
def md_finish (s : md_S) (op : Int32) : md_S :=
  if op = 24 then
    (md_throwFor s 1)
  else
    if op = 22 then
      (md_ends ((md_pop s).2) ((md_pop s).1))
    else
      (md_ends s 0)
def md_finish_ok (s : md_S) (op : Int32) : Prop :=
  if op = 24 then
    (md_throwFor_ok s 1) ∧ (
    True)
  else
    if op = 22 then
      (md_pop_ok s) ∧ (md_ends_ok ((md_pop s).2) ((md_pop s).1)) ∧ (
      True)
    else
      (md_ends_ok s 0) ∧ (
      True)
set_option maxHeartbeats 4000000 in
theorem k_finish {G : cy_G} {D : md_E} {s : md_S} {M : cy_Hp} {post : Option Value → cy_Hp → Prop} (hD : md_Eo G D) (hR : md_R D s M) (op : Int32) (ho : md_finish_ok s op) (h : ∀ M', md_R D (md_finish s op) M' → post none M') : cy_Ct G 2 m_Model_finish [.ref D.2.2.2.1, .int op] M 0 0 post := by
  refine cy_Ct.of (by decide) (Nat.le_of_ble_eq_true rfl) ?_
  intro F C P _
  have C : cy_C G F R_Model b_Model_finish 2 2 0 0 := C
  have P : cy_P G F none post 0 0 := P
  unfold md_finish_ok at ho
  show WM G F 2 0 0 0 [(0, .ref D.2.2.2.1), (1, .int op)] [] M
  refine wm_iload_n C d_Model_finish_0 rfl (j := 1) rfl ?_
  refine wm_bipush (v := 24) C d_Model_finish_1 (by decide) ?_
  refine wm_icmp_ne (tgt := 14) C d_Model_finish_3 (by decide) (fun (h_3 : ¬ op = 24) => ?_) (fun (h_3 : op = 24) => ?_)
  · rw [if_neg h_3] at ho
    refine wm_aload_n C d_Model_finish_14 rfl (j := 0) rfl ?_
    refine wm_iload_n C d_Model_finish_15 rfl (j := 1) rfl ?_
    refine wm_bipush (v := 22) C d_Model_finish_16 (by decide) ?_
    refine wm_icmp_ne (tgt := 28) C d_Model_finish_18 (by decide) (fun (h_18 : ¬ op = 22) => ?_) (fun (h_18 : op = 22) => ?_)
    · rw [if_neg h_18] at ho
      refine wm_iconst (v := 0) C d_Model_finish_28 (by decide) ?_
      refine wm_callV (d2 := 1) (mc := 0) (ms := 0) C mo_Model_ends co_Model ml_Model_181 [.int 0] [] rfl hR.1 rfl (by decide) (Nat.le_of_ble_eq_true rfl) (Nat.le_refl _) (Nat.le_refl _) d_Model_finish_29 (cy_kv ?_)
      obtain ⟨o1, ho⟩ := ho
      refine k_ends hD hR _ o1 (fun M1 hR1 => ⟨rfl, ?_⟩)
      refine wm_vret C P d_Model_finish_32 ?_
      have e : md_finish s op = (md_ends s 0) := by rw [md_finish, if_neg h_3, if_neg h_18]
      rw [e] at h
      exact h _ hR1
    · rw [if_pos h_18] at ho
      refine wm_aload_n C d_Model_finish_21 rfl (j := 0) rfl ?_
      refine wm_callV (d2 := 0) (mc := 0) (ms := 0) C mo_Model_pop co_Model ml_Model_178 [] [.ref D.2.2.2.1] rfl hR.1 rfl (by decide) (Nat.le_of_ble_eq_true rfl) (Nat.le_refl _) (Nat.le_refl _) d_Model_finish_22 (cy_ki ?_)
      obtain ⟨o2, ho⟩ := ho
      refine k_pop hD hR  o2 (fun M2 hR2 => ⟨_, rfl, ?_⟩)
      refine wm_goto (tgt := 29) C d_Model_finish_25 (by decide) ?_
      refine wm_callV (d2 := 1) (mc := 0) (ms := 0) C mo_Model_ends co_Model ml_Model_181 [.int ((md_pop s).1)] [] rfl hR2.1 rfl (by decide) (Nat.le_of_ble_eq_true rfl) (Nat.le_refl _) (Nat.le_refl _) d_Model_finish_29 (cy_kv ?_)
      obtain ⟨o3, ho⟩ := ho
      refine k_ends hD hR2 _ o3 (fun M3 hR3 => ⟨rfl, ?_⟩)
      refine wm_vret C P d_Model_finish_32 ?_
      have e : md_finish s op = (md_ends ((md_pop s).2) ((md_pop s).1)) := by rw [md_finish, if_neg h_3, if_pos h_18]
      rw [e] at h
      exact h _ hR3
  · rw [if_pos h_3] at ho
    refine wm_aload_n C d_Model_finish_6 rfl (j := 0) rfl ?_
    refine wm_iconst (v := 1) C d_Model_finish_7 (by decide) ?_
    refine wm_callV (d2 := 1) (mc := 0) (ms := 0) C mo_Model_throwFor co_Model ml_Model_149 [.int 1] [] rfl hR.1 rfl (by decide) (Nat.le_of_ble_eq_true rfl) (Nat.le_refl _) (Nat.le_refl _) d_Model_finish_8 (cy_kv ?_)
    obtain ⟨o4, ho⟩ := ho
    refine k_throwFor hD hR _ o4 (fun M4 hR4 => ⟨rfl, ?_⟩)
    refine wm_goto (tgt := 32) C d_Model_finish_11 (by decide) ?_
    refine wm_vret C P d_Model_finish_32 ?_
    have e : md_finish s op = (md_throwFor s 1) := by rw [md_finish, if_pos h_3]
    rw [e] at h
    exact h _ hR4
def md_divide (s : md_S) (op : Int32) : md_S :=
  if ((md_pop s).1) = 0 then
    (md_throwFor ((md_pop ((md_pop s).2)).2) 1)
  else
    if ((md_pop s).1) = (-1) then
      if op = 25 then
        (md_push ((md_pop ((md_pop s).2)).2) (-((md_pop ((md_pop s).2)).1)))
      else
        (md_push ((md_pop ((md_pop s).2)).2) 0)
    else
      if op = 25 then
        (md_push ((md_pop ((md_pop s).2)).2) (((md_pop ((md_pop s).2)).1) / ((md_pop s).1)))
      else
        (md_push ((md_pop ((md_pop s).2)).2) (((md_pop ((md_pop s).2)).1) - ((md_pop ((md_pop s).2)).1) / ((md_pop s).1) * ((md_pop s).1)))
def md_divide_ok (s : md_S) (op : Int32) : Prop :=
  (md_pop_ok s) ∧ (md_pop_ok ((md_pop s).2)) ∧ (
  if ((md_pop s).1) = 0 then
    (md_throwFor_ok ((md_pop ((md_pop s).2)).2) 1) ∧ (
    True)
  else
    if ((md_pop s).1) = (-1) then
      if op = 25 then
        (md_push_ok ((md_pop ((md_pop s).2)).2) (-((md_pop ((md_pop s).2)).1))) ∧ (
        True)
      else
        (md_push_ok ((md_pop ((md_pop s).2)).2) 0) ∧ (
        True)
    else
      if op = 25 then
        (md_push_ok ((md_pop ((md_pop s).2)).2) (((md_pop ((md_pop s).2)).1) / ((md_pop s).1))) ∧ (
        True)
      else
        (md_push_ok ((md_pop ((md_pop s).2)).2) (((md_pop ((md_pop s).2)).1) - ((md_pop ((md_pop s).2)).1) / ((md_pop s).1) * ((md_pop s).1))) ∧ (
        True))
set_option maxHeartbeats 4000000 in
theorem k_divide {G : cy_G} {D : md_E} {s : md_S} {M : cy_Hp} {post : Option Value → cy_Hp → Prop} (hD : md_Eo G D) (hR : md_R D s M) (op : Int32) (ho : md_divide_ok s op) (h : ∀ M', md_R D (md_divide s op) M' → post none M') : cy_Ct G 2 m_Model_divide [.ref D.2.2.2.1, .int op] M 0 0 post := by
  refine cy_Ct.of (by decide) (Nat.le_of_ble_eq_true rfl) ?_
  intro F C P _
  have C : cy_C G F R_Model b_Model_divide 4 2 0 0 := C
  have P : cy_P G F none post 0 0 := P
  unfold md_divide_ok at ho
  show WM G F 4 0 0 0 [(0, .ref D.2.2.2.1), (1, .int op)] [] M
  refine wm_aload_n C d_Model_divide_0 rfl (j := 0) rfl ?_
  refine wm_callV (d2 := 0) (mc := 0) (ms := 0) C mo_Model_pop co_Model ml_Model_178 [] [] rfl hR.1 rfl (by decide) (Nat.le_of_ble_eq_true rfl) (Nat.le_refl _) (Nat.le_refl _) d_Model_divide_1 (cy_ki ?_)
  obtain ⟨o1, ho⟩ := ho
  refine k_pop hD hR  o1 (fun M1 hR1 => ⟨_, rfl, ?_⟩)
  refine wm_istore_n (lv' := [(2, .int ((md_pop s).1)), (0, .ref D.2.2.2.1), (1, .int op)]) C d_Model_divide_4 rfl (by decide) rfl ?_
  refine wm_aload_n C d_Model_divide_5 rfl (j := 1) rfl ?_
  refine wm_callV (d2 := 0) (mc := 0) (ms := 0) C mo_Model_pop co_Model ml_Model_178 [] [] rfl hR1.1 rfl (by decide) (Nat.le_of_ble_eq_true rfl) (Nat.le_refl _) (Nat.le_refl _) d_Model_divide_6 (cy_ki ?_)
  obtain ⟨o2, ho⟩ := ho
  refine k_pop hD hR1  o2 (fun M2 hR2 => ⟨_, rfl, ?_⟩)
  refine wm_istore_n (lv' := [(3, .int ((md_pop ((md_pop s).2)).1)), (2, .int ((md_pop s).1)), (0, .ref D.2.2.2.1), (1, .int op)]) C d_Model_divide_9 rfl (by decide) rfl ?_
  refine wm_iload_n C d_Model_divide_10 rfl (j := 1) rfl ?_
  refine wm_if_ne (tgt := 20) C d_Model_divide_11 (by decide) (fun (h_11 : ¬ ((md_pop s).1) = 0) => ?_) (fun (h_11 : ((md_pop s).1) = 0) => ?_)
  · rw [if_neg h_11] at ho
    refine wm_iload_n C d_Model_divide_20 rfl (j := 1) rfl ?_
    refine wm_iconst (v := -1) C d_Model_divide_21 (by decide) ?_
    refine wm_icmp_ne (tgt := 44) C d_Model_divide_22 (by decide) (fun (h_22 : ¬ ((md_pop s).1) = (-1)) => ?_) (fun (h_22 : ((md_pop s).1) = (-1)) => ?_)
    · rw [if_neg h_22] at ho
      refine wm_aload_n C d_Model_divide_44 rfl (j := 2) rfl ?_
      refine wm_iload_n C d_Model_divide_45 rfl (j := 3) rfl ?_
      refine wm_bipush (v := 25) C d_Model_divide_46 (by decide) ?_
      refine wm_icmp_ne (tgt := 57) C d_Model_divide_48 (by decide) (fun (h_48 : ¬ op = 25) => ?_) (fun (h_48 : op = 25) => ?_)
      · rw [if_neg h_48] at ho
        refine wm_iload_n C d_Model_divide_57 rfl (j := 0) rfl ?_
        refine wm_iload_n C d_Model_divide_58 rfl (j := 1) rfl ?_
        refine wm_irem C d_Model_divide_59 (h_11) ?_
        refine wm_callV (d2 := 0) (mc := 0) (ms := 0) C mo_Model_push co_Model ml_Model_146 [.int (((md_pop ((md_pop s).2)).1) - ((md_pop ((md_pop s).2)).1) / ((md_pop s).1) * ((md_pop s).1))] [] rfl hR2.1 rfl (by decide) (Nat.le_of_ble_eq_true rfl) (Nat.le_refl _) (Nat.le_refl _) d_Model_divide_60 (cy_kv ?_)
        obtain ⟨o3, ho⟩ := ho
        refine k_push hD hR2 _ o3 (fun M3 hR3 => ⟨rfl, ?_⟩)
        refine wm_vret C P d_Model_divide_63 ?_
        have e : md_divide s op = (md_push ((md_pop ((md_pop s).2)).2) (((md_pop ((md_pop s).2)).1) - ((md_pop ((md_pop s).2)).1) / ((md_pop s).1) * ((md_pop s).1))) := by rw [md_divide, if_neg h_11, if_neg h_22, if_neg h_48]
        rw [e] at h
        exact h _ hR3
      · rw [if_pos h_48] at ho
        refine wm_iload_n C d_Model_divide_51 rfl (j := 0) rfl ?_
        refine wm_iload_n C d_Model_divide_52 rfl (j := 1) rfl ?_
        refine wm_idiv C d_Model_divide_53 (h_11) ?_
        refine wm_goto (tgt := 60) C d_Model_divide_54 (by decide) ?_
        refine wm_callV (d2 := 0) (mc := 0) (ms := 0) C mo_Model_push co_Model ml_Model_146 [.int (((md_pop ((md_pop s).2)).1) / ((md_pop s).1))] [] rfl hR2.1 rfl (by decide) (Nat.le_of_ble_eq_true rfl) (Nat.le_refl _) (Nat.le_refl _) d_Model_divide_60 (cy_kv ?_)
        obtain ⟨o4, ho⟩ := ho
        refine k_push hD hR2 _ o4 (fun M4 hR4 => ⟨rfl, ?_⟩)
        refine wm_vret C P d_Model_divide_63 ?_
        have e : md_divide s op = (md_push ((md_pop ((md_pop s).2)).2) (((md_pop ((md_pop s).2)).1) / ((md_pop s).1))) := by rw [md_divide, if_neg h_11, if_neg h_22, if_pos h_48]
        rw [e] at h
        exact h _ hR4
    · rw [if_pos h_22] at ho
      refine wm_aload_n C d_Model_divide_25 rfl (j := 2) rfl ?_
      refine wm_iload_n C d_Model_divide_26 rfl (j := 3) rfl ?_
      refine wm_bipush (v := 25) C d_Model_divide_27 (by decide) ?_
      refine wm_icmp_ne (tgt := 37) C d_Model_divide_29 (by decide) (fun (h_29 : ¬ op = 25) => ?_) (fun (h_29 : op = 25) => ?_)
      · rw [if_neg h_29] at ho
        refine wm_iconst (v := 0) C d_Model_divide_37 (by decide) ?_
        refine wm_callV (d2 := 0) (mc := 0) (ms := 0) C mo_Model_push co_Model ml_Model_146 [.int 0] [] rfl hR2.1 rfl (by decide) (Nat.le_of_ble_eq_true rfl) (Nat.le_refl _) (Nat.le_refl _) d_Model_divide_38 (cy_kv ?_)
        obtain ⟨o5, ho⟩ := ho
        refine k_push hD hR2 _ o5 (fun M5 hR5 => ⟨rfl, ?_⟩)
        refine wm_goto (tgt := 63) C d_Model_divide_41 (by decide) ?_
        refine wm_vret C P d_Model_divide_63 ?_
        have e : md_divide s op = (md_push ((md_pop ((md_pop s).2)).2) 0) := by rw [md_divide, if_neg h_11, if_pos h_22, if_neg h_29]
        rw [e] at h
        exact h _ hR5
      · rw [if_pos h_29] at ho
        refine wm_iload_n C d_Model_divide_32 rfl (j := 0) rfl ?_
        refine wm_ineg C d_Model_divide_33 ?_
        refine wm_goto (tgt := 38) C d_Model_divide_34 (by decide) ?_
        refine wm_callV (d2 := 0) (mc := 0) (ms := 0) C mo_Model_push co_Model ml_Model_146 [.int (-((md_pop ((md_pop s).2)).1))] [] rfl hR2.1 rfl (by decide) (Nat.le_of_ble_eq_true rfl) (Nat.le_refl _) (Nat.le_refl _) d_Model_divide_38 (cy_kv ?_)
        obtain ⟨o6, ho⟩ := ho
        refine k_push hD hR2 _ o6 (fun M6 hR6 => ⟨rfl, ?_⟩)
        refine wm_goto (tgt := 63) C d_Model_divide_41 (by decide) ?_
        refine wm_vret C P d_Model_divide_63 ?_
        have e : md_divide s op = (md_push ((md_pop ((md_pop s).2)).2) (-((md_pop ((md_pop s).2)).1))) := by rw [md_divide, if_neg h_11, if_pos h_22, if_pos h_29]
        rw [e] at h
        exact h _ hR6
  · rw [if_pos h_11] at ho
    refine wm_aload_n C d_Model_divide_14 rfl (j := 2) rfl ?_
    refine wm_iconst (v := 1) C d_Model_divide_15 (by decide) ?_
    refine wm_callV (d2 := 1) (mc := 0) (ms := 0) C mo_Model_throwFor co_Model ml_Model_149 [.int 1] [] rfl hR2.1 rfl (by decide) (Nat.le_of_ble_eq_true rfl) (Nat.le_refl _) (Nat.le_refl _) d_Model_divide_16 (cy_kv ?_)
    obtain ⟨o7, ho⟩ := ho
    refine k_throwFor hD hR2 _ o7 (fun M7 hR7 => ⟨rfl, ?_⟩)
    refine wm_vret C P d_Model_divide_19 ?_
    have e : md_divide s op = (md_throwFor ((md_pop ((md_pop s).2)).2) 1) := by rw [md_divide, if_pos h_11]
    rw [e] at h
    exact h _ hR7
def md_call (s : md_S) (v : Int32) : md_S :=
  if (s.1 2 (v - v / 8 * 8).toNatClampNeg) = 0 then
    (md_throwFor s 4)
  else
    if (s.2 10) = 8 then
      (md_throwFor s 5)
    else
      (md_enter s (v - v / 8 * 8) (v / 8))
def md_call_ok (s : md_S) (v : Int32) : Prop :=
  (vp_in (v - v / 8 * 8) 8) ∧ (
  if (s.1 2 (v - v / 8 * 8).toNatClampNeg) = 0 then
    (md_throwFor_ok s 4) ∧ (
    True)
  else
    if (s.2 10) = 8 then
      (md_throwFor_ok s 5) ∧ (
      True)
    else
      (md_enter_ok s (v - v / 8 * 8) (v / 8)) ∧ (
      True))
set_option maxHeartbeats 4000000 in
theorem k_call {G : cy_G} {D : md_E} {s : md_S} {M : cy_Hp} {post : Option Value → cy_Hp → Prop} (hD : md_Eo G D) (hR : md_R D s M) (v : Int32) (ho : md_call_ok s v) (h : ∀ M', md_R D (md_call s v) M' → post none M') : cy_Ct G 2 m_Model_call [.ref D.2.2.2.1, .int v] M 0 0 post := by
  refine cy_Ct.of (by decide) (Nat.le_of_ble_eq_true rfl) ?_
  intro F C P _
  have C : cy_C G F R_Model b_Model_call 2 2 0 0 := C
  have P : cy_P G F none post 0 0 := P
  unfold md_call_ok at ho
  show WM G F 2 0 0 0 [(0, .ref D.2.2.2.1), (1, .int v)] [] M
  refine wm_aload_n C d_Model_call_0 rfl (j := 0) rfl ?_
  refine wm_get C co_Model hR.1 3 (by decide) fl_Model_16 rfl d_Model_call_1 ?_
  refine wm_iload_n C d_Model_call_4 rfl (j := 1) rfl ?_
  refine wm_bipush (v := 8) C d_Model_call_5 (by decide) ?_
  refine wm_irem C d_Model_call_7 (by decide) ?_
  obtain ⟨o1, ho⟩ := ho
  refine wm_iald C (md_arr hR 2 (by decide)) hD.1 o1 d_Model_call_8 ?_
  refine wm_if_ne (tgt := 20) C d_Model_call_9 (by decide) (fun (h_9 : ¬ (s.1 2 (v - v / 8 * 8).toNatClampNeg) = 0) => ?_) (fun (h_9 : (s.1 2 (v - v / 8 * 8).toNatClampNeg) = 0) => ?_)
  · rw [if_neg h_9] at ho
    refine wm_aload_n C d_Model_call_20 rfl (j := 0) rfl ?_
    refine wm_get C co_Model hR.1 19 (by decide) fl_Model_140 rfl d_Model_call_21 ?_
    refine wm_bipush (v := 8) C d_Model_call_24 (by decide) ?_
    refine wm_icmp_ne (tgt := 37) C d_Model_call_26 (by decide) (fun (h_26 : ¬ (s.2 10) = 8) => ?_) (fun (h_26 : (s.2 10) = 8) => ?_)
    · rw [if_neg h_26] at ho
      refine wm_aload_n C d_Model_call_37 rfl (j := 0) rfl ?_
      refine wm_iload_n C d_Model_call_38 rfl (j := 1) rfl ?_
      refine wm_bipush (v := 8) C d_Model_call_39 (by decide) ?_
      refine wm_irem C d_Model_call_41 (by decide) ?_
      refine wm_iload_n C d_Model_call_42 rfl (j := 1) rfl ?_
      refine wm_bipush (v := 8) C d_Model_call_43 (by decide) ?_
      refine wm_idiv C d_Model_call_45 (by decide) ?_
      refine wm_callV (d2 := 0) (mc := 0) (ms := 0) C mo_Model_enter co_Model ml_Model_143 [.int (v - v / 8 * 8), .int (v / 8)] [] rfl hR.1 rfl (by decide) (Nat.le_of_ble_eq_true rfl) (Nat.le_refl _) (Nat.le_refl _) d_Model_call_46 (cy_kv ?_)
      obtain ⟨o2, ho⟩ := ho
      refine k_enter hD hR _ _ o2 (fun M1 hR1 => ⟨rfl, ?_⟩)
      refine wm_vret C P d_Model_call_49 ?_
      have e : md_call s v = (md_enter s (v - v / 8 * 8) (v / 8)) := by rw [md_call, if_neg h_9, if_neg h_26]
      rw [e] at h
      exact h _ hR1
    · rw [if_pos h_26] at ho
      refine wm_aload_n C d_Model_call_29 rfl (j := 0) rfl ?_
      refine wm_iconst (v := 5) C d_Model_call_30 (by decide) ?_
      refine wm_callV (d2 := 1) (mc := 0) (ms := 0) C mo_Model_throwFor co_Model ml_Model_149 [.int 5] [] rfl hR.1 rfl (by decide) (Nat.le_of_ble_eq_true rfl) (Nat.le_refl _) (Nat.le_refl _) d_Model_call_31 (cy_kv ?_)
      obtain ⟨o3, ho⟩ := ho
      refine k_throwFor hD hR _ o3 (fun M2 hR2 => ⟨rfl, ?_⟩)
      refine wm_goto (tgt := 49) C d_Model_call_34 (by decide) ?_
      refine wm_vret C P d_Model_call_49 ?_
      have e : md_call s v = (md_throwFor s 5) := by rw [md_call, if_neg h_9, if_pos h_26]
      rw [e] at h
      exact h _ hR2
  · rw [if_pos h_9] at ho
    refine wm_aload_n C d_Model_call_12 rfl (j := 0) rfl ?_
    refine wm_iconst (v := 4) C d_Model_call_13 (by decide) ?_
    refine wm_callV (d2 := 1) (mc := 0) (ms := 0) C mo_Model_throwFor co_Model ml_Model_149 [.int 4] [] rfl hR.1 rfl (by decide) (Nat.le_of_ble_eq_true rfl) (Nat.le_refl _) (Nat.le_refl _) d_Model_call_14 (cy_kv ?_)
    obtain ⟨o4, ho⟩ := ho
    refine k_throwFor hD hR _ o4 (fun M3 hR3 => ⟨rfl, ?_⟩)
    refine wm_goto (tgt := 49) C d_Model_call_17 (by decide) ?_
    refine wm_vret C P d_Model_call_49 ?_
    have e : md_call s v = (md_throwFor s 4) := by rw [md_call, if_pos h_9]
    rw [e] at h
    exact h _ hR3
