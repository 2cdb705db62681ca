def md_walk_i : Nat → md_S → Int32 → md_S × Int32
  | 0, s, p => (s, p)
  | q + 1, s, p =>
    if (s.2 1) ≤ p then
      (s, p)
    else
      if (s.1 7 p.toNatClampNeg) = (-1) then
        md_walk_i q s (p + 1)
      else
        if (s.1 8 p.toNatClampNeg) = 0 then
          (s, p)
        else
          md_walk_i q s (p + 1)
def md_walk_i_ok : Nat → md_S → Int32 → Prop
  | 0, _, _ => False
  | q + 1, s, p =>
    if (s.2 1) ≤ p then
      True
    else
      (vp_in p 301) ∧ (
      if (s.1 7 p.toNatClampNeg) = (-1) then
        md_walk_i_ok q s (p + 1)
      else
        (vp_in p 301) ∧ (
        if (s.1 8 p.toNatClampNeg) = 0 then
          True
        else
          md_walk_i_ok q s (p + 1)))
set_option maxHeartbeats 4000000 in
theorem g_walk_i {G : cy_G} {D : md_E} {F : cy_F} (hD : md_Eo G D) (C : cy_C G F R_Model b_Model_walk 3 3 0 0) : ∀ (q : Nat) (s : md_S) (p : Int32) (M : cy_Hp), md_R D s M → md_walk_i_ok q s p → (∀ M', md_R D (md_walk_i q s p).1 M' → WM G F 3 0 0 71 [(2, .int ((md_walk_i q s p).2)), (0, .ref D.2.2.2.1)] [] M') → WM G F 3 0 0 38 [(2, .int p), (0, .ref D.2.2.2.1)] [] M := by
  intro q
  induction q with
  | zero =>
    intro s p M hR ho hk
    exact absurd ho id
  | succ q ih =>
    intro s p M hR ho hk
    unfold md_walk_i_ok at ho
    refine wm_iload_n C d_Model_walk_38 rfl (j := 0) rfl ?_
    refine wm_aload_n C d_Model_walk_39 rfl (j := 1) rfl ?_
    refine wm_get C co_Model hR.1 7 (by decide) fl_Model_74 rfl d_Model_walk_40 ?_
    refine wm_icmp_ge (tgt := 71) C d_Model_walk_43 (by decide) (fun (h_43 : (s.2 1) ≤ p) => ?_) (fun (h_43 : ¬ (s.2 1) ≤ p) => ?_)
    · rw [if_pos h_43] at ho
      have e : md_walk_i (q + 1) s p = (s, p) := by rw [md_walk_i, if_pos h_43]
      rw [e] at hk
      exact wm_sub [(2, .int p), (0, .ref D.2.2.2.1)] (by simp) (hk _ hR)
    · rw [if_neg h_43] at ho
      refine wm_aload_n C d_Model_walk_46 rfl (j := 1) rfl ?_
      refine wm_get C co_Model hR.1 9 (by decide) fl_Model_33 rfl d_Model_walk_47 ?_
      refine wm_iload_n C d_Model_walk_50 rfl (j := 0) rfl ?_
      obtain ⟨o1, ho⟩ := ho
      refine wm_iald C (md_arr hR 7 (by decide)) hD.1 o1 d_Model_walk_51 ?_
      refine wm_iconst (v := -1) C d_Model_walk_52 (by decide) ?_
      refine wm_icmp_eq (tgt := 65) C d_Model_walk_53 (by decide) (fun (h_53 : (s.1 7 p.toNatClampNeg) = (-1)) => ?_) (fun (h_53 : ¬ (s.1 7 p.toNatClampNeg) = (-1)) => ?_)
      · rw [if_pos h_53] at ho
        refine wm_iinc (v := p + 1) (lv' := [(2, .int (p + 1)), (0, .ref D.2.2.2.1)]) C d_Model_walk_65 (k := 0) rfl rfl (by decide) rfl ?_
        refine wm_goto (tgt := 38) C d_Model_walk_68 (by decide) ?_
        have e : md_walk_i (q + 1) s p = md_walk_i q s (p + 1) := by rw [md_walk_i, if_neg h_43, if_pos h_53]
        rw [e] at hk
        exact wm_sub [(2, .int (p + 1)), (0, .ref D.2.2.2.1)] (by simp) (ih s (p + 1) _ hR ho hk)
      · rw [if_neg h_53] at ho
        refine wm_aload_n C d_Model_walk_56 rfl (j := 1) rfl ?_
        refine wm_get C co_Model hR.1 10 (by decide) fl_Model_36 rfl d_Model_walk_57 ?_
        refine wm_iload_n C d_Model_walk_60 rfl (j := 0) rfl ?_
        obtain ⟨o2, ho⟩ := ho
        refine wm_zald C (md_arr hR 8 (by decide)) hD.2.2 o2 d_Model_walk_61 ?_
        refine wm_if_eq (tgt := 71) C d_Model_walk_62 (by decide) (fun (h_62 : (s.1 8 p.toNatClampNeg) = 0) => ?_) (fun (h_62 : ¬ (s.1 8 p.toNatClampNeg) = 0) => ?_)
        · rw [if_pos h_62] at ho
          have e : md_walk_i (q + 1) s p = (s, p) := by rw [md_walk_i, if_neg h_43, if_neg h_53, if_pos h_62]
          rw [e] at hk
          exact wm_sub [(2, .int p), (0, .ref D.2.2.2.1)] (by simp) (hk _ hR)
        · rw [if_neg h_62] at ho
          refine wm_iinc (v := p + 1) (lv' := [(2, .int (p + 1)), (0, .ref D.2.2.2.1)]) C d_Model_walk_65 (k := 0) rfl rfl (by decide) rfl ?_
          refine wm_goto (tgt := 38) C d_Model_walk_68 (by decide) ?_
          have e : md_walk_i (q + 1) s p = md_walk_i q s (p + 1) := by rw [md_walk_i, if_neg h_43, if_neg h_53, if_neg h_62]
          rw [e] at hk
          exact wm_sub [(2, .int (p + 1)), (0, .ref D.2.2.2.1)] (by simp) (ih s (p + 1) _ hR ho hk)
def md_walk_l : Nat → md_S → Int32 → md_S
  | 0, s, _ => s
  | q + 1, s, more =>
    if more = 0 then
      s
    else
      if (s.2 2) = 0 then
        if (((md_walk_i ((s.2 1).toInt.toNat + 2) s 3).1).2 1) ≤ ((md_walk_i ((s.2 1).toInt.toNat + 2) s 3).2) then
          md_walk_l q ((md_walk_i ((s.2 1).toInt.toNat + 2) s 3).1) 0
        else
          md_walk_l q (md_goThrough ((md_walk_i ((s.2 1).toInt.toNat + 2) s 3).1) ((md_walk_i ((s.2 1).toInt.toNat + 2) s 3).2)) 1
      else
        s
def md_walk_l_ok : Nat → md_S → Int32 → Prop
  | 0, _, _ => False
  | q + 1, s, more =>
    if more = 0 then
      True
    else
      if (s.2 2) = 0 then
        (md_walk_i_ok ((s.2 1).toInt.toNat + 2) s 3) ∧ (
        if (((md_walk_i ((s.2 1).toInt.toNat + 2) s 3).1).2 1) ≤ ((md_walk_i ((s.2 1).toInt.toNat + 2) s 3).2) then
          md_walk_l_ok q ((md_walk_i ((s.2 1).toInt.toNat + 2) s 3).1) 0
        else
          (md_goThrough_ok ((md_walk_i ((s.2 1).toInt.toNat + 2) s 3).1) ((md_walk_i ((s.2 1).toInt.toNat + 2) s 3).2)) ∧ (
          md_walk_l_ok q (md_goThrough ((md_walk_i ((s.2 1).toInt.toNat + 2) s 3).1) ((md_walk_i ((s.2 1).toInt.toNat + 2) s 3).2)) 1))
      else
        True
set_option maxHeartbeats 4000000 in
theorem g_walk_l {G : cy_G} {D : md_E} {F : cy_F} (hD : md_Eo G D) (C : cy_C G F R_Model b_Model_walk 3 3 0 0) : ∀ (q : Nat) (s : md_S) (more : Int32) (M : cy_Hp), md_R D s M → md_walk_l_ok q s more → (∀ M', md_R D (md_walk_l q s more) M' → WM G F 3 0 0 97 [(0, .ref D.2.2.2.1)] [] M') → WM G F 3 0 0 25 [(1, .int more), (0, .ref D.2.2.2.1)] [] M := by
  intro q
  induction q with
  | zero =>
    intro s more M hR ho hk
    exact absurd ho id
  | succ q ih =>
    intro s more M hR ho hk
    unfold md_walk_l_ok at ho
    refine wm_iload_n C d_Model_walk_25 rfl (j := 0) rfl ?_
    refine wm_if_eq (tgt := 97) C d_Model_walk_26 (by decide) (fun (h_26 : more = 0) => ?_) (fun (h_26 : ¬ more = 0) => ?_)
    · rw [if_pos h_26] at ho
      have e : md_walk_l (q + 1) s more = s := by rw [md_walk_l, if_pos h_26]
      rw [e] at hk
      exact wm_sub [(0, .ref D.2.2.2.1)] (by simp) (hk _ hR)
    · rw [if_neg h_26] at ho
      refine wm_aload_n C d_Model_walk_29 rfl (j := 1) rfl ?_
      refine wm_get C co_Model hR.1 11 (by decide) fl_Model_68 rfl d_Model_walk_30 ?_
      refine wm_if_ne (tgt := 97) C d_Model_walk_33 (by decide) (fun (h_33 : ¬ (s.2 2) = 0) => ?_) (fun (h_33 : (s.2 2) = 0) => ?_)
      · rw [if_neg h_33] at ho
        have e : md_walk_l (q + 1) s more = s := by rw [md_walk_l, if_neg h_26, if_neg h_33]
        rw [e] at hk
        exact wm_sub [(0, .ref D.2.2.2.1)] (by simp) (hk _ hR)
      · rw [if_pos h_33] at ho
        refine wm_iconst (v := 3) C d_Model_walk_36 (by decide) ?_
        refine wm_istore_n (lv' := [(2, .int 3), (1, .int more), (0, .ref D.2.2.2.1)]) C d_Model_walk_37 rfl (by decide) rfl ?_
        obtain ⟨o1, ho⟩ := ho
        refine wm_sub [(2, .int 3), (0, .ref D.2.2.2.1)] (by simp) (g_walk_i hD C ((s.2 1).toInt.toNat + 2) s 3 _ hR o1 (fun M1 hR1 => ?_))
        refine wm_iload_n C d_Model_walk_71 rfl (j := 0) rfl ?_
        refine wm_aload_n C d_Model_walk_72 rfl (j := 1) rfl ?_
        refine wm_get C co_Model hR1.1 7 (by decide) fl_Model_74 rfl d_Model_walk_73 ?_
        refine wm_icmp_ge (tgt := 83) C d_Model_walk_76 (by decide) (fun (h_76 : (((md_walk_i ((s.2 1).toInt.toNat + 2) s 3).1).2 1) ≤ ((md_walk_i ((s.2 1).toInt.toNat + 2) s 3).2)) => ?_) (fun (h_76 : ¬ (((md_walk_i ((s.2 1).toInt.toNat + 2) s 3).1).2 1) ≤ ((md_walk_i ((s.2 1).toInt.toNat + 2) s 3).2)) => ?_)
        · rw [if_pos h_76] at ho
          refine wm_iconst (v := 0) C d_Model_walk_83 (by decide) ?_
          refine wm_istore_n (lv' := [(1, .int 0), (2, .int ((md_walk_i ((s.2 1).toInt.toNat + 2) s 3).2)), (0, .ref D.2.2.2.1)]) C d_Model_walk_84 rfl (by decide) rfl ?_
          refine wm_iload_n C d_Model_walk_85 rfl (j := 0) rfl ?_
          refine wm_if_eq (tgt := 94) C d_Model_walk_86 (by decide) (fun (h_86 : 0 = 0) => ?_) (fun (h_86 : ¬ 0 = 0) => ?_)
          · refine wm_goto (tgt := 25) C d_Model_walk_94 (by decide) ?_
            have e : md_walk_l (q + 1) s more = md_walk_l q ((md_walk_i ((s.2 1).toInt.toNat + 2) s 3).1) 0 := by rw [md_walk_l, if_neg h_26, if_pos h_33, if_pos h_76]
            rw [e] at hk
            exact wm_sub [(1, .int 0), (0, .ref D.2.2.2.1)] (by simp) (ih ((md_walk_i ((s.2 1).toInt.toNat + 2) s 3).1) 0 _ hR1 ho hk)
          · exact absurd h_86 (by decide)
        · rw [if_neg h_76] at ho
          refine wm_iconst (v := 1) C d_Model_walk_79 (by decide) ?_
          refine wm_goto (tgt := 84) C d_Model_walk_80 (by decide) ?_
          refine wm_istore_n (lv' := [(1, .int 1), (2, .int ((md_walk_i ((s.2 1).toInt.toNat + 2) s 3).2)), (0, .ref D.2.2.2.1)]) C d_Model_walk_84 rfl (by decide) rfl ?_
          refine wm_iload_n C d_Model_walk_85 rfl (j := 0) rfl ?_
          refine wm_if_eq (tgt := 94) C d_Model_walk_86 (by decide) (fun (h_86_5 : 1 = 0) => ?_) (fun (h_86_5 : ¬ 1 = 0) => ?_)
          · exact absurd h_86_5 (by decide)
          · refine wm_aload_n C d_Model_walk_89 rfl (j := 2) rfl ?_
            refine wm_iload_n C d_Model_walk_90 rfl (j := 1) rfl ?_
            refine wm_callV (d2 := 2) (mc := 0) (ms := 0) C mo_Model_goThrough co_Model ml_Model_99 [.int ((md_walk_i ((s.2 1).toInt.toNat + 2) s 3).2)] [] rfl hR1.1 rfl (by decide) (Nat.le_of_ble_eq_true rfl) (Nat.le_refl _) (Nat.le_refl _) d_Model_walk_91 (cy_kv ?_)
            obtain ⟨o2, ho⟩ := ho
            refine k_goThrough hD hR1 _ o2 (fun M2 hR2 => ⟨rfl, ?_⟩)
            refine wm_goto (tgt := 25) C d_Model_walk_94 (by decide) ?_
            have e : md_walk_l (q + 1) s more = md_walk_l q (md_goThrough ((md_walk_i ((s.2 1).toInt.toNat + 2) s 3).1) ((md_walk_i ((s.2 1).toInt.toNat + 2) s 3).2)) 1 := by rw [md_walk_l, if_neg h_26, if_pos h_33, if_neg h_76]
            rw [e] at hk
            exact wm_sub [(1, .int 1), (0, .ref D.2.2.2.1)] (by simp) (ih (md_goThrough ((md_walk_i ((s.2 1).toInt.toNat + 2) s 3).1) ((md_walk_i ((s.2 1).toInt.toNat + 2) s 3).2)) 1 _ hR2 ho hk)
def md_walk (s : md_S) : md_S :=
  (md_walk_l (((md_come (md_come (md_come s (md_at s 0) 0) (md_at (md_come s (md_at s 0) 0) 1) 0) (md_at (md_come (md_come s (md_at s 0) 0) (md_at (md_come s (md_at s 0) 0) 1) 0) 2) 0).2 1).toInt.toNat + 2) (md_come (md_come (md_come s (md_at s 0) 0) (md_at (md_come s (md_at s 0) 0) 1) 0) (md_at (md_come (md_come s (md_at s 0) 0) (md_at (md_come s (md_at s 0) 0) 1) 0) 2) 0) 1)
def md_walk_ok (s : md_S) : Prop :=
  (md_at_ok s 0) ∧ (md_come_ok s (md_at s 0) 0) ∧ (
  (md_at_ok (md_come s (md_at s 0) 0) 1) ∧ (md_come_ok (md_come s (md_at s 0) 0) (md_at (md_come s (md_at s 0) 0) 1) 0) ∧ (
  (md_at_ok (md_come (md_come s (md_at s 0) 0) (md_at (md_come s (md_at s 0) 0) 1) 0) 2) ∧ (md_come_ok (md_come (md_come s (md_at s 0) 0) (md_at (md_come s (md_at s 0) 0) 1) 0) (md_at (md_come (md_come s (md_at s 0) 0) (md_at (md_come s (md_at s 0) 0) 1) 0) 2) 0) ∧ (
  (md_walk_l_ok (((md_come (md_come (md_come s (md_at s 0) 0) (md_at (md_come s (md_at s 0) 0) 1) 0) (md_at (md_come (md_come s (md_at s 0) 0) (md_at (md_come s (md_at s 0) 0) 1) 0) 2) 0).2 1).toInt.toNat + 2) (md_come (md_come (md_come s (md_at s 0) 0) (md_at (md_come s (md_at s 0) 0) 1) 0) (md_at (md_come (md_come s (md_at s 0) 0) (md_at (md_come s (md_at s 0) 0) 1) 0) 2) 0) 1) ∧ (
  True))))
set_option maxHeartbeats 4000000 in
theorem k_walk {G : cy_G} {D : md_E} {s : md_S} {M : cy_Hp} {post : Option Value → cy_Hp → Prop} (hD : md_Eo G D) (hR : md_R D s M)  (ho : md_walk_ok s) (h : ∀ M', md_R D (md_walk s) M' → post none M') : cy_Ct G 3 m_Model_walk [.ref D.2.2.2.1] M 0 0 post := by
  refine cy_Ct.of (by decide) (Nat.le_of_ble_eq_true rfl) ?_
  intro F C P _
  have C : cy_C G F R_Model b_Model_walk 3 3 0 0 := C
  have P : cy_P G F none post 0 0 := P
  unfold md_walk_ok at ho
  show WM G F 3 0 0 0 [(0, .ref D.2.2.2.1)] [] M
  refine wm_iconst (v := 0) C d_Model_walk_0 (by decide) ?_
  refine wm_istore_n (lv' := [(1, .int 0), (0, .ref D.2.2.2.1)]) C d_Model_walk_1 rfl (by decide) rfl ?_
  refine wm_iload_n C d_Model_walk_2 rfl (j := 0) rfl ?_
  refine wm_iconst (v := 3) C d_Model_walk_3 (by decide) ?_
  refine wm_icmp_ge (tgt := 23) C d_Model_walk_4 (by decide) (fun (h_4 : 3 ≤ 0) => ?_) (fun (h_4 : ¬ 3 ≤ 0) => ?_)
  · exact absurd h_4 (by decide)
  · refine wm_aload_n C d_Model_walk_7 rfl (j := 1) rfl ?_
    refine wm_aload_n C d_Model_walk_8 rfl (j := 1) rfl ?_
    refine wm_iload_n C d_Model_walk_9 rfl (j := 0) rfl ?_
    refine wm_callV (d2 := 0) (mc := 0) (ms := 0) C mo_Model_at co_Model ml_Model_81 [.int 0] [.ref D.2.2.2.1] rfl hR.1 rfl (by decide) (Nat.le_of_ble_eq_true rfl) (Nat.le_refl _) (Nat.le_refl _) d_Model_walk_10 (cy_ki ?_)
    obtain ⟨o1, ho⟩ := ho
    refine k_at hD hR _ o1 ⟨_, rfl, ?_⟩
    refine wm_iconst (v := 0) C d_Model_walk_13 (by decide) ?_
    refine wm_callV (d2 := 1) (mc := 0) (ms := 0) C mo_Model_come co_Model ml_Model_96 [.int (md_at s 0), .int 0] [] rfl hR.1 rfl (by decide) (Nat.le_of_ble_eq_true rfl) (Nat.le_refl _) (Nat.le_refl _) d_Model_walk_14 (cy_kv ?_)
    obtain ⟨o2, ho⟩ := ho
    refine k_come hD hR _ _ o2 (fun M1 hR1 => ⟨rfl, ?_⟩)
    refine wm_iinc (v := 1) (lv' := [(1, .int 1), (0, .ref D.2.2.2.1)]) C d_Model_walk_17 (k := 0) rfl (by decide) (by decide) rfl ?_
    refine wm_goto (tgt := 2) C d_Model_walk_20 (by decide) ?_
    refine wm_iload_n C d_Model_walk_2 rfl (j := 0) rfl ?_
    refine wm_iconst (v := 3) C d_Model_walk_3 (by decide) ?_
    refine wm_icmp_ge (tgt := 23) C d_Model_walk_4 (by decide) (fun (h_4_2 : 3 ≤ 1) => ?_) (fun (h_4_2 : ¬ 3 ≤ 1) => ?_)
    · exact absurd h_4_2 (by decide)
    · refine wm_aload_n C d_Model_walk_7 rfl (j := 1) rfl ?_
      refine wm_aload_n C d_Model_walk_8 rfl (j := 1) rfl ?_
      refine wm_iload_n C d_Model_walk_9 rfl (j := 0) rfl ?_
      refine wm_callV (d2 := 0) (mc := 0) (ms := 0) C mo_Model_at co_Model ml_Model_81 [.int 1] [.ref D.2.2.2.1] rfl hR1.1 rfl (by decide) (Nat.le_of_ble_eq_true rfl) (Nat.le_refl _) (Nat.le_refl _) d_Model_walk_10 (cy_ki ?_)
      obtain ⟨o3, ho⟩ := ho
      refine k_at hD hR1 _ o3 ⟨_, rfl, ?_⟩
      refine wm_iconst (v := 0) C d_Model_walk_13 (by decide) ?_
      refine wm_callV (d2 := 1) (mc := 0) (ms := 0) C mo_Model_come co_Model ml_Model_96 [.int (md_at (md_come s (md_at s 0) 0) 1), .int 0] [] rfl hR1.1 rfl (by decide) (Nat.le_of_ble_eq_true rfl) (Nat.le_refl _) (Nat.le_refl _) d_Model_walk_14 (cy_kv ?_)
      obtain ⟨o4, ho⟩ := ho
      refine k_come hD hR1 _ _ o4 (fun M2 hR2 => ⟨rfl, ?_⟩)
      refine wm_iinc (v := 2) (lv' := [(1, .int 2), (0, .ref D.2.2.2.1)]) C d_Model_walk_17 (k := 0) rfl (by decide) (by decide) rfl ?_
      refine wm_goto (tgt := 2) C d_Model_walk_20 (by decide) ?_
      refine wm_iload_n C d_Model_walk_2 rfl (j := 0) rfl ?_
      refine wm_iconst (v := 3) C d_Model_walk_3 (by decide) ?_
      refine wm_icmp_ge (tgt := 23) C d_Model_walk_4 (by decide) (fun (h_4_3 : 3 ≤ 2) => ?_) (fun (h_4_3 : ¬ 3 ≤ 2) => ?_)
      · exact absurd h_4_3 (by decide)
      · refine wm_aload_n C d_Model_walk_7 rfl (j := 1) rfl ?_
        refine wm_aload_n C d_Model_walk_8 rfl (j := 1) rfl ?_
        refine wm_iload_n C d_Model_walk_9 rfl (j := 0) rfl ?_
        refine wm_callV (d2 := 0) (mc := 0) (ms := 0) C mo_Model_at co_Model ml_Model_81 [.int 2] [.ref D.2.2.2.1] rfl hR2.1 rfl (by decide) (Nat.le_of_ble_eq_true rfl) (Nat.le_refl _) (Nat.le_refl _) d_Model_walk_10 (cy_ki ?_)
        obtain ⟨o5, ho⟩ := ho
        refine k_at hD hR2 _ o5 ⟨_, rfl, ?_⟩
        refine wm_iconst (v := 0) C d_Model_walk_13 (by decide) ?_
        refine wm_callV (d2 := 1) (mc := 0) (ms := 0) C mo_Model_come co_Model ml_Model_96 [.int (md_at (md_come (md_come s (md_at s 0) 0) (md_at (md_come s (md_at s 0) 0) 1) 0) 2), .int 0] [] rfl hR2.1 rfl (by decide) (Nat.le_of_ble_eq_true rfl) (Nat.le_refl _) (Nat.le_refl _) d_Model_walk_14 (cy_kv ?_)
        obtain ⟨o6, ho⟩ := ho
        refine k_come hD hR2 _ _ o6 (fun M3 hR3 => ⟨rfl, ?_⟩)
        refine wm_iinc (v := 3) (lv' := [(1, .int 3), (0, .ref D.2.2.2.1)]) C d_Model_walk_17 (k := 0) rfl (by decide) (by decide) rfl ?_
        refine wm_goto (tgt := 2) C d_Model_walk_20 (by decide) ?_
        refine wm_iload_n C d_Model_walk_2 rfl (j := 0) rfl ?_
        refine wm_iconst (v := 3) C d_Model_walk_3 (by decide) ?_
        refine wm_icmp_ge (tgt := 23) C d_Model_walk_4 (by decide) (fun (h_4_4 : 3 ≤ 3) => ?_) (fun (h_4_4 : ¬ 3 ≤ 3) => ?_)
        · refine wm_iconst (v := 1) C d_Model_walk_23 (by decide) ?_
          refine wm_istore_n (lv' := [(1, .int 1), (0, .ref D.2.2.2.1)]) C d_Model_walk_24 rfl (by decide) rfl ?_
          obtain ⟨o7, ho⟩ := ho
          refine wm_sub [(1, .int 1), (0, .ref D.2.2.2.1)] (by simp) (g_walk_l hD C (((md_come (md_come (md_come s (md_at s 0) 0) (md_at (md_come s (md_at s 0) 0) 1) 0) (md_at (md_come (md_come s (md_at s 0) 0) (md_at (md_come s (md_at s 0) 0) 1) 0) 2) 0).2 1).toInt.toNat + 2) (md_come (md_come (md_come s (md_at s 0) 0) (md_at (md_come s (md_at s 0) 0) 1) 0) (md_at (md_come (md_come s (md_at s 0) 0) (md_at (md_come s (md_at s 0) 0) 1) 0) 2) 0) 1 _ hR3 o7 (fun M4 hR4 => ?_))
          refine wm_vret C P d_Model_walk_97 ?_
          have e : md_walk s = (md_walk_l (((md_come (md_come (md_come s (md_at s 0) 0) (md_at (md_come s (md_at s 0) 0) 1) 0) (md_at (md_come (md_come s (md_at s 0) 0) (md_at (md_come s (md_at s 0) 0) 1) 0) 2) 0).2 1).toInt.toNat + 2) (md_come (md_come (md_come s (md_at s 0) 0) (md_at (md_come s (md_at s 0) 0) 1) 0) (md_at (md_come (md_come s (md_at s 0) 0) (md_at (md_come s (md_at s 0) 0) 1) 0) 2) 0) 1) := by rw [md_walk]
          rw [e] at h
          exact h _ hR4
        · exact absurd h_4_4 (by decide)
def md_look_a : Nat → md_S → Int32 → md_S
  | 0, s, _ => s
  | q + 1, s, p =>
    if (s.2 1) < p then
      s
    else
      md_look_a q (md_sa (md_sa (md_sa s 6 p 0) 7 p (-1)) 8 p 0) (p + 1)
def md_look_a_ok : Nat → md_S → Int32 → Prop
  | 0, _, _ => False
  | q + 1, s, p =>
    if (s.2 1) < p then
      True
    else
      (vp_in p 301) ∧ (vp_in p 301) ∧ (vp_in p 301) ∧ (
      md_look_a_ok q (md_sa (md_sa (md_sa s 6 p 0) 7 p (-1)) 8 p 0) (p + 1))
set_option maxHeartbeats 4000000 in
theorem g_look_a {G : cy_G} {D : md_E} {F : cy_F} (hD : md_Eo G D) (C : cy_C G F R_Model b_Model_look 6 4 0 0) : ∀ (q : Nat) (s : md_S) (p : Int32) (M : cy_Hp), md_R D s M → md_look_a_ok q s p → (∀ M', md_R D (md_look_a q s p) M' → WM G F 6 0 0 79 [(0, .ref D.2.2.2.1)] [] M') → WM G F 6 0 0 44 [(1, .int p), (0, .ref D.2.2.2.1)] [] M := by
  intro q
  induction q with
  | zero =>
    intro s p M hR ho hk
    exact absurd ho id
  | succ q ih =>
    intro s p M hR ho hk
    unfold md_look_a_ok at ho
    refine wm_iload_n C d_Model_look_44 rfl (j := 0) rfl ?_
    refine wm_aload_n C d_Model_look_45 rfl (j := 1) rfl ?_
    refine wm_get C co_Model hR.1 7 (by decide) fl_Model_74 rfl d_Model_look_46 ?_
    refine wm_icmp_gt (tgt := 79) C d_Model_look_49 (by decide) (fun (h_49 : (s.2 1) < p) => ?_) (fun (h_49 : ¬ (s.2 1) < p) => ?_)
    · rw [if_pos h_49] at ho
      have e : md_look_a (q + 1) s p = s := by rw [md_look_a, if_pos h_49]
      rw [e] at hk
      exact wm_sub [(0, .ref D.2.2.2.1)] (by simp) (hk _ hR)
    · rw [if_neg h_49] at ho
      refine wm_aload_n C d_Model_look_52 rfl (j := 1) rfl ?_
      refine wm_get C co_Model hR.1 8 (by decide) fl_Model_29 rfl d_Model_look_53 ?_
      refine wm_iload_n C d_Model_look_56 rfl (j := 0) rfl ?_
      refine wm_iconst (v := 0) C d_Model_look_57 (by decide) ?_
      obtain ⟨o1, ho⟩ := ho
      refine wm_zast C (md_arr hR 6 (by decide)) hD.2.2 rfl o1 d_Model_look_58 ?_
      refine md_gen (md_R_sa hR (a := 6) (by decide) p 0) (fun M1 hR1 => ?_)
      refine wm_aload_n C d_Model_look_59 rfl (j := 1) rfl ?_
      refine wm_get C co_Model hR1.1 9 (by decide) fl_Model_33 rfl d_Model_look_60 ?_
      refine wm_iload_n C d_Model_look_63 rfl (j := 0) rfl ?_
      refine wm_iconst (v := -1) C d_Model_look_64 (by decide) ?_
      obtain ⟨o2, ho⟩ := ho
      refine wm_iast C (md_arr hR1 7 (by decide)) hD.1 o2 d_Model_look_65 ?_
      refine md_gen (md_R_sa hR1 (a := 7) (by decide) p (-1)) (fun M2 hR2 => ?_)
      refine wm_aload_n C d_Model_look_66 rfl (j := 1) rfl ?_
      refine wm_get C co_Model hR2.1 10 (by decide) fl_Model_36 rfl d_Model_look_67 ?_
      refine wm_iload_n C d_Model_look_70 rfl (j := 0) rfl ?_
      refine wm_iconst (v := 0) C d_Model_look_71 (by decide) ?_
      obtain ⟨o3, ho⟩ := ho
      refine wm_zast C (md_arr hR2 8 (by decide)) hD.2.2 rfl o3 d_Model_look_72 ?_
      refine md_gen (md_R_sa hR2 (a := 8) (by decide) p 0) (fun M3 hR3 => ?_)
      refine wm_iinc (v := p + 1) (lv' := [(1, .int (p + 1)), (0, .ref D.2.2.2.1)]) C d_Model_look_73 (k := 0) rfl rfl (by decide) rfl ?_
      refine wm_goto (tgt := 44) C d_Model_look_76 (by decide) ?_
      have e : md_look_a (q + 1) s p = md_look_a q (md_sa (md_sa (md_sa s 6 p 0) 7 p (-1)) 8 p 0) (p + 1) := by rw [md_look_a, if_neg h_49]
      rw [e] at hk
      exact wm_sub [(1, .int (p + 1)), (0, .ref D.2.2.2.1)] (by simp) (ih (md_sa (md_sa (md_sa s 6 p 0) 7 p (-1)) 8 p 0) (p + 1) _ hR3 ho hk)
def md_look_b : Nat → md_S → Int32 → Int32 → Int32 → md_S × Int32 × Int32
  | 0, s, _, last, cnt => (s, (last, cnt))
  | q + 1, s, p, last, cnt =>
    if (s.2 1) ≤ p then
      (s, (last, cnt))
    else
      if (s.2 2) = 0 then
        if (md_at s p) ≤ 27 then
          if (md_hasOperand (md_at s p)) = 0 then
            md_look_b q (md_sa s 6 p 1) (p + 1) p (cnt + 1)
          else
            if (p + 1) < (s.2 1) then
              if (md_isOperand (md_at s p) (md_at s (p + 1))) = 0 then
                md_look_b q (md_sa (md_bad s 4 p) 6 p 1) (p + 2) p (cnt + 1)
              else
                md_look_b q (md_sa s 6 p 1) (p + 2) p (cnt + 1)
            else
              md_look_b q (md_sa (md_bad s 3 p) 6 p 1) (p + 2) p (cnt + 1)
        else
          if (md_hasOperand (md_at s p)) = 0 then
            md_look_b q (md_sa (md_bad s 2 p) 6 p 1) (p + 1) p (cnt + 1)
          else
            md_look_b q (md_sa (md_bad s 2 p) 6 p 1) (p + 2) p (cnt + 1)
      else
        (s, (last, cnt))
def md_look_b_ok : Nat → md_S → Int32 → Int32 → Int32 → Prop
  | 0, _, _, _, _ => False
  | q + 1, s, p, last, cnt =>
    if (s.2 1) ≤ p then
      True
    else
      if (s.2 2) = 0 then
        (md_at_ok s p) ∧ (
        if (md_at s p) ≤ 27 then
          if (md_hasOperand (md_at s p)) = 0 then
            (vp_in p 301) ∧ (
            md_look_b_ok q (md_sa s 6 p 1) (p + 1) p (cnt + 1))
          else
            if (p + 1) < (s.2 1) then
              (md_at_ok s (p + 1)) ∧ (
              if (md_isOperand (md_at s p) (md_at s (p + 1))) = 0 then
                (vp_in p 301) ∧ (
                md_look_b_ok q (md_sa (md_bad s 4 p) 6 p 1) (p + 2) p (cnt + 1))
              else
                (vp_in p 301) ∧ (
                md_look_b_ok q (md_sa s 6 p 1) (p + 2) p (cnt + 1)))
            else
              (vp_in p 301) ∧ (
              md_look_b_ok q (md_sa (md_bad s 3 p) 6 p 1) (p + 2) p (cnt + 1))
        else
          (vp_in p 301) ∧ (
          if (md_hasOperand (md_at s p)) = 0 then
            md_look_b_ok q (md_sa (md_bad s 2 p) 6 p 1) (p + 1) p (cnt + 1)
          else
            md_look_b_ok q (md_sa (md_bad s 2 p) 6 p 1) (p + 2) p (cnt + 1)))
      else
        True
set_option maxHeartbeats 4000000 in
theorem g_look_b {G : cy_G} {D : md_E} {F : cy_F} (hD : md_Eo G D) (C : cy_C G F R_Model b_Model_look 6 4 0 0) : ∀ (q : Nat) (s : md_S) (p : Int32) (last : Int32) (cnt : Int32) (M : cy_Hp), md_R D s M → md_look_b_ok q s p last cnt → (∀ M', md_R D (md_look_b q s p last cnt).1 M' → WM G F 6 0 0 208 [(2, .int ((md_look_b q s p last cnt).2.1)), (1, .int ((md_look_b q s p last cnt).2.2)), (0, .ref D.2.2.2.1)] [] M') → WM G F 6 0 0 85 [(3, .int p), (2, .int last), (1, .int cnt), (0, .ref D.2.2.2.1)] [] M := by
  intro q
  induction q with
  | zero =>
    intro s p last cnt M hR ho hk
    exact absurd ho id
  | succ q ih =>
    intro s p last cnt M hR ho hk
    unfold md_look_b_ok at ho
    refine wm_iload_n C d_Model_look_85 rfl (j := 0) rfl ?_
    refine wm_aload_n C d_Model_look_86 rfl (j := 3) rfl ?_
    refine wm_get C co_Model hR.1 7 (by decide) fl_Model_74 rfl d_Model_look_87 ?_
    refine wm_icmp_ge (tgt := 208) C d_Model_look_90 (by decide) (fun (h_90 : (s.2 1) ≤ p) => ?_) (fun (h_90 : ¬ (s.2 1) ≤ p) => ?_)
    · rw [if_pos h_90] at ho
      have e : md_look_b (q + 1) s p last cnt = (s, (last, cnt)) := by rw [md_look_b, if_pos h_90]
      rw [e] at hk
      exact wm_sub [(2, .int last), (1, .int cnt), (0, .ref D.2.2.2.1)] (by simp) (hk _ hR)
    · rw [if_neg h_90] at ho
      refine wm_aload_n C d_Model_look_93 rfl (j := 3) rfl ?_
      refine wm_get C co_Model hR.1 11 (by decide) fl_Model_68 rfl d_Model_look_94 ?_
      refine wm_if_ne (tgt := 208) C d_Model_look_97 (by decide) (fun (h_97 : ¬ (s.2 2) = 0) => ?_) (fun (h_97 : (s.2 2) = 0) => ?_)
      · rw [if_neg h_97] at ho
        have e : md_look_b (q + 1) s p last cnt = (s, (last, cnt)) := by rw [md_look_b, if_neg h_90, if_neg h_97]
        rw [e] at hk
        exact wm_sub [(2, .int last), (1, .int cnt), (0, .ref D.2.2.2.1)] (by simp) (hk _ hR)
      · rw [if_pos h_97] at ho
        refine wm_aload_n C d_Model_look_100 rfl (j := 3) rfl ?_
        refine wm_iload_n C d_Model_look_101 rfl (j := 0) rfl ?_
        refine wm_callV (d2 := 0) (mc := 0) (ms := 0) C mo_Model_at co_Model ml_Model_81 [.int p] [] rfl hR.1 rfl (by decide) (Nat.le_of_ble_eq_true rfl) (Nat.le_refl _) (Nat.le_refl _) d_Model_look_102 (cy_ki ?_)
        obtain ⟨o1, ho⟩ := ho
        refine k_at hD hR _ o1 ⟨_, rfl, ?_⟩
        refine wm_istore (lv' := [(4, .int (md_at s p)), (3, .int p), (2, .int last), (1, .int cnt), (0, .ref D.2.2.2.1)]) C d_Model_look_105 (by decide) rfl ?_
        refine wm_iload C d_Model_look_107 (j := 0) rfl ?_
        refine wm_callS (d2 := 0) (mc := 0) (ms := 0) C mo_Model_hasOperand ml_Model_85 [.int (md_at s p)] [] rfl rfl (by decide) (Nat.le_of_ble_eq_true rfl) (Nat.le_refl _) (Nat.le_refl _) d_Model_look_109 (cy_ki ?_)
        refine k_hasOperand hD hR _  ⟨_, rfl, ?_⟩
        refine wm_istore (lv' := [(5, .int (md_hasOperand (md_at s p))), (4, .int (md_at s p)), (3, .int p), (2, .int last), (1, .int cnt), (0, .ref D.2.2.2.1)]) C d_Model_look_112 (by decide) rfl ?_
        refine wm_iload C d_Model_look_114 (j := 1) rfl ?_
        refine wm_bipush (v := 27) C d_Model_look_116 (by decide) ?_
        refine wm_icmp_le (tgt := 130) C d_Model_look_118 (by decide) (fun (h_118 : (md_at s p) ≤ 27) => ?_) (fun (h_118 : ¬ (md_at s p) ≤ 27) => ?_)
        · rw [if_pos h_118] at ho
          refine wm_iload C d_Model_look_130 (j := 0) rfl ?_
          refine wm_if_eq (tgt := 154) C d_Model_look_132 (by decide) (fun (h_132 : (md_hasOperand (md_at s p)) = 0) => ?_) (fun (h_132 : ¬ (md_hasOperand (md_at s p)) = 0) => ?_)
          · rw [if_pos h_132] at ho
            refine wm_iload C d_Model_look_154 (j := 0) rfl ?_
            refine wm_if_eq (tgt := 180) C d_Model_look_156 (by decide) (fun (h_156 : (md_hasOperand (md_at s p)) = 0) => ?_) (fun (h_156 : ¬ (md_hasOperand (md_at s p)) = 0) => ?_)
            · refine wm_aload_n C d_Model_look_180 rfl (j := 5) rfl ?_
              refine wm_get C co_Model hR.1 8 (by decide) fl_Model_29 rfl d_Model_look_181 ?_
              refine wm_iload_n C d_Model_look_184 rfl (j := 2) rfl ?_
              refine wm_iconst (v := 1) C d_Model_look_185 (by decide) ?_
              obtain ⟨o2, ho⟩ := ho
              refine wm_zast C (md_arr hR 6 (by decide)) hD.2.2 rfl o2 d_Model_look_186 ?_
              refine md_gen (md_R_sa hR (a := 6) (by decide) p 1) (fun M1 hR1 => ?_)
              refine wm_iload_n C d_Model_look_187 rfl (j := 2) rfl ?_
              refine wm_istore_n (lv' := [(2, .int p), (5, .int (md_hasOperand (md_at s p))), (4, .int (md_at s p)), (3, .int p), (1, .int cnt), (0, .ref D.2.2.2.1)]) C d_Model_look_188 rfl (by decide) rfl ?_
              refine wm_iload_n C d_Model_look_189 rfl (j := 3) rfl ?_
              refine wm_iload C d_Model_look_190 (j := 1) rfl ?_
              refine wm_if_eq (tgt := 199) C d_Model_look_192 (by decide) (fun (h_192 : (md_hasOperand (md_at s p)) = 0) => ?_) (fun (h_192 : ¬ (md_hasOperand (md_at s p)) = 0) => ?_)
              · refine wm_iconst (v := 1) C d_Model_look_199 (by decide) ?_
                refine wm_iadd C d_Model_look_200 ?_
                refine wm_istore_n (lv' := [(3, .int (p + 1)), (2, .int p), (5, .int (md_hasOperand (md_at s p))), (4, .int (md_at s p)), (1, .int cnt), (0, .ref D.2.2.2.1)]) C d_Model_look_201 rfl (by decide) rfl ?_
                refine wm_iinc (v := cnt + 1) (lv' := [(1, .int (cnt + 1)), (3, .int (p + 1)), (2, .int p), (5, .int (md_hasOperand (md_at s p))), (4, .int (md_at s p)), (0, .ref D.2.2.2.1)]) C d_Model_look_202 (k := 4) rfl rfl (by decide) rfl ?_
                refine wm_goto (tgt := 85) C d_Model_look_205 (by decide) ?_
                have e : md_look_b (q + 1) s p last cnt = md_look_b q (md_sa s 6 p 1) (p + 1) p (cnt + 1) := by rw [md_look_b, if_neg h_90, if_pos h_97, if_pos h_118, if_pos h_132]
                rw [e] at hk
                exact wm_sub [(3, .int (p + 1)), (2, .int p), (1, .int (cnt + 1)), (0, .ref D.2.2.2.1)] (by simp) (ih (md_sa s 6 p 1) (p + 1) p (cnt + 1) _ hR1 ho hk)
              · exact absurd h_132 h_192
            · exact absurd h_132 h_156
          · rw [if_neg h_132] at ho
            refine wm_iload_n C d_Model_look_135 rfl (j := 2) rfl ?_
            refine wm_iconst (v := 1) C d_Model_look_136 (by decide) ?_
            refine wm_iadd C d_Model_look_137 ?_
            refine wm_aload_n C d_Model_look_138 rfl (j := 5) rfl ?_
            refine wm_get C co_Model hR.1 7 (by decide) fl_Model_74 rfl d_Model_look_139 ?_
            refine wm_icmp_lt (tgt := 154) C d_Model_look_142 (by decide) (fun (h_142 : (p + 1) < (s.2 1)) => ?_) (fun (h_142 : ¬ (p + 1) < (s.2 1)) => ?_)
            · rw [if_pos h_142] at ho
              refine wm_iload C d_Model_look_154 (j := 0) rfl ?_
              refine wm_if_eq (tgt := 180) C d_Model_look_156 (by decide) (fun (h_156_8 : (md_hasOperand (md_at s p)) = 0) => ?_) (fun (h_156_8 : ¬ (md_hasOperand (md_at s p)) = 0) => ?_)
              · exact absurd h_156_8 h_132
              · refine wm_iload C d_Model_look_159 (j := 1) rfl ?_
                refine wm_aload_n C d_Model_look_161 rfl (j := 5) rfl ?_
                refine wm_iload_n C d_Model_look_162 rfl (j := 2) rfl ?_
                refine wm_iconst (v := 1) C d_Model_look_163 (by decide) ?_
                refine wm_iadd C d_Model_look_164 ?_
                refine wm_callV (d2 := 0) (mc := 0) (ms := 0) C mo_Model_at co_Model ml_Model_81 [.int (p + 1)] [.int (md_at s p)] rfl hR.1 rfl (by decide) (Nat.le_of_ble_eq_true rfl) (Nat.le_refl _) (Nat.le_refl _) d_Model_look_165 (cy_ki ?_)
                obtain ⟨o3, ho⟩ := ho
                refine k_at hD hR _ o3 ⟨_, rfl, ?_⟩
                refine wm_callS (d2 := 0) (mc := 0) (ms := 0) C mo_Model_isOperand ml_Model_89 [.int (md_at s p), .int (md_at s (p + 1))] [] rfl rfl (by decide) (Nat.le_of_ble_eq_true rfl) (Nat.le_refl _) (Nat.le_refl _) d_Model_look_168 (cy_ki ?_)
                refine k_isOperand hD hR _ _  ⟨_, rfl, ?_⟩
                refine wm_if_ne (tgt := 180) C d_Model_look_171 (by decide) (fun (h_171 : ¬ (md_isOperand (md_at s p) (md_at s (p + 1))) = 0) => ?_) (fun (h_171 : (md_isOperand (md_at s p) (md_at s (p + 1))) = 0) => ?_)
                · rw [if_neg h_171] at ho
                  refine wm_aload_n C d_Model_look_180 rfl (j := 5) rfl ?_
                  refine wm_get C co_Model hR.1 8 (by decide) fl_Model_29 rfl d_Model_look_181 ?_
                  refine wm_iload_n C d_Model_look_184 rfl (j := 2) rfl ?_
                  refine wm_iconst (v := 1) C d_Model_look_185 (by decide) ?_
                  obtain ⟨o4, ho⟩ := ho
                  refine wm_zast C (md_arr hR 6 (by decide)) hD.2.2 rfl o4 d_Model_look_186 ?_
                  refine md_gen (md_R_sa hR (a := 6) (by decide) p 1) (fun M2 hR2 => ?_)
                  refine wm_iload_n C d_Model_look_187 rfl (j := 2) rfl ?_
                  refine wm_istore_n (lv' := [(2, .int p), (5, .int (md_hasOperand (md_at s p))), (4, .int (md_at s p)), (3, .int p), (1, .int cnt), (0, .ref D.2.2.2.1)]) C d_Model_look_188 rfl (by decide) rfl ?_
                  refine wm_iload_n C d_Model_look_189 rfl (j := 3) rfl ?_
                  refine wm_iload C d_Model_look_190 (j := 1) rfl ?_
                  refine wm_if_eq (tgt := 199) C d_Model_look_192 (by decide) (fun (h_192_10 : (md_hasOperand (md_at s p)) = 0) => ?_) (fun (h_192_10 : ¬ (md_hasOperand (md_at s p)) = 0) => ?_)
                  · exact absurd h_192_10 h_132
                  · refine wm_iconst (v := 2) C d_Model_look_195 (by decide) ?_
                    refine wm_goto (tgt := 200) C d_Model_look_196 (by decide) ?_
                    refine wm_iadd C d_Model_look_200 ?_
                    refine wm_istore_n (lv' := [(3, .int (p + 2)), (2, .int p), (5, .int (md_hasOperand (md_at s p))), (4, .int (md_at s p)), (1, .int cnt), (0, .ref D.2.2.2.1)]) C d_Model_look_201 rfl (by decide) rfl ?_
                    refine wm_iinc (v := cnt + 1) (lv' := [(1, .int (cnt + 1)), (3, .int (p + 2)), (2, .int p), (5, .int (md_hasOperand (md_at s p))), (4, .int (md_at s p)), (0, .ref D.2.2.2.1)]) C d_Model_look_202 (k := 4) rfl rfl (by decide) rfl ?_
                    refine wm_goto (tgt := 85) C d_Model_look_205 (by decide) ?_
                    have e : md_look_b (q + 1) s p last cnt = md_look_b q (md_sa s 6 p 1) (p + 2) p (cnt + 1) := by rw [md_look_b, if_neg h_90, if_pos h_97, if_pos h_118, if_neg h_132, if_pos h_142, if_neg h_171]
                    rw [e] at hk
                    exact wm_sub [(3, .int (p + 2)), (2, .int p), (1, .int (cnt + 1)), (0, .ref D.2.2.2.1)] (by simp) (ih (md_sa s 6 p 1) (p + 2) p (cnt + 1) _ hR2 ho hk)
                · rw [if_pos h_171] at ho
                  refine wm_aload_n C d_Model_look_174 rfl (j := 5) rfl ?_
                  refine wm_iconst (v := 4) C d_Model_look_175 (by decide) ?_
                  refine wm_iload_n C d_Model_look_176 rfl (j := 2) rfl ?_
                  refine wm_callV (d2 := 0) (mc := 0) (ms := 0) C mo_Model_bad co_Model ml_Model_77 [.int 4, .int p] [] rfl hR.1 rfl (by decide) (Nat.le_of_ble_eq_true rfl) (Nat.le_refl _) (Nat.le_refl _) d_Model_look_177 (cy_kv ?_)
                  refine k_bad hD hR _ _  (fun M3 hR3 => ⟨rfl, ?_⟩)
                  refine wm_aload_n C d_Model_look_180 rfl (j := 5) rfl ?_
                  refine wm_get C co_Model hR3.1 8 (by decide) fl_Model_29 rfl d_Model_look_181 ?_
                  refine wm_iload_n C d_Model_look_184 rfl (j := 2) rfl ?_
                  refine wm_iconst (v := 1) C d_Model_look_185 (by decide) ?_
                  obtain ⟨o5, ho⟩ := ho
                  refine wm_zast C (md_arr hR3 6 (by decide)) hD.2.2 rfl o5 d_Model_look_186 ?_
                  refine md_gen (md_R_sa hR3 (a := 6) (by decide) p 1) (fun M4 hR4 => ?_)
                  refine wm_iload_n C d_Model_look_187 rfl (j := 2) rfl ?_
                  refine wm_istore_n (lv' := [(2, .int p), (5, .int (md_hasOperand (md_at s p))), (4, .int (md_at s p)), (3, .int p), (1, .int cnt), (0, .ref D.2.2.2.1)]) C d_Model_look_188 rfl (by decide) rfl ?_
                  refine wm_iload_n C d_Model_look_189 rfl (j := 3) rfl ?_
                  refine wm_iload C d_Model_look_190 (j := 1) rfl ?_
                  refine wm_if_eq (tgt := 199) C d_Model_look_192 (by decide) (fun (h_192_11 : (md_hasOperand (md_at s p)) = 0) => ?_) (fun (h_192_11 : ¬ (md_hasOperand (md_at s p)) = 0) => ?_)
                  · exact absurd h_192_11 h_132
                  · refine wm_iconst (v := 2) C d_Model_look_195 (by decide) ?_
                    refine wm_goto (tgt := 200) C d_Model_look_196 (by decide) ?_
                    refine wm_iadd C d_Model_look_200 ?_
                    refine wm_istore_n (lv' := [(3, .int (p + 2)), (2, .int p), (5, .int (md_hasOperand (md_at s p))), (4, .int (md_at s p)), (1, .int cnt), (0, .ref D.2.2.2.1)]) C d_Model_look_201 rfl (by decide) rfl ?_
                    refine wm_iinc (v := cnt + 1) (lv' := [(1, .int (cnt + 1)), (3, .int (p + 2)), (2, .int p), (5, .int (md_hasOperand (md_at s p))), (4, .int (md_at s p)), (0, .ref D.2.2.2.1)]) C d_Model_look_202 (k := 4) rfl rfl (by decide) rfl ?_
                    refine wm_goto (tgt := 85) C d_Model_look_205 (by decide) ?_
                    have e : md_look_b (q + 1) s p last cnt = md_look_b q (md_sa (md_bad s 4 p) 6 p 1) (p + 2) p (cnt + 1) := by rw [md_look_b, if_neg h_90, if_pos h_97, if_pos h_118, if_neg h_132, if_pos h_142, if_pos h_171]
                    rw [e] at hk
                    exact wm_sub [(3, .int (p + 2)), (2, .int p), (1, .int (cnt + 1)), (0, .ref D.2.2.2.1)] (by simp) (ih (md_sa (md_bad s 4 p) 6 p 1) (p + 2) p (cnt + 1) _ hR4 ho hk)
            · rw [if_neg h_142] at ho
              refine wm_aload_n C d_Model_look_145 rfl (j := 5) rfl ?_
              refine wm_iconst (v := 3) C d_Model_look_146 (by decide) ?_
              refine wm_iload_n C d_Model_look_147 rfl (j := 2) rfl ?_
              refine wm_callV (d2 := 0) (mc := 0) (ms := 0) C mo_Model_bad co_Model ml_Model_77 [.int 3, .int p] [] rfl hR.1 rfl (by decide) (Nat.le_of_ble_eq_true rfl) (Nat.le_refl _) (Nat.le_refl _) d_Model_look_148 (cy_kv ?_)
              refine k_bad hD hR _ _  (fun M5 hR5 => ⟨rfl, ?_⟩)
              refine wm_goto (tgt := 180) C d_Model_look_151 (by decide) ?_
              refine wm_aload_n C d_Model_look_180 rfl (j := 5) rfl ?_
              refine wm_get C co_Model hR5.1 8 (by decide) fl_Model_29 rfl d_Model_look_181 ?_
              refine wm_iload_n C d_Model_look_184 rfl (j := 2) rfl ?_
              refine wm_iconst (v := 1) C d_Model_look_185 (by decide) ?_
              obtain ⟨o6, ho⟩ := ho
              refine wm_zast C (md_arr hR5 6 (by decide)) hD.2.2 rfl o6 d_Model_look_186 ?_
              refine md_gen (md_R_sa hR5 (a := 6) (by decide) p 1) (fun M6 hR6 => ?_)
              refine wm_iload_n C d_Model_look_187 rfl (j := 2) rfl ?_
              refine wm_istore_n (lv' := [(2, .int p), (5, .int (md_hasOperand (md_at s p))), (4, .int (md_at s p)), (3, .int p), (1, .int cnt), (0, .ref D.2.2.2.1)]) C d_Model_look_188 rfl (by decide) rfl ?_
              refine wm_iload_n C d_Model_look_189 rfl (j := 3) rfl ?_
              refine wm_iload C d_Model_look_190 (j := 1) rfl ?_
              refine wm_if_eq (tgt := 199) C d_Model_look_192 (by decide) (fun (h_192_12 : (md_hasOperand (md_at s p)) = 0) => ?_) (fun (h_192_12 : ¬ (md_hasOperand (md_at s p)) = 0) => ?_)
              · exact absurd h_192_12 h_132
              · refine wm_iconst (v := 2) C d_Model_look_195 (by decide) ?_
                refine wm_goto (tgt := 200) C d_Model_look_196 (by decide) ?_
                refine wm_iadd C d_Model_look_200 ?_
                refine wm_istore_n (lv' := [(3, .int (p + 2)), (2, .int p), (5, .int (md_hasOperand (md_at s p))), (4, .int (md_at s p)), (1, .int cnt), (0, .ref D.2.2.2.1)]) C d_Model_look_201 rfl (by decide) rfl ?_
                refine wm_iinc (v := cnt + 1) (lv' := [(1, .int (cnt + 1)), (3, .int (p + 2)), (2, .int p), (5, .int (md_hasOperand (md_at s p))), (4, .int (md_at s p)), (0, .ref D.2.2.2.1)]) C d_Model_look_202 (k := 4) rfl rfl (by decide) rfl ?_
                refine wm_goto (tgt := 85) C d_Model_look_205 (by decide) ?_
                have e : md_look_b (q + 1) s p last cnt = md_look_b q (md_sa (md_bad s 3 p) 6 p 1) (p + 2) p (cnt + 1) := by rw [md_look_b, if_neg h_90, if_pos h_97, if_pos h_118, if_neg h_132, if_neg h_142]
                rw [e] at hk
                exact wm_sub [(3, .int (p + 2)), (2, .int p), (1, .int (cnt + 1)), (0, .ref D.2.2.2.1)] (by simp) (ih (md_sa (md_bad s 3 p) 6 p 1) (p + 2) p (cnt + 1) _ hR6 ho hk)
        · rw [if_neg h_118] at ho
          refine wm_aload_n C d_Model_look_121 rfl (j := 5) rfl ?_
          refine wm_iconst (v := 2) C d_Model_look_122 (by decide) ?_
          refine wm_iload_n C d_Model_look_123 rfl (j := 2) rfl ?_
          refine wm_callV (d2 := 0) (mc := 0) (ms := 0) C mo_Model_bad co_Model ml_Model_77 [.int 2, .int p] [] rfl hR.1 rfl (by decide) (Nat.le_of_ble_eq_true rfl) (Nat.le_refl _) (Nat.le_refl _) d_Model_look_124 (cy_kv ?_)
          refine k_bad hD hR _ _  (fun M7 hR7 => ⟨rfl, ?_⟩)
          refine wm_goto (tgt := 180) C d_Model_look_127 (by decide) ?_
          refine wm_aload_n C d_Model_look_180 rfl (j := 5) rfl ?_
          refine wm_get C co_Model hR7.1 8 (by decide) fl_Model_29 rfl d_Model_look_181 ?_
          refine wm_iload_n C d_Model_look_184 rfl (j := 2) rfl ?_
          refine wm_iconst (v := 1) C d_Model_look_185 (by decide) ?_
          obtain ⟨o7, ho⟩ := ho
          refine wm_zast C (md_arr hR7 6 (by decide)) hD.2.2 rfl o7 d_Model_look_186 ?_
          refine md_gen (md_R_sa hR7 (a := 6) (by decide) p 1) (fun M8 hR8 => ?_)
          refine wm_iload_n C d_Model_look_187 rfl (j := 2) rfl ?_
          refine wm_istore_n (lv' := [(2, .int p), (5, .int (md_hasOperand (md_at s p))), (4, .int (md_at s p)), (3, .int p), (1, .int cnt), (0, .ref D.2.2.2.1)]) C d_Model_look_188 rfl (by decide) rfl ?_
          refine wm_iload_n C d_Model_look_189 rfl (j := 3) rfl ?_
          refine wm_iload C d_Model_look_190 (j := 1) rfl ?_
          refine wm_if_eq (tgt := 199) C d_Model_look_192 (by decide) (fun (h_192_13 : (md_hasOperand (md_at s p)) = 0) => ?_) (fun (h_192_13 : ¬ (md_hasOperand (md_at s p)) = 0) => ?_)
          · rw [if_pos h_192_13] at ho
            refine wm_iconst (v := 1) C d_Model_look_199 (by decide) ?_
            refine wm_iadd C d_Model_look_200 ?_
            refine wm_istore_n (lv' := [(3, .int (p + 1)), (2, .int p), (5, .int (md_hasOperand (md_at s p))), (4, .int (md_at s p)), (1, .int cnt), (0, .ref D.2.2.2.1)]) C d_Model_look_201 rfl (by decide) rfl ?_
            refine wm_iinc (v := cnt + 1) (lv' := [(1, .int (cnt + 1)), (3, .int (p + 1)), (2, .int p), (5, .int (md_hasOperand (md_at s p))), (4, .int (md_at s p)), (0, .ref D.2.2.2.1)]) C d_Model_look_202 (k := 4) rfl rfl (by decide) rfl ?_
            refine wm_goto (tgt := 85) C d_Model_look_205 (by decide) ?_
            have e : md_look_b (q + 1) s p last cnt = md_look_b q (md_sa (md_bad s 2 p) 6 p 1) (p + 1) p (cnt + 1) := by rw [md_look_b, if_neg h_90, if_pos h_97, if_neg h_118, if_pos h_192_13]
            rw [e] at hk
            exact wm_sub [(3, .int (p + 1)), (2, .int p), (1, .int (cnt + 1)), (0, .ref D.2.2.2.1)] (by simp) (ih (md_sa (md_bad s 2 p) 6 p 1) (p + 1) p (cnt + 1) _ hR8 ho hk)
          · rw [if_neg h_192_13] at ho
            refine wm_iconst (v := 2) C d_Model_look_195 (by decide) ?_
            refine wm_goto (tgt := 200) C d_Model_look_196 (by decide) ?_
            refine wm_iadd C d_Model_look_200 ?_
            refine wm_istore_n (lv' := [(3, .int (p + 2)), (2, .int p), (5, .int (md_hasOperand (md_at s p))), (4, .int (md_at s p)), (1, .int cnt), (0, .ref D.2.2.2.1)]) C d_Model_look_201 rfl (by decide) rfl ?_
            refine wm_iinc (v := cnt + 1) (lv' := [(1, .int (cnt + 1)), (3, .int (p + 2)), (2, .int p), (5, .int (md_hasOperand (md_at s p))), (4, .int (md_at s p)), (0, .ref D.2.2.2.1)]) C d_Model_look_202 (k := 4) rfl rfl (by decide) rfl ?_
            refine wm_goto (tgt := 85) C d_Model_look_205 (by decide) ?_
            have e : md_look_b (q + 1) s p last cnt = md_look_b q (md_sa (md_bad s 2 p) 6 p 1) (p + 2) p (cnt + 1) := by rw [md_look_b, if_neg h_90, if_pos h_97, if_neg h_118, if_neg h_192_13]
            rw [e] at hk
            exact wm_sub [(3, .int (p + 2)), (2, .int p), (1, .int (cnt + 1)), (0, .ref D.2.2.2.1)] (by simp) (ih (md_sa (md_bad s 2 p) 6 p 1) (p + 2) p (cnt + 1) _ hR8 ho hk)
def md_look_c (s : md_S) (op : Int32) (last : Int32) : md_S :=
  if op = 16 then
    s
  else
    if op = 22 then
      s
    else
      if op = 23 then
        s
      else
        if op = 24 then
          s
        else
          (md_bad s 5 last)
set_option maxHeartbeats 4000000 in
theorem g_look_c {G : cy_G} {D : md_E} {F : cy_F} {cnt : Int32} (hD : md_Eo G D) (C : cy_C G F R_Model b_Model_look 6 4 0 0) (s : md_S) (op : Int32) (last : Int32) (M : cy_Hp) (hR : md_R D s M) (hk : ∀ M', md_R D (md_look_c s op last) M' → WM G F 6 0 0 253 [(1, .int cnt), (0, .ref D.2.2.2.1)] [] M') : WM G F 6 0 0 223 [(3, .int op), (2, .int last), (1, .int cnt), (0, .ref D.2.2.2.1)] [] M := by
  refine wm_iload_n C d_Model_look_223 rfl (j := 0) rfl ?_
  refine wm_bipush (v := 16) C d_Model_look_224 (by decide) ?_
  refine wm_icmp_eq (tgt := 253) C d_Model_look_226 (by decide) (fun (h_226 : op = 16) => ?_) (fun (h_226 : ¬ op = 16) => ?_)
  · have e : md_look_c s op last = s := by rw [md_look_c, if_pos h_226]
    rw [e] at hk
    exact wm_sub [(1, .int cnt), (0, .ref D.2.2.2.1)] (by simp) (hk _ hR)
  · refine wm_iload_n C d_Model_look_229 rfl (j := 0) rfl ?_
    refine wm_bipush (v := 22) C d_Model_look_230 (by decide) ?_
    refine wm_icmp_eq (tgt := 253) C d_Model_look_232 (by decide) (fun (h_232 : op = 22) => ?_) (fun (h_232 : ¬ op = 22) => ?_)
    · have e : md_look_c s op last = s := by rw [md_look_c, if_neg h_226, if_pos h_232]
      rw [e] at hk
      exact wm_sub [(1, .int cnt), (0, .ref D.2.2.2.1)] (by simp) (hk _ hR)
    · refine wm_iload_n C d_Model_look_235 rfl (j := 0) rfl ?_
      refine wm_bipush (v := 23) C d_Model_look_236 (by decide) ?_
      refine wm_icmp_eq (tgt := 253) C d_Model_look_238 (by decide) (fun (h_238 : op = 23) => ?_) (fun (h_238 : ¬ op = 23) => ?_)
      · have e : md_look_c s op last = s := by rw [md_look_c, if_neg h_226, if_neg h_232, if_pos h_238]
        rw [e] at hk
        exact wm_sub [(1, .int cnt), (0, .ref D.2.2.2.1)] (by simp) (hk _ hR)
      · refine wm_iload_n C d_Model_look_241 rfl (j := 0) rfl ?_
        refine wm_bipush (v := 24) C d_Model_look_242 (by decide) ?_
        refine wm_icmp_eq (tgt := 253) C d_Model_look_244 (by decide) (fun (h_244 : op = 24) => ?_) (fun (h_244 : ¬ op = 24) => ?_)
        · have e : md_look_c s op last = s := by rw [md_look_c, if_neg h_226, if_neg h_232, if_neg h_238, if_pos h_244]
          rw [e] at hk
          exact wm_sub [(1, .int cnt), (0, .ref D.2.2.2.1)] (by simp) (hk _ hR)
        · refine wm_aload_n C d_Model_look_247 rfl (j := 3) rfl ?_
          refine wm_iconst (v := 5) C d_Model_look_248 (by decide) ?_
          refine wm_iload_n C d_Model_look_249 rfl (j := 1) rfl ?_
          refine wm_callV (d2 := 0) (mc := 0) (ms := 0) C mo_Model_bad co_Model ml_Model_77 [.int 5, .int last] [] rfl hR.1 rfl (by decide) (Nat.le_of_ble_eq_true rfl) (Nat.le_refl _) (Nat.le_refl _) d_Model_look_250 (cy_kv ?_)
          refine k_bad hD hR _ _  (fun M1 hR1 => ⟨rfl, ?_⟩)
          have e : md_look_c s op last = (md_bad s 5 last) := by rw [md_look_c, if_neg h_226, if_neg h_232, if_neg h_238, if_neg h_244]
          rw [e] at hk
          exact wm_sub [(1, .int cnt), (0, .ref D.2.2.2.1)] (by simp) (hk _ hR1)
def md_look_d : Nat → md_S → Int32 → md_S
  | 0, s, _ => s
  | q + 1, s, p =>
    if 3 ≤ p then
      s
    else
      if (s.2 1) ≤ (md_at s p) then
        md_look_d q (md_bad s 6 p) (p + 1)
      else
        if (s.1 6 (md_at s p).toNatClampNeg) = 0 then
          md_look_d q (md_bad s 6 p) (p + 1)
        else
          md_look_d q s (p + 1)
def md_look_d_ok : Nat → md_S → Int32 → Prop
  | 0, _, _ => False
  | q + 1, s, p =>
    if 3 ≤ p then
      True
    else
      (md_at_ok s p) ∧ (
      if (s.2 1) ≤ (md_at s p) then
        md_look_d_ok q (md_bad s 6 p) (p + 1)
      else
        (md_at_ok s p) ∧ (vp_in (md_at s p) 301) ∧ (
        if (s.1 6 (md_at s p).toNatClampNeg) = 0 then
          md_look_d_ok q (md_bad s 6 p) (p + 1)
        else
          md_look_d_ok q s (p + 1)))
set_option maxHeartbeats 4000000 in
theorem g_look_d {G : cy_G} {D : md_E} {F : cy_F} {cnt : Int32} (hD : md_Eo G D) (C : cy_C G F R_Model b_Model_look 6 4 0 0) : ∀ (q : Nat) (s : md_S) (p : Int32) (M : cy_Hp), md_R D s M → md_look_d_ok q s p → (∀ M', md_R D (md_look_d q s p) M' → WM G F 6 0 0 303 [(1, .int cnt), (0, .ref D.2.2.2.1)] [] M') → WM G F 6 0 0 256 [(4, .int p), (1, .int cnt), (0, .ref D.2.2.2.1)] [] M := by
  intro q
  induction q with
  | zero =>
    intro s p M hR ho hk
    exact absurd ho id
  | succ q ih =>
    intro s p M hR ho hk
    unfold md_look_d_ok at ho
    refine wm_iload C d_Model_look_256 (j := 0) rfl ?_
    refine wm_iconst (v := 3) C d_Model_look_258 (by decide) ?_
    refine wm_icmp_ge (tgt := 303) C d_Model_look_259 (by decide) (fun (h_259 : 3 ≤ p) => ?_) (fun (h_259 : ¬ 3 ≤ p) => ?_)
    · rw [if_pos h_259] at ho
      have e : md_look_d (q + 1) s p = s := by rw [md_look_d, if_pos h_259]
      rw [e] at hk
      exact wm_sub [(1, .int cnt), (0, .ref D.2.2.2.1)] (by simp) (hk _ hR)
    · rw [if_neg h_259] at ho
      refine wm_aload_n C d_Model_look_262 rfl (j := 2) rfl ?_
      refine wm_iload C d_Model_look_263 (j := 0) rfl ?_
      refine wm_callV (d2 := 0) (mc := 0) (ms := 0) C mo_Model_at co_Model ml_Model_81 [.int p] [] rfl hR.1 rfl (by decide) (Nat.le_of_ble_eq_true rfl) (Nat.le_refl _) (Nat.le_refl _) d_Model_look_265 (cy_ki ?_)
      obtain ⟨o1, ho⟩ := ho
      refine k_at hD hR _ o1 ⟨_, rfl, ?_⟩
      refine wm_aload_n C d_Model_look_268 rfl (j := 2) rfl ?_
      refine wm_get C co_Model hR.1 7 (by decide) fl_Model_74 rfl d_Model_look_269 ?_
      refine wm_icmp_ge (tgt := 289) C d_Model_look_272 (by decide) (fun (h_272 : (s.2 1) ≤ (md_at s p)) => ?_) (fun (h_272 : ¬ (s.2 1) ≤ (md_at s p)) => ?_)
      · rw [if_pos h_272] at ho
        refine wm_aload_n C d_Model_look_289 rfl (j := 2) rfl ?_
        refine wm_bipush (v := 6) C d_Model_look_290 (by decide) ?_
        refine wm_iload C d_Model_look_292 (j := 0) rfl ?_
        refine wm_callV (d2 := 0) (mc := 0) (ms := 0) C mo_Model_bad co_Model ml_Model_77 [.int 6, .int p] [] rfl hR.1 rfl (by decide) (Nat.le_of_ble_eq_true rfl) (Nat.le_refl _) (Nat.le_refl _) d_Model_look_294 (cy_kv ?_)
        refine k_bad hD hR _ _  (fun M1 hR1 => ⟨rfl, ?_⟩)
        refine wm_iinc (v := p + 1) (lv' := [(4, .int (p + 1)), (1, .int cnt), (0, .ref D.2.2.2.1)]) C d_Model_look_297 (k := 0) rfl rfl (by decide) rfl ?_
        refine wm_goto (tgt := 256) C d_Model_look_300 (by decide) ?_
        have e : md_look_d (q + 1) s p = md_look_d q (md_bad s 6 p) (p + 1) := by rw [md_look_d, if_neg h_259, if_pos h_272]
        rw [e] at hk
        exact wm_sub [(4, .int (p + 1)), (1, .int cnt), (0, .ref D.2.2.2.1)] (by simp) (ih (md_bad s 6 p) (p + 1) _ hR1 ho hk)
      · rw [if_neg h_272] at ho
        refine wm_aload_n C d_Model_look_275 rfl (j := 2) rfl ?_
        refine wm_get C co_Model hR.1 8 (by decide) fl_Model_29 rfl d_Model_look_276 ?_
        refine wm_aload_n C d_Model_look_279 rfl (j := 2) rfl ?_
        refine wm_iload C d_Model_look_280 (j := 0) rfl ?_
        refine wm_callV (d2 := 0) (mc := 0) (ms := 0) C mo_Model_at co_Model ml_Model_81 [.int p] [.ref (D.2.2.2.1 + 7)] rfl hR.1 rfl (by decide) (Nat.le_of_ble_eq_true rfl) (Nat.le_refl _) (Nat.le_refl _) d_Model_look_282 (cy_ki ?_)
        obtain ⟨o2, ho⟩ := ho
        refine k_at hD hR _ o2 ⟨_, rfl, ?_⟩
        obtain ⟨o3, ho⟩ := ho
        refine wm_zald C (md_arr hR 6 (by decide)) hD.2.2 o3 d_Model_look_285 ?_
        refine wm_if_ne (tgt := 297) C d_Model_look_286 (by decide) (fun (h_286 : ¬ (s.1 6 (md_at s p).toNatClampNeg) = 0) => ?_) (fun (h_286 : (s.1 6 (md_at s p).toNatClampNeg) = 0) => ?_)
        · rw [if_neg h_286] at ho
          refine wm_iinc (v := p + 1) (lv' := [(4, .int (p + 1)), (1, .int cnt), (0, .ref D.2.2.2.1)]) C d_Model_look_297 (k := 0) rfl rfl (by decide) rfl ?_
          refine wm_goto (tgt := 256) C d_Model_look_300 (by decide) ?_
          have e : md_look_d (q + 1) s p = md_look_d q s (p + 1) := by rw [md_look_d, if_neg h_259, if_neg h_272, if_neg h_286]
          rw [e] at hk
          exact wm_sub [(4, .int (p + 1)), (1, .int cnt), (0, .ref D.2.2.2.1)] (by simp) (ih s (p + 1) _ hR ho hk)
        · rw [if_pos h_286] at ho
          refine wm_aload_n C d_Model_look_289 rfl (j := 2) rfl ?_
          refine wm_bipush (v := 6) C d_Model_look_290 (by decide) ?_
          refine wm_iload C d_Model_look_292 (j := 0) rfl ?_
          refine wm_callV (d2 := 0) (mc := 0) (ms := 0) C mo_Model_bad co_Model ml_Model_77 [.int 6, .int p] [] rfl hR.1 rfl (by decide) (Nat.le_of_ble_eq_true rfl) (Nat.le_refl _) (Nat.le_refl _) d_Model_look_294 (cy_kv ?_)
          refine k_bad hD hR _ _  (fun M2 hR2 => ⟨rfl, ?_⟩)
          refine wm_iinc (v := p + 1) (lv' := [(4, .int (p + 1)), (1, .int cnt), (0, .ref D.2.2.2.1)]) C d_Model_look_297 (k := 0) rfl rfl (by decide) rfl ?_
          refine wm_goto (tgt := 256) C d_Model_look_300 (by decide) ?_
          have e : md_look_d (q + 1) s p = md_look_d q (md_bad s 6 p) (p + 1) := by rw [md_look_d, if_neg h_259, if_neg h_272, if_pos h_286]
          rw [e] at hk
          exact wm_sub [(4, .int (p + 1)), (1, .int cnt), (0, .ref D.2.2.2.1)] (by simp) (ih (md_bad s 6 p) (p + 1) _ hR2 ho hk)
def md_look_e : Nat → md_S → Int32 → md_S
  | 0, s, _ => s
  | q + 1, s, p =>
    if (s.2 1) ≤ p then
      s
    else
      if (s.1 6 p.toNatClampNeg) = 0 then
        md_look_e q s (p + 1)
      else
        if (md_at s p) < 16 then
          md_look_e q s (p + 1)
        else
          if (md_at s p) ≤ 18 then
            if (s.2 1) ≤ (md_at s (p + 1)) then
              md_look_e q (md_bad s 6 (p + 1)) (p + 1)
            else
              if (s.1 6 (md_at s (p + 1)).toNatClampNeg) = 0 then
                md_look_e q (md_bad s 6 (p + 1)) (p + 1)
              else
                md_look_e q s (p + 1)
          else
            md_look_e q s (p + 1)
def md_look_e_ok : Nat → md_S → Int32 → Prop
  | 0, _, _ => False
  | q + 1, s, p =>
    if (s.2 1) ≤ p then
      True
    else
      (vp_in p 301) ∧ (
      if (s.1 6 p.toNatClampNeg) = 0 then
        md_look_e_ok q s (p + 1)
      else
        (md_at_ok s p) ∧ (
        if (md_at s p) < 16 then
          md_look_e_ok q s (p + 1)
        else
          (md_at_ok s p) ∧ (
          if (md_at s p) ≤ 18 then
            (md_at_ok s (p + 1)) ∧ (
            if (s.2 1) ≤ (md_at s (p + 1)) then
              md_look_e_ok q (md_bad s 6 (p + 1)) (p + 1)
            else
              (md_at_ok s (p + 1)) ∧ (vp_in (md_at s (p + 1)) 301) ∧ (
              if (s.1 6 (md_at s (p + 1)).toNatClampNeg) = 0 then
                md_look_e_ok q (md_bad s 6 (p + 1)) (p + 1)
              else
                md_look_e_ok q s (p + 1)))
          else
            md_look_e_ok q s (p + 1))))
set_option maxHeartbeats 4000000 in
theorem g_look_e {G : cy_G} {D : md_E} {F : cy_F} {cnt : Int32} (hD : md_Eo G D) (C : cy_C G F R_Model b_Model_look 6 4 0 0) : ∀ (q : Nat) (s : md_S) (p : Int32) (M : cy_Hp), md_R D s M → md_look_e_ok q s p → (∀ M', md_R D (md_look_e q s p) M' → WM G F 6 0 0 397 [(1, .int cnt), (0, .ref D.2.2.2.1)] [] M') → WM G F 6 0 0 306 [(4, .int p), (1, .int cnt), (0, .ref D.2.2.2.1)] [] M := by
  intro q
  induction q with
  | zero =>
    intro s p M hR ho hk
    exact absurd ho id
  | succ q ih =>
    intro s p M hR ho hk
    unfold md_look_e_ok at ho
    refine wm_iload C d_Model_look_306 (j := 0) rfl ?_
    refine wm_aload_n C d_Model_look_308 rfl (j := 2) rfl ?_
    refine wm_get C co_Model hR.1 7 (by decide) fl_Model_74 rfl d_Model_look_309 ?_
    refine wm_icmp_ge (tgt := 397) C d_Model_look_312 (by decide) (fun (h_312 : (s.2 1) ≤ p) => ?_) (fun (h_312 : ¬ (s.2 1) ≤ p) => ?_)
    · rw [if_pos h_312] at ho
      have e : md_look_e (q + 1) s p = s := by rw [md_look_e, if_pos h_312]
      rw [e] at hk
      exact wm_sub [(1, .int cnt), (0, .ref D.2.2.2.1)] (by simp) (hk _ hR)
    · rw [if_neg h_312] at ho
      refine wm_aload_n C d_Model_look_315 rfl (j := 2) rfl ?_
      refine wm_get C co_Model hR.1 8 (by decide) fl_Model_29 rfl d_Model_look_316 ?_
      refine wm_iload C d_Model_look_319 (j := 0) rfl ?_
      obtain ⟨o1, ho⟩ := ho
      refine wm_zald C (md_arr hR 6 (by decide)) hD.2.2 o1 d_Model_look_321 ?_
      refine wm_if_eq (tgt := 391) C d_Model_look_322 (by decide) (fun (h_322 : (s.1 6 p.toNatClampNeg) = 0) => ?_) (fun (h_322 : ¬ (s.1 6 p.toNatClampNeg) = 0) => ?_)
      · rw [if_pos h_322] at ho
        refine wm_iinc (v := p + 1) (lv' := [(4, .int (p + 1)), (1, .int cnt), (0, .ref D.2.2.2.1)]) C d_Model_look_391 (k := 0) rfl rfl (by decide) rfl ?_
        refine wm_goto (tgt := 306) C d_Model_look_394 (by decide) ?_
        have e : md_look_e (q + 1) s p = md_look_e q s (p + 1) := by rw [md_look_e, if_neg h_312, if_pos h_322]
        rw [e] at hk
        exact wm_sub [(4, .int (p + 1)), (1, .int cnt), (0, .ref D.2.2.2.1)] (by simp) (ih s (p + 1) _ hR ho hk)
      · rw [if_neg h_322] at ho
        refine wm_aload_n C d_Model_look_325 rfl (j := 2) rfl ?_
        refine wm_iload C d_Model_look_326 (j := 0) rfl ?_
        refine wm_callV (d2 := 0) (mc := 0) (ms := 0) C mo_Model_at co_Model ml_Model_81 [.int p] [] rfl hR.1 rfl (by decide) (Nat.le_of_ble_eq_true rfl) (Nat.le_refl _) (Nat.le_refl _) d_Model_look_328 (cy_ki ?_)
        obtain ⟨o2, ho⟩ := ho
        refine k_at hD hR _ o2 ⟨_, rfl, ?_⟩
        refine wm_bipush (v := 16) C d_Model_look_331 (by decide) ?_
        refine wm_icmp_lt (tgt := 391) C d_Model_look_333 (by decide) (fun (h_333 : (md_at s p) < 16) => ?_) (fun (h_333 : ¬ (md_at s p) < 16) => ?_)
        · rw [if_pos h_333] at ho
          refine wm_iinc (v := p + 1) (lv' := [(4, .int (p + 1)), (1, .int cnt), (0, .ref D.2.2.2.1)]) C d_Model_look_391 (k := 0) rfl rfl (by decide) rfl ?_
          refine wm_goto (tgt := 306) C d_Model_look_394 (by decide) ?_
          have e : md_look_e (q + 1) s p = md_look_e q s (p + 1) := by rw [md_look_e, if_neg h_312, if_neg h_322, if_pos h_333]
          rw [e] at hk
          exact wm_sub [(4, .int (p + 1)), (1, .int cnt), (0, .ref D.2.2.2.1)] (by simp) (ih s (p + 1) _ hR ho hk)
        · rw [if_neg h_333] at ho
          refine wm_aload_n C d_Model_look_336 rfl (j := 2) rfl ?_
          refine wm_iload C d_Model_look_337 (j := 0) rfl ?_
          refine wm_callV (d2 := 0) (mc := 0) (ms := 0) C mo_Model_at co_Model ml_Model_81 [.int p] [] rfl hR.1 rfl (by decide) (Nat.le_of_ble_eq_true rfl) (Nat.le_refl _) (Nat.le_refl _) d_Model_look_339 (cy_ki ?_)
          obtain ⟨o3, ho⟩ := ho
          refine k_at hD hR _ o3 ⟨_, rfl, ?_⟩
          refine wm_bipush (v := 18) C d_Model_look_342 (by decide) ?_
          refine wm_icmp_le (tgt := 350) C d_Model_look_344 (by decide) (fun (h_344 : (md_at s p) ≤ 18) => ?_) (fun (h_344 : ¬ (md_at s p) ≤ 18) => ?_)
          · rw [if_pos h_344] at ho
            refine wm_aload_n C d_Model_look_350 rfl (j := 2) rfl ?_
            refine wm_iload C d_Model_look_351 (j := 0) rfl ?_
            refine wm_iconst (v := 1) C d_Model_look_353 (by decide) ?_
            refine wm_iadd C d_Model_look_354 ?_
            refine wm_callV (d2 := 0) (mc := 0) (ms := 0) C mo_Model_at co_Model ml_Model_81 [.int (p + 1)] [] rfl hR.1 rfl (by decide) (Nat.le_of_ble_eq_true rfl) (Nat.le_refl _) (Nat.le_refl _) d_Model_look_355 (cy_ki ?_)
            obtain ⟨o4, ho⟩ := ho
            refine k_at hD hR _ o4 ⟨_, rfl, ?_⟩
            refine wm_aload_n C d_Model_look_358 rfl (j := 2) rfl ?_
            refine wm_get C co_Model hR.1 7 (by decide) fl_Model_74 rfl d_Model_look_359 ?_
            refine wm_icmp_ge (tgt := 381) C d_Model_look_362 (by decide) (fun (h_362 : (s.2 1) ≤ (md_at s (p + 1))) => ?_) (fun (h_362 : ¬ (s.2 1) ≤ (md_at s (p + 1))) => ?_)
            · rw [if_pos h_362] at ho
              refine wm_aload_n C d_Model_look_381 rfl (j := 2) rfl ?_
              refine wm_bipush (v := 6) C d_Model_look_382 (by decide) ?_
              refine wm_iload C d_Model_look_384 (j := 0) rfl ?_
              refine wm_iconst (v := 1) C d_Model_look_386 (by decide) ?_
              refine wm_iadd C d_Model_look_387 ?_
              refine wm_callV (d2 := 0) (mc := 0) (ms := 0) C mo_Model_bad co_Model ml_Model_77 [.int 6, .int (p + 1)] [] rfl hR.1 rfl (by decide) (Nat.le_of_ble_eq_true rfl) (Nat.le_refl _) (Nat.le_refl _) d_Model_look_388 (cy_kv ?_)
              refine k_bad hD hR _ _  (fun M1 hR1 => ⟨rfl, ?_⟩)
              refine wm_iinc (v := p + 1) (lv' := [(4, .int (p + 1)), (1, .int cnt), (0, .ref D.2.2.2.1)]) C d_Model_look_391 (k := 0) rfl rfl (by decide) rfl ?_
              refine wm_goto (tgt := 306) C d_Model_look_394 (by decide) ?_
              have e : md_look_e (q + 1) s p = md_look_e q (md_bad s 6 (p + 1)) (p + 1) := by rw [md_look_e, if_neg h_312, if_neg h_322, if_neg h_333, if_pos h_344, if_pos h_362]
              rw [e] at hk
              exact wm_sub [(4, .int (p + 1)), (1, .int cnt), (0, .ref D.2.2.2.1)] (by simp) (ih (md_bad s 6 (p + 1)) (p + 1) _ hR1 ho hk)
            · rw [if_neg h_362] at ho
              refine wm_aload_n C d_Model_look_365 rfl (j := 2) rfl ?_
              refine wm_get C co_Model hR.1 8 (by decide) fl_Model_29 rfl d_Model_look_366 ?_
              refine wm_aload_n C d_Model_look_369 rfl (j := 2) rfl ?_
              refine wm_iload C d_Model_look_370 (j := 0) rfl ?_
              refine wm_iconst (v := 1) C d_Model_look_372 (by decide) ?_
              refine wm_iadd C d_Model_look_373 ?_
              refine wm_callV (d2 := 0) (mc := 0) (ms := 0) C mo_Model_at co_Model ml_Model_81 [.int (p + 1)] [.ref (D.2.2.2.1 + 7)] rfl hR.1 rfl (by decide) (Nat.le_of_ble_eq_true rfl) (Nat.le_refl _) (Nat.le_refl _) d_Model_look_374 (cy_ki ?_)
              obtain ⟨o5, ho⟩ := ho
              refine k_at hD hR _ o5 ⟨_, rfl, ?_⟩
              obtain ⟨o6, ho⟩ := ho
              refine wm_zald C (md_arr hR 6 (by decide)) hD.2.2 o6 d_Model_look_377 ?_
              refine wm_if_ne (tgt := 391) C d_Model_look_378 (by decide) (fun (h_378 : ¬ (s.1 6 (md_at s (p + 1)).toNatClampNeg) = 0) => ?_) (fun (h_378 : (s.1 6 (md_at s (p + 1)).toNatClampNeg) = 0) => ?_)
              · rw [if_neg h_378] at ho
                refine wm_iinc (v := p + 1) (lv' := [(4, .int (p + 1)), (1, .int cnt), (0, .ref D.2.2.2.1)]) C d_Model_look_391 (k := 0) rfl rfl (by decide) rfl ?_
                refine wm_goto (tgt := 306) C d_Model_look_394 (by decide) ?_
                have e : md_look_e (q + 1) s p = md_look_e q s (p + 1) := by rw [md_look_e, if_neg h_312, if_neg h_322, if_neg h_333, if_pos h_344, if_neg h_362, if_neg h_378]
                rw [e] at hk
                exact wm_sub [(4, .int (p + 1)), (1, .int cnt), (0, .ref D.2.2.2.1)] (by simp) (ih s (p + 1) _ hR ho hk)
              · rw [if_pos h_378] at ho
                refine wm_aload_n C d_Model_look_381 rfl (j := 2) rfl ?_
                refine wm_bipush (v := 6) C d_Model_look_382 (by decide) ?_
                refine wm_iload C d_Model_look_384 (j := 0) rfl ?_
                refine wm_iconst (v := 1) C d_Model_look_386 (by decide) ?_
                refine wm_iadd C d_Model_look_387 ?_
                refine wm_callV (d2 := 0) (mc := 0) (ms := 0) C mo_Model_bad co_Model ml_Model_77 [.int 6, .int (p + 1)] [] rfl hR.1 rfl (by decide) (Nat.le_of_ble_eq_true rfl) (Nat.le_refl _) (Nat.le_refl _) d_Model_look_388 (cy_kv ?_)
                refine k_bad hD hR _ _  (fun M2 hR2 => ⟨rfl, ?_⟩)
                refine wm_iinc (v := p + 1) (lv' := [(4, .int (p + 1)), (1, .int cnt), (0, .ref D.2.2.2.1)]) C d_Model_look_391 (k := 0) rfl rfl (by decide) rfl ?_
                refine wm_goto (tgt := 306) C d_Model_look_394 (by decide) ?_
                have e : md_look_e (q + 1) s p = md_look_e q (md_bad s 6 (p + 1)) (p + 1) := by rw [md_look_e, if_neg h_312, if_neg h_322, if_neg h_333, if_pos h_344, if_neg h_362, if_pos h_378]
                rw [e] at hk
                exact wm_sub [(4, .int (p + 1)), (1, .int cnt), (0, .ref D.2.2.2.1)] (by simp) (ih (md_bad s 6 (p + 1)) (p + 1) _ hR2 ho hk)
          · rw [if_neg h_344] at ho
            refine wm_goto (tgt := 391) C d_Model_look_347 (by decide) ?_
            refine wm_iinc (v := p + 1) (lv' := [(4, .int (p + 1)), (1, .int cnt), (0, .ref D.2.2.2.1)]) C d_Model_look_391 (k := 0) rfl rfl (by decide) rfl ?_
            refine wm_goto (tgt := 306) C d_Model_look_394 (by decide) ?_
            have e : md_look_e (q + 1) s p = md_look_e q s (p + 1) := by rw [md_look_e, if_neg h_312, if_neg h_322, if_neg h_333, if_neg h_344]
            rw [e] at hk
            exact wm_sub [(4, .int (p + 1)), (1, .int cnt), (0, .ref D.2.2.2.1)] (by simp) (ih s (p + 1) _ hR ho hk)
def md_look_t3 (s : md_S) (cnt : Int32) : Int32 × md_S :=
  if ((md_look_e ((s.2 1).toInt.toNat + 2) s 3).2 2) = 0 then
    (cnt, (md_walk (md_look_e ((s.2 1).toInt.toNat + 2) s 3)))
  else
    (cnt, (md_look_e ((s.2 1).toInt.toNat + 2) s 3))
def md_look_t3_ok (s : md_S) (cnt : Int32) : Prop :=
  (md_look_e_ok ((s.2 1).toInt.toNat + 2) s 3) ∧ (
  if ((md_look_e ((s.2 1).toInt.toNat + 2) s 3).2 2) = 0 then
    (md_walk_ok (md_look_e ((s.2 1).toInt.toNat + 2) s 3)) ∧ (
    True)
  else
    True)
set_option maxHeartbeats 4000000 in
theorem gt_look_t3 {G : cy_G} {D : md_E} {F : cy_F} {post : Option Value → cy_Hp → Prop} (hD : md_Eo G D) (C : cy_C G F R_Model b_Model_look 6 4 0 0) (P : cy_P G F (some .int) post 0 0) (s : md_S) (cnt : Int32) (M : cy_Hp) (hR : md_R D s M) (ho : md_look_t3_ok s cnt) (h : ∀ M', md_R D (md_look_t3 s cnt).2 M' → post (some (.int (md_look_t3 s cnt).1)) M') : WM G F 6 0 0 303 [(1, .int cnt), (0, .ref D.2.2.2.1)] [] M := by
  unfold md_look_t3_ok at ho
  refine wm_iconst (v := 3) C d_Model_look_303 (by decide) ?_
  refine wm_istore (lv' := [(4, .int 3), (1, .int cnt), (0, .ref D.2.2.2.1)]) C d_Model_look_304 (by decide) rfl ?_
  obtain ⟨o1, ho⟩ := ho
  refine wm_sub [(4, .int 3), (1, .int cnt), (0, .ref D.2.2.2.1)] (by simp) (g_look_e hD C ((s.2 1).toInt.toNat + 2) s 3 _ hR o1 (fun M1 hR1 => ?_))
  refine wm_aload_n C d_Model_look_397 rfl (j := 1) rfl ?_
  refine wm_get C co_Model hR1.1 11 (by decide) fl_Model_68 rfl d_Model_look_398 ?_
  refine wm_if_ne (tgt := 408) C d_Model_look_401 (by decide) (fun (h_401 : ¬ ((md_look_e ((s.2 1).toInt.toNat + 2) s 3).2 2) = 0) => ?_) (fun (h_401 : ((md_look_e ((s.2 1).toInt.toNat + 2) s 3).2 2) = 0) => ?_)
  · rw [if_neg h_401] at ho
    refine wm_iload_n C d_Model_look_408 rfl (j := 0) rfl ?_
    refine wm_iret C P d_Model_look_409 ?_
    have e : md_look_t3 s cnt = (cnt, (md_look_e ((s.2 1).toInt.toNat + 2) s 3)) := by rw [md_look_t3, if_neg h_401]
    rw [e] at h
    exact h _ hR1
  · rw [if_pos h_401] at ho
    refine wm_aload_n C d_Model_look_404 rfl (j := 1) rfl ?_
    refine wm_callV (d2 := 3) (mc := 0) (ms := 0) C mo_Model_walk co_Model ml_Model_93 [] [] rfl hR1.1 rfl (by decide) (Nat.le_of_ble_eq_true rfl) (Nat.le_refl _) (Nat.le_refl _) d_Model_look_405 (cy_kv ?_)
    obtain ⟨o2, ho⟩ := ho
    refine k_walk hD hR1  o2 (fun M2 hR2 => ⟨rfl, ?_⟩)
    refine wm_iload_n C d_Model_look_408 rfl (j := 0) rfl ?_
    refine wm_iret C P d_Model_look_409 ?_
    have e : md_look_t3 s cnt = (cnt, (md_walk (md_look_e ((s.2 1).toInt.toNat + 2) s 3))) := by rw [md_look_t3, if_pos h_401]
    rw [e] at h
    exact h _ hR2
def md_look_t2 (s : md_S) (last : Int32) (cnt : Int32) : Int32 × md_S :=
  md_look_t3 (md_look_d md_k4 (md_look_c s (md_at s last) last) 0) cnt
def md_look_t2_ok (s : md_S) (last : Int32) (cnt : Int32) : Prop :=
  (md_at_ok s last) ∧ (md_look_d_ok md_k4 (md_look_c s (md_at s last) last) 0) ∧ (
  md_look_t3_ok (md_look_d md_k4 (md_look_c s (md_at s last) last) 0) cnt)
set_option maxHeartbeats 4000000 in
theorem gt_look_t2 {G : cy_G} {D : md_E} {F : cy_F} {post : Option Value → cy_Hp → Prop} (hD : md_Eo G D) (C : cy_C G F R_Model b_Model_look 6 4 0 0) (P : cy_P G F (some .int) post 0 0) (s : md_S) (last : Int32) (cnt : Int32) (M : cy_Hp) (hR : md_R D s M) (ho : md_look_t2_ok s last cnt) (h : ∀ M', md_R D (md_look_t2 s last cnt).2 M' → post (some (.int (md_look_t2 s last cnt).1)) M') : WM G F 6 0 0 217 [(2, .int last), (1, .int cnt), (0, .ref D.2.2.2.1)] [] M := by
  unfold md_look_t2_ok at ho
  refine wm_aload_n C d_Model_look_217 rfl (j := 2) rfl ?_
  refine wm_iload_n C d_Model_look_218 rfl (j := 0) rfl ?_
  refine wm_callV (d2 := 0) (mc := 0) (ms := 0) C mo_Model_at co_Model ml_Model_81 [.int last] [] rfl hR.1 rfl (by decide) (Nat.le_of_ble_eq_true rfl) (Nat.le_refl _) (Nat.le_refl _) d_Model_look_219 (cy_ki ?_)
  obtain ⟨o1, ho⟩ := ho
  refine k_at hD hR _ o1 ⟨_, rfl, ?_⟩
  refine wm_istore_n (lv' := [(3, .int (md_at s last)), (2, .int last), (1, .int cnt), (0, .ref D.2.2.2.1)]) C d_Model_look_222 rfl (by decide) rfl ?_
  refine wm_sub [(3, .int (md_at s last)), (2, .int last), (1, .int cnt), (0, .ref D.2.2.2.1)] (by simp) (g_look_c hD C s (md_at s last) last _ hR  (fun M1 hR1 => ?_))
  refine wm_iconst (v := 0) C d_Model_look_253 (by decide) ?_
  refine wm_istore (lv' := [(4, .int 0), (1, .int cnt), (0, .ref D.2.2.2.1)]) C d_Model_look_254 (by decide) rfl ?_
  obtain ⟨o2, ho⟩ := ho
  refine wm_sub [(4, .int 0), (1, .int cnt), (0, .ref D.2.2.2.1)] (by simp) (g_look_d hD C md_k4 (md_look_c s (md_at s last) last) 0 _ hR1 o2 (fun M2 hR2 => ?_))
  have e : md_look_t2 s last cnt = md_look_t3 (md_look_d md_k4 (md_look_c s (md_at s last) last) 0) cnt := by rw [md_look_t2]
  rw [e] at h
  exact wm_sub [(1, .int cnt), (0, .ref D.2.2.2.1)] (by simp) (gt_look_t3 hD C P (md_look_d md_k4 (md_look_c s (md_at s last) last) 0) cnt _ hR2 ho h)
def md_look_t1 (s : md_S) : Int32 × md_S :=
  if (((md_look_b ((s.2 1).toInt.toNat + 2) s 3 3 0).1).2 2) ≤ 0 then
    md_look_t2 ((md_look_b ((s.2 1).toInt.toNat + 2) s 3 3 0).1) ((md_look_b ((s.2 1).toInt.toNat + 2) s 3 3 0).2.1) ((md_look_b ((s.2 1).toInt.toNat + 2) s 3 3 0).2.2)
  else
    (0, (md_look_b ((s.2 1).toInt.toNat + 2) s 3 3 0).1)
def md_look_t1_ok (s : md_S) : Prop :=
  (md_look_b_ok ((s.2 1).toInt.toNat + 2) s 3 3 0) ∧ (
  if (((md_look_b ((s.2 1).toInt.toNat + 2) s 3 3 0).1).2 2) ≤ 0 then
    md_look_t2_ok ((md_look_b ((s.2 1).toInt.toNat + 2) s 3 3 0).1) ((md_look_b ((s.2 1).toInt.toNat + 2) s 3 3 0).2.1) ((md_look_b ((s.2 1).toInt.toNat + 2) s 3 3 0).2.2)
  else
    True)
set_option maxHeartbeats 4000000 in
theorem gt_look_t1 {G : cy_G} {D : md_E} {F : cy_F} {post : Option Value → cy_Hp → Prop} (hD : md_Eo G D) (C : cy_C G F R_Model b_Model_look 6 4 0 0) (P : cy_P G F (some .int) post 0 0) (s : md_S) (M : cy_Hp) (hR : md_R D s M) (ho : md_look_t1_ok s) (h : ∀ M', md_R D (md_look_t1 s).2 M' → post (some (.int (md_look_t1 s).1)) M') : WM G F 6 0 0 79 [(0, .ref D.2.2.2.1)] [] M := by
  unfold md_look_t1_ok at ho
  refine wm_iconst (v := 0) C d_Model_look_79 (by decide) ?_
  refine wm_istore_n (lv' := [(1, .int 0), (0, .ref D.2.2.2.1)]) C d_Model_look_80 rfl (by decide) rfl ?_
  refine wm_iconst (v := 3) C d_Model_look_81 (by decide) ?_
  refine wm_istore_n (lv' := [(2, .int 3), (1, .int 0), (0, .ref D.2.2.2.1)]) C d_Model_look_82 rfl (by decide) rfl ?_
  refine wm_iconst (v := 3) C d_Model_look_83 (by decide) ?_
  refine wm_istore_n (lv' := [(3, .int 3), (2, .int 3), (1, .int 0), (0, .ref D.2.2.2.1)]) C d_Model_look_84 rfl (by decide) rfl ?_
  obtain ⟨o1, ho⟩ := ho
  refine wm_sub [(3, .int 3), (2, .int 3), (1, .int 0), (0, .ref D.2.2.2.1)] (by simp) (g_look_b hD C ((s.2 1).toInt.toNat + 2) s 3 3 0 _ hR o1 (fun M1 hR1 => ?_))
  refine wm_aload_n C d_Model_look_208 rfl (j := 2) rfl ?_
  refine wm_get C co_Model hR1.1 11 (by decide) fl_Model_68 rfl d_Model_look_209 ?_
  refine wm_if_le (tgt := 217) C d_Model_look_212 (by decide) (fun (h_212 : (((md_look_b ((s.2 1).toInt.toNat + 2) s 3 3 0).1).2 2) ≤ 0) => ?_) (fun (h_212 : ¬ (((md_look_b ((s.2 1).toInt.toNat + 2) s 3 3 0).1).2 2) ≤ 0) => ?_)
  · rw [if_pos h_212] at ho
    have e : md_look_t1 s = md_look_t2 ((md_look_b ((s.2 1).toInt.toNat + 2) s 3 3 0).1) ((md_look_b ((s.2 1).toInt.toNat + 2) s 3 3 0).2.1) ((md_look_b ((s.2 1).toInt.toNat + 2) s 3 3 0).2.2) := by rw [md_look_t1, if_pos h_212]
    rw [e] at h
    exact wm_sub [(2, .int ((md_look_b ((s.2 1).toInt.toNat + 2) s 3 3 0).2.1)), (1, .int ((md_look_b ((s.2 1).toInt.toNat + 2) s 3 3 0).2.2)), (0, .ref D.2.2.2.1)] (by simp) (gt_look_t2 hD C P ((md_look_b ((s.2 1).toInt.toNat + 2) s 3 3 0).1) ((md_look_b ((s.2 1).toInt.toNat + 2) s 3 3 0).2.1) ((md_look_b ((s.2 1).toInt.toNat + 2) s 3 3 0).2.2) _ hR1 ho h)
  · rw [if_neg h_212] at ho
    refine wm_iconst (v := 0) C d_Model_look_215 (by decide) ?_
    refine wm_iret C P d_Model_look_216 ?_
    have e : md_look_t1 s = (0, (md_look_b ((s.2 1).toInt.toNat + 2) s 3 3 0).1) := by rw [md_look_t1, if_neg h_212]
    rw [e] at h
    exact h _ hR1
def md_look (s : md_S) : Int32 × md_S :=
  if (s.2 0) < 4 then
    (0, (md_bad (md_ss (md_ss s 2 0) 1 (s.2 0)) 1 (s.2 0)))
  else
    if (s.2 0) ≤ 256 then
      md_look_t1 (md_look_a (((md_ss (md_ss s 2 0) 1 (s.2 0)).2 1).toInt.toNat + 2) (md_ss (md_ss s 2 0) 1 (s.2 0)) 0)
    else
      (0, (md_bad (md_ss (md_ss s 2 0) 1 (s.2 0)) 1 (s.2 0)))
def md_look_ok (s : md_S) : Prop :=
  if (s.2 0) < 4 then
    True
  else
    if (s.2 0) ≤ 256 then
      (md_look_a_ok (((md_ss (md_ss s 2 0) 1 (s.2 0)).2 1).toInt.toNat + 2) (md_ss (md_ss s 2 0) 1 (s.2 0)) 0) ∧ (
      md_look_t1_ok (md_look_a (((md_ss (md_ss s 2 0) 1 (s.2 0)).2 1).toInt.toNat + 2) (md_ss (md_ss s 2 0) 1 (s.2 0)) 0))
    else
      True
set_option maxHeartbeats 4000000 in
theorem k_look {G : cy_G} {D : md_E} {s : md_S} {M : cy_Hp} {post : Option Value → cy_Hp → Prop} (hD : md_Eo G D) (hR : md_R D s M)  (ho : md_look_ok s) (h : ∀ M', md_R D (md_look s).2 M' → post (some (.int (md_look s).1)) M') : cy_Ct G 4 m_Model_look [.ref D.2.2.2.1] M 0 0 post := by
  refine cy_Ct.of (by decide) (Nat.le_of_ble_eq_true rfl) ?_
  intro F C P _
  have C : cy_C G F R_Model b_Model_look 6 4 0 0 := C
  have P : cy_P G F (some .int) post 0 0 := P
  unfold md_look_ok at ho
  show WM G F 6 0 0 0 [(0, .ref D.2.2.2.1)] [] M
  refine wm_aload_n C d_Model_look_0 rfl (j := 0) rfl ?_
  refine wm_iconst (v := 0) C d_Model_look_1 (by decide) ?_
  refine wm_put C co_Model hR.1 11 (by decide) fl_Model_68 rfl rfl rfl (Nat.le_of_ble_eq_true rfl) d_Model_look_2 ?_
  refine md_gen (md_R_ss hR 2 0) (fun M1 hR1 => ?_)
  refine wm_aload_n C d_Model_look_5 rfl (j := 0) rfl ?_
  refine wm_aload_n C d_Model_look_6 rfl (j := 0) rfl ?_
  refine wm_get C co_Model hR1.1 1 (by decide) fl_Model_60 rfl d_Model_look_7 ?_
  refine wm_put C co_Model hR1.1 7 (by decide) fl_Model_74 rfl rfl rfl (Nat.le_of_ble_eq_true rfl) d_Model_look_10 ?_
  refine md_gen (md_R_ss hR1 1 (s.2 0)) (fun M2 hR2 => ?_)
  refine wm_aload_n C d_Model_look_13 rfl (j := 0) rfl ?_
  refine wm_get C co_Model hR2.1 7 (by decide) fl_Model_74 rfl d_Model_look_14 ?_
  refine wm_iconst (v := 4) C d_Model_look_17 (by decide) ?_
  refine wm_icmp_lt (tgt := 31) C d_Model_look_18 (by decide) (fun (h_18 : (s.2 0) < 4) => ?_) (fun (h_18 : ¬ (s.2 0) < 4) => ?_)
  · rw [if_pos h_18] at ho
    refine wm_aload_n C d_Model_look_31 rfl (j := 0) rfl ?_
    refine wm_iconst (v := 1) C d_Model_look_32 (by decide) ?_
    refine wm_aload_n C d_Model_look_33 rfl (j := 0) rfl ?_
    refine wm_get C co_Model hR2.1 7 (by decide) fl_Model_74 rfl d_Model_look_34 ?_
    refine wm_callV (d2 := 0) (mc := 0) (ms := 0) C mo_Model_bad co_Model ml_Model_77 [.int 1, .int (s.2 0)] [] rfl hR2.1 rfl (by decide) (Nat.le_of_ble_eq_true rfl) (Nat.le_refl _) (Nat.le_refl _) d_Model_look_37 (cy_kv ?_)
    refine k_bad hD hR2 _ _  (fun M3 hR3 => ⟨rfl, ?_⟩)
    refine wm_iconst (v := 0) C d_Model_look_40 (by decide) ?_
    refine wm_iret C P d_Model_look_41 ?_
    have e : md_look s = (0, (md_bad (md_ss (md_ss s 2 0) 1 (s.2 0)) 1 (s.2 0))) := by rw [md_look, if_pos h_18]
    rw [e] at h
    exact h _ hR3
  · rw [if_neg h_18] at ho
    refine wm_aload_n C d_Model_look_21 rfl (j := 0) rfl ?_
    refine wm_get C co_Model hR2.1 7 (by decide) fl_Model_74 rfl d_Model_look_22 ?_
    refine wm_sipush (v := 256) C d_Model_look_25 (by decide) ?_
    refine wm_icmp_le (tgt := 42) C d_Model_look_28 (by decide) (fun (h_28 : (s.2 0) ≤ 256) => ?_) (fun (h_28 : ¬ (s.2 0) ≤ 256) => ?_)
    · rw [if_pos h_28] at ho
      refine wm_iconst (v := 0) C d_Model_look_42 (by decide) ?_
      refine wm_istore_n (lv' := [(1, .int 0), (0, .ref D.2.2.2.1)]) C d_Model_look_43 rfl (by decide) rfl ?_
      obtain ⟨o1, ho⟩ := ho
      refine wm_sub [(1, .int 0), (0, .ref D.2.2.2.1)] (by simp) (g_look_a hD C (((md_ss (md_ss s 2 0) 1 (s.2 0)).2 1).toInt.toNat + 2) (md_ss (md_ss s 2 0) 1 (s.2 0)) 0 _ hR2 o1 (fun M4 hR4 => ?_))
      have e : md_look s = md_look_t1 (md_look_a (((md_ss (md_ss s 2 0) 1 (s.2 0)).2 1).toInt.toNat + 2) (md_ss (md_ss s 2 0) 1 (s.2 0)) 0) := by rw [md_look, if_neg h_18, if_pos h_28]
      rw [e] at h
      exact wm_sub [(0, .ref D.2.2.2.1)] (by simp) (gt_look_t1 hD C P (md_look_a (((md_ss (md_ss s 2 0) 1 (s.2 0)).2 1).toInt.toNat + 2) (md_ss (md_ss s 2 0) 1 (s.2 0)) 0) _ hR4 ho h)
    · rw [if_neg h_28] at ho
      refine wm_aload_n C d_Model_look_31 rfl (j := 0) rfl ?_
      refine wm_iconst (v := 1) C d_Model_look_32 (by decide) ?_
      refine wm_aload_n C d_Model_look_33 rfl (j := 0) rfl ?_
      refine wm_get C co_Model hR2.1 7 (by decide) fl_Model_74 rfl d_Model_look_34 ?_
      refine wm_callV (d2 := 0) (mc := 0) (ms := 0) C mo_Model_bad co_Model ml_Model_77 [.int 1, .int (s.2 0)] [] rfl hR2.1 rfl (by decide) (Nat.le_of_ble_eq_true rfl) (Nat.le_refl _) (Nat.le_refl _) d_Model_look_37 (cy_kv ?_)
      refine k_bad hD hR2 _ _  (fun M5 hR5 => ⟨rfl, ?_⟩)
      refine wm_iconst (v := 0) C d_Model_look_40 (by decide) ?_
      refine wm_iret C P d_Model_look_41 ?_
      have e : md_look s = (0, (md_bad (md_ss (md_ss s 2 0) 1 (s.2 0)) 1 (s.2 0))) := by rw [md_look, if_neg h_18, if_neg h_28]
      rw [e] at h
      exact h _ hR5
def md_load_a : Nat → md_S → Int32 → Int32 → md_S
  | 0, s, _, _ => s
  | q + 1, s, p, k =>
    if (s.2 1) ≤ p then
      s
    else
      md_load_a q (md_sa (md_sa s 1 ((k * 256) + p) ((s.1 0 p.toNatClampNeg).toInt8.toInt32)) 3 ((k * 256) + p) ((md_sa s 1 ((k * 256) + p) ((s.1 0 p.toNatClampNeg).toInt8.toInt32)).1 7 p.toNatClampNeg)) (p + 1) k
def md_load_a_ok : Nat → md_S → Int32 → Int32 → Prop
  | 0, _, _, _ => False
  | q + 1, s, p, k =>
    if (s.2 1) ≤ p then
      True
    else
      (vp_in p 300) ∧ (vp_in ((k * 256) + p) 2048) ∧ (vp_in p 301) ∧ (vp_in ((k * 256) + p) 2048) ∧ (
      md_load_a_ok q (md_sa (md_sa s 1 ((k * 256) + p) ((s.1 0 p.toNatClampNeg).toInt8.toInt32)) 3 ((k * 256) + p) ((md_sa s 1 ((k * 256) + p) ((s.1 0 p.toNatClampNeg).toInt8.toInt32)).1 7 p.toNatClampNeg)) (p + 1) k)
set_option maxHeartbeats 4000000 in
theorem g_load_a {G : cy_G} {D : md_E} {F : cy_F} {cnt : Int32} (hD : md_Eo G D) (C : cy_C G F R_Model b_Model_load 4 5 0 0) : ∀ (q : Nat) (s : md_S) (p : Int32) (k : Int32) (M : cy_Hp), md_R D s M → md_load_a_ok q s p k → (∀ M', md_R D (md_load_a q s p k) M' → WM G F 4 0 0 112 [(2, .int cnt), (1, .int k), (0, .ref D.2.2.2.1)] [] M') → WM G F 4 0 0 62 [(3, .int p), (2, .int cnt), (1, .int k), (0, .ref D.2.2.2.1)] [] M := by
  intro q
  induction q with
  | zero =>
    intro s p k M hR ho hk
    exact absurd ho id
  | succ q ih =>
    intro s p k M hR ho hk
    unfold md_load_a_ok at ho
    refine wm_iload_n C d_Model_load_62 rfl (j := 0) rfl ?_
    refine wm_aload_n C d_Model_load_63 rfl (j := 3) rfl ?_
    refine wm_get C co_Model hR.1 7 (by decide) fl_Model_74 rfl d_Model_load_64 ?_
    refine wm_icmp_ge (tgt := 112) C d_Model_load_67 (by decide) (fun (h_67 : (s.2 1) ≤ p) => ?_) (fun (h_67 : ¬ (s.2 1) ≤ p) => ?_)
    · rw [if_pos h_67] at ho
      have e : md_load_a (q + 1) s p k = s := by rw [md_load_a, if_pos h_67]
      rw [e] at hk
      exact wm_sub [(2, .int cnt), (1, .int k), (0, .ref D.2.2.2.1)] (by simp) (hk _ hR)
    · rw [if_neg h_67] at ho
      refine wm_aload_n C d_Model_load_70 rfl (j := 3) rfl ?_
      refine wm_get C co_Model hR.1 2 (by decide) fl_Model_13 rfl d_Model_load_71 ?_
      refine wm_iload_n C d_Model_load_74 rfl (j := 2) rfl ?_
      refine wm_sipush (v := 256) C d_Model_load_75 (by decide) ?_
      refine wm_imul C d_Model_load_78 ?_
      refine wm_iload_n C d_Model_load_79 rfl (j := 0) rfl ?_
      refine wm_iadd C d_Model_load_80 ?_
      refine wm_aload_n C d_Model_load_81 rfl (j := 3) rfl ?_
      refine wm_get C co_Model hR.1 0 (by decide) fl_Model_7 rfl d_Model_load_82 ?_
      refine wm_iload_n C d_Model_load_85 rfl (j := 0) rfl ?_
      obtain ⟨o1, ho⟩ := ho
      refine wm_bald C (md_arr hR 0 (by decide)) hD.2.1 o1 d_Model_load_86 ?_
      obtain ⟨o2, ho⟩ := ho
      refine wm_bast C (md_arr hR 1 (by decide)) hD.2.1 o2 d_Model_load_87 ?_
      refine md_gen (md_R_sa hR (a := 1) (by decide) ((k * 256) + p) ((s.1 0 p.toNatClampNeg).toInt8.toInt32)) (fun M1 hR1 => ?_)
      refine wm_aload_n C d_Model_load_88 rfl (j := 3) rfl ?_
      refine wm_get C co_Model hR1.1 4 (by decide) fl_Model_20 rfl d_Model_load_89 ?_
      refine wm_iload_n C d_Model_load_92 rfl (j := 2) rfl ?_
      refine wm_sipush (v := 256) C d_Model_load_93 (by decide) ?_
      refine wm_imul C d_Model_load_96 ?_
      refine wm_iload_n C d_Model_load_97 rfl (j := 0) rfl ?_
      refine wm_iadd C d_Model_load_98 ?_
      refine wm_aload_n C d_Model_load_99 rfl (j := 3) rfl ?_
      refine wm_get C co_Model hR1.1 9 (by decide) fl_Model_33 rfl d_Model_load_100 ?_
      refine wm_iload_n C d_Model_load_103 rfl (j := 0) rfl ?_
      obtain ⟨o3, ho⟩ := ho
      refine wm_iald C (md_arr hR1 7 (by decide)) hD.1 o3 d_Model_load_104 ?_
      obtain ⟨o4, ho⟩ := ho
      refine wm_iast C (md_arr hR1 3 (by decide)) hD.1 o4 d_Model_load_105 ?_
      refine md_gen (md_R_sa hR1 (a := 3) (by decide) ((k * 256) + p) ((md_sa s 1 ((k * 256) + p) ((s.1 0 p.toNatClampNeg).toInt8.toInt32)).1 7 p.toNatClampNeg)) (fun M2 hR2 => ?_)
      refine wm_iinc (v := p + 1) (lv' := [(3, .int (p + 1)), (2, .int cnt), (1, .int k), (0, .ref D.2.2.2.1)]) C d_Model_load_106 (k := 0) rfl rfl (by decide) rfl ?_
      refine wm_goto (tgt := 62) C d_Model_load_109 (by decide) ?_
      have e : md_load_a (q + 1) s p k = md_load_a q (md_sa (md_sa s 1 ((k * 256) + p) ((s.1 0 p.toNatClampNeg).toInt8.toInt32)) 3 ((k * 256) + p) ((md_sa s 1 ((k * 256) + p) ((s.1 0 p.toNatClampNeg).toInt8.toInt32)).1 7 p.toNatClampNeg)) (p + 1) k := by rw [md_load_a, if_neg h_67]
      rw [e] at hk
      exact wm_sub [(3, .int (p + 1)), (2, .int cnt), (1, .int k), (0, .ref D.2.2.2.1)] (by simp) (ih (md_sa (md_sa s 1 ((k * 256) + p) ((s.1 0 p.toNatClampNeg).toInt8.toInt32)) 3 ((k * 256) + p) ((md_sa s 1 ((k * 256) + p) ((s.1 0 p.toNatClampNeg).toInt8.toInt32)).1 7 p.toNatClampNeg)) (p + 1) k _ hR2 ho hk)
def md_load_b : Nat → md_S → Int32 → Int32 → md_S
  | 0, s, _, _ => s
  | q + 1, s, p, k =>
    if 16 ≤ p then
      s
    else
      md_load_b q (md_sa s 4 ((k * 16) + p) 0) (p + 1) k
def md_load_b_ok : Nat → md_S → Int32 → Int32 → Prop
  | 0, _, _, _ => False
  | q + 1, s, p, k =>
    if 16 ≤ p then
      True
    else
      (vp_in ((k * 16) + p) 128) ∧ (
      md_load_b_ok q (md_sa s 4 ((k * 16) + p) 0) (p + 1) k)
set_option maxHeartbeats 4000000 in
theorem g_load_b {G : cy_G} {D : md_E} {F : cy_F} {cnt : Int32} (hD : md_Eo G D) (C : cy_C G F R_Model b_Model_load 4 5 0 0) : ∀ (q : Nat) (s : md_S) (p : Int32) (k : Int32) (M : cy_Hp), md_R D s M → md_load_b_ok q s p k → (∀ M', md_R D (md_load_b q s p k) M' → WM G F 4 0 0 138 [(2, .int cnt), (1, .int k), (0, .ref D.2.2.2.1)] [] M') → WM G F 4 0 0 114 [(3, .int p), (2, .int cnt), (1, .int k), (0, .ref D.2.2.2.1)] [] M := by
  intro q
  induction q with
  | zero =>
    intro s p k M hR ho hk
    exact absurd ho id
  | succ q ih =>
    intro s p k M hR ho hk
    unfold md_load_b_ok at ho
    refine wm_iload_n C d_Model_load_114 rfl (j := 0) rfl ?_
    refine wm_bipush (v := 16) C d_Model_load_115 (by decide) ?_
    refine wm_icmp_ge (tgt := 138) C d_Model_load_117 (by decide) (fun (h_117 : 16 ≤ p) => ?_) (fun (h_117 : ¬ 16 ≤ p) => ?_)
    · rw [if_pos h_117] at ho
      have e : md_load_b (q + 1) s p k = s := by rw [md_load_b, if_pos h_117]
      rw [e] at hk
      exact wm_sub [(2, .int cnt), (1, .int k), (0, .ref D.2.2.2.1)] (by simp) (hk _ hR)
    · rw [if_neg h_117] at ho
      refine wm_aload_n C d_Model_load_120 rfl (j := 3) rfl ?_
      refine wm_get C co_Model hR.1 5 (by decide) fl_Model_23 rfl d_Model_load_121 ?_
      refine wm_iload_n C d_Model_load_124 rfl (j := 2) rfl ?_
      refine wm_bipush (v := 16) C d_Model_load_125 (by decide) ?_
      refine wm_imul C d_Model_load_127 ?_
      refine wm_iload_n C d_Model_load_128 rfl (j := 0) rfl ?_
      refine wm_iadd C d_Model_load_129 ?_
      refine wm_iconst (v := 0) C d_Model_load_130 (by decide) ?_
      obtain ⟨o1, ho⟩ := ho
      refine wm_iast C (md_arr hR 4 (by decide)) hD.1 o1 d_Model_load_131 ?_
      refine md_gen (md_R_sa hR (a := 4) (by decide) ((k * 16) + p) 0) (fun M1 hR1 => ?_)
      refine wm_iinc (v := p + 1) (lv' := [(3, .int (p + 1)), (2, .int cnt), (1, .int k), (0, .ref D.2.2.2.1)]) C d_Model_load_132 (k := 0) rfl rfl (by decide) rfl ?_
      refine wm_goto (tgt := 114) C d_Model_load_135 (by decide) ?_
      have e : md_load_b (q + 1) s p k = md_load_b q (md_sa s 4 ((k * 16) + p) 0) (p + 1) k := by rw [md_load_b, if_neg h_117]
      rw [e] at hk
      exact wm_sub [(3, .int (p + 1)), (2, .int cnt), (1, .int k), (0, .ref D.2.2.2.1)] (by simp) (ih (md_sa s 4 ((k * 16) + p) 0) (p + 1) k _ hR1 ho hk)
def md_load (s : md_S) (k : Int32) : Int32 × md_S :=
  if k < 0 then
    ((-1), s)
  else
    if 8 ≤ k then
      ((-1), s)
    else
      if (s.2 5) = 0 then
        if (((md_look s).2).2 2) ≤ 0 then
          ((md_look s).1, (md_load_b md_k17 (md_load_a (((md_sa (md_ss ((md_look s).2) 0 0) 2 k (((md_look s).2).2 1)).2 1).toInt.toNat + 2) (md_sa (md_ss ((md_look s).2) 0 0) 2 k (((md_look s).2).2 1)) 0 k) 0 k))
        else
          (((-1000) * (((md_look s).2).2 2)) - (((md_look s).2).2 3), (md_ss ((md_look s).2) 0 0))
      else
        ((-1), s)
def md_load_ok (s : md_S) (k : Int32) : Prop :=
  if k < 0 then
    True
  else
    if 8 ≤ k then
      True
    else
      if (s.2 5) = 0 then
        (md_look_ok s) ∧ (
        if (((md_look s).2).2 2) ≤ 0 then
          (vp_in k 8) ∧ (md_load_a_ok (((md_sa (md_ss ((md_look s).2) 0 0) 2 k (((md_look s).2).2 1)).2 1).toInt.toNat + 2) (md_sa (md_ss ((md_look s).2) 0 0) 2 k (((md_look s).2).2 1)) 0 k) ∧ (md_load_b_ok md_k17 (md_load_a (((md_sa (md_ss ((md_look s).2) 0 0) 2 k (((md_look s).2).2 1)).2 1).toInt.toNat + 2) (md_sa (md_ss ((md_look s).2) 0 0) 2 k (((md_look s).2).2 1)) 0 k) 0 k) ∧ (
          True)
        else
          True)
      else
        True
set_option maxHeartbeats 4000000 in
theorem k_load {G : cy_G} {D : md_E} {s : md_S} {M : cy_Hp} {post : Option Value → cy_Hp → Prop} (hD : md_Eo G D) (hR : md_R D s M) (k : Int32) (ho : md_load_ok s k) (h : ∀ M', md_R D (md_load s k).2 M' → post (some (.int (md_load s k).1)) M') : cy_Ct G 5 m_Model_load [.ref D.2.2.2.1, .int k] M 0 0 post := by
  refine cy_Ct.of (by decide) (Nat.le_of_ble_eq_true rfl) ?_
  intro F C P _
  have C : cy_C G F R_Model b_Model_load 4 5 0 0 := C
  have P : cy_P G F (some .int) post 0 0 := P
  unfold md_load_ok at ho
  show WM G F 4 0 0 0 [(0, .ref D.2.2.2.1), (1, .int k)] [] M
  refine wm_iload_n C d_Model_load_0 rfl (j := 1) rfl ?_
  refine wm_if_lt (tgt := 17) C d_Model_load_1 (by decide) (fun (h_1 : k < 0) => ?_) (fun (h_1 : ¬ k < 0) => ?_)
  · rw [if_pos h_1] at ho
    refine wm_iconst (v := -1) C d_Model_load_17 (by decide) ?_
    refine wm_iret C P d_Model_load_18 ?_
    have e : md_load s k = ((-1), s) := by rw [md_load, if_pos h_1]
    rw [e] at h
    exact h _ hR
  · rw [if_neg h_1] at ho
    refine wm_iload_n C d_Model_load_4 rfl (j := 1) rfl ?_
    refine wm_bipush (v := 8) C d_Model_load_5 (by decide) ?_
    refine wm_icmp_ge (tgt := 17) C d_Model_load_7 (by decide) (fun (h_7 : 8 ≤ k) => ?_) (fun (h_7 : ¬ 8 ≤ k) => ?_)
    · rw [if_pos h_7] at ho
      refine wm_iconst (v := -1) C d_Model_load_17 (by decide) ?_
      refine wm_iret C P d_Model_load_18 ?_
      have e : md_load s k = ((-1), s) := by rw [md_load, if_neg h_1, if_pos h_7]
      rw [e] at h
      exact h _ hR
    · rw [if_neg h_7] at ho
      refine wm_aload_n C d_Model_load_10 rfl (j := 0) rfl ?_
      refine wm_get C co_Model hR.1 14 (by decide) fl_Model_108 rfl d_Model_load_11 ?_
      refine wm_if_eq (tgt := 19) C d_Model_load_14 (by decide) (fun (h_14 : (s.2 5) = 0) => ?_) (fun (h_14 : ¬ (s.2 5) = 0) => ?_)
      · rw [if_pos h_14] at ho
        refine wm_aload_n C d_Model_load_19 rfl (j := 0) rfl ?_
        refine wm_callV (d2 := 4) (mc := 0) (ms := 0) C mo_Model_look co_Model ml_Model_112 [] [] rfl hR.1 rfl (by decide) (Nat.le_of_ble_eq_true rfl) (Nat.le_refl _) (Nat.le_refl _) d_Model_load_20 (cy_ki ?_)
        obtain ⟨o1, ho⟩ := ho
        refine k_look hD hR  o1 (fun M1 hR1 => ⟨_, rfl, ?_⟩)
        refine wm_istore_n (lv' := [(2, .int ((md_look s).1)), (0, .ref D.2.2.2.1), (1, .int k)]) C d_Model_load_23 rfl (by decide) rfl ?_
        refine wm_aload_n C d_Model_load_24 rfl (j := 1) rfl ?_
        refine wm_iconst (v := 0) C d_Model_load_25 (by decide) ?_
        refine wm_put C co_Model hR1.1 1 (by decide) fl_Model_60 rfl rfl rfl (Nat.le_of_ble_eq_true rfl) d_Model_load_26 ?_
        refine md_gen (md_R_ss hR1 0 0) (fun M2 hR2 => ?_)
        refine wm_aload_n C d_Model_load_29 rfl (j := 1) rfl ?_
        refine wm_get C co_Model hR2.1 11 (by decide) fl_Model_68 rfl d_Model_load_30 ?_
        refine wm_if_le (tgt := 50) C d_Model_load_33 (by decide) (fun (h_33 : (((md_look s).2).2 2) ≤ 0) => ?_) (fun (h_33 : ¬ (((md_look s).2).2 2) ≤ 0) => ?_)
        · rw [if_pos h_33] at ho
          refine wm_aload_n C d_Model_load_50 rfl (j := 1) rfl ?_
          refine wm_get C co_Model hR2.1 3 (by decide) fl_Model_16 rfl d_Model_load_51 ?_
          refine wm_iload_n C d_Model_load_54 rfl (j := 2) rfl ?_
          refine wm_aload_n C d_Model_load_55 rfl (j := 1) rfl ?_
          refine wm_get C co_Model hR2.1 7 (by decide) fl_Model_74 rfl d_Model_load_56 ?_
          obtain ⟨o2, ho⟩ := ho
          refine wm_iast C (md_arr hR2 2 (by decide)) hD.1 o2 d_Model_load_59 ?_
          refine md_gen (md_R_sa hR2 (a := 2) (by decide) k (((md_look s).2).2 1)) (fun M3 hR3 => ?_)
          refine wm_iconst (v := 0) C d_Model_load_60 (by decide) ?_
          refine wm_istore_n (lv' := [(3, .int 0), (2, .int ((md_look s).1)), (0, .ref D.2.2.2.1), (1, .int k)]) C d_Model_load_61 rfl (by decide) rfl ?_
          obtain ⟨o3, ho⟩ := ho
          refine wm_sub [(3, .int 0), (2, .int ((md_look s).1)), (1, .int k), (0, .ref D.2.2.2.1)] (by simp) (g_load_a hD C (((md_sa (md_ss ((md_look s).2) 0 0) 2 k (((md_look s).2).2 1)).2 1).toInt.toNat + 2) (md_sa (md_ss ((md_look s).2) 0 0) 2 k (((md_look s).2).2 1)) 0 k _ hR3 o3 (fun M4 hR4 => ?_))
          refine wm_iconst (v := 0) C d_Model_load_112 (by decide) ?_
          refine wm_istore_n (lv' := [(3, .int 0), (2, .int ((md_look s).1)), (1, .int k), (0, .ref D.2.2.2.1)]) C d_Model_load_113 rfl (by decide) rfl ?_
          obtain ⟨o4, ho⟩ := ho
          refine wm_sub [(3, .int 0), (2, .int ((md_look s).1)), (1, .int k), (0, .ref D.2.2.2.1)] (by simp) (g_load_b hD C md_k17 (md_load_a (((md_sa (md_ss ((md_look s).2) 0 0) 2 k (((md_look s).2).2 1)).2 1).toInt.toNat + 2) (md_sa (md_ss ((md_look s).2) 0 0) 2 k (((md_look s).2).2 1)) 0 k) 0 k _ hR4 o4 (fun M5 hR5 => ?_))
          refine wm_iload_n C d_Model_load_138 rfl (j := 0) rfl ?_
          refine wm_iret C P d_Model_load_139 ?_
          have e : md_load s k = ((md_look s).1, (md_load_b md_k17 (md_load_a (((md_sa (md_ss ((md_look s).2) 0 0) 2 k (((md_look s).2).2 1)).2 1).toInt.toNat + 2) (md_sa (md_ss ((md_look s).2) 0 0) 2 k (((md_look s).2).2 1)) 0 k) 0 k)) := by rw [md_load, if_neg h_1, if_neg h_7, if_pos h_14, if_pos h_33]
          rw [e] at h
          exact h _ hR5
        · rw [if_neg h_33] at ho
          refine wm_sipush (v := -1000) C d_Model_load_36 (by decide) ?_
          refine wm_aload_n C d_Model_load_39 rfl (j := 1) rfl ?_
          refine wm_get C co_Model hR2.1 11 (by decide) fl_Model_68 rfl d_Model_load_40 ?_
          refine wm_imul C d_Model_load_43 ?_
          refine wm_aload_n C d_Model_load_44 rfl (j := 1) rfl ?_
          refine wm_get C co_Model hR2.1 12 (by decide) fl_Model_71 rfl d_Model_load_45 ?_
          refine wm_isub C d_Model_load_48 ?_
          refine wm_iret C P d_Model_load_49 ?_
          have e : md_load s k = (((-1000) * (((md_look s).2).2 2)) - (((md_look s).2).2 3), (md_ss ((md_look s).2) 0 0)) := by rw [md_load, if_neg h_1, if_neg h_7, if_pos h_14, if_neg h_33]
          rw [e] at h
          exact h _ hR2
      · rw [if_neg h_14] at ho
        refine wm_iconst (v := -1) C d_Model_load_17 (by decide) ?_
        refine wm_iret C P d_Model_load_18 ?_
        have e : md_load s k = ((-1), s) := by rw [md_load, if_neg h_1, if_neg h_7, if_neg h_14]
        rw [e] at h
        exact h _ hR
def md_begin_u (s : md_S) : md_S :=
  if (s.2 5) = 0 then
    s
  else
    (md_undo s)
def md_begin_u_ok (s : md_S) : Prop :=
  if (s.2 5) = 0 then
    True
  else
    (md_undo_ok s) ∧ (
    True)
set_option maxHeartbeats 4000000 in
theorem g_begin_u {G : cy_G} {D : md_E} {F : cy_F} {k : Int32} {b : Int32} (hD : md_Eo G D) (C : cy_C G F R_Model b_Model_begin 4 1 0 0) (s : md_S) (M : cy_Hp) (hR : md_R D s M) (ho : md_begin_u_ok s) (hk : ∀ M', md_R D (md_begin_u s) M' → WM G F 4 0 0 41 [(0, .ref D.2.2.2.1), (1, .int k), (2, .int b)] [] M') : WM G F 4 0 0 30 [(0, .ref D.2.2.2.1), (1, .int k), (2, .int b)] [] M := by
  unfold md_begin_u_ok at ho
  refine wm_aload_n C d_Model_begin_30 rfl (j := 0) rfl ?_
  refine wm_get C co_Model hR.1 14 (by decide) fl_Model_108 rfl d_Model_begin_31 ?_
  refine wm_if_eq (tgt := 41) C d_Model_begin_34 (by decide) (fun (h_34 : (s.2 5) = 0) => ?_) (fun (h_34 : ¬ (s.2 5) = 0) => ?_)
  · rw [if_pos h_34] at ho
    have e : md_begin_u s = s := by rw [md_begin_u, if_pos h_34]
    rw [e] at hk
    exact wm_sub [(0, .ref D.2.2.2.1), (1, .int k), (2, .int b)] (by simp) (hk _ hR)
  · rw [if_neg h_34] at ho
    refine wm_aload_n C d_Model_begin_37 rfl (j := 0) rfl ?_
    refine wm_callV (d2 := 0) (mc := 0) (ms := 0) C mo_Model_undo co_Model ml_Model_116 [] [] rfl hR.1 rfl (by decide) (Nat.le_of_ble_eq_true rfl) (Nat.le_refl _) (Nat.le_refl _) d_Model_begin_38 (cy_kv ?_)
    obtain ⟨o1, ho⟩ := ho
    refine k_undo hD hR  o1 (fun M1 hR1 => ⟨rfl, ?_⟩)
    have e : md_begin_u s = (md_undo s) := by rw [md_begin_u, if_neg h_34]
    rw [e] at hk
    exact wm_sub [(0, .ref D.2.2.2.1), (1, .int k), (2, .int b)] (by simp) (hk _ hR1)
def md_begin_a : Nat → md_S → Int32 → md_S
  | 0, s, _ => s
  | q + 1, s, p =>
    if 128 ≤ p then
      s
    else
      md_begin_a q (md_sa s 5 p (s.1 4 p.toNatClampNeg)) (p + 1)
def md_begin_a_ok : Nat → md_S → Int32 → Prop
  | 0, _, _ => False
  | q + 1, s, p =>
    if 128 ≤ p then
      True
    else
      (vp_in p 128) ∧ (vp_in p 128) ∧ (
      md_begin_a_ok q (md_sa s 5 p (s.1 4 p.toNatClampNeg)) (p + 1))
set_option maxHeartbeats 4000000 in
theorem g_begin_a {G : cy_G} {D : md_E} {F : cy_F} {k : Int32} {b : Int32} (hD : md_Eo G D) (C : cy_C G F R_Model b_Model_begin 4 1 0 0) : ∀ (q : Nat) (s : md_S) (p : Int32) (M : cy_Hp), md_R D s M → md_begin_a_ok q s p → (∀ M', md_R D (md_begin_a q s p) M' → WM G F 4 0 0 68 [(0, .ref D.2.2.2.1), (1, .int k), (2, .int b)] [] M') → WM G F 4 0 0 43 [(3, .int p), (0, .ref D.2.2.2.1), (1, .int k), (2, .int b)] [] M := by
  intro q
  induction q with
  | zero =>
    intro s p M hR ho hk
    exact absurd ho id
  | succ q ih =>
    intro s p M hR ho hk
    unfold md_begin_a_ok at ho
    refine wm_iload_n C d_Model_begin_43 rfl (j := 0) rfl ?_
    refine wm_sipush (v := 128) C d_Model_begin_44 (by decide) ?_
    refine wm_icmp_ge (tgt := 68) C d_Model_begin_47 (by decide) (fun (h_47 : 128 ≤ p) => ?_) (fun (h_47 : ¬ 128 ≤ p) => ?_)
    · rw [if_pos h_47] at ho
      have e : md_begin_a (q + 1) s p = s := by rw [md_begin_a, if_pos h_47]
      rw [e] at hk
      exact wm_sub [(0, .ref D.2.2.2.1), (1, .int k), (2, .int b)] (by simp) (hk _ hR)
    · rw [if_neg h_47] at ho
      refine wm_aload_n C d_Model_begin_50 rfl (j := 1) rfl ?_
      refine wm_get C co_Model hR.1 6 (by decide) fl_Model_26 rfl d_Model_begin_51 ?_
      refine wm_iload_n C d_Model_begin_54 rfl (j := 0) rfl ?_
      refine wm_aload_n C d_Model_begin_55 rfl (j := 1) rfl ?_
      refine wm_get C co_Model hR.1 5 (by decide) fl_Model_23 rfl d_Model_begin_56 ?_
      refine wm_iload_n C d_Model_begin_59 rfl (j := 0) rfl ?_
      obtain ⟨o1, ho⟩ := ho
      refine wm_iald C (md_arr hR 4 (by decide)) hD.1 o1 d_Model_begin_60 ?_
      obtain ⟨o2, ho⟩ := ho
      refine wm_iast C (md_arr hR 5 (by decide)) hD.1 o2 d_Model_begin_61 ?_
      refine md_gen (md_R_sa hR (a := 5) (by decide) p (s.1 4 p.toNatClampNeg)) (fun M1 hR1 => ?_)
      refine wm_iinc (v := p + 1) (lv' := [(3, .int (p + 1)), (0, .ref D.2.2.2.1), (1, .int k), (2, .int b)]) C d_Model_begin_62 (k := 0) rfl rfl (by decide) rfl ?_
      refine wm_goto (tgt := 43) C d_Model_begin_65 (by decide) ?_
      have e : md_begin_a (q + 1) s p = md_begin_a q (md_sa s 5 p (s.1 4 p.toNatClampNeg)) (p + 1) := by rw [md_begin_a, if_neg h_47]
      rw [e] at hk
      exact wm_sub [(3, .int (p + 1)), (0, .ref D.2.2.2.1), (1, .int k), (2, .int b)] (by simp) (ih (md_sa s 5 p (s.1 4 p.toNatClampNeg)) (p + 1) _ hR1 ho hk)
def md_begin_b : Nat → md_S → Int32 → md_S
  | 0, s, _ => s
  | q + 1, s, p =>
    if (s.2 0) ≤ p then
      s
    else
      md_begin_b q (md_sa s 14 p ((s.1 0 p.toNatClampNeg).toInt8.toInt32)) (p + 1)
def md_begin_b_ok : Nat → md_S → Int32 → Prop
  | 0, _, _ => False
  | q + 1, s, p =>
    if (s.2 0) ≤ p then
      True
    else
      (vp_in p 300) ∧ (vp_in p 300) ∧ (
      md_begin_b_ok q (md_sa s 14 p ((s.1 0 p.toNatClampNeg).toInt8.toInt32)) (p + 1))
set_option maxHeartbeats 4000000 in
theorem g_begin_b {G : cy_G} {D : md_E} {F : cy_F} {k : Int32} {b : Int32} (hD : md_Eo G D) (C : cy_C G F R_Model b_Model_begin 4 1 0 0) : ∀ (q : Nat) (s : md_S) (p : Int32) (M : cy_Hp), md_R D s M → md_begin_b_ok q s p → (∀ M', md_R D (md_begin_b q s p) M' → WM G F 4 0 0 104 [(0, .ref D.2.2.2.1), (1, .int k), (2, .int b)] [] M') → WM G F 4 0 0 78 [(3, .int p), (0, .ref D.2.2.2.1), (1, .int k), (2, .int b)] [] M := by
  intro q
  induction q with
  | zero =>
    intro s p M hR ho hk
    exact absurd ho id
  | succ q ih =>
    intro s p M hR ho hk
    unfold md_begin_b_ok at ho
    refine wm_iload_n C d_Model_begin_78 rfl (j := 0) rfl ?_
    refine wm_aload_n C d_Model_begin_79 rfl (j := 1) rfl ?_
    refine wm_get C co_Model hR.1 1 (by decide) fl_Model_60 rfl d_Model_begin_80 ?_
    refine wm_icmp_ge (tgt := 104) C d_Model_begin_83 (by decide) (fun (h_83 : (s.2 0) ≤ p) => ?_) (fun (h_83 : ¬ (s.2 0) ≤ p) => ?_)
    · rw [if_pos h_83] at ho
      have e : md_begin_b (q + 1) s p = s := by rw [md_begin_b, if_pos h_83]
      rw [e] at hk
      exact wm_sub [(0, .ref D.2.2.2.1), (1, .int k), (2, .int b)] (by simp) (hk _ hR)
    · rw [if_neg h_83] at ho
      refine wm_aload_n C d_Model_begin_86 rfl (j := 1) rfl ?_
      refine wm_get C co_Model hR.1 25 (by decide) fl_Model_54 rfl d_Model_begin_87 ?_
      refine wm_iload_n C d_Model_begin_90 rfl (j := 0) rfl ?_
      refine wm_aload_n C d_Model_begin_91 rfl (j := 1) rfl ?_
      refine wm_get C co_Model hR.1 0 (by decide) fl_Model_7 rfl d_Model_begin_92 ?_
      refine wm_iload_n C d_Model_begin_95 rfl (j := 0) rfl ?_
      obtain ⟨o1, ho⟩ := ho
      refine wm_bald C (md_arr hR 0 (by decide)) hD.2.1 o1 d_Model_begin_96 ?_
      obtain ⟨o2, ho⟩ := ho
      refine wm_bast C (md_arr hR 14 (by decide)) hD.2.1 o2 d_Model_begin_97 ?_
      refine md_gen (md_R_sa hR (a := 14) (by decide) p ((s.1 0 p.toNatClampNeg).toInt8.toInt32)) (fun M1 hR1 => ?_)
      refine wm_iinc (v := p + 1) (lv' := [(3, .int (p + 1)), (0, .ref D.2.2.2.1), (1, .int k), (2, .int b)]) C d_Model_begin_98 (k := 0) rfl rfl (by decide) rfl ?_
      refine wm_goto (tgt := 78) C d_Model_begin_101 (by decide) ?_
      have e : md_begin_b (q + 1) s p = md_begin_b q (md_sa s 14 p ((s.1 0 p.toNatClampNeg).toInt8.toInt32)) (p + 1) := by rw [md_begin_b, if_neg h_83]
      rw [e] at hk
      exact wm_sub [(3, .int (p + 1)), (0, .ref D.2.2.2.1), (1, .int k), (2, .int b)] (by simp) (ih (md_sa s 14 p ((s.1 0 p.toNatClampNeg).toInt8.toInt32)) (p + 1) _ hR1 ho hk)
def md_begin (s : md_S) (k : Int32) (b : Int32) : Int32 × md_S :=
  if k < 0 then
    ((-1), s)
  else
    if 8 ≤ k then
      ((-1), s)
    else
      if (s.1 2 k.toNatClampNeg) = 0 then
        ((-1), s)
      else
        if b < 0 then
          ((-1), s)
        else
          if b ≤ 2 then
            (1, (md_enter (md_ss (md_ss (md_ss (md_ss (md_ss (md_ss (md_ss (md_ss (md_ss (md_begin_b (((md_ss (md_begin_a md_k129 (md_begin_u s) 0) 11 ((md_begin_a md_k129 (md_begin_u s) 0).2 0)).2 0).toInt.toNat + 2) (md_ss (md_begin_a md_k129 (md_begin_u s) 0) 11 ((md_begin_a md_k129 (md_begin_u s) 0).2 0)) 0) 0 0) 12 0) 4 1) 5 1) 6 0) 7 0) 8 0) 9 0) 10 0) k b))
          else
            ((-1), s)
def md_begin_ok (s : md_S) (k : Int32) (b : Int32) : Prop :=
  if k < 0 then
    True
  else
    if 8 ≤ k then
      True
    else
      (vp_in k 8) ∧ (
      if (s.1 2 k.toNatClampNeg) = 0 then
        True
      else
        if b < 0 then
          True
        else
          if b ≤ 2 then
            (md_begin_u_ok s) ∧ (md_begin_a_ok md_k129 (md_begin_u s) 0) ∧ (md_begin_b_ok (((md_ss (md_begin_a md_k129 (md_begin_u s) 0) 11 ((md_begin_a md_k129 (md_begin_u s) 0).2 0)).2 0).toInt.toNat + 2) (md_ss (md_begin_a md_k129 (md_begin_u s) 0) 11 ((md_begin_a md_k129 (md_begin_u s) 0).2 0)) 0) ∧ (md_enter_ok (md_ss (md_ss (md_ss (md_ss (md_ss (md_ss (md_ss (md_ss (md_ss (md_begin_b (((md_ss (md_begin_a md_k129 (md_begin_u s) 0) 11 ((md_begin_a md_k129 (md_begin_u s) 0).2 0)).2 0).toInt.toNat + 2) (md_ss (md_begin_a md_k129 (md_begin_u s) 0) 11 ((md_begin_a md_k129 (md_begin_u s) 0).2 0)) 0) 0 0) 12 0) 4 1) 5 1) 6 0) 7 0) 8 0) 9 0) 10 0) k b) ∧ (
            True)
          else
            True)
set_option maxHeartbeats 4000000 in
theorem k_begin {G : cy_G} {D : md_E} {s : md_S} {M : cy_Hp} {post : Option Value → cy_Hp → Prop} (hD : md_Eo G D) (hR : md_R D s M) (k : Int32) (b : Int32) (ho : md_begin_ok s k b) (h : ∀ M', md_R D (md_begin s k b).2 M' → post (some (.int (md_begin s k b).1)) M') : cy_Ct G 1 m_Model_begin [.ref D.2.2.2.1, .int k, .int b] M 0 0 post := by
  refine cy_Ct.of (by decide) (Nat.le_of_ble_eq_true rfl) ?_
  intro F C P _
  have C : cy_C G F R_Model b_Model_begin 4 1 0 0 := C
  have P : cy_P G F (some .int) post 0 0 := P
  unfold md_begin_ok at ho
  show WM G F 4 0 0 0 [(0, .ref D.2.2.2.1), (1, .int k), (2, .int b)] [] M
  refine wm_iload_n C d_Model_begin_0 rfl (j := 1) rfl ?_
  refine wm_if_lt (tgt := 28) C d_Model_begin_1 (by decide) (fun (h_1 : k < 0) => ?_) (fun (h_1 : ¬ k < 0) => ?_)
  · rw [if_pos h_1] at ho
    refine wm_iconst (v := -1) C d_Model_begin_28 (by decide) ?_
    refine wm_iret C P d_Model_begin_29 ?_
    have e : md_begin s k b = ((-1), s) := by rw [md_begin, if_pos h_1]
    rw [e] at h
    exact h _ hR
  · rw [if_neg h_1] at ho
    refine wm_iload_n C d_Model_begin_4 rfl (j := 1) rfl ?_
    refine wm_bipush (v := 8) C d_Model_begin_5 (by decide) ?_
    refine wm_icmp_ge (tgt := 28) C d_Model_begin_7 (by decide) (fun (h_7 : 8 ≤ k) => ?_) (fun (h_7 : ¬ 8 ≤ k) => ?_)
    · rw [if_pos h_7] at ho
      refine wm_iconst (v := -1) C d_Model_begin_28 (by decide) ?_
      refine wm_iret C P d_Model_begin_29 ?_
      have e : md_begin s k b = ((-1), s) := by rw [md_begin, if_neg h_1, if_pos h_7]
      rw [e] at h
      exact h _ hR
    · rw [if_neg h_7] at ho
      refine wm_aload_n C d_Model_begin_10 rfl (j := 0) rfl ?_
      refine wm_get C co_Model hR.1 3 (by decide) fl_Model_16 rfl d_Model_begin_11 ?_
      refine wm_iload_n C d_Model_begin_14 rfl (j := 1) rfl ?_
      obtain ⟨o1, ho⟩ := ho
      refine wm_iald C (md_arr hR 2 (by decide)) hD.1 o1 d_Model_begin_15 ?_
      refine wm_if_eq (tgt := 28) C d_Model_begin_16 (by decide) (fun (h_16 : (s.1 2 k.toNatClampNeg) = 0) => ?_) (fun (h_16 : ¬ (s.1 2 k.toNatClampNeg) = 0) => ?_)
      · rw [if_pos h_16] at ho
        refine wm_iconst (v := -1) C d_Model_begin_28 (by decide) ?_
        refine wm_iret C P d_Model_begin_29 ?_
        have e : md_begin s k b = ((-1), s) := by rw [md_begin, if_neg h_1, if_neg h_7, if_pos h_16]
        rw [e] at h
        exact h _ hR
      · rw [if_neg h_16] at ho
        refine wm_iload_n C d_Model_begin_19 rfl (j := 2) rfl ?_
        refine wm_if_lt (tgt := 28) C d_Model_begin_20 (by decide) (fun (h_20 : b < 0) => ?_) (fun (h_20 : ¬ b < 0) => ?_)
        · rw [if_pos h_20] at ho
          refine wm_iconst (v := -1) C d_Model_begin_28 (by decide) ?_
          refine wm_iret C P d_Model_begin_29 ?_
          have e : md_begin s k b = ((-1), s) := by rw [md_begin, if_neg h_1, if_neg h_7, if_neg h_16, if_pos h_20]
          rw [e] at h
          exact h _ hR
        · rw [if_neg h_20] at ho
          refine wm_iload_n C d_Model_begin_23 rfl (j := 2) rfl ?_
          refine wm_iconst (v := 2) C d_Model_begin_24 (by decide) ?_
          refine wm_icmp_le (tgt := 30) C d_Model_begin_25 (by decide) (fun (h_25 : b ≤ 2) => ?_) (fun (h_25 : ¬ b ≤ 2) => ?_)
          · rw [if_pos h_25] at ho
            obtain ⟨o2, ho⟩ := ho
            refine wm_sub [(0, .ref D.2.2.2.1), (1, .int k), (2, .int b)] (by simp) (g_begin_u hD C s _ hR o2 (fun M1 hR1 => ?_))
            refine wm_iconst (v := 0) C d_Model_begin_41 (by decide) ?_
            refine wm_istore_n (lv' := [(3, .int 0), (0, .ref D.2.2.2.1), (1, .int k), (2, .int b)]) C d_Model_begin_42 rfl (by decide) rfl ?_
            obtain ⟨o3, ho⟩ := ho
            refine wm_sub [(3, .int 0), (0, .ref D.2.2.2.1), (1, .int k), (2, .int b)] (by simp) (g_begin_a hD C md_k129 (md_begin_u s) 0 _ hR1 o3 (fun M2 hR2 => ?_))
            refine wm_aload_n C d_Model_begin_68 rfl (j := 0) rfl ?_
            refine wm_aload_n C d_Model_begin_69 rfl (j := 0) rfl ?_
            refine wm_get C co_Model hR2.1 1 (by decide) fl_Model_60 rfl d_Model_begin_70 ?_
            refine wm_put C co_Model hR2.1 26 (by decide) fl_Model_119 rfl rfl rfl (Nat.le_of_ble_eq_true rfl) d_Model_begin_73 ?_
            refine md_gen (md_R_ss hR2 11 ((md_begin_a md_k129 (md_begin_u s) 0).2 0)) (fun M3 hR3 => ?_)
            refine wm_iconst (v := 0) C d_Model_begin_76 (by decide) ?_
            refine wm_istore_n (lv' := [(3, .int 0), (0, .ref D.2.2.2.1), (1, .int k), (2, .int b)]) C d_Model_begin_77 rfl (by decide) rfl ?_
            obtain ⟨o4, ho⟩ := ho
            refine wm_sub [(3, .int 0), (0, .ref D.2.2.2.1), (1, .int k), (2, .int b)] (by simp) (g_begin_b hD C (((md_ss (md_begin_a md_k129 (md_begin_u s) 0) 11 ((md_begin_a md_k129 (md_begin_u s) 0).2 0)).2 0).toInt.toNat + 2) (md_ss (md_begin_a md_k129 (md_begin_u s) 0) 11 ((md_begin_a md_k129 (md_begin_u s) 0).2 0)) 0 _ hR3 o4 (fun M4 hR4 => ?_))
            refine wm_aload_n C d_Model_begin_104 rfl (j := 0) rfl ?_
            refine wm_iconst (v := 0) C d_Model_begin_105 (by decide) ?_
            refine wm_put C co_Model hR4.1 1 (by decide) fl_Model_60 rfl rfl rfl (Nat.le_of_ble_eq_true rfl) d_Model_begin_106 ?_
            refine md_gen (md_R_ss hR4 0 0) (fun M5 hR5 => ?_)
            refine wm_aload_n C d_Model_begin_109 rfl (j := 0) rfl ?_
            refine wm_iconst (v := 0) C d_Model_begin_110 (by decide) ?_
            refine wm_put C co_Model hR5.1 28 (by decide) fl_Model_122 rfl rfl rfl (Nat.le_of_ble_eq_true rfl) d_Model_begin_111 ?_
            refine md_gen (md_R_ss hR5 12 0) (fun M6 hR6 => ?_)
            refine wm_aload_n C d_Model_begin_114 rfl (j := 0) rfl ?_
            refine wm_iconst (v := 1) C d_Model_begin_115 (by decide) ?_
            refine wm_put C co_Model hR6.1 13 (by decide) fl_Model_125 rfl rfl rfl (Nat.le_of_ble_eq_true rfl) d_Model_begin_116 ?_
            refine md_gen (md_R_ss hR6 4 1) (fun M7 hR7 => ?_)
            refine wm_aload_n C d_Model_begin_119 rfl (j := 0) rfl ?_
            refine wm_iconst (v := 1) C d_Model_begin_120 (by decide) ?_
            refine wm_put C co_Model hR7.1 14 (by decide) fl_Model_108 rfl rfl rfl (Nat.le_of_ble_eq_true rfl) d_Model_begin_121 ?_
            refine md_gen (md_R_ss hR7 5 1) (fun M8 hR8 => ?_)
            refine wm_aload_n C d_Model_begin_124 rfl (j := 0) rfl ?_
            refine wm_iconst (v := 0) C d_Model_begin_125 (by decide) ?_
            refine wm_put C co_Model hR8.1 15 (by decide) fl_Model_128 rfl rfl rfl (Nat.le_of_ble_eq_true rfl) d_Model_begin_126 ?_
            refine md_gen (md_R_ss hR8 6 0) (fun M9 hR9 => ?_)
            refine wm_aload_n C d_Model_begin_129 rfl (j := 0) rfl ?_
            refine wm_iconst (v := 0) C d_Model_begin_130 (by decide) ?_
            refine wm_put C co_Model hR9.1 16 (by decide) fl_Model_131 rfl rfl rfl (Nat.le_of_ble_eq_true rfl) d_Model_begin_131 ?_
            refine md_gen (md_R_ss hR9 7 0) (fun M10 hR10 => ?_)
            refine wm_aload_n C d_Model_begin_134 rfl (j := 0) rfl ?_
            refine wm_iconst (v := 0) C d_Model_begin_135 (by decide) ?_
            refine wm_put C co_Model hR10.1 17 (by decide) fl_Model_134 rfl rfl rfl (Nat.le_of_ble_eq_true rfl) d_Model_begin_136 ?_
            refine md_gen (md_R_ss hR10 8 0) (fun M11 hR11 => ?_)
            refine wm_aload_n C d_Model_begin_139 rfl (j := 0) rfl ?_
            refine wm_iconst (v := 0) C d_Model_begin_140 (by decide) ?_
            refine wm_put C co_Model hR11.1 18 (by decide) fl_Model_137 rfl rfl rfl (Nat.le_of_ble_eq_true rfl) d_Model_begin_141 ?_
            refine md_gen (md_R_ss hR11 9 0) (fun M12 hR12 => ?_)
            refine wm_aload_n C d_Model_begin_144 rfl (j := 0) rfl ?_
            refine wm_iconst (v := 0) C d_Model_begin_145 (by decide) ?_
            refine wm_put C co_Model hR12.1 19 (by decide) fl_Model_140 rfl rfl rfl (Nat.le_of_ble_eq_true rfl) d_Model_begin_146 ?_
            refine md_gen (md_R_ss hR12 10 0) (fun M13 hR13 => ?_)
            refine wm_aload_n C d_Model_begin_149 rfl (j := 0) rfl ?_
            refine wm_iload_n C d_Model_begin_150 rfl (j := 1) rfl ?_
            refine wm_iload_n C d_Model_begin_151 rfl (j := 2) rfl ?_
            refine wm_callV (d2 := 0) (mc := 0) (ms := 0) C mo_Model_enter co_Model ml_Model_143 [.int k, .int b] [] rfl hR13.1 rfl (by decide) (Nat.le_of_ble_eq_true rfl) (Nat.le_refl _) (Nat.le_refl _) d_Model_begin_152 (cy_kv ?_)
            obtain ⟨o5, ho⟩ := ho
            refine k_enter hD hR13 _ _ o5 (fun M14 hR14 => ⟨rfl, ?_⟩)
            refine wm_iconst (v := 1) C d_Model_begin_155 (by decide) ?_
            refine wm_iret C P d_Model_begin_156 ?_
            have e : md_begin s k b = (1, (md_enter (md_ss (md_ss (md_ss (md_ss (md_ss (md_ss (md_ss (md_ss (md_ss (md_begin_b (((md_ss (md_begin_a md_k129 (md_begin_u s) 0) 11 ((md_begin_a md_k129 (md_begin_u s) 0).2 0)).2 0).toInt.toNat + 2) (md_ss (md_begin_a md_k129 (md_begin_u s) 0) 11 ((md_begin_a md_k129 (md_begin_u s) 0).2 0)) 0) 0 0) 12 0) 4 1) 5 1) 6 0) 7 0) 8 0) 9 0) 10 0) k b)) := by rw [md_begin, if_neg h_1, if_neg h_7, if_neg h_16, if_neg h_20, if_pos h_25]
            rw [e] at h
            exact h _ hR14
          · rw [if_neg h_25] at ho
            refine wm_iconst (v := -1) C d_Model_begin_28 (by decide) ?_
            refine wm_iret C P d_Model_begin_29 ?_
            have e : md_begin s k b = ((-1), s) := by rw [md_begin, if_neg h_1, if_neg h_7, if_neg h_16, if_neg h_20, if_neg h_25]
            rw [e] at h
            exact h _ hR
