def cy_Run_advance_l : Nat → cy_S → Int32 → Int32 → Int32 × cy_S
  | 0, s, _, _ => (0, s)
  | q + 1, s, p, n =>
    if n ≤ p then
      if s.2.2.1.2.2.1 = 2 then
        ((cy_Shelf_bringCellsBack s).2.2.1.2.2.1, (cy_Shelf_bringCellsBack s))
      else
        (s.2.2.1.2.2.1, s)
    else
      if s.2.2.1.2.2.1 = 1 then
        cy_Run_advance_l q (cy_Run_step s) (p + 1) n
      else
        if s.2.2.1.2.2.1 = 2 then
          ((cy_Shelf_bringCellsBack s).2.2.1.2.2.1, (cy_Shelf_bringCellsBack s))
        else
          (s.2.2.1.2.2.1, s)
set_option maxHeartbeats 4000000 in
theorem l_Run_advance {G : cy_G} {E : cy_E} {post : Option Value → cy_Hp → Prop} {F : cy_F} (hE : cy_Eo G E) (C : cy_C G F R_Run b_Run_advance 3 6 0 0) (P : cy_P G F (some .int) post 0 0) : ∀ (q : Nat) (s : cy_S) (p : Int32) (n : Int32) (M : cy_Hp), cy_R E s M → n.toInt ≤ p.toInt + ((q : Nat) : Int) → (∀ M', cy_R E (cy_Run_advance_l (q + 1) s p n).2 M' → post (some (.int (cy_Run_advance_l (q + 1) s p n).1)) M') → WM G F 3 0 0 2 [(2, .int p), (0, .ref (E.2.2.1 136)), (1, .int n)] [] M := by
  intro q
  induction q with
  | zero =>
    intro s p n M hR hb h
    refine wm_iload_n C d_Run_advance_2 rfl (j := 0) rfl ?_
    refine wm_iload_n C d_Run_advance_3 rfl (j := 2) rfl ?_
    refine wm_icmp_ge (tgt := 25) C d_Run_advance_4 (by decide) (fun (h_4 : n ≤ p) => ?_) (fun (h_4 : ¬ n ≤ p) => ?_)
    · refine wm_aload_n C d_Run_advance_25 rfl (j := 1) rfl ?_
      refine wm_get C co_Run (rp_run hR) 6 (by decide) fl_Run_49 rfl d_Run_advance_26 ?_
      refine wm_iconst (v := 2) C d_Run_advance_29 (by decide) ?_
      refine wm_icmp_ne (tgt := 40) C d_Run_advance_30 (by decide) (fun (h_30 : ¬ s.2.2.1.2.2.1 = 2) => ?_) (fun (h_30 : s.2.2.1.2.2.1 = 2) => ?_)
      · refine wm_aload_n C d_Run_advance_40 rfl (j := 1) rfl ?_
        refine wm_get C co_Run (rp_run hR) 6 (by decide) fl_Run_49 rfl d_Run_advance_41 ?_
        refine wm_iret C P d_Run_advance_44 ?_
        have e : cy_Run_advance_l (0 + 1) s p n = (s.2.2.1.2.2.1, s) := by rw [cy_Run_advance_l, if_pos h_4, if_neg h_30]
        rw [e] at h
        exact h _ hR
      · refine wm_aload_n C d_Run_advance_33 rfl (j := 1) rfl ?_
        refine wm_get C co_Run (rp_run hR) 0 (by decide) fl_Run_9 rfl d_Run_advance_34 ?_
        refine wm_callVN (d2 := 2) (mc := 0) (ms := 0) C mo_Shelf_bringCellsBack co_Shelf ml_Run_57 [] [] rfl (rp_shelf hR) rfl (by decide) (Nat.le_of_ble_eq_true rfl) (Nat.le_refl _) (Nat.le_refl _) d_Run_advance_37 (cy_kv ?_)
        refine c_Shelf_bringCellsBack hE hR   (fun M1 hR1 => ⟨rfl, ?_⟩)
        refine wm_aload_n C d_Run_advance_40 rfl (j := 1) rfl ?_
        refine wm_get C co_Run (rp_run hR1) 6 (by decide) fl_Run_49 rfl d_Run_advance_41 ?_
        refine wm_iret C P d_Run_advance_44 ?_
        have e : cy_Run_advance_l (0 + 1) s p n = ((cy_Shelf_bringCellsBack s).2.2.1.2.2.1, (cy_Shelf_bringCellsBack s)) := by rw [cy_Run_advance_l, if_pos h_4, if_pos h_30]
        rw [e] at h
        exact h _ hR1
    · exact absurd (cy_n0 hb) h_4
  | succ q ih =>
    intro s p n M hR hb h
    refine wm_iload_n C d_Run_advance_2 rfl (j := 0) rfl ?_
    refine wm_iload_n C d_Run_advance_3 rfl (j := 2) rfl ?_
    refine wm_icmp_ge (tgt := 25) C d_Run_advance_4 (by decide) (fun (h_4 : n ≤ p) => ?_) (fun (h_4 : ¬ n ≤ p) => ?_)
    · refine wm_aload_n C d_Run_advance_25 rfl (j := 1) rfl ?_
      refine wm_get C co_Run (rp_run hR) 6 (by decide) fl_Run_49 rfl d_Run_advance_26 ?_
      refine wm_iconst (v := 2) C d_Run_advance_29 (by decide) ?_
      refine wm_icmp_ne (tgt := 40) C d_Run_advance_30 (by decide) (fun (h_30 : ¬ s.2.2.1.2.2.1 = 2) => ?_) (fun (h_30 : s.2.2.1.2.2.1 = 2) => ?_)
      · refine wm_aload_n C d_Run_advance_40 rfl (j := 1) rfl ?_
        refine wm_get C co_Run (rp_run hR) 6 (by decide) fl_Run_49 rfl d_Run_advance_41 ?_
        refine wm_iret C P d_Run_advance_44 ?_
        have e : cy_Run_advance_l (q + 1 + 1) s p n = (s.2.2.1.2.2.1, s) := by rw [cy_Run_advance_l, if_pos h_4, if_neg h_30]
        rw [e] at h
        exact h _ hR
      · refine wm_aload_n C d_Run_advance_33 rfl (j := 1) rfl ?_
        refine wm_get C co_Run (rp_run hR) 0 (by decide) fl_Run_9 rfl d_Run_advance_34 ?_
        refine wm_callVN (d2 := 2) (mc := 0) (ms := 0) C mo_Shelf_bringCellsBack co_Shelf ml_Run_57 [] [] rfl (rp_shelf hR) rfl (by decide) (Nat.le_of_ble_eq_true rfl) (Nat.le_refl _) (Nat.le_refl _) d_Run_advance_37 (cy_kv ?_)
        refine c_Shelf_bringCellsBack hE hR   (fun M1 hR1 => ⟨rfl, ?_⟩)
        refine wm_aload_n C d_Run_advance_40 rfl (j := 1) rfl ?_
        refine wm_get C co_Run (rp_run hR1) 6 (by decide) fl_Run_49 rfl d_Run_advance_41 ?_
        refine wm_iret C P d_Run_advance_44 ?_
        have e : cy_Run_advance_l (q + 1 + 1) s p n = ((cy_Shelf_bringCellsBack s).2.2.1.2.2.1, (cy_Shelf_bringCellsBack s)) := by rw [cy_Run_advance_l, if_pos h_4, if_pos h_30]
        rw [e] at h
        exact h _ hR1
    · refine wm_aload_n C d_Run_advance_7 rfl (j := 1) rfl ?_
      refine wm_get C co_Run (rp_run hR) 6 (by decide) fl_Run_49 rfl d_Run_advance_8 ?_
      refine wm_iconst (v := 1) C d_Run_advance_11 (by decide) ?_
      refine wm_icmp_ne (tgt := 25) C d_Run_advance_12 (by decide) (fun (h_12 : ¬ s.2.2.1.2.2.1 = 1) => ?_) (fun (h_12 : s.2.2.1.2.2.1 = 1) => ?_)
      · refine wm_aload_n C d_Run_advance_25 rfl (j := 1) rfl ?_
        refine wm_get C co_Run (rp_run hR) 6 (by decide) fl_Run_49 rfl d_Run_advance_26 ?_
        refine wm_iconst (v := 2) C d_Run_advance_29 (by decide) ?_
        refine wm_icmp_ne (tgt := 40) C d_Run_advance_30 (by decide) (fun (h_30_4 : ¬ s.2.2.1.2.2.1 = 2) => ?_) (fun (h_30_4 : s.2.2.1.2.2.1 = 2) => ?_)
        · refine wm_aload_n C d_Run_advance_40 rfl (j := 1) rfl ?_
          refine wm_get C co_Run (rp_run hR) 6 (by decide) fl_Run_49 rfl d_Run_advance_41 ?_
          refine wm_iret C P d_Run_advance_44 ?_
          have e : cy_Run_advance_l (q + 1 + 1) s p n = (s.2.2.1.2.2.1, s) := by rw [cy_Run_advance_l, if_neg h_4, if_neg h_12, if_neg h_30_4]
          rw [e] at h
          exact h _ hR
        · refine wm_aload_n C d_Run_advance_33 rfl (j := 1) rfl ?_
          refine wm_get C co_Run (rp_run hR) 0 (by decide) fl_Run_9 rfl d_Run_advance_34 ?_
          refine wm_callVN (d2 := 2) (mc := 0) (ms := 0) C mo_Shelf_bringCellsBack co_Shelf ml_Run_57 [] [] rfl (rp_shelf hR) rfl (by decide) (Nat.le_of_ble_eq_true rfl) (Nat.le_refl _) (Nat.le_refl _) d_Run_advance_37 (cy_kv ?_)
          refine c_Shelf_bringCellsBack hE hR   (fun M2 hR2 => ⟨rfl, ?_⟩)
          refine wm_aload_n C d_Run_advance_40 rfl (j := 1) rfl ?_
          refine wm_get C co_Run (rp_run hR2) 6 (by decide) fl_Run_49 rfl d_Run_advance_41 ?_
          refine wm_iret C P d_Run_advance_44 ?_
          have e : cy_Run_advance_l (q + 1 + 1) s p n = ((cy_Shelf_bringCellsBack s).2.2.1.2.2.1, (cy_Shelf_bringCellsBack s)) := by rw [cy_Run_advance_l, if_neg h_4, if_neg h_12, if_pos h_30_4]
          rw [e] at h
          exact h _ hR2
      · refine wm_aload_n C d_Run_advance_15 rfl (j := 1) rfl ?_
        refine wm_callV (d2 := 5) (mc := 0) (ms := 0) C mo_Run_step co_Run ml_Run_85 [] [] rfl (rp_run hR) rfl (by decide) (Nat.le_of_ble_eq_true rfl) (Nat.le_refl _) (Nat.le_refl _) d_Run_advance_16 (cy_kv ?_)
        refine c_Run_step hE hR   (fun M3 hR3 => ⟨rfl, ?_⟩)
        refine wm_iinc (v := p + 1) (lv' := [(2, .int (p + 1)), (0, .ref (E.2.2.1 136)), (1, .int n)]) C d_Run_advance_19 (k := 0) rfl rfl (by decide) rfl ?_
        refine wm_goto (tgt := 2) C d_Run_advance_22 (by decide) ?_
        have e : cy_Run_advance_l (q + 1 + 1) s p n = cy_Run_advance_l (q + 1) (cy_Run_step s) (p + 1) n := by rw [cy_Run_advance_l, if_neg h_4, if_pos h_12]
        rw [e] at h
        exact wm_sub [(2, .int (p + 1)), (0, .ref (E.2.2.1 136)), (1, .int n)] (by simp) (ih (cy_Run_step s) (p + 1) n _ hR3 (cy_n1 hb h_4) h)
def cy_Run_advance (s : cy_S) (n : Int32) : Int32 × cy_S :=
  cy_Run_advance_l ((n.toInt - (0 : Int32).toInt).toNat + 1) s 0 n
set_option maxHeartbeats 4000000 in
theorem c_Run_advance {G : cy_G} {E : cy_E} {s : cy_S} {M : cy_Hp} {post : Option Value → cy_Hp → Prop} (hE : cy_Eo G E) (hR : cy_R E s M)  (n : Int32) (h : ∀ M', cy_R E (cy_Run_advance s n).2 M' → post (some (.int (cy_Run_advance s n).1)) M') : cy_Ct G 6 m_Run_advance [.ref (E.2.2.1 136), .int n] M 0 0 post := by
  refine cy_Ct.of (by decide) (Nat.le_of_ble_eq_true rfl) ?_
  intro F C P _
  have C : cy_C G F R_Run b_Run_advance 3 6 0 0 := C
  have P : cy_P G F (some .int) post 0 0 := P
  show WM G F 3 0 0 0 [(0, .ref (E.2.2.1 136)), (1, .int n)] [] M
  refine wm_iconst (v := 0) C d_Run_advance_0 (by decide) ?_
  refine wm_istore_n (lv' := [(2, .int 0), (0, .ref (E.2.2.1 136)), (1, .int n)]) C d_Run_advance_1 rfl (by decide) rfl ?_
  have e : cy_Run_advance s n = cy_Run_advance_l ((n.toInt - (0 : Int32).toInt).toNat + 1) s 0 n := by rw [cy_Run_advance]
  rw [e] at h
  exact wm_sub [(2, .int 0), (0, .ref (E.2.2.1 136)), (1, .int n)] (by simp) (l_Run_advance hE C P _ _ _ _ _ hR (cy_fuel _ _) h)
def cy_Yard_load (s : cy_S) (k : Int32) : Int32 × cy_S :=
  if cy_bad k then
    ((-1), s)
  else
    if (cy_Run_isHeld s) = 0 then
      if ((cy_Survey_lookOver s).1) = 0 then
        ((cy_Code_take ((cy_Survey_lookOver s).2) k.toNatClampNeg).2.2.2.1, (cy_rcut (cy_Code_take ((cy_Survey_lookOver s).2) k.toNatClampNeg) 0 0))
      else
        ((cy_Survey_lookOver s).1, (cy_rcut ((cy_Survey_lookOver s).2) 0 0))
    else
      ((-1), s)
set_option maxHeartbeats 4000000 in
theorem c_Yard_load {G : cy_G} {E : cy_E} {s : cy_S} {M : cy_Hp} {post : Option Value → cy_Hp → Prop} (hE : cy_Eo G E) (hR : cy_R E s M)  (k : Int32) (h : ∀ M', cy_R E (cy_Yard_load s k).2 M' → post (some (.int (cy_Yard_load s k).1)) M') : cy_Ct G 6 m_Yard_load [.ref (E.2.2.1 133), .int k] M 0 0 post := by
  refine cy_Ct.of (by decide) (Nat.le_of_ble_eq_true rfl) ?_
  intro F C P _
  have C : cy_C G F R_Yard b_Yard_load 4 6 0 0 := C
  have P : cy_P G F (some .int) post 0 0 := P
  show WM G F 4 0 0 0 [(0, .ref (E.2.2.1 133)), (1, .int k)] [] M
  refine wm_aload_n C d_Yard_load_0 rfl (j := 0) rfl ?_
  refine wm_get C co_Yard (rp_yard hR) 1 (by decide) fl_Yard_21 rfl d_Yard_load_1 ?_
  refine wm_iload_n C d_Yard_load_4 rfl (j := 1) rfl ?_
  refine wm_callVN (d2 := 0) (mc := 0) (ms := 0) C mo_Shelf_slot co_Shelf ml_Yard_62 [.int k] [] rfl (rp_shelf hR) rfl (by decide) (Nat.le_of_ble_eq_true rfl) (Nat.le_refl _) (Nat.le_refl _) d_Yard_load_5 (cy_ki ?_)
  refine c_slot hE hR _ (fun (g_5 : cy_bad k) => ⟨_, rfl, ?_⟩) (fun (g_5 : ¬ cy_bad k) => ⟨_, rfl, ?_⟩)
  · refine wm_astore_nN (lv' := [(2, .null), (0, .ref (E.2.2.1 133)), (1, .int k)]) C d_Yard_load_8 rfl (by decide) rfl ?_
    refine wm_aload_nN C d_Yard_load_9 rfl (j := 0) rfl ?_
    refine wm_ifnullN (tgt := 23) C d_Yard_load_10 (by decide) ?_
    refine wm_iconst (v := -1) C d_Yard_load_23 (by decide) ?_
    refine wm_iret C P d_Yard_load_24 ?_
    have e : cy_Yard_load s k = ((-1), s) := by rw [cy_Yard_load, if_pos g_5]
    rw [e] at h
    exact h _ hR
  · refine wm_astore_n (lv' := [(2, .ref (E.2.2.1 (116 + k.toNatClampNeg))), (0, .ref (E.2.2.1 133)), (1, .int k)]) C d_Yard_load_8 rfl (by decide) rfl ?_
    refine wm_aload_n C d_Yard_load_9 rfl (j := 0) rfl ?_
    refine wm_ifnull C d_Yard_load_10 ?_
    refine wm_aload_n C d_Yard_load_13 rfl (j := 1) rfl ?_
    refine wm_get C co_Yard (rp_yard hR) 3 (by decide) fl_Yard_37 rfl d_Yard_load_14 ?_
    refine wm_callVN (d2 := 0) (mc := 0) (ms := 0) C mo_Run_isHeld co_Run ml_Yard_66 [] [] rfl (rp_run hR) rfl (by decide) (Nat.le_of_ble_eq_true rfl) (Nat.le_refl _) (Nat.le_refl _) d_Yard_load_17 (cy_ki ?_)
    refine c_Run_isHeld hE hR   ⟨_, rfl, ?_⟩
    refine wm_if_eq (tgt := 25) C d_Yard_load_20 (by decide) (fun (h_20 : (cy_Run_isHeld s) = 0) => ?_) (fun (h_20 : ¬ (cy_Run_isHeld s) = 0) => ?_)
    · refine wm_aload_n C d_Yard_load_25 rfl (j := 1) rfl ?_
      refine wm_get C co_Yard (rp_yard hR) 2 (by decide) fl_Yard_28 rfl d_Yard_load_26 ?_
      refine wm_aload_n C d_Yard_load_29 rfl (j := 1) rfl ?_
      refine wm_get C co_Yard (rp_yard hR) 0 (by decide) fl_Yard_14 rfl d_Yard_load_30 ?_
      refine wm_callVN (d2 := 5) (mc := 0) (ms := 0) C mo_Survey_lookOver co_Survey ml_Yard_70 [.ref (E.2.2.1 (2 * 0))] [] rfl (rp_survey hR) rfl (by decide) (Nat.le_of_ble_eq_true rfl) (Nat.le_refl _) (Nat.le_refl _) d_Yard_load_33 (cy_ki ?_)
      refine c_Survey_lookOver hE hR   (fun M1 hR1 => ⟨_, rfl, ?_⟩)
      refine wm_istore_n (lv' := [(3, .int ((cy_Survey_lookOver s).1)), (2, .ref (E.2.2.1 (116 + k.toNatClampNeg))), (0, .ref (E.2.2.1 133)), (1, .int k)]) C d_Yard_load_36 rfl (by decide) rfl ?_
      refine wm_iload_n C d_Yard_load_37 rfl (j := 0) rfl ?_
      refine wm_if_ne (tgt := 56) C d_Yard_load_38 (by decide) (fun (h_38 : ¬ ((cy_Survey_lookOver s).1) = 0) => ?_) (fun (h_38 : ((cy_Survey_lookOver s).1) = 0) => ?_)
      · refine wm_aload_n C d_Yard_load_56 rfl (j := 2) rfl ?_
        refine wm_get C co_Yard (rp_yard hR1) 0 (by decide) fl_Yard_14 rfl d_Yard_load_57 ?_
        refine wm_iconst (v := 0) C d_Yard_load_60 (by decide) ?_
        refine wm_callVN (d2 := 1) (mc := 0) (ms := 0) C mo_Row_shorten co_Row ml_Yard_51 [.int 0] [] rfl (rp_row hR1 (by decide)) rfl (by decide) (Nat.le_of_ble_eq_true rfl) (Nat.le_refl _) (Nat.le_refl _) d_Yard_load_61 (cy_kv ?_)
        refine c_cut hE hR1 (by decide) _ (fun M2 hR2 => ⟨rfl, ?_⟩)
        refine wm_iload_n C d_Yard_load_64 rfl (j := 0) rfl ?_
        refine wm_if_ne (tgt := 78) C d_Yard_load_65 (by decide) (fun (h_65 : ¬ ((cy_Survey_lookOver s).1) = 0) => ?_) (fun (h_65 : ((cy_Survey_lookOver s).1) = 0) => ?_)
        · refine wm_iload_n C d_Yard_load_78 rfl (j := 0) rfl ?_
          refine wm_iret C P d_Yard_load_79 ?_
          have e : cy_Yard_load s k = ((cy_Survey_lookOver s).1, (cy_rcut ((cy_Survey_lookOver s).2) 0 0)) := by rw [cy_Yard_load, if_neg g_5, if_pos h_20, if_neg h_38]
          rw [e] at h
          exact h _ hR2
        · exact absurd h_65 h_38
      · refine wm_aload_n C d_Yard_load_41 rfl (j := 1) rfl ?_
        refine wm_aload_n C d_Yard_load_42 rfl (j := 2) rfl ?_
        refine wm_get C co_Yard (rp_yard hR1) 0 (by decide) fl_Yard_14 rfl d_Yard_load_43 ?_
        refine wm_aload_n C d_Yard_load_46 rfl (j := 2) rfl ?_
        refine wm_get C co_Yard (rp_yard hR1) 2 (by decide) fl_Yard_28 rfl d_Yard_load_47 ?_
        refine wm_getN C co_Survey (rp_survey hR1) 1 (by decide) fl_Yard_74 rfl d_Yard_load_50 ?_
        refine wm_callVN (d2 := 2) (mc := 0) (ms := 0) C mo_Code_take co_Code ml_Yard_77 [.ref (E.2.2.1 (2 * 0)), .ref (E.2.2.1 (2 * 2))] [] rfl (rp_code hR1 (cy_bad_lt g_5)) rfl (by decide) (Nat.le_of_ble_eq_true rfl) (Nat.le_refl _) (Nat.le_refl _) d_Yard_load_53 (cy_kv ?_)
        refine c_Code_take hE hR1 (cy_bad_lt g_5)  (fun M3 hR3 => ⟨rfl, ?_⟩)
        refine wm_aload_n C d_Yard_load_56 rfl (j := 2) rfl ?_
        refine wm_get C co_Yard (rp_yard hR3) 0 (by decide) fl_Yard_14 rfl d_Yard_load_57 ?_
        refine wm_iconst (v := 0) C d_Yard_load_60 (by decide) ?_
        refine wm_callVN (d2 := 1) (mc := 0) (ms := 0) C mo_Row_shorten co_Row ml_Yard_51 [.int 0] [] rfl (rp_row hR3 (by decide)) rfl (by decide) (Nat.le_of_ble_eq_true rfl) (Nat.le_refl _) (Nat.le_refl _) d_Yard_load_61 (cy_kv ?_)
        refine c_cut hE hR3 (by decide) _ (fun M4 hR4 => ⟨rfl, ?_⟩)
        refine wm_iload_n C d_Yard_load_64 rfl (j := 0) rfl ?_
        refine wm_if_ne (tgt := 78) C d_Yard_load_65 (by decide) (fun (h_65_4 : ¬ ((cy_Survey_lookOver s).1) = 0) => ?_) (fun (h_65_4 : ((cy_Survey_lookOver s).1) = 0) => ?_)
        · exact absurd h_38 h_65_4
        · refine wm_aload_n C d_Yard_load_68 rfl (j := 2) rfl ?_
          refine wm_get C co_Yard (rp_yard hR4) 2 (by decide) fl_Yard_28 rfl d_Yard_load_69 ?_
          refine wm_getN C co_Survey (rp_survey hR4) 3 (by decide) fl_Yard_83 rfl d_Yard_load_72 ?_
          refine wm_goto (tgt := 79) C d_Yard_load_75 (by decide) ?_
          refine wm_iret C P d_Yard_load_79 ?_
          have e : cy_Yard_load s k = ((cy_Code_take ((cy_Survey_lookOver s).2) k.toNatClampNeg).2.2.2.1, (cy_rcut (cy_Code_take ((cy_Survey_lookOver s).2) k.toNatClampNeg) 0 0)) := by rw [cy_Yard_load, if_neg g_5, if_pos h_20, if_pos h_38]
          rw [e] at h
          exact h _ hR4
    · refine wm_iconst (v := -1) C d_Yard_load_23 (by decide) ?_
      refine wm_iret C P d_Yard_load_24 ?_
      have e : cy_Yard_load s k = ((-1), s) := by rw [cy_Yard_load, if_neg g_5, if_neg h_20]
      rw [e] at h
      exact h _ hR
def cy_Yard_go (s : cy_S) (n : Int32) : Int32 × cy_S :=
  if n < 0 then
    ((-1), s)
  else
    if 2001 < n then
      ((-1), s)
    else
      if (cy_Run_isHeld s) = 0 then
        ((-1), s)
      else
        cy_Run_advance s n
set_option maxHeartbeats 4000000 in
theorem c_Yard_go {G : cy_G} {E : cy_E} {s : cy_S} {M : cy_Hp} {post : Option Value → cy_Hp → Prop} (hE : cy_Eo G E) (hR : cy_R E s M)  (n : Int32) (h : ∀ M', cy_R E (cy_Yard_go s n).2 M' → post (some (.int (cy_Yard_go s n).1)) M') : cy_Ct G 7 m_Yard_go [.ref (E.2.2.1 133), .int n] M 0 0 post := by
  refine cy_Ct.of (by decide) (Nat.le_of_ble_eq_true rfl) ?_
  intro F C P _
  have C : cy_C G F R_Yard b_Yard_go 2 7 0 0 := C
  have P : cy_P G F (some .int) post 0 0 := P
  show WM G F 2 0 0 0 [(0, .ref (E.2.2.1 133)), (1, .int n)] [] M
  refine wm_iload_n C d_Yard_go_0 rfl (j := 1) rfl ?_
  refine wm_if_lt (tgt := 21) C d_Yard_go_1 (by decide) (fun (h_1 : n < 0) => ?_) (fun (h_1 : ¬ n < 0) => ?_)
  · refine wm_iconst (v := -1) C d_Yard_go_21 (by decide) ?_
    refine wm_iret C P d_Yard_go_22 ?_
    have e : cy_Yard_go s n = ((-1), s) := by rw [cy_Yard_go, if_pos h_1]
    rw [e] at h
    exact h _ hR
  · refine wm_iload_n C d_Yard_go_4 rfl (j := 1) rfl ?_
    refine wm_sipush (v := 2001) C d_Yard_go_5 (by decide) ?_
    refine wm_icmp_gt (tgt := 21) C d_Yard_go_8 (by decide) (fun (h_8 : 2001 < n) => ?_) (fun (h_8 : ¬ 2001 < n) => ?_)
    · refine wm_iconst (v := -1) C d_Yard_go_21 (by decide) ?_
      refine wm_iret C P d_Yard_go_22 ?_
      have e : cy_Yard_go s n = ((-1), s) := by rw [cy_Yard_go, if_neg h_1, if_pos h_8]
      rw [e] at h
      exact h _ hR
    · refine wm_aload_n C d_Yard_go_11 rfl (j := 0) rfl ?_
      refine wm_get C co_Yard (rp_yard hR) 3 (by decide) fl_Yard_37 rfl d_Yard_go_12 ?_
      refine wm_callVN (d2 := 0) (mc := 0) (ms := 0) C mo_Run_isHeld co_Run ml_Yard_66 [] [] rfl (rp_run hR) rfl (by decide) (Nat.le_of_ble_eq_true rfl) (Nat.le_refl _) (Nat.le_refl _) d_Yard_go_15 (cy_ki ?_)
      refine c_Run_isHeld hE hR   ⟨_, rfl, ?_⟩
      refine wm_if_ne (tgt := 23) C d_Yard_go_18 (by decide) (fun (h_18 : ¬ (cy_Run_isHeld s) = 0) => ?_) (fun (h_18 : (cy_Run_isHeld s) = 0) => ?_)
      · refine wm_aload_n C d_Yard_go_23 rfl (j := 0) rfl ?_
        refine wm_get C co_Yard (rp_yard hR) 3 (by decide) fl_Yard_37 rfl d_Yard_go_24 ?_
        refine wm_iload_n C d_Yard_go_27 rfl (j := 1) rfl ?_
        refine wm_callVN (d2 := 6) (mc := 0) (ms := 0) C mo_Run_advance co_Run ml_Yard_93 [.int n] [] rfl (rp_run hR) rfl (by decide) (Nat.le_of_ble_eq_true rfl) (Nat.le_refl _) (Nat.le_refl _) d_Yard_go_28 (cy_ki ?_)
        refine c_Run_advance hE hR  _ (fun M1 hR1 => ⟨_, rfl, ?_⟩)
        refine wm_iret C P d_Yard_go_31 ?_
        have e : cy_Yard_go s n = cy_Run_advance s n := by rw [cy_Yard_go, if_neg h_1, if_neg h_8, if_neg h_18]
        rw [e] at h
        exact h _ hR1
      · refine wm_iconst (v := -1) C d_Yard_go_21 (by decide) ?_
        refine wm_iret C P d_Yard_go_22 ?_
        have e : cy_Yard_go s n = ((-1), s) := by rw [cy_Yard_go, if_neg h_1, if_neg h_8, if_pos h_18]
        rw [e] at h
        exact h _ hR
