def cy_Survey_goThroughAll_l : Nat → cy_S → Int32 → Int32 × cy_S
  | 0, s, _ => (0, s)
  | q + 1, s, p =>
    if 256 ≤ p then
      (0, s)
    else
      if ((cy_Survey_leastWaiting s).1) = (-1) then
        (0, (cy_Survey_leastWaiting s).2)
      else
        if ((cy_Survey_goThrough ((cy_Survey_leastWaiting s).2) ((cy_Survey_leastWaiting s).1)).1) = 0 then
          cy_Survey_goThroughAll_l q ((cy_Survey_goThrough ((cy_Survey_leastWaiting s).2) ((cy_Survey_leastWaiting s).1)).2) (p + 1)
        else
          cy_Survey_goThrough ((cy_Survey_leastWaiting s).2) ((cy_Survey_leastWaiting s).1)
set_option maxHeartbeats 4000000 in
theorem l_Survey_goThroughAll {G : cy_G} {E : cy_E} {post : Option Value → cy_Hp → Prop} {F : cy_F} (hE : cy_Eo G E) (C : cy_C G F R_Survey b_Survey_goThroughAll 5 4 0 0) (P : cy_P G F (some .int) post 0 0) : ∀ (q : Nat) (s : cy_S) (p : Int32) (M : cy_Hp), cy_R E s M → (256 : Int32).toInt ≤ p.toInt + ((q : Nat) : Int) → (∀ M', cy_R E (cy_Survey_goThroughAll_l (q + 1) s p).2 M' → post (some (.int (cy_Survey_goThroughAll_l (q + 1) s p).1)) M') → WM G F 5 0 0 27 [(2, .int p), (0, .ref (E.2.2.1 135)), (1, .ref (E.2.2.1 (2 * 0)))] [] M := by
  intro q
  induction q with
  | zero =>
    intro s p M hR hb h
    refine wm_iload_n C d_Survey_goThroughAll_27 rfl (j := 0) rfl ?_
    refine wm_sipush (v := 256) C d_Survey_goThroughAll_28 (by decide) ?_
    refine wm_icmp_ge (tgt := 68) C d_Survey_goThroughAll_31 (by decide) (fun (h_31 : 256 ≤ p) => ?_) (fun (h_31 : ¬ 256 ≤ p) => ?_)
    · refine wm_iconst (v := 0) C d_Survey_goThroughAll_68 (by decide) ?_
      refine wm_iret C P d_Survey_goThroughAll_69 ?_
      have e : cy_Survey_goThroughAll_l (0 + 1) s p = (0, s) := by rw [cy_Survey_goThroughAll_l, if_pos h_31]
      rw [e] at h
      exact h _ hR
    · exact absurd (cy_n0 hb) h_31
  | succ q ih =>
    intro s p M hR hb h
    refine wm_iload_n C d_Survey_goThroughAll_27 rfl (j := 0) rfl ?_
    refine wm_sipush (v := 256) C d_Survey_goThroughAll_28 (by decide) ?_
    refine wm_icmp_ge (tgt := 68) C d_Survey_goThroughAll_31 (by decide) (fun (h_31 : 256 ≤ p) => ?_) (fun (h_31 : ¬ 256 ≤ p) => ?_)
    · refine wm_iconst (v := 0) C d_Survey_goThroughAll_68 (by decide) ?_
      refine wm_iret C P d_Survey_goThroughAll_69 ?_
      have e : cy_Survey_goThroughAll_l (q + 1 + 1) s p = (0, s) := by rw [cy_Survey_goThroughAll_l, if_pos h_31]
      rw [e] at h
      exact h _ hR
    · refine wm_aload_n C d_Survey_goThroughAll_34 rfl (j := 1) rfl ?_
      refine wm_callV (d2 := 1) (mc := 0) (ms := 0) C mo_Survey_leastWaiting co_Survey ml_Survey_97 [] [] rfl (rp_survey hR) rfl (by decide) (Nat.le_of_ble_eq_true rfl) (Nat.le_refl _) (Nat.le_refl _) d_Survey_goThroughAll_35 (cy_ki ?_)
      refine c_Survey_leastWaiting hE hR   (fun M1 hR1 => ⟨_, rfl, ?_⟩)
      refine wm_istore_n (lv' := [(3, .int ((cy_Survey_leastWaiting s).1)), (2, .int p), (0, .ref (E.2.2.1 135)), (1, .ref (E.2.2.1 (2 * 0)))]) C d_Survey_goThroughAll_38 rfl (by decide) rfl ?_
      refine wm_iload_n C d_Survey_goThroughAll_39 rfl (j := 0) rfl ?_
      refine wm_iconst (v := -1) C d_Survey_goThroughAll_40 (by decide) ?_
      refine wm_icmp_ne (tgt := 46) C d_Survey_goThroughAll_41 (by decide) (fun (h_41 : ¬ ((cy_Survey_leastWaiting s).1) = (-1)) => ?_) (fun (h_41 : ((cy_Survey_leastWaiting s).1) = (-1)) => ?_)
      · refine wm_aload_n C d_Survey_goThroughAll_46 rfl (j := 2) rfl ?_
        refine wm_aload_n C d_Survey_goThroughAll_47 rfl (j := 3) rfl ?_
        refine wm_iload_n C d_Survey_goThroughAll_48 rfl (j := 0) rfl ?_
        refine wm_callV (d2 := 3) (mc := 0) (ms := 0) C mo_Survey_goThrough co_Survey ml_Survey_101 [.ref (E.2.2.1 (2 * 0)), .int ((cy_Survey_leastWaiting s).1)] [] rfl (rp_survey hR1) rfl (by decide) (Nat.le_of_ble_eq_true rfl) (Nat.le_refl _) (Nat.le_refl _) d_Survey_goThroughAll_49 (cy_ki ?_)
        refine c_Survey_goThrough hE hR1  _ (fun M2 hR2 => ⟨_, rfl, ?_⟩)
        refine wm_istore (lv' := [(4, .int ((cy_Survey_goThrough ((cy_Survey_leastWaiting s).2) ((cy_Survey_leastWaiting s).1)).1)), (3, .int ((cy_Survey_leastWaiting s).1)), (2, .int p), (0, .ref (E.2.2.1 135)), (1, .ref (E.2.2.1 (2 * 0)))]) C d_Survey_goThroughAll_52 (by decide) rfl ?_
        refine wm_iload C d_Survey_goThroughAll_54 (j := 0) rfl ?_
        refine wm_if_eq (tgt := 62) C d_Survey_goThroughAll_56 (by decide) (fun (h_56 : ((cy_Survey_goThrough ((cy_Survey_leastWaiting s).2) ((cy_Survey_leastWaiting s).1)).1) = 0) => ?_) (fun (h_56 : ¬ ((cy_Survey_goThrough ((cy_Survey_leastWaiting s).2) ((cy_Survey_leastWaiting s).1)).1) = 0) => ?_)
        · refine wm_iinc (v := p + 1) (lv' := [(2, .int (p + 1)), (4, .int ((cy_Survey_goThrough ((cy_Survey_leastWaiting s).2) ((cy_Survey_leastWaiting s).1)).1)), (3, .int ((cy_Survey_leastWaiting s).1)), (0, .ref (E.2.2.1 135)), (1, .ref (E.2.2.1 (2 * 0)))]) C d_Survey_goThroughAll_62 (k := 2) rfl rfl (by decide) rfl ?_
          refine wm_goto (tgt := 27) C d_Survey_goThroughAll_65 (by decide) ?_
          have e : cy_Survey_goThroughAll_l (q + 1 + 1) s p = cy_Survey_goThroughAll_l (q + 1) ((cy_Survey_goThrough ((cy_Survey_leastWaiting s).2) ((cy_Survey_leastWaiting s).1)).2) (p + 1) := by rw [cy_Survey_goThroughAll_l, if_neg h_31, if_neg h_41, if_pos h_56]
          rw [e] at h
          exact wm_sub [(2, .int (p + 1)), (0, .ref (E.2.2.1 135)), (1, .ref (E.2.2.1 (2 * 0)))] (by simp) (ih ((cy_Survey_goThrough ((cy_Survey_leastWaiting s).2) ((cy_Survey_leastWaiting s).1)).2) (p + 1) _ hR2 (cy_n1 hb h_31) h)
        · refine wm_iload C d_Survey_goThroughAll_59 (j := 0) rfl ?_
          refine wm_iret C P d_Survey_goThroughAll_61 ?_
          have e : cy_Survey_goThroughAll_l (q + 1 + 1) s p = cy_Survey_goThrough ((cy_Survey_leastWaiting s).2) ((cy_Survey_leastWaiting s).1) := by rw [cy_Survey_goThroughAll_l, if_neg h_31, if_neg h_41, if_neg h_56]
          rw [e] at h
          exact h _ hR2
      · refine wm_iconst (v := 0) C d_Survey_goThroughAll_44 (by decide) ?_
        refine wm_iret C P d_Survey_goThroughAll_45 ?_
        have e : cy_Survey_goThroughAll_l (q + 1 + 1) s p = (0, (cy_Survey_leastWaiting s).2) := by rw [cy_Survey_goThroughAll_l, if_neg h_31, if_pos h_41]
        rw [e] at h
        exact h _ hR1
def cy_Survey_goThroughAll (s : cy_S) : Int32 × cy_S :=
  cy_Survey_goThroughAll_l (((256 : Int32).toInt - (0 : Int32).toInt).toNat + 1) ((cy_Survey_comeTo ((cy_Survey_comeTo ((cy_Survey_comeTo s (cy_rat s 0 0 (-1)) 0).2) (cy_rat ((cy_Survey_comeTo s (cy_rat s 0 0 (-1)) 0).2) 0 1 (-1)) 0).2) (cy_rat ((cy_Survey_comeTo ((cy_Survey_comeTo s (cy_rat s 0 0 (-1)) 0).2) (cy_rat ((cy_Survey_comeTo s (cy_rat s 0 0 (-1)) 0).2) 0 1 (-1)) 0).2) 0 2 (-1)) 0).2) 0
set_option maxHeartbeats 4000000 in
theorem c_Survey_goThroughAll {G : cy_G} {E : cy_E} {s : cy_S} {M : cy_Hp} {post : Option Value → cy_Hp → Prop} (hE : cy_Eo G E) (hR : cy_R E s M)   (h : ∀ M', cy_R E (cy_Survey_goThroughAll s).2 M' → post (some (.int (cy_Survey_goThroughAll s).1)) M') : cy_Ct G 4 m_Survey_goThroughAll [.ref (E.2.2.1 135), .ref (E.2.2.1 (2 * 0))] M 0 0 post := by
  refine cy_Ct.of (by decide) (Nat.le_of_ble_eq_true rfl) ?_
  intro F C P _
  have C : cy_C G F R_Survey b_Survey_goThroughAll 5 4 0 0 := C
  have P : cy_P G F (some .int) post 0 0 := P
  show WM G F 5 0 0 0 [(0, .ref (E.2.2.1 135)), (1, .ref (E.2.2.1 (2 * 0)))] [] M
  refine wm_iconst (v := 0) C d_Survey_goThroughAll_0 (by decide) ?_
  refine wm_istore_n (lv' := [(2, .int 0), (0, .ref (E.2.2.1 135)), (1, .ref (E.2.2.1 (2 * 0)))]) C d_Survey_goThroughAll_1 rfl (by decide) rfl ?_
  refine wm_iload_n C d_Survey_goThroughAll_2 rfl (j := 0) rfl ?_
  refine wm_iconst (v := 3) C d_Survey_goThroughAll_3 (by decide) ?_
  refine wm_icmp_ge (tgt := 25) C d_Survey_goThroughAll_4 (by decide) (fun (h_4 : 3 ≤ 0) => ?_) (fun (h_4 : ¬ 3 ≤ 0) => ?_)
  · exact absurd h_4 (by decide)
  · refine wm_aload_n C d_Survey_goThroughAll_7 rfl (j := 1) rfl ?_
    refine wm_aload_n C d_Survey_goThroughAll_8 rfl (j := 2) rfl ?_
    refine wm_iload_n C d_Survey_goThroughAll_9 rfl (j := 0) rfl ?_
    refine wm_iconst (v := -1) C d_Survey_goThroughAll_10 (by decide) ?_
    refine wm_callVN (d2 := 0) (mc := 0) (ms := 0) C mo_Row_at co_Row ml_Survey_67 [.int 0, .int (-1)] [.ref (E.2.2.1 135)] rfl (rp_row hR (by decide)) rfl (by decide) (Nat.le_of_ble_eq_true rfl) (Nat.le_refl _) (Nat.le_refl _) d_Survey_goThroughAll_11 (cy_ki ?_)
    refine c_at hE hR (by decide) _ _ ⟨_, rfl, ?_⟩
    refine wm_iconst (v := 0) C d_Survey_goThroughAll_14 (by decide) ?_
    refine wm_callV (d2 := 1) (mc := 0) (ms := 0) C mo_Survey_comeTo co_Survey ml_Survey_94 [.int (cy_rat s 0 0 (-1)), .int 0] [] rfl (rp_survey hR) rfl (by decide) (Nat.le_of_ble_eq_true rfl) (Nat.le_refl _) (Nat.le_refl _) d_Survey_goThroughAll_15 (cy_ki ?_)
    refine c_Survey_comeTo hE hR  _ _ (fun M1 hR1 => ⟨_, rfl, ?_⟩)
    refine wm_pop C d_Survey_goThroughAll_18 rfl ?_
    refine wm_iinc (v := 1) (lv' := [(2, .int 1), (0, .ref (E.2.2.1 135)), (1, .ref (E.2.2.1 (2 * 0)))]) C d_Survey_goThroughAll_19 (k := 0) rfl (by decide) (by decide) rfl ?_
    refine wm_goto (tgt := 2) C d_Survey_goThroughAll_22 (by decide) ?_
    refine wm_iload_n C d_Survey_goThroughAll_2 rfl (j := 0) rfl ?_
    refine wm_iconst (v := 3) C d_Survey_goThroughAll_3 (by decide) ?_
    refine wm_icmp_ge (tgt := 25) C d_Survey_goThroughAll_4 (by decide) (fun (h_4_2 : 3 ≤ 1) => ?_) (fun (h_4_2 : ¬ 3 ≤ 1) => ?_)
    · exact absurd h_4_2 (by decide)
    · refine wm_aload_n C d_Survey_goThroughAll_7 rfl (j := 1) rfl ?_
      refine wm_aload_n C d_Survey_goThroughAll_8 rfl (j := 2) rfl ?_
      refine wm_iload_n C d_Survey_goThroughAll_9 rfl (j := 0) rfl ?_
      refine wm_iconst (v := -1) C d_Survey_goThroughAll_10 (by decide) ?_
      refine wm_callVN (d2 := 0) (mc := 0) (ms := 0) C mo_Row_at co_Row ml_Survey_67 [.int 1, .int (-1)] [.ref (E.2.2.1 135)] rfl (rp_row hR1 (by decide)) rfl (by decide) (Nat.le_of_ble_eq_true rfl) (Nat.le_refl _) (Nat.le_refl _) d_Survey_goThroughAll_11 (cy_ki ?_)
      refine c_at hE hR1 (by decide) _ _ ⟨_, rfl, ?_⟩
      refine wm_iconst (v := 0) C d_Survey_goThroughAll_14 (by decide) ?_
      refine wm_callV (d2 := 1) (mc := 0) (ms := 0) C mo_Survey_comeTo co_Survey ml_Survey_94 [.int (cy_rat ((cy_Survey_comeTo s (cy_rat s 0 0 (-1)) 0).2) 0 1 (-1)), .int 0] [] rfl (rp_survey hR1) rfl (by decide) (Nat.le_of_ble_eq_true rfl) (Nat.le_refl _) (Nat.le_refl _) d_Survey_goThroughAll_15 (cy_ki ?_)
      refine c_Survey_comeTo hE hR1  _ _ (fun M2 hR2 => ⟨_, rfl, ?_⟩)
      refine wm_pop C d_Survey_goThroughAll_18 rfl ?_
      refine wm_iinc (v := 2) (lv' := [(2, .int 2), (0, .ref (E.2.2.1 135)), (1, .ref (E.2.2.1 (2 * 0)))]) C d_Survey_goThroughAll_19 (k := 0) rfl (by decide) (by decide) rfl ?_
      refine wm_goto (tgt := 2) C d_Survey_goThroughAll_22 (by decide) ?_
      refine wm_iload_n C d_Survey_goThroughAll_2 rfl (j := 0) rfl ?_
      refine wm_iconst (v := 3) C d_Survey_goThroughAll_3 (by decide) ?_
      refine wm_icmp_ge (tgt := 25) C d_Survey_goThroughAll_4 (by decide) (fun (h_4_3 : 3 ≤ 2) => ?_) (fun (h_4_3 : ¬ 3 ≤ 2) => ?_)
      · exact absurd h_4_3 (by decide)
      · refine wm_aload_n C d_Survey_goThroughAll_7 rfl (j := 1) rfl ?_
        refine wm_aload_n C d_Survey_goThroughAll_8 rfl (j := 2) rfl ?_
        refine wm_iload_n C d_Survey_goThroughAll_9 rfl (j := 0) rfl ?_
        refine wm_iconst (v := -1) C d_Survey_goThroughAll_10 (by decide) ?_
        refine wm_callVN (d2 := 0) (mc := 0) (ms := 0) C mo_Row_at co_Row ml_Survey_67 [.int 2, .int (-1)] [.ref (E.2.2.1 135)] rfl (rp_row hR2 (by decide)) rfl (by decide) (Nat.le_of_ble_eq_true rfl) (Nat.le_refl _) (Nat.le_refl _) d_Survey_goThroughAll_11 (cy_ki ?_)
        refine c_at hE hR2 (by decide) _ _ ⟨_, rfl, ?_⟩
        refine wm_iconst (v := 0) C d_Survey_goThroughAll_14 (by decide) ?_
        refine wm_callV (d2 := 1) (mc := 0) (ms := 0) C mo_Survey_comeTo co_Survey ml_Survey_94 [.int (cy_rat ((cy_Survey_comeTo ((cy_Survey_comeTo s (cy_rat s 0 0 (-1)) 0).2) (cy_rat ((cy_Survey_comeTo s (cy_rat s 0 0 (-1)) 0).2) 0 1 (-1)) 0).2) 0 2 (-1)), .int 0] [] rfl (rp_survey hR2) rfl (by decide) (Nat.le_of_ble_eq_true rfl) (Nat.le_refl _) (Nat.le_refl _) d_Survey_goThroughAll_15 (cy_ki ?_)
        refine c_Survey_comeTo hE hR2  _ _ (fun M3 hR3 => ⟨_, rfl, ?_⟩)
        refine wm_pop C d_Survey_goThroughAll_18 rfl ?_
        refine wm_iinc (v := 3) (lv' := [(2, .int 3), (0, .ref (E.2.2.1 135)), (1, .ref (E.2.2.1 (2 * 0)))]) C d_Survey_goThroughAll_19 (k := 0) rfl (by decide) (by decide) rfl ?_
        refine wm_goto (tgt := 2) C d_Survey_goThroughAll_22 (by decide) ?_
        refine wm_iload_n C d_Survey_goThroughAll_2 rfl (j := 0) rfl ?_
        refine wm_iconst (v := 3) C d_Survey_goThroughAll_3 (by decide) ?_
        refine wm_icmp_ge (tgt := 25) C d_Survey_goThroughAll_4 (by decide) (fun (h_4_4 : 3 ≤ 3) => ?_) (fun (h_4_4 : ¬ 3 ≤ 3) => ?_)
        · refine wm_iconst (v := 0) C d_Survey_goThroughAll_25 (by decide) ?_
          refine wm_istore_n (lv' := [(2, .int 0), (0, .ref (E.2.2.1 135)), (1, .ref (E.2.2.1 (2 * 0)))]) C d_Survey_goThroughAll_26 rfl (by decide) rfl ?_
          have e : cy_Survey_goThroughAll s = cy_Survey_goThroughAll_l (((256 : Int32).toInt - (0 : Int32).toInt).toNat + 1) ((cy_Survey_comeTo ((cy_Survey_comeTo ((cy_Survey_comeTo s (cy_rat s 0 0 (-1)) 0).2) (cy_rat ((cy_Survey_comeTo s (cy_rat s 0 0 (-1)) 0).2) 0 1 (-1)) 0).2) (cy_rat ((cy_Survey_comeTo ((cy_Survey_comeTo s (cy_rat s 0 0 (-1)) 0).2) (cy_rat ((cy_Survey_comeTo s (cy_rat s 0 0 (-1)) 0).2) 0 1 (-1)) 0).2) 0 2 (-1)) 0).2) 0 := by rw [cy_Survey_goThroughAll]
          rw [e] at h
          exact wm_sub [(2, .int 0), (0, .ref (E.2.2.1 135)), (1, .ref (E.2.2.1 (2 * 0)))] (by simp) (l_Survey_goThroughAll hE C P _ _ _ _ hR3 (cy_fuel _ _) h)
        · exact absurd h_4_4 (by decide)
def cy_Survey_lookOver (s : cy_S) : Int32 × cy_S :=
  if (nI (s.1 0).length) < 4 then
    (cy_Survey_fault 1 (nI (s.1 0).length), s)
  else
    if (nI (s.1 0).length) ≤ 256 then
      if ((cy_Survey_readInstructions (cy_Survey_clear s (nI (s.1 0).length))).1) = 0 then
        if (cy_Survey_lookAtPlaces ((cy_Survey_readInstructions (cy_Survey_clear s (nI (s.1 0).length))).2)) = 0 then
          cy_Survey_goThroughAll ((cy_Survey_readInstructions (cy_Survey_clear s (nI (s.1 0).length))).2)
        else
          (cy_Survey_lookAtPlaces ((cy_Survey_readInstructions (cy_Survey_clear s (nI (s.1 0).length))).2), (cy_Survey_readInstructions (cy_Survey_clear s (nI (s.1 0).length))).2)
      else
        cy_Survey_readInstructions (cy_Survey_clear s (nI (s.1 0).length))
    else
      (cy_Survey_fault 1 (nI (s.1 0).length), s)
set_option maxHeartbeats 4000000 in
theorem c_Survey_lookOver {G : cy_G} {E : cy_E} {s : cy_S} {M : cy_Hp} {post : Option Value → cy_Hp → Prop} (hE : cy_Eo G E) (hR : cy_R E s M)   (h : ∀ M', cy_R E (cy_Survey_lookOver s).2 M' → post (some (.int (cy_Survey_lookOver s).1)) M') : cy_Ct G 5 m_Survey_lookOver [.ref (E.2.2.1 135), .ref (E.2.2.1 (2 * 0))] M 0 0 post := by
  refine cy_Ct.of (by decide) (Nat.le_of_ble_eq_true rfl) ?_
  intro F C P _
  have C : cy_C G F R_Survey b_Survey_lookOver 3 5 0 0 := C
  have P : cy_P G F (some .int) post 0 0 := P
  show WM G F 3 0 0 0 [(0, .ref (E.2.2.1 135)), (1, .ref (E.2.2.1 (2 * 0)))] [] M
  refine wm_aload_n C d_Survey_lookOver_0 rfl (j := 1) rfl ?_
  refine wm_getN C co_Row (rp_row hR (by decide)) 1 (by decide) fl_Survey_26 rfl d_Survey_lookOver_1 ?_
  refine wm_iconst (v := 4) C d_Survey_lookOver_4 (by decide) ?_
  refine wm_icmp_lt (tgt := 18) C d_Survey_lookOver_5 (by decide) (fun (h_5 : (nI (s.1 0).length) < 4) => ?_) (fun (h_5 : ¬ (nI (s.1 0).length) < 4) => ?_)
  · refine wm_iconst (v := 1) C d_Survey_lookOver_18 (by decide) ?_
    refine wm_aload_n C d_Survey_lookOver_19 rfl (j := 1) rfl ?_
    refine wm_getN C co_Row (rp_row hR (by decide)) 1 (by decide) fl_Survey_26 rfl d_Survey_lookOver_20 ?_
    refine wm_callS (d2 := 0) (mc := 0) (ms := 0) C mo_Survey_fault ml_Survey_30 [.int 1, .int (nI (s.1 0).length)] [] rfl rfl (by decide) (Nat.le_of_ble_eq_true rfl) (Nat.le_refl _) (Nat.le_refl _) d_Survey_lookOver_23 (cy_ki ?_)
    refine c_Survey_fault hE hR  _ _ ⟨_, rfl, ?_⟩
    refine wm_iret C P d_Survey_lookOver_26 ?_
    have e : cy_Survey_lookOver s = (cy_Survey_fault 1 (nI (s.1 0).length), s) := by rw [cy_Survey_lookOver, if_pos h_5]
    rw [e] at h
    exact h _ hR
  · refine wm_aload_n C d_Survey_lookOver_8 rfl (j := 1) rfl ?_
    refine wm_getN C co_Row (rp_row hR (by decide)) 1 (by decide) fl_Survey_26 rfl d_Survey_lookOver_9 ?_
    refine wm_sipush (v := 256) C d_Survey_lookOver_12 (by decide) ?_
    refine wm_icmp_le (tgt := 27) C d_Survey_lookOver_15 (by decide) (fun (h_15 : (nI (s.1 0).length) ≤ 256) => ?_) (fun (h_15 : ¬ (nI (s.1 0).length) ≤ 256) => ?_)
    · refine wm_aload_n C d_Survey_lookOver_27 rfl (j := 0) rfl ?_
      refine wm_aload_n C d_Survey_lookOver_28 rfl (j := 1) rfl ?_
      refine wm_getN C co_Row (rp_row hR (by decide)) 1 (by decide) fl_Survey_26 rfl d_Survey_lookOver_29 ?_
      refine wm_callV (d2 := 2) (mc := 0) (ms := 0) C mo_Survey_clear co_Survey ml_Survey_34 [.int (nI (s.1 0).length)] [] rfl (rp_survey hR) rfl (by decide) (Nat.le_of_ble_eq_true rfl) (Nat.le_refl _) (Nat.le_refl _) d_Survey_lookOver_32 (cy_kv ?_)
      refine c_Survey_clear hE hR  _ (fun M1 hR1 => ⟨rfl, ?_⟩)
      refine wm_aload_n C d_Survey_lookOver_35 rfl (j := 0) rfl ?_
      refine wm_aload_n C d_Survey_lookOver_36 rfl (j := 1) rfl ?_
      refine wm_callV (d2 := 4) (mc := 0) (ms := 0) C mo_Survey_readInstructions co_Survey ml_Survey_37 [.ref (E.2.2.1 (2 * 0))] [] rfl (rp_survey hR1) rfl (by decide) (Nat.le_of_ble_eq_true rfl) (Nat.le_refl _) (Nat.le_refl _) d_Survey_lookOver_37 (cy_ki ?_)
      refine c_Survey_readInstructions hE hR1   (fun M2 hR2 => ⟨_, rfl, ?_⟩)
      refine wm_istore_n (lv' := [(2, .int ((cy_Survey_readInstructions (cy_Survey_clear s (nI (s.1 0).length))).1)), (0, .ref (E.2.2.1 135)), (1, .ref (E.2.2.1 (2 * 0)))]) C d_Survey_lookOver_40 rfl (by decide) rfl ?_
      refine wm_iload_n C d_Survey_lookOver_41 rfl (j := 0) rfl ?_
      refine wm_if_ne (tgt := 51) C d_Survey_lookOver_42 (by decide) (fun (h_42 : ¬ ((cy_Survey_readInstructions (cy_Survey_clear s (nI (s.1 0).length))).1) = 0) => ?_) (fun (h_42 : ((cy_Survey_readInstructions (cy_Survey_clear s (nI (s.1 0).length))).1) = 0) => ?_)
      · refine wm_iload_n C d_Survey_lookOver_51 rfl (j := 0) rfl ?_
        refine wm_if_ne (tgt := 61) C d_Survey_lookOver_52 (by decide) (fun (h_52 : ¬ ((cy_Survey_readInstructions (cy_Survey_clear s (nI (s.1 0).length))).1) = 0) => ?_) (fun (h_52 : ((cy_Survey_readInstructions (cy_Survey_clear s (nI (s.1 0).length))).1) = 0) => ?_)
        · refine wm_iload_n C d_Survey_lookOver_61 rfl (j := 0) rfl ?_
          refine wm_iret C P d_Survey_lookOver_62 ?_
          have e : cy_Survey_lookOver s = cy_Survey_readInstructions (cy_Survey_clear s (nI (s.1 0).length)) := by rw [cy_Survey_lookOver, if_neg h_5, if_pos h_15, if_neg h_42]
          rw [e] at h
          exact h _ hR2
        · exact absurd h_52 h_42
      · refine wm_aload_n C d_Survey_lookOver_45 rfl (j := 1) rfl ?_
        refine wm_aload_n C d_Survey_lookOver_46 rfl (j := 2) rfl ?_
        refine wm_callV (d2 := 2) (mc := 0) (ms := 0) C mo_Survey_lookAtPlaces co_Survey ml_Survey_41 [.ref (E.2.2.1 (2 * 0))] [] rfl (rp_survey hR2) rfl (by decide) (Nat.le_of_ble_eq_true rfl) (Nat.le_refl _) (Nat.le_refl _) d_Survey_lookOver_47 (cy_ki ?_)
        refine c_Survey_lookAtPlaces hE hR2   ⟨_, rfl, ?_⟩
        refine wm_istore_n (lv' := [(2, .int (cy_Survey_lookAtPlaces ((cy_Survey_readInstructions (cy_Survey_clear s (nI (s.1 0).length))).2))), (0, .ref (E.2.2.1 135)), (1, .ref (E.2.2.1 (2 * 0)))]) C d_Survey_lookOver_50 rfl (by decide) rfl ?_
        refine wm_iload_n C d_Survey_lookOver_51 rfl (j := 0) rfl ?_
        refine wm_if_ne (tgt := 61) C d_Survey_lookOver_52 (by decide) (fun (h_52_5 : ¬ (cy_Survey_lookAtPlaces ((cy_Survey_readInstructions (cy_Survey_clear s (nI (s.1 0).length))).2)) = 0) => ?_) (fun (h_52_5 : (cy_Survey_lookAtPlaces ((cy_Survey_readInstructions (cy_Survey_clear s (nI (s.1 0).length))).2)) = 0) => ?_)
        · refine wm_iload_n C d_Survey_lookOver_61 rfl (j := 0) rfl ?_
          refine wm_iret C P d_Survey_lookOver_62 ?_
          have e : cy_Survey_lookOver s = (cy_Survey_lookAtPlaces ((cy_Survey_readInstructions (cy_Survey_clear s (nI (s.1 0).length))).2), (cy_Survey_readInstructions (cy_Survey_clear s (nI (s.1 0).length))).2) := by rw [cy_Survey_lookOver, if_neg h_5, if_pos h_15, if_pos h_42, if_neg h_52_5]
          rw [e] at h
          exact h _ hR2
        · refine wm_aload_n C d_Survey_lookOver_55 rfl (j := 1) rfl ?_
          refine wm_aload_n C d_Survey_lookOver_56 rfl (j := 2) rfl ?_
          refine wm_callV (d2 := 4) (mc := 0) (ms := 0) C mo_Survey_goThroughAll co_Survey ml_Survey_44 [.ref (E.2.2.1 (2 * 0))] [] rfl (rp_survey hR2) rfl (by decide) (Nat.le_of_ble_eq_true rfl) (Nat.le_refl _) (Nat.le_refl _) d_Survey_lookOver_57 (cy_ki ?_)
          refine c_Survey_goThroughAll hE hR2   (fun M3 hR3 => ⟨_, rfl, ?_⟩)
          refine wm_istore_n (lv' := [(2, .int ((cy_Survey_goThroughAll ((cy_Survey_readInstructions (cy_Survey_clear s (nI (s.1 0).length))).2)).1)), (0, .ref (E.2.2.1 135)), (1, .ref (E.2.2.1 (2 * 0)))]) C d_Survey_lookOver_60 rfl (by decide) rfl ?_
          refine wm_iload_n C d_Survey_lookOver_61 rfl (j := 0) rfl ?_
          refine wm_iret C P d_Survey_lookOver_62 ?_
          have e : cy_Survey_lookOver s = cy_Survey_goThroughAll ((cy_Survey_readInstructions (cy_Survey_clear s (nI (s.1 0).length))).2) := by rw [cy_Survey_lookOver, if_neg h_5, if_pos h_15, if_pos h_42, if_pos h_52_5]
          rw [e] at h
          exact h _ hR3
    · refine wm_iconst (v := 1) C d_Survey_lookOver_18 (by decide) ?_
      refine wm_aload_n C d_Survey_lookOver_19 rfl (j := 1) rfl ?_
      refine wm_getN C co_Row (rp_row hR (by decide)) 1 (by decide) fl_Survey_26 rfl d_Survey_lookOver_20 ?_
      refine wm_callS (d2 := 0) (mc := 0) (ms := 0) C mo_Survey_fault ml_Survey_30 [.int 1, .int (nI (s.1 0).length)] [] rfl rfl (by decide) (Nat.le_of_ble_eq_true rfl) (Nat.le_refl _) (Nat.le_refl _) d_Survey_lookOver_23 (cy_ki ?_)
      refine c_Survey_fault hE hR  _ _ ⟨_, rfl, ?_⟩
      refine wm_iret C P d_Survey_lookOver_26 ?_
      have e : cy_Survey_lookOver s = (cy_Survey_fault 1 (nI (s.1 0).length), s) := by rw [cy_Survey_lookOver, if_neg h_5, if_neg h_15]
      rw [e] at h
      exact h _ hR
