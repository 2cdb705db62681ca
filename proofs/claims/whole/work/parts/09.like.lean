def cy_rlike (s : cy_S) (r r2 : Nat) : cy_S := cy_sr s r ((s.1 r2).take (cy_cap r))
def cy_rhas (s : cy_S) (r : Nat) (i : Int32) : Int32 := if i < 0 then 0 else if nI (s.1 r).length ≤ i then 0 else 1
theorem cy_sr_sr (s : cy_S) (r : Nat) (xs ys : List Int32) : cy_sr (cy_sr s r xs) r ys = cy_sr s r ys := by
  unfold cy_sr
  congr 1
  funext q
  by_cases h : q = r
  · subst h; simp [cy_up]
  · simp [cy_up, h]
theorem cy_like_step {s : cy_S} {r r2 j : Nat} (hne : r ≠ r2) (hj : j < (s.1 r2).length) (hl : (s.1 r2).length < 2 ^ 31) : cy_radd (cy_sr s r (((s.1 r2).take j).take (cy_cap r))) r (cy_rat (cy_sr s r (((s.1 r2).take j).take (cy_cap r))) r2 (nI j) 0) = cy_sr s r (((s.1 r2).take (j + 1)).take (cy_cap r)) := by
  have e1 : (cy_sr s r (((s.1 r2).take j).take (cy_cap r))).1 r = ((s.1 r2).take j).take (cy_cap r) := cy_up_self _ _ _
  have e2 : (cy_sr s r (((s.1 r2).take j).take (cy_cap r))).1 r2 = s.1 r2 := cy_up_ne _ _ (Ne.symm hne)
  have e3 : cy_rat (cy_sr s r (((s.1 r2).take j).take (cy_cap r))) r2 (nI j) 0 = (s.1 r2)[j] := by
    rw [cy_rat, e2, cy_la, if_neg (nI_pos (by omega)), nI_clamp (by omega), List.getD_eq_getElem?_getD, List.getElem?_eq_getElem hj]
    rfl
  rw [e3, cy_radd, e1, cy_sr_sr]
  congr 1
  unfold cy_ladd
  rw [List.take_succ_eq_append_getElem hj]
  have hy : ((s.1 r2).take j).length = j := by rw [List.length_take]; omega
  generalize (s.1 r2)[j] = v
  generalize (s.1 r2).take j = ys at hy
  by_cases hc : j < cy_cap r
  · rw [List.take_of_length_le (i := cy_cap r) (l := ys) (by omega), if_pos (by omega), List.take_of_length_le (l := ys ++ [v]) (by rw [List.length_append, hy]; show j + 1 ≤ _; omega)]
  · rw [if_neg (by rw [List.length_take]; omega), List.take_append_of_le_length (by omega)]
set_option maxHeartbeats 4000000 in
theorem c_like {G : cy_G} {E : cy_E} {s : cy_S} {M : cy_Hp} {post : Option Value → cy_Hp → Prop} (hE : cy_Eo G E) (hR : cy_R E s M) {r : Nat} (hr : r < 58) {r2 : Nat} (hr2 : r2 < 58) (hne : r ≠ r2) (h : ∀ M', cy_R E (cy_rlike s r r2) M' → post none M') : cy_Ct G 1 m_Row_becomeLike [.ref (E.2.2.1 (2 * r)), .ref (E.2.2.1 (2 * r2))] M 0 0 post := by
  refine cy_Ct.of (by decide) (Nat.le_of_ble_eq_true rfl) ?_
  intro F C P _
  have C : cy_C G F R_Row b_Row_becomeLike 3 1 0 0 := C
  have P : cy_P G F none post 0 0 := P
  have hl31 : (s.1 r2).length < 2 ^ 31 := by
    obtain ⟨f, h1, h2, h3, h4⟩ := hR.1 r2 hr2
    exact Nat.lt_of_le_of_lt h3 (cy_cap_lt r2)
  have loop : ∀ (q j : Nat) (M1 : cy_Hp), j + q = (s.1 r2).length → cy_R E (cy_sr s r (((s.1 r2).take j).take (cy_cap r))) M1 → WM G F 3 0 0 7 [(2, .int (nI j)), (0, .ref (E.2.2.1 (2 * r))), (1, .ref (E.2.2.1 (2 * r2)))] [] M1 := by
    intro q
    induction q with
    | zero =>
      intro j M1 hj hR1
      have e2 : (cy_sr s r (((s.1 r2).take j).take (cy_cap r))).1 r2 = s.1 r2 := cy_up_ne _ _ (Ne.symm hne)
      refine wm_iload_n C d_Row_becomeLike_7 rfl (j := 0) rfl ?_
      refine wm_aload_n C d_Row_becomeLike_8 rfl (j := 2) rfl ?_
      refine wm_get C co_Row ((rp_row hR1 hr2).trans (by rw [e2])) 1 (by decide) fl_Row_19 rfl d_Row_becomeLike_9 ?_
      refine wm_icmp_ge (tgt := 31) C d_Row_becomeLike_12 (by decide) (fun (h_12 : (nI (s.1 r2).length) ≤ (nI j)) => ?_) (fun (h_12 : ¬ (nI (s.1 r2).length) ≤ (nI j)) => ?_)
      · refine wm_vret C P d_Row_becomeLike_31 ?_
        have e : (s.1 r2).take j = s.1 r2 := List.take_of_length_le (by omega)
        rw [e] at hR1
        exact h _ hR1
      · exact absurd (nI_le (show (s.1 r2).length ≤ j by omega) (by omega)) h_12
    | succ q ih =>
      intro j M1 hj hR1
      have e2 : (cy_sr s r (((s.1 r2).take j).take (cy_cap r))).1 r2 = s.1 r2 := cy_up_ne _ _ (Ne.symm hne)
      refine wm_iload_n C d_Row_becomeLike_7 rfl (j := 0) rfl ?_
      refine wm_aload_n C d_Row_becomeLike_8 rfl (j := 2) rfl ?_
      refine wm_get C co_Row ((rp_row hR1 hr2).trans (by rw [e2])) 1 (by decide) fl_Row_19 rfl d_Row_becomeLike_9 ?_
      refine wm_icmp_ge (tgt := 31) C d_Row_becomeLike_12 (by decide) (fun (h_12 : (nI (s.1 r2).length) ≤ (nI j)) => ?_) (fun (h_12 : ¬ (nI (s.1 r2).length) ≤ (nI j)) => ?_)
      · exact absurd h_12 (nI_ge (show j < (s.1 r2).length by omega) hl31)
      · refine wm_aload_n C d_Row_becomeLike_15 rfl (j := 1) rfl ?_
        refine wm_aload_n C d_Row_becomeLike_16 rfl (j := 2) rfl ?_
        refine wm_iload_n C d_Row_becomeLike_17 rfl (j := 0) rfl ?_
        refine wm_iconst (v := 0) C d_Row_becomeLike_18 (by decide) ?_
        refine wm_callV (d2 := 0) (mc := 0) (ms := 0) C mo_Row_at co_Row ml_Row_26 [.int (nI j), .int 0] [.ref (E.2.2.1 (2 * r))] rfl (rp_row hR1 hr2) rfl (by decide) (Nat.le_of_ble_eq_true rfl) (Nat.le_refl _) (Nat.le_refl _) d_Row_becomeLike_19 (cy_ki ?_)
        refine c_at hE hR1 hr2 _ _ ⟨_, rfl, ?_⟩
        refine wm_callV (d2 := 0) (mc := 0) (ms := 0) C mo_Row_add co_Row ml_Row_29 [.int (cy_rat (cy_sr s r (((s.1 r2).take j).take (cy_cap r))) r2 (nI j) 0)] [] rfl (rp_row hR1 hr) rfl (by decide) (Nat.le_of_ble_eq_true rfl) (Nat.le_refl _) (Nat.le_refl _) d_Row_becomeLike_22 (cy_kv ?_)
        refine c_add hE hR1 hr _ (fun M1 hR1 => ⟨rfl, ?_⟩)
        refine wm_iinc (v := (nI j) + 1) (lv' := [(2, .int ((nI j) + 1)), (0, .ref (E.2.2.1 (2 * r))), (1, .ref (E.2.2.1 (2 * r2)))]) C d_Row_becomeLike_25 (k := 0) rfl rfl (by decide) rfl ?_
        refine wm_goto (tgt := 7) C d_Row_becomeLike_28 (by decide) ?_
        rw [nI_1]
        refine ih (j + 1) _ (by omega) ?_
        have e : cy_radd (cy_sr s r (((s.1 r2).take j).take (cy_cap r))) r (cy_rat (cy_sr s r (((s.1 r2).take j).take (cy_cap r))) r2 (nI j) 0) = cy_sr s r (((s.1 r2).take (j + 1)).take (cy_cap r)) := cy_like_step hne (by omega) hl31
        rw [← e]
        exact hR1
  show WM G F 3 0 0 0 [(0, .ref (E.2.2.1 (2 * r))), (1, .ref (E.2.2.1 (2 * r2)))] [] M
  refine wm_aload_n C d_Row_becomeLike_0 rfl (j := 0) rfl ?_
  refine wm_iconst (v := 0) C d_Row_becomeLike_1 (by decide) ?_
  refine wm_put C co_Row (rp_row hR hr) 1 (by decide) fl_Row_19 rfl rfl rfl (Nat.le_of_ble_eq_true rfl) d_Row_becomeLike_2 ?_
  refine wm_gen (rp_p_count0 hE hR hr) (fun M1 hR1 => ?_)
  refine wm_iconst (v := 0) C d_Row_becomeLike_5 (by decide) ?_
  refine wm_istore_n (lv' := [(2, .int 0), (0, .ref (E.2.2.1 (2 * r))), (1, .ref (E.2.2.1 (2 * r2)))]) C d_Row_becomeLike_6 rfl (by decide) rfl ?_
  refine loop _ 0 _ (Nat.zero_add _) ?_
  rw [List.take_zero, List.take_nil]
  exact hR1
abbrev cy_bad (i : Int32) : Prop := i < 0 ∨ nI 8 ≤ i
theorem cy_bad_lt8 {i : Int32} (h : ¬ cy_bad i) : i.toNatClampNeg < 8 := by
  obtain ⟨j, hj, rfl⟩ := nI_of (fun q => h (Or.inl q))
  rw [nI_clamp hj]
  exact Nat.lt_of_not_le fun q => h (Or.inr (nI_le q hj))
theorem cy_bad_lt {i : Int32} (h : ¬ cy_bad i) : i.toNatClampNeg < 9 := Nat.lt_succ_of_lt (cy_bad_lt8 h)
theorem cy_lt_out {j : Nat} (h : j < 8) (_ : ¬ j = 0) : j - 1 < 8 := by omega
theorem cy_lt_in {j : Nat} (h : j < 8) (h7 : ¬ j = 7) : j + 1 < 8 := by omega
theorem cy_outer_n {j : Nat} {a : Nat} {v0 : Value} {vs : List Value} (h : j = 0) : (v0 :: va_rf (if j = 0 then none else some a) :: vs)[1]? = some .null := by rw [if_pos h]; rfl
theorem cy_outer_s {j : Nat} {a : Nat} {v0 : Value} {vs : List Value} (h : ¬ j = 0) : (v0 :: va_rf (if j = 0 then none else some a) :: vs)[1]? = some (.ref a) := by rw [if_neg h]; rfl
theorem cy_inner_n {j : Nat} {a : Nat} {v0 v1 : Value} {vs : List Value} (h : j = 7) : (v0 :: v1 :: va_rf (if j = 7 then none else some a) :: vs)[2]? = some .null := by rw [if_pos h]; rfl
theorem cy_inner_s {j : Nat} {a : Nat} {v0 v1 : Value} {vs : List Value} (h : ¬ j = 7) : (v0 :: v1 :: va_rf (if j = 7 then none else some a) :: vs)[2]? = some (.ref a) := by rw [if_neg h]; rfl
set_option maxHeartbeats 4000000 in
theorem c_slot {G : cy_G} {E : cy_E} {s : cy_S} {M : cy_Hp} {post : Option Value → cy_Hp → Prop} (hE : cy_Eo G E) (hR : cy_R E s M) (i : Int32) (hN : cy_bad i → post (some .null) M) (hS : ¬ cy_bad i → post (some (.ref (E.2.2.1 (116 + i.toNatClampNeg)))) M) : cy_Ct G 0 m_Shelf_slot [.ref (E.2.2.1 134), .int i] M 0 0 post := by
  refine cy_Ct.of (by decide) (Nat.le_of_ble_eq_true rfl) ?_
  intro F C P _
  have C : cy_C G F R_Shelf b_Shelf_slot 2 0 0 0 := C
  have P : cy_P G F (some (.object "CodeYard$Code")) post 0 0 := P
  show WM G F 2 0 0 0 [(0, .ref (E.2.2.1 134)), (1, .int i)] [] M
  refine wm_iload_n C d_Shelf_slot_0 rfl (j := 1) rfl ?_
  refine wm_if_lt (tgt := 22) C d_Shelf_slot_1 (by decide) (fun (h_1 : i < 0) => ?_) (fun (h_1 : ¬ i < 0) => ?_)
  · refine wm_null C d_Shelf_slot_22 ?_
    refine wm_aret C P (Or.inl ⟨_, rfl⟩) (Or.inl rfl) d_Shelf_slot_23 ?_
    exact hN (Or.inl h_1)
  · refine wm_iload_n C d_Shelf_slot_4 rfl (j := 1) rfl ?_
    refine wm_aload_n C d_Shelf_slot_5 rfl (j := 0) rfl ?_
    refine wm_get C co_Shelf (rp_shelf hR) 0 (by decide) fl_Shelf_11 rfl d_Shelf_slot_6 ?_
    refine wm_alen C (rp_codes hR) hE.2.1 d_Shelf_slot_9 ?_
    refine wm_icmp_ge (tgt := 22) C d_Shelf_slot_10 (by decide) (fun (h_10 : (nI 8) ≤ i) => ?_) (fun (h_10 : ¬ (nI 8) ≤ i) => ?_)
    · refine wm_null C d_Shelf_slot_22 ?_
      refine wm_aret C P (Or.inl ⟨_, rfl⟩) (Or.inl rfl) d_Shelf_slot_23 ?_
      exact hN (Or.inr h_10)
    · refine wm_aload_n C d_Shelf_slot_13 rfl (j := 0) rfl ?_
      refine wm_get C co_Shelf (rp_shelf hR) 0 (by decide) fl_Shelf_11 rfl d_Shelf_slot_14 ?_
      refine wm_iload_n C d_Shelf_slot_17 rfl (j := 1) rfl ?_
      refine wm_aald C (rp_codes hR) hE.2.1 (cy_inOf (n := 8) (cap := 8) h_1 h_10 (Nat.le_refl _) (by decide)) d_Shelf_slot_18 ?_
      rw [if_pos (cy_bad_lt8 (fun q => q.elim h_1 h_10))]
      refine wm_goto (tgt := 23) C d_Shelf_slot_19 (by decide) ?_
      refine wm_aret C P (Or.inl ⟨_, rfl⟩) (Or.inr ⟨_, rfl⟩) d_Shelf_slot_23 ?_
      exact hS (fun q => q.elim h_1 h_10)
theorem c_slot_in {G : cy_G} {E : cy_E} {s : cy_S} {M : cy_Hp} {post : Option Value → cy_Hp → Prop} (hE : cy_Eo G E) (hR : cy_R E s M) {k : Nat} (hk : k < 8) (h : post (some (.ref (E.2.2.1 (116 + k)))) M) : cy_Ct G 0 m_Shelf_slot [.ref (E.2.2.1 134), .int (nI k)] M 0 0 post := by
  refine c_slot hE hR (nI k) (fun q => ?_) (fun _ => ?_)
  · rcases q with q | q
    · exact absurd q (nI_pos (by omega))
    · exact absurd q (nI_ge hk (by decide))
  · rw [nI_clamp (by omega)]; exact h
