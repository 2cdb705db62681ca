abbrev cy_no (s : cy_S) (i : Int32) : Prop := cy_bad i ∨ cy_Code_isTaken s i.toNatClampNeg = 0
theorem cy_no_lt8 {s : cy_S} {i : Int32} (h : ¬ cy_no s i) : i.toNatClampNeg < 8 := cy_bad_lt8 (fun q => h (Or.inl q))
theorem cy_no_lt {s : cy_S} {i : Int32} (h : ¬ cy_no s i) : i.toNatClampNeg < 9 := Nat.lt_succ_of_lt (cy_no_lt8 h)
set_option maxHeartbeats 4000000 in
theorem c_taken {G : cy_G} {E : cy_E} {s : cy_S} {M : cy_Hp} {post : Option Value → cy_Hp → Prop} (hE : cy_Eo G E) (hR : cy_R E s M) (i : Int32) (hN : cy_no s i → post (some .null) M) (hS : ¬ cy_no s i → post (some (.ref (E.2.2.1 (116 + i.toNatClampNeg)))) M) : cy_Ct G 1 m_Shelf_taken [.ref (E.2.2.1 134), .int i] M 0 0 post := by
  refine cy_Ct.of (by decide) (Nat.le_of_ble_eq_true rfl) ?_
  intro F C P _
  have C : cy_C G F R_Shelf b_Shelf_taken 3 1 0 0 := C
  have P : cy_P G F (some (.object "CodeYard$Code")) post 0 0 := P
  show WM G F 3 0 0 0 [(0, .ref (E.2.2.1 134)), (1, .int i)] [] M
  refine wm_aload_n C d_Shelf_taken_0 rfl (j := 0) rfl ?_
  refine wm_iload_n C d_Shelf_taken_1 rfl (j := 1) rfl ?_
  refine wm_callV (d2 := 0) (mc := 0) (ms := 0) C mo_Shelf_slot co_Shelf ml_Shelf_20 [.int i] [] rfl (rp_shelf hR) rfl (by decide) (Nat.le_of_ble_eq_true rfl) (Nat.le_refl _) (Nat.le_refl _) d_Shelf_taken_2 (cy_ki ?_)
  refine c_slot hE hR _ (fun (g_2 : cy_bad i) => ⟨_, rfl, ?_⟩) (fun (g_2 : ¬ cy_bad i) => ⟨_, rfl, ?_⟩)
  · refine wm_astore_nN (lv' := [(2, .null), (0, .ref (E.2.2.1 134)), (1, .int i)]) C d_Shelf_taken_5 rfl (by decide) rfl ?_
    refine wm_aload_nN C d_Shelf_taken_6 rfl (j := 0) rfl ?_
    refine wm_ifnullN (tgt := 21) C d_Shelf_taken_7 (by decide) ?_
    refine wm_null C d_Shelf_taken_21 ?_
    refine wm_aret C P (Or.inl ⟨_, rfl⟩) (Or.inl rfl) d_Shelf_taken_22 ?_
    exact hN (Or.inl g_2)
  · refine wm_astore_n (lv' := [(2, .ref (E.2.2.1 (116 + i.toNatClampNeg))), (0, .ref (E.2.2.1 134)), (1, .int i)]) C d_Shelf_taken_5 rfl (by decide) rfl ?_
    refine wm_aload_n C d_Shelf_taken_6 rfl (j := 0) rfl ?_
    refine wm_ifnull C d_Shelf_taken_7 ?_
    refine wm_aload_n C d_Shelf_taken_10 rfl (j := 0) rfl ?_
    refine wm_callVN (d2 := 0) (mc := 0) (ms := 0) C mo_Code_isTaken co_Code ml_Shelf_24 [] [] rfl (rp_code hR (cy_bad_lt g_2)) rfl (by decide) (Nat.le_of_ble_eq_true rfl) (Nat.le_refl _) (Nat.le_refl _) d_Shelf_taken_11 (cy_ki ?_)
    refine c_Code_isTaken hE hR (cy_bad_lt g_2)  ⟨_, rfl, ?_⟩
    refine wm_if_eq (tgt := 21) C d_Shelf_taken_14 (by decide) (fun (h_14 : (cy_Code_isTaken s i.toNatClampNeg) = 0) => ?_) (fun (h_14 : ¬ (cy_Code_isTaken s i.toNatClampNeg) = 0) => ?_)
    · refine wm_null C d_Shelf_taken_21 ?_
      refine wm_aret C P (Or.inl ⟨_, rfl⟩) (Or.inl rfl) d_Shelf_taken_22 ?_
      exact hN (Or.inr h_14)
    · refine wm_aload_n C d_Shelf_taken_17 rfl (j := 0) rfl ?_
      refine wm_goto (tgt := 22) C d_Shelf_taken_18 (by decide) ?_
      refine wm_aret C P (Or.inl ⟨_, rfl⟩) (Or.inr ⟨_, rfl⟩) d_Shelf_taken_22 ?_
      exact hS (fun q => q.elim g_2 h_14)
