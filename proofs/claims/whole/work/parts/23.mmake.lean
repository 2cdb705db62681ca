def md_s0 : md_S := (fun _ _ => 0, fun _ => 0)
set_option maxHeartbeats 8000000 in
set_option maxRecDepth 4000 in
theorem k_init {G : cy_G} {cI cB cZ : ClassId} (hG : G.2.2.1[0]? = some (cI, .int)) (hG2 : G.2.2.1[2]? = some (cB, .byte)) (hG3 : G.2.2.1[3]? = some (cZ, .boolean)) {M : cy_Hp} {q : Nat} {post : Option Value → cy_Hp → Prop} (hq : M q = some (.inr (7, [.null, .int 0, .null, .null, .null, .null, .null, .int 0, .null, .null, .null, .int 0, .int 0, .int 0, .int 0, .int 0, .int 0, .int 0, .int 0, .int 0, .null, .null, .null, .null, .null, .null, .int 0, .null, .int 0]))) (hz0 : cy_top G M (q + 1)) (h : ∀ M', md_R (cI, cB, cZ, q, M') md_s0 M' → (∀ x, x < q → M' x = M x) → cy_top G M' (q + 17) → post none M') : cy_Ct G 1 m_Model_init [.ref q] M 16 6079 post := by
  obtain ⟨z, hqz1⟩ : ∃ z, z = q + 1 := ⟨_, rfl⟩
  have hz : cy_top G M z := by rw [hqz1]; exact hz0
  have hqz : q < z := by omega
  refine cy_Ct.of (by decide) (Nat.le_of_ble_eq_true rfl) ?_
  intro F C P hN
  have hN := hN rfl
  have hb : ∀ x, x ≠ q → x < z → M x = M x := fun _ _ _ => rfl
  have C : cy_C G F R_Model b_Model_init 1 1 16 6079 := C
  have P : cy_P G F none post 16 6079 := P
  show WM G F 1 0 0 0 [(0, .ref q)] [] M
  refine wm_aload_n C d_Model_init_0 rfl (j := 0) rfl ?_
  refine wm_obj C ml_Model_1 ob_i ob_c (by decide) (Nat.le_of_ble_eq_true rfl) d_Model_init_1 ?_
  refine wm_aload_n C d_Model_init_4 rfl (j := 0) rfl ?_
  refine wm_sipush (v := 300) C d_Model_init_5 (by decide) ?_
  refine wm_newb C hG2 aw_byte (N := 300) (by decide) (by decide) (by decide) (by decide) (by decide) d_Model_init_8 (fun q1 hq1 => ?_)
  rw [cy_top_eq hz hq1]
  have t1 := cy_top_new (e := .inl (cB, 300, .inl (fun _ => 0))) hz
  generalize hM1 : cy_set M (z) (.inl (cB, 300, .inl (fun _ => 0))) = M1 at t1 ⊢
  have f1_0 : M1 (q) = some (.inr (7, [.null, .int 0, .null, .null, .null, .null, .null, .int 0, .null, .null, .null, .int 0, .int 0, .int 0, .int 0, .int 0, .int 0, .int 0, .int 0, .int 0, .null, .null, .null, .null, .null, .null, .int 0, .null, .int 0])) := by rw [← hM1, cy_set_ne _ _ (by omega)]; exact hq
  have g1 : M1 (z) = some (.inl (cB, 300, .inl (fun _ => 0))) := by rw [← hM1, cy_set_self]
  have b1 : ∀ x, x ≠ q → x < z → M1 x = M x := fun x h1 h2 => by rw [← hM1]; exact (cy_set_ne _ _ (by omega)).trans (hb x h1 h2)
  refine wm_putF C hN co_Model f1_0 0 (by decide) fl_Model_7 rfl rfl rfl rfl (Nat.le_of_ble_eq_true rfl) d_Model_init_10 ?_
  have hM2 : ∃ X, X = cy_set M1 (q) (.inr (7, [.ref z, .int 0, .null, .null, .null, .null, .null, .int 0, .null, .null, .null, .int 0, .int 0, .int 0, .int 0, .int 0, .int 0, .int 0, .int 0, .int 0, .null, .null, .null, .null, .null, .null, .int 0, .null, .int 0])) := ⟨_, rfl⟩
  obtain ⟨M2, hM2⟩ := hM2
  refine wm_eqM (M2 := M2) hM2 ?_
  have f2_0 : M2 (z) = some (.inl (cB, 300, .inl (fun _ => 0))) := by rw [hM2, cy_set_ne _ _ (by omega)]; exact g1
  have g2 : M2 (q) = some (.inr (7, [.ref z, .int 0, .null, .null, .null, .null, .null, .int 0, .null, .null, .null, .int 0, .int 0, .int 0, .int 0, .int 0, .int 0, .int 0, .int 0, .int 0, .null, .null, .null, .null, .null, .null, .int 0, .null, .int 0])) := by rw [hM2, cy_set_self]
  have t2 : cy_top G M2 (z + 1) := by rw [hM2]; exact cy_top_set t1 (by omega)
  have b2 : ∀ x, x ≠ q → x < z → M2 x = M x := fun x h1 h2 => by rw [hM2]; exact (cy_set_ne _ _ (by omega)).trans (b1 x h1 h2)
  refine wm_aload_n C d_Model_init_13 rfl (j := 0) rfl ?_
  refine wm_sipush (v := 2048) C d_Model_init_14 (by decide) ?_
  refine wm_newb C hG2 aw_byte (N := 2048) (by decide) (by decide) (by decide) (by decide) (by decide) d_Model_init_17 (fun q3 hq3 => ?_)
  rw [cy_top_eq t2 hq3]
  have t3 := cy_top_new (e := .inl (cB, 2048, .inl (fun _ => 0))) t2
  generalize hM3 : cy_set M2 (z + 1) (.inl (cB, 2048, .inl (fun _ => 0))) = M3 at t3 ⊢
  have f3_0 : M3 (z) = some (.inl (cB, 300, .inl (fun _ => 0))) := by rw [← hM3, cy_set_ne _ _ (by omega)]; exact f2_0
  have f3_1 : M3 (q) = some (.inr (7, [.ref z, .int 0, .null, .null, .null, .null, .null, .int 0, .null, .null, .null, .int 0, .int 0, .int 0, .int 0, .int 0, .int 0, .int 0, .int 0, .int 0, .null, .null, .null, .null, .null, .null, .int 0, .null, .int 0])) := by rw [← hM3, cy_set_ne _ _ (by omega)]; exact g2
  have g3 : M3 (z + 1) = some (.inl (cB, 2048, .inl (fun _ => 0))) := by rw [← hM3, cy_set_self]
  have b3 : ∀ x, x ≠ q → x < z → M3 x = M x := fun x h1 h2 => by rw [← hM3]; exact (cy_set_ne _ _ (by omega)).trans (b2 x h1 h2)
  refine wm_putF C hN co_Model f3_1 2 (by decide) fl_Model_13 rfl rfl rfl rfl (Nat.le_of_ble_eq_true rfl) d_Model_init_19 ?_
  have hM4 : ∃ X, X = cy_set M3 (q) (.inr (7, [.ref z, .int 0, .ref (z + 1), .null, .null, .null, .null, .int 0, .null, .null, .null, .int 0, .int 0, .int 0, .int 0, .int 0, .int 0, .int 0, .int 0, .int 0, .null, .null, .null, .null, .null, .null, .int 0, .null, .int 0])) := ⟨_, rfl⟩
  obtain ⟨M4, hM4⟩ := hM4
  refine wm_eqM (M2 := M4) hM4 ?_
  have f4_0 : M4 (z) = some (.inl (cB, 300, .inl (fun _ => 0))) := by rw [hM4, cy_set_ne _ _ (by omega)]; exact f3_0
  have f4_1 : M4 (z + 1) = some (.inl (cB, 2048, .inl (fun _ => 0))) := by rw [hM4, cy_set_ne _ _ (by omega)]; exact g3
  have g4 : M4 (q) = some (.inr (7, [.ref z, .int 0, .ref (z + 1), .null, .null, .null, .null, .int 0, .null, .null, .null, .int 0, .int 0, .int 0, .int 0, .int 0, .int 0, .int 0, .int 0, .int 0, .null, .null, .null, .null, .null, .null, .int 0, .null, .int 0])) := by rw [hM4, cy_set_self]
  have t4 : cy_top G M4 (z + 2) := by rw [hM4]; exact cy_top_set t3 (by omega)
  have b4 : ∀ x, x ≠ q → x < z → M4 x = M x := fun x h1 h2 => by rw [hM4]; exact (cy_set_ne _ _ (by omega)).trans (b3 x h1 h2)
  refine wm_aload_n C d_Model_init_22 rfl (j := 0) rfl ?_
  refine wm_bipush (v := 8) C d_Model_init_23 (by decide) ?_
  refine wm_newa C hG aw_int (N := 8) (by decide) (by decide) (by decide) (by decide) (by decide) d_Model_init_25 (fun q5 hq5 => ?_)
  rw [cy_top_eq t4 hq5]
  have t5 := cy_top_new (e := .inl (cI, 8, .inl (fun _ => 0))) t4
  generalize hM5 : cy_set M4 (z + 2) (.inl (cI, 8, .inl (fun _ => 0))) = M5 at t5 ⊢
  have f5_0 : M5 (z) = some (.inl (cB, 300, .inl (fun _ => 0))) := by rw [← hM5, cy_set_ne _ _ (by omega)]; exact f4_0
  have f5_1 : M5 (z + 1) = some (.inl (cB, 2048, .inl (fun _ => 0))) := by rw [← hM5, cy_set_ne _ _ (by omega)]; exact f4_1
  have f5_2 : M5 (q) = some (.inr (7, [.ref z, .int 0, .ref (z + 1), .null, .null, .null, .null, .int 0, .null, .null, .null, .int 0, .int 0, .int 0, .int 0, .int 0, .int 0, .int 0, .int 0, .int 0, .null, .null, .null, .null, .null, .null, .int 0, .null, .int 0])) := by rw [← hM5, cy_set_ne _ _ (by omega)]; exact g4
  have g5 : M5 (z + 2) = some (.inl (cI, 8, .inl (fun _ => 0))) := by rw [← hM5, cy_set_self]
  have b5 : ∀ x, x ≠ q → x < z → M5 x = M x := fun x h1 h2 => by rw [← hM5]; exact (cy_set_ne _ _ (by omega)).trans (b4 x h1 h2)
  refine wm_putF C hN co_Model f5_2 3 (by decide) fl_Model_16 rfl rfl rfl rfl (Nat.le_of_ble_eq_true rfl) d_Model_init_27 ?_
  have hM6 : ∃ X, X = cy_set M5 (q) (.inr (7, [.ref z, .int 0, .ref (z + 1), .ref (z + 2), .null, .null, .null, .int 0, .null, .null, .null, .int 0, .int 0, .int 0, .int 0, .int 0, .int 0, .int 0, .int 0, .int 0, .null, .null, .null, .null, .null, .null, .int 0, .null, .int 0])) := ⟨_, rfl⟩
  obtain ⟨M6, hM6⟩ := hM6
  refine wm_eqM (M2 := M6) hM6 ?_
  have f6_0 : M6 (z) = some (.inl (cB, 300, .inl (fun _ => 0))) := by rw [hM6, cy_set_ne _ _ (by omega)]; exact f5_0
  have f6_1 : M6 (z + 1) = some (.inl (cB, 2048, .inl (fun _ => 0))) := by rw [hM6, cy_set_ne _ _ (by omega)]; exact f5_1
  have f6_2 : M6 (z + 2) = some (.inl (cI, 8, .inl (fun _ => 0))) := by rw [hM6, cy_set_ne _ _ (by omega)]; exact g5
  have g6 : M6 (q) = some (.inr (7, [.ref z, .int 0, .ref (z + 1), .ref (z + 2), .null, .null, .null, .int 0, .null, .null, .null, .int 0, .int 0, .int 0, .int 0, .int 0, .int 0, .int 0, .int 0, .int 0, .null, .null, .null, .null, .null, .null, .int 0, .null, .int 0])) := by rw [hM6, cy_set_self]
  have t6 : cy_top G M6 (z + 3) := by rw [hM6]; exact cy_top_set t5 (by omega)
  have b6 : ∀ x, x ≠ q → x < z → M6 x = M x := fun x h1 h2 => by rw [hM6]; exact (cy_set_ne _ _ (by omega)).trans (b5 x h1 h2)
  refine wm_aload_n C d_Model_init_30 rfl (j := 0) rfl ?_
  refine wm_sipush (v := 2048) C d_Model_init_31 (by decide) ?_
  refine wm_newa C hG aw_int (N := 2048) (by decide) (by decide) (by decide) (by decide) (by decide) d_Model_init_34 (fun q7 hq7 => ?_)
  rw [cy_top_eq t6 hq7]
  have t7 := cy_top_new (e := .inl (cI, 2048, .inl (fun _ => 0))) t6
  generalize hM7 : cy_set M6 (z + 3) (.inl (cI, 2048, .inl (fun _ => 0))) = M7 at t7 ⊢
  have f7_0 : M7 (z) = some (.inl (cB, 300, .inl (fun _ => 0))) := by rw [← hM7, cy_set_ne _ _ (by omega)]; exact f6_0
  have f7_1 : M7 (z + 1) = some (.inl (cB, 2048, .inl (fun _ => 0))) := by rw [← hM7, cy_set_ne _ _ (by omega)]; exact f6_1
  have f7_2 : M7 (z + 2) = some (.inl (cI, 8, .inl (fun _ => 0))) := by rw [← hM7, cy_set_ne _ _ (by omega)]; exact f6_2
  have f7_3 : M7 (q) = some (.inr (7, [.ref z, .int 0, .ref (z + 1), .ref (z + 2), .null, .null, .null, .int 0, .null, .null, .null, .int 0, .int 0, .int 0, .int 0, .int 0, .int 0, .int 0, .int 0, .int 0, .null, .null, .null, .null, .null, .null, .int 0, .null, .int 0])) := by rw [← hM7, cy_set_ne _ _ (by omega)]; exact g6
  have g7 : M7 (z + 3) = some (.inl (cI, 2048, .inl (fun _ => 0))) := by rw [← hM7, cy_set_self]
  have b7 : ∀ x, x ≠ q → x < z → M7 x = M x := fun x h1 h2 => by rw [← hM7]; exact (cy_set_ne _ _ (by omega)).trans (b6 x h1 h2)
  refine wm_putF C hN co_Model f7_3 4 (by decide) fl_Model_20 rfl rfl rfl rfl (Nat.le_of_ble_eq_true rfl) d_Model_init_36 ?_
  have hM8 : ∃ X, X = cy_set M7 (q) (.inr (7, [.ref z, .int 0, .ref (z + 1), .ref (z + 2), .ref (z + 3), .null, .null, .int 0, .null, .null, .null, .int 0, .int 0, .int 0, .int 0, .int 0, .int 0, .int 0, .int 0, .int 0, .null, .null, .null, .null, .null, .null, .int 0, .null, .int 0])) := ⟨_, rfl⟩
  obtain ⟨M8, hM8⟩ := hM8
  refine wm_eqM (M2 := M8) hM8 ?_
  have f8_0 : M8 (z) = some (.inl (cB, 300, .inl (fun _ => 0))) := by rw [hM8, cy_set_ne _ _ (by omega)]; exact f7_0
  have f8_1 : M8 (z + 1) = some (.inl (cB, 2048, .inl (fun _ => 0))) := by rw [hM8, cy_set_ne _ _ (by omega)]; exact f7_1
  have f8_2 : M8 (z + 2) = some (.inl (cI, 8, .inl (fun _ => 0))) := by rw [hM8, cy_set_ne _ _ (by omega)]; exact f7_2
  have f8_3 : M8 (z + 3) = some (.inl (cI, 2048, .inl (fun _ => 0))) := by rw [hM8, cy_set_ne _ _ (by omega)]; exact g7
  have g8 : M8 (q) = some (.inr (7, [.ref z, .int 0, .ref (z + 1), .ref (z + 2), .ref (z + 3), .null, .null, .int 0, .null, .null, .null, .int 0, .int 0, .int 0, .int 0, .int 0, .int 0, .int 0, .int 0, .int 0, .null, .null, .null, .null, .null, .null, .int 0, .null, .int 0])) := by rw [hM8, cy_set_self]
  have t8 : cy_top G M8 (z + 4) := by rw [hM8]; exact cy_top_set t7 (by omega)
  have b8 : ∀ x, x ≠ q → x < z → M8 x = M x := fun x h1 h2 => by rw [hM8]; exact (cy_set_ne _ _ (by omega)).trans (b7 x h1 h2)
  refine wm_aload_n C d_Model_init_39 rfl (j := 0) rfl ?_
  refine wm_sipush (v := 128) C d_Model_init_40 (by decide) ?_
  refine wm_newa C hG aw_int (N := 128) (by decide) (by decide) (by decide) (by decide) (by decide) d_Model_init_43 (fun q9 hq9 => ?_)
  rw [cy_top_eq t8 hq9]
  have t9 := cy_top_new (e := .inl (cI, 128, .inl (fun _ => 0))) t8
  generalize hM9 : cy_set M8 (z + 4) (.inl (cI, 128, .inl (fun _ => 0))) = M9 at t9 ⊢
  have f9_0 : M9 (z) = some (.inl (cB, 300, .inl (fun _ => 0))) := by rw [← hM9, cy_set_ne _ _ (by omega)]; exact f8_0
  have f9_1 : M9 (z + 1) = some (.inl (cB, 2048, .inl (fun _ => 0))) := by rw [← hM9, cy_set_ne _ _ (by omega)]; exact f8_1
  have f9_2 : M9 (z + 2) = some (.inl (cI, 8, .inl (fun _ => 0))) := by rw [← hM9, cy_set_ne _ _ (by omega)]; exact f8_2
  have f9_3 : M9 (z + 3) = some (.inl (cI, 2048, .inl (fun _ => 0))) := by rw [← hM9, cy_set_ne _ _ (by omega)]; exact f8_3
  have f9_4 : M9 (q) = some (.inr (7, [.ref z, .int 0, .ref (z + 1), .ref (z + 2), .ref (z + 3), .null, .null, .int 0, .null, .null, .null, .int 0, .int 0, .int 0, .int 0, .int 0, .int 0, .int 0, .int 0, .int 0, .null, .null, .null, .null, .null, .null, .int 0, .null, .int 0])) := by rw [← hM9, cy_set_ne _ _ (by omega)]; exact g8
  have g9 : M9 (z + 4) = some (.inl (cI, 128, .inl (fun _ => 0))) := by rw [← hM9, cy_set_self]
  have b9 : ∀ x, x ≠ q → x < z → M9 x = M x := fun x h1 h2 => by rw [← hM9]; exact (cy_set_ne _ _ (by omega)).trans (b8 x h1 h2)
  refine wm_putF C hN co_Model f9_4 5 (by decide) fl_Model_23 rfl rfl rfl rfl (Nat.le_of_ble_eq_true rfl) d_Model_init_45 ?_
  have hM10 : ∃ X, X = cy_set M9 (q) (.inr (7, [.ref z, .int 0, .ref (z + 1), .ref (z + 2), .ref (z + 3), .ref (z + 4), .null, .int 0, .null, .null, .null, .int 0, .int 0, .int 0, .int 0, .int 0, .int 0, .int 0, .int 0, .int 0, .null, .null, .null, .null, .null, .null, .int 0, .null, .int 0])) := ⟨_, rfl⟩
  obtain ⟨M10, hM10⟩ := hM10
  refine wm_eqM (M2 := M10) hM10 ?_
  have f10_0 : M10 (z) = some (.inl (cB, 300, .inl (fun _ => 0))) := by rw [hM10, cy_set_ne _ _ (by omega)]; exact f9_0
  have f10_1 : M10 (z + 1) = some (.inl (cB, 2048, .inl (fun _ => 0))) := by rw [hM10, cy_set_ne _ _ (by omega)]; exact f9_1
  have f10_2 : M10 (z + 2) = some (.inl (cI, 8, .inl (fun _ => 0))) := by rw [hM10, cy_set_ne _ _ (by omega)]; exact f9_2
  have f10_3 : M10 (z + 3) = some (.inl (cI, 2048, .inl (fun _ => 0))) := by rw [hM10, cy_set_ne _ _ (by omega)]; exact f9_3
  have f10_4 : M10 (z + 4) = some (.inl (cI, 128, .inl (fun _ => 0))) := by rw [hM10, cy_set_ne _ _ (by omega)]; exact g9
  have g10 : M10 (q) = some (.inr (7, [.ref z, .int 0, .ref (z + 1), .ref (z + 2), .ref (z + 3), .ref (z + 4), .null, .int 0, .null, .null, .null, .int 0, .int 0, .int 0, .int 0, .int 0, .int 0, .int 0, .int 0, .int 0, .null, .null, .null, .null, .null, .null, .int 0, .null, .int 0])) := by rw [hM10, cy_set_self]
  have t10 : cy_top G M10 (z + 5) := by rw [hM10]; exact cy_top_set t9 (by omega)
  have b10 : ∀ x, x ≠ q → x < z → M10 x = M x := fun x h1 h2 => by rw [hM10]; exact (cy_set_ne _ _ (by omega)).trans (b9 x h1 h2)
  refine wm_aload_n C d_Model_init_48 rfl (j := 0) rfl ?_
  refine wm_sipush (v := 128) C d_Model_init_49 (by decide) ?_
  refine wm_newa C hG aw_int (N := 128) (by decide) (by decide) (by decide) (by decide) (by decide) d_Model_init_52 (fun q11 hq11 => ?_)
  rw [cy_top_eq t10 hq11]
  have t11 := cy_top_new (e := .inl (cI, 128, .inl (fun _ => 0))) t10
  generalize hM11 : cy_set M10 (z + 5) (.inl (cI, 128, .inl (fun _ => 0))) = M11 at t11 ⊢
  have f11_0 : M11 (z) = some (.inl (cB, 300, .inl (fun _ => 0))) := by rw [← hM11, cy_set_ne _ _ (by omega)]; exact f10_0
  have f11_1 : M11 (z + 1) = some (.inl (cB, 2048, .inl (fun _ => 0))) := by rw [← hM11, cy_set_ne _ _ (by omega)]; exact f10_1
  have f11_2 : M11 (z + 2) = some (.inl (cI, 8, .inl (fun _ => 0))) := by rw [← hM11, cy_set_ne _ _ (by omega)]; exact f10_2
  have f11_3 : M11 (z + 3) = some (.inl (cI, 2048, .inl (fun _ => 0))) := by rw [← hM11, cy_set_ne _ _ (by omega)]; exact f10_3
  have f11_4 : M11 (z + 4) = some (.inl (cI, 128, .inl (fun _ => 0))) := by rw [← hM11, cy_set_ne _ _ (by omega)]; exact f10_4
  have f11_5 : M11 (q) = some (.inr (7, [.ref z, .int 0, .ref (z + 1), .ref (z + 2), .ref (z + 3), .ref (z + 4), .null, .int 0, .null, .null, .null, .int 0, .int 0, .int 0, .int 0, .int 0, .int 0, .int 0, .int 0, .int 0, .null, .null, .null, .null, .null, .null, .int 0, .null, .int 0])) := by rw [← hM11, cy_set_ne _ _ (by omega)]; exact g10
  have g11 : M11 (z + 5) = some (.inl (cI, 128, .inl (fun _ => 0))) := by rw [← hM11, cy_set_self]
  have b11 : ∀ x, x ≠ q → x < z → M11 x = M x := fun x h1 h2 => by rw [← hM11]; exact (cy_set_ne _ _ (by omega)).trans (b10 x h1 h2)
  refine wm_putF C hN co_Model f11_5 6 (by decide) fl_Model_26 rfl rfl rfl rfl (Nat.le_of_ble_eq_true rfl) d_Model_init_54 ?_
  have hM12 : ∃ X, X = cy_set M11 (q) (.inr (7, [.ref z, .int 0, .ref (z + 1), .ref (z + 2), .ref (z + 3), .ref (z + 4), .ref (z + 5), .int 0, .null, .null, .null, .int 0, .int 0, .int 0, .int 0, .int 0, .int 0, .int 0, .int 0, .int 0, .null, .null, .null, .null, .null, .null, .int 0, .null, .int 0])) := ⟨_, rfl⟩
  obtain ⟨M12, hM12⟩ := hM12
  refine wm_eqM (M2 := M12) hM12 ?_
  have f12_0 : M12 (z) = some (.inl (cB, 300, .inl (fun _ => 0))) := by rw [hM12, cy_set_ne _ _ (by omega)]; exact f11_0
  have f12_1 : M12 (z + 1) = some (.inl (cB, 2048, .inl (fun _ => 0))) := by rw [hM12, cy_set_ne _ _ (by omega)]; exact f11_1
  have f12_2 : M12 (z + 2) = some (.inl (cI, 8, .inl (fun _ => 0))) := by rw [hM12, cy_set_ne _ _ (by omega)]; exact f11_2
  have f12_3 : M12 (z + 3) = some (.inl (cI, 2048, .inl (fun _ => 0))) := by rw [hM12, cy_set_ne _ _ (by omega)]; exact f11_3
  have f12_4 : M12 (z + 4) = some (.inl (cI, 128, .inl (fun _ => 0))) := by rw [hM12, cy_set_ne _ _ (by omega)]; exact f11_4
  have f12_5 : M12 (z + 5) = some (.inl (cI, 128, .inl (fun _ => 0))) := by rw [hM12, cy_set_ne _ _ (by omega)]; exact g11
  have g12 : M12 (q) = some (.inr (7, [.ref z, .int 0, .ref (z + 1), .ref (z + 2), .ref (z + 3), .ref (z + 4), .ref (z + 5), .int 0, .null, .null, .null, .int 0, .int 0, .int 0, .int 0, .int 0, .int 0, .int 0, .int 0, .int 0, .null, .null, .null, .null, .null, .null, .int 0, .null, .int 0])) := by rw [hM12, cy_set_self]
  have t12 : cy_top G M12 (z + 6) := by rw [hM12]; exact cy_top_set t11 (by omega)
  have b12 : ∀ x, x ≠ q → x < z → M12 x = M x := fun x h1 h2 => by rw [hM12]; exact (cy_set_ne _ _ (by omega)).trans (b11 x h1 h2)
  refine wm_aload_n C d_Model_init_57 rfl (j := 0) rfl ?_
  refine wm_sipush (v := 301) C d_Model_init_58 (by decide) ?_
  refine wm_newz C hG3 aw_boolean (N := 301) (by decide) (by decide) (by decide) (by decide) (by decide) d_Model_init_61 (fun q13 hq13 => ?_)
  rw [cy_top_eq t12 hq13]
  have t13 := cy_top_new (e := .inl (cZ, 301, .inl (fun _ => 0))) t12
  generalize hM13 : cy_set M12 (z + 6) (.inl (cZ, 301, .inl (fun _ => 0))) = M13 at t13 ⊢
  have f13_0 : M13 (z) = some (.inl (cB, 300, .inl (fun _ => 0))) := by rw [← hM13, cy_set_ne _ _ (by omega)]; exact f12_0
  have f13_1 : M13 (z + 1) = some (.inl (cB, 2048, .inl (fun _ => 0))) := by rw [← hM13, cy_set_ne _ _ (by omega)]; exact f12_1
  have f13_2 : M13 (z + 2) = some (.inl (cI, 8, .inl (fun _ => 0))) := by rw [← hM13, cy_set_ne _ _ (by omega)]; exact f12_2
  have f13_3 : M13 (z + 3) = some (.inl (cI, 2048, .inl (fun _ => 0))) := by rw [← hM13, cy_set_ne _ _ (by omega)]; exact f12_3
  have f13_4 : M13 (z + 4) = some (.inl (cI, 128, .inl (fun _ => 0))) := by rw [← hM13, cy_set_ne _ _ (by omega)]; exact f12_4
  have f13_5 : M13 (z + 5) = some (.inl (cI, 128, .inl (fun _ => 0))) := by rw [← hM13, cy_set_ne _ _ (by omega)]; exact f12_5
  have f13_6 : M13 (q) = some (.inr (7, [.ref z, .int 0, .ref (z + 1), .ref (z + 2), .ref (z + 3), .ref (z + 4), .ref (z + 5), .int 0, .null, .null, .null, .int 0, .int 0, .int 0, .int 0, .int 0, .int 0, .int 0, .int 0, .int 0, .null, .null, .null, .null, .null, .null, .int 0, .null, .int 0])) := by rw [← hM13, cy_set_ne _ _ (by omega)]; exact g12
  have g13 : M13 (z + 6) = some (.inl (cZ, 301, .inl (fun _ => 0))) := by rw [← hM13, cy_set_self]
  have b13 : ∀ x, x ≠ q → x < z → M13 x = M x := fun x h1 h2 => by rw [← hM13]; exact (cy_set_ne _ _ (by omega)).trans (b12 x h1 h2)
  refine wm_putF C hN co_Model f13_6 8 (by decide) fl_Model_29 rfl rfl rfl rfl (Nat.le_of_ble_eq_true rfl) d_Model_init_63 ?_
  have hM14 : ∃ X, X = cy_set M13 (q) (.inr (7, [.ref z, .int 0, .ref (z + 1), .ref (z + 2), .ref (z + 3), .ref (z + 4), .ref (z + 5), .int 0, .ref (z + 6), .null, .null, .int 0, .int 0, .int 0, .int 0, .int 0, .int 0, .int 0, .int 0, .int 0, .null, .null, .null, .null, .null, .null, .int 0, .null, .int 0])) := ⟨_, rfl⟩
  obtain ⟨M14, hM14⟩ := hM14
  refine wm_eqM (M2 := M14) hM14 ?_
  have f14_0 : M14 (z) = some (.inl (cB, 300, .inl (fun _ => 0))) := by rw [hM14, cy_set_ne _ _ (by omega)]; exact f13_0
  have f14_1 : M14 (z + 1) = some (.inl (cB, 2048, .inl (fun _ => 0))) := by rw [hM14, cy_set_ne _ _ (by omega)]; exact f13_1
  have f14_2 : M14 (z + 2) = some (.inl (cI, 8, .inl (fun _ => 0))) := by rw [hM14, cy_set_ne _ _ (by omega)]; exact f13_2
  have f14_3 : M14 (z + 3) = some (.inl (cI, 2048, .inl (fun _ => 0))) := by rw [hM14, cy_set_ne _ _ (by omega)]; exact f13_3
  have f14_4 : M14 (z + 4) = some (.inl (cI, 128, .inl (fun _ => 0))) := by rw [hM14, cy_set_ne _ _ (by omega)]; exact f13_4
  have f14_5 : M14 (z + 5) = some (.inl (cI, 128, .inl (fun _ => 0))) := by rw [hM14, cy_set_ne _ _ (by omega)]; exact f13_5
  have f14_6 : M14 (z + 6) = some (.inl (cZ, 301, .inl (fun _ => 0))) := by rw [hM14, cy_set_ne _ _ (by omega)]; exact g13
  have g14 : M14 (q) = some (.inr (7, [.ref z, .int 0, .ref (z + 1), .ref (z + 2), .ref (z + 3), .ref (z + 4), .ref (z + 5), .int 0, .ref (z + 6), .null, .null, .int 0, .int 0, .int 0, .int 0, .int 0, .int 0, .int 0, .int 0, .int 0, .null, .null, .null, .null, .null, .null, .int 0, .null, .int 0])) := by rw [hM14, cy_set_self]
  have t14 : cy_top G M14 (z + 7) := by rw [hM14]; exact cy_top_set t13 (by omega)
  have b14 : ∀ x, x ≠ q → x < z → M14 x = M x := fun x h1 h2 => by rw [hM14]; exact (cy_set_ne _ _ (by omega)).trans (b13 x h1 h2)
  refine wm_aload_n C d_Model_init_66 rfl (j := 0) rfl ?_
  refine wm_sipush (v := 301) C d_Model_init_67 (by decide) ?_
  refine wm_newa C hG aw_int (N := 301) (by decide) (by decide) (by decide) (by decide) (by decide) d_Model_init_70 (fun q15 hq15 => ?_)
  rw [cy_top_eq t14 hq15]
  have t15 := cy_top_new (e := .inl (cI, 301, .inl (fun _ => 0))) t14
  generalize hM15 : cy_set M14 (z + 7) (.inl (cI, 301, .inl (fun _ => 0))) = M15 at t15 ⊢
  have f15_0 : M15 (z) = some (.inl (cB, 300, .inl (fun _ => 0))) := by rw [← hM15, cy_set_ne _ _ (by omega)]; exact f14_0
  have f15_1 : M15 (z + 1) = some (.inl (cB, 2048, .inl (fun _ => 0))) := by rw [← hM15, cy_set_ne _ _ (by omega)]; exact f14_1
  have f15_2 : M15 (z + 2) = some (.inl (cI, 8, .inl (fun _ => 0))) := by rw [← hM15, cy_set_ne _ _ (by omega)]; exact f14_2
  have f15_3 : M15 (z + 3) = some (.inl (cI, 2048, .inl (fun _ => 0))) := by rw [← hM15, cy_set_ne _ _ (by omega)]; exact f14_3
  have f15_4 : M15 (z + 4) = some (.inl (cI, 128, .inl (fun _ => 0))) := by rw [← hM15, cy_set_ne _ _ (by omega)]; exact f14_4
  have f15_5 : M15 (z + 5) = some (.inl (cI, 128, .inl (fun _ => 0))) := by rw [← hM15, cy_set_ne _ _ (by omega)]; exact f14_5
  have f15_6 : M15 (z + 6) = some (.inl (cZ, 301, .inl (fun _ => 0))) := by rw [← hM15, cy_set_ne _ _ (by omega)]; exact f14_6
  have f15_7 : M15 (q) = some (.inr (7, [.ref z, .int 0, .ref (z + 1), .ref (z + 2), .ref (z + 3), .ref (z + 4), .ref (z + 5), .int 0, .ref (z + 6), .null, .null, .int 0, .int 0, .int 0, .int 0, .int 0, .int 0, .int 0, .int 0, .int 0, .null, .null, .null, .null, .null, .null, .int 0, .null, .int 0])) := by rw [← hM15, cy_set_ne _ _ (by omega)]; exact g14
  have g15 : M15 (z + 7) = some (.inl (cI, 301, .inl (fun _ => 0))) := by rw [← hM15, cy_set_self]
  have b15 : ∀ x, x ≠ q → x < z → M15 x = M x := fun x h1 h2 => by rw [← hM15]; exact (cy_set_ne _ _ (by omega)).trans (b14 x h1 h2)
  refine wm_putF C hN co_Model f15_7 9 (by decide) fl_Model_33 rfl rfl rfl rfl (Nat.le_of_ble_eq_true rfl) d_Model_init_72 ?_
  have hM16 : ∃ X, X = cy_set M15 (q) (.inr (7, [.ref z, .int 0, .ref (z + 1), .ref (z + 2), .ref (z + 3), .ref (z + 4), .ref (z + 5), .int 0, .ref (z + 6), .ref (z + 7), .null, .int 0, .int 0, .int 0, .int 0, .int 0, .int 0, .int 0, .int 0, .int 0, .null, .null, .null, .null, .null, .null, .int 0, .null, .int 0])) := ⟨_, rfl⟩
  obtain ⟨M16, hM16⟩ := hM16
  refine wm_eqM (M2 := M16) hM16 ?_
  have f16_0 : M16 (z) = some (.inl (cB, 300, .inl (fun _ => 0))) := by rw [hM16, cy_set_ne _ _ (by omega)]; exact f15_0
  have f16_1 : M16 (z + 1) = some (.inl (cB, 2048, .inl (fun _ => 0))) := by rw [hM16, cy_set_ne _ _ (by omega)]; exact f15_1
  have f16_2 : M16 (z + 2) = some (.inl (cI, 8, .inl (fun _ => 0))) := by rw [hM16, cy_set_ne _ _ (by omega)]; exact f15_2
  have f16_3 : M16 (z + 3) = some (.inl (cI, 2048, .inl (fun _ => 0))) := by rw [hM16, cy_set_ne _ _ (by omega)]; exact f15_3
  have f16_4 : M16 (z + 4) = some (.inl (cI, 128, .inl (fun _ => 0))) := by rw [hM16, cy_set_ne _ _ (by omega)]; exact f15_4
  have f16_5 : M16 (z + 5) = some (.inl (cI, 128, .inl (fun _ => 0))) := by rw [hM16, cy_set_ne _ _ (by omega)]; exact f15_5
  have f16_6 : M16 (z + 6) = some (.inl (cZ, 301, .inl (fun _ => 0))) := by rw [hM16, cy_set_ne _ _ (by omega)]; exact f15_6
  have f16_7 : M16 (z + 7) = some (.inl (cI, 301, .inl (fun _ => 0))) := by rw [hM16, cy_set_ne _ _ (by omega)]; exact g15
  have g16 : M16 (q) = some (.inr (7, [.ref z, .int 0, .ref (z + 1), .ref (z + 2), .ref (z + 3), .ref (z + 4), .ref (z + 5), .int 0, .ref (z + 6), .ref (z + 7), .null, .int 0, .int 0, .int 0, .int 0, .int 0, .int 0, .int 0, .int 0, .int 0, .null, .null, .null, .null, .null, .null, .int 0, .null, .int 0])) := by rw [hM16, cy_set_self]
  have t16 : cy_top G M16 (z + 8) := by rw [hM16]; exact cy_top_set t15 (by omega)
  have b16 : ∀ x, x ≠ q → x < z → M16 x = M x := fun x h1 h2 => by rw [hM16]; exact (cy_set_ne _ _ (by omega)).trans (b15 x h1 h2)
  refine wm_aload_n C d_Model_init_75 rfl (j := 0) rfl ?_
  refine wm_sipush (v := 301) C d_Model_init_76 (by decide) ?_
  refine wm_newz C hG3 aw_boolean (N := 301) (by decide) (by decide) (by decide) (by decide) (by decide) d_Model_init_79 (fun q17 hq17 => ?_)
  rw [cy_top_eq t16 hq17]
  have t17 := cy_top_new (e := .inl (cZ, 301, .inl (fun _ => 0))) t16
  generalize hM17 : cy_set M16 (z + 8) (.inl (cZ, 301, .inl (fun _ => 0))) = M17 at t17 ⊢
  have f17_0 : M17 (z) = some (.inl (cB, 300, .inl (fun _ => 0))) := by rw [← hM17, cy_set_ne _ _ (by omega)]; exact f16_0
  have f17_1 : M17 (z + 1) = some (.inl (cB, 2048, .inl (fun _ => 0))) := by rw [← hM17, cy_set_ne _ _ (by omega)]; exact f16_1
  have f17_2 : M17 (z + 2) = some (.inl (cI, 8, .inl (fun _ => 0))) := by rw [← hM17, cy_set_ne _ _ (by omega)]; exact f16_2
  have f17_3 : M17 (z + 3) = some (.inl (cI, 2048, .inl (fun _ => 0))) := by rw [← hM17, cy_set_ne _ _ (by omega)]; exact f16_3
  have f17_4 : M17 (z + 4) = some (.inl (cI, 128, .inl (fun _ => 0))) := by rw [← hM17, cy_set_ne _ _ (by omega)]; exact f16_4
  have f17_5 : M17 (z + 5) = some (.inl (cI, 128, .inl (fun _ => 0))) := by rw [← hM17, cy_set_ne _ _ (by omega)]; exact f16_5
  have f17_6 : M17 (z + 6) = some (.inl (cZ, 301, .inl (fun _ => 0))) := by rw [← hM17, cy_set_ne _ _ (by omega)]; exact f16_6
  have f17_7 : M17 (z + 7) = some (.inl (cI, 301, .inl (fun _ => 0))) := by rw [← hM17, cy_set_ne _ _ (by omega)]; exact f16_7
  have f17_8 : M17 (q) = some (.inr (7, [.ref z, .int 0, .ref (z + 1), .ref (z + 2), .ref (z + 3), .ref (z + 4), .ref (z + 5), .int 0, .ref (z + 6), .ref (z + 7), .null, .int 0, .int 0, .int 0, .int 0, .int 0, .int 0, .int 0, .int 0, .int 0, .null, .null, .null, .null, .null, .null, .int 0, .null, .int 0])) := by rw [← hM17, cy_set_ne _ _ (by omega)]; exact g16
  have g17 : M17 (z + 8) = some (.inl (cZ, 301, .inl (fun _ => 0))) := by rw [← hM17, cy_set_self]
  have b17 : ∀ x, x ≠ q → x < z → M17 x = M x := fun x h1 h2 => by rw [← hM17]; exact (cy_set_ne _ _ (by omega)).trans (b16 x h1 h2)
  refine wm_putF C hN co_Model f17_8 10 (by decide) fl_Model_36 rfl rfl rfl rfl (Nat.le_of_ble_eq_true rfl) d_Model_init_81 ?_
  have hM18 : ∃ X, X = cy_set M17 (q) (.inr (7, [.ref z, .int 0, .ref (z + 1), .ref (z + 2), .ref (z + 3), .ref (z + 4), .ref (z + 5), .int 0, .ref (z + 6), .ref (z + 7), .ref (z + 8), .int 0, .int 0, .int 0, .int 0, .int 0, .int 0, .int 0, .int 0, .int 0, .null, .null, .null, .null, .null, .null, .int 0, .null, .int 0])) := ⟨_, rfl⟩
  obtain ⟨M18, hM18⟩ := hM18
  refine wm_eqM (M2 := M18) hM18 ?_
  have f18_0 : M18 (z) = some (.inl (cB, 300, .inl (fun _ => 0))) := by rw [hM18, cy_set_ne _ _ (by omega)]; exact f17_0
  have f18_1 : M18 (z + 1) = some (.inl (cB, 2048, .inl (fun _ => 0))) := by rw [hM18, cy_set_ne _ _ (by omega)]; exact f17_1
  have f18_2 : M18 (z + 2) = some (.inl (cI, 8, .inl (fun _ => 0))) := by rw [hM18, cy_set_ne _ _ (by omega)]; exact f17_2
  have f18_3 : M18 (z + 3) = some (.inl (cI, 2048, .inl (fun _ => 0))) := by rw [hM18, cy_set_ne _ _ (by omega)]; exact f17_3
  have f18_4 : M18 (z + 4) = some (.inl (cI, 128, .inl (fun _ => 0))) := by rw [hM18, cy_set_ne _ _ (by omega)]; exact f17_4
  have f18_5 : M18 (z + 5) = some (.inl (cI, 128, .inl (fun _ => 0))) := by rw [hM18, cy_set_ne _ _ (by omega)]; exact f17_5
  have f18_6 : M18 (z + 6) = some (.inl (cZ, 301, .inl (fun _ => 0))) := by rw [hM18, cy_set_ne _ _ (by omega)]; exact f17_6
  have f18_7 : M18 (z + 7) = some (.inl (cI, 301, .inl (fun _ => 0))) := by rw [hM18, cy_set_ne _ _ (by omega)]; exact f17_7
  have f18_8 : M18 (z + 8) = some (.inl (cZ, 301, .inl (fun _ => 0))) := by rw [hM18, cy_set_ne _ _ (by omega)]; exact g17
  have g18 : M18 (q) = some (.inr (7, [.ref z, .int 0, .ref (z + 1), .ref (z + 2), .ref (z + 3), .ref (z + 4), .ref (z + 5), .int 0, .ref (z + 6), .ref (z + 7), .ref (z + 8), .int 0, .int 0, .int 0, .int 0, .int 0, .int 0, .int 0, .int 0, .int 0, .null, .null, .null, .null, .null, .null, .int 0, .null, .int 0])) := by rw [hM18, cy_set_self]
  have t18 : cy_top G M18 (z + 9) := by rw [hM18]; exact cy_top_set t17 (by omega)
  have b18 : ∀ x, x ≠ q → x < z → M18 x = M x := fun x h1 h2 => by rw [hM18]; exact (cy_set_ne _ _ (by omega)).trans (b17 x h1 h2)
  refine wm_aload_n C d_Model_init_84 rfl (j := 0) rfl ?_
  refine wm_bipush (v := 8) C d_Model_init_85 (by decide) ?_
  refine wm_newa C hG aw_int (N := 8) (by decide) (by decide) (by decide) (by decide) (by decide) d_Model_init_87 (fun q19 hq19 => ?_)
  rw [cy_top_eq t18 hq19]
  have t19 := cy_top_new (e := .inl (cI, 8, .inl (fun _ => 0))) t18
  generalize hM19 : cy_set M18 (z + 9) (.inl (cI, 8, .inl (fun _ => 0))) = M19 at t19 ⊢
  have f19_0 : M19 (z) = some (.inl (cB, 300, .inl (fun _ => 0))) := by rw [← hM19, cy_set_ne _ _ (by omega)]; exact f18_0
  have f19_1 : M19 (z + 1) = some (.inl (cB, 2048, .inl (fun _ => 0))) := by rw [← hM19, cy_set_ne _ _ (by omega)]; exact f18_1
  have f19_2 : M19 (z + 2) = some (.inl (cI, 8, .inl (fun _ => 0))) := by rw [← hM19, cy_set_ne _ _ (by omega)]; exact f18_2
  have f19_3 : M19 (z + 3) = some (.inl (cI, 2048, .inl (fun _ => 0))) := by rw [← hM19, cy_set_ne _ _ (by omega)]; exact f18_3
  have f19_4 : M19 (z + 4) = some (.inl (cI, 128, .inl (fun _ => 0))) := by rw [← hM19, cy_set_ne _ _ (by omega)]; exact f18_4
  have f19_5 : M19 (z + 5) = some (.inl (cI, 128, .inl (fun _ => 0))) := by rw [← hM19, cy_set_ne _ _ (by omega)]; exact f18_5
  have f19_6 : M19 (z + 6) = some (.inl (cZ, 301, .inl (fun _ => 0))) := by rw [← hM19, cy_set_ne _ _ (by omega)]; exact f18_6
  have f19_7 : M19 (z + 7) = some (.inl (cI, 301, .inl (fun _ => 0))) := by rw [← hM19, cy_set_ne _ _ (by omega)]; exact f18_7
  have f19_8 : M19 (z + 8) = some (.inl (cZ, 301, .inl (fun _ => 0))) := by rw [← hM19, cy_set_ne _ _ (by omega)]; exact f18_8
  have f19_9 : M19 (q) = some (.inr (7, [.ref z, .int 0, .ref (z + 1), .ref (z + 2), .ref (z + 3), .ref (z + 4), .ref (z + 5), .int 0, .ref (z + 6), .ref (z + 7), .ref (z + 8), .int 0, .int 0, .int 0, .int 0, .int 0, .int 0, .int 0, .int 0, .int 0, .null, .null, .null, .null, .null, .null, .int 0, .null, .int 0])) := by rw [← hM19, cy_set_ne _ _ (by omega)]; exact g18
  have g19 : M19 (z + 9) = some (.inl (cI, 8, .inl (fun _ => 0))) := by rw [← hM19, cy_set_self]
  have b19 : ∀ x, x ≠ q → x < z → M19 x = M x := fun x h1 h2 => by rw [← hM19]; exact (cy_set_ne _ _ (by omega)).trans (b18 x h1 h2)
  refine wm_putF C hN co_Model f19_9 20 (by decide) fl_Model_39 rfl rfl rfl rfl (Nat.le_of_ble_eq_true rfl) d_Model_init_89 ?_
  have hM20 : ∃ X, X = cy_set M19 (q) (.inr (7, [.ref z, .int 0, .ref (z + 1), .ref (z + 2), .ref (z + 3), .ref (z + 4), .ref (z + 5), .int 0, .ref (z + 6), .ref (z + 7), .ref (z + 8), .int 0, .int 0, .int 0, .int 0, .int 0, .int 0, .int 0, .int 0, .int 0, .ref (z + 9), .null, .null, .null, .null, .null, .int 0, .null, .int 0])) := ⟨_, rfl⟩
  obtain ⟨M20, hM20⟩ := hM20
  refine wm_eqM (M2 := M20) hM20 ?_
  have f20_0 : M20 (z) = some (.inl (cB, 300, .inl (fun _ => 0))) := by rw [hM20, cy_set_ne _ _ (by omega)]; exact f19_0
  have f20_1 : M20 (z + 1) = some (.inl (cB, 2048, .inl (fun _ => 0))) := by rw [hM20, cy_set_ne _ _ (by omega)]; exact f19_1
  have f20_2 : M20 (z + 2) = some (.inl (cI, 8, .inl (fun _ => 0))) := by rw [hM20, cy_set_ne _ _ (by omega)]; exact f19_2
  have f20_3 : M20 (z + 3) = some (.inl (cI, 2048, .inl (fun _ => 0))) := by rw [hM20, cy_set_ne _ _ (by omega)]; exact f19_3
  have f20_4 : M20 (z + 4) = some (.inl (cI, 128, .inl (fun _ => 0))) := by rw [hM20, cy_set_ne _ _ (by omega)]; exact f19_4
  have f20_5 : M20 (z + 5) = some (.inl (cI, 128, .inl (fun _ => 0))) := by rw [hM20, cy_set_ne _ _ (by omega)]; exact f19_5
  have f20_6 : M20 (z + 6) = some (.inl (cZ, 301, .inl (fun _ => 0))) := by rw [hM20, cy_set_ne _ _ (by omega)]; exact f19_6
  have f20_7 : M20 (z + 7) = some (.inl (cI, 301, .inl (fun _ => 0))) := by rw [hM20, cy_set_ne _ _ (by omega)]; exact f19_7
  have f20_8 : M20 (z + 8) = some (.inl (cZ, 301, .inl (fun _ => 0))) := by rw [hM20, cy_set_ne _ _ (by omega)]; exact f19_8
  have f20_9 : M20 (z + 9) = some (.inl (cI, 8, .inl (fun _ => 0))) := by rw [hM20, cy_set_ne _ _ (by omega)]; exact g19
  have g20 : M20 (q) = some (.inr (7, [.ref z, .int 0, .ref (z + 1), .ref (z + 2), .ref (z + 3), .ref (z + 4), .ref (z + 5), .int 0, .ref (z + 6), .ref (z + 7), .ref (z + 8), .int 0, .int 0, .int 0, .int 0, .int 0, .int 0, .int 0, .int 0, .int 0, .ref (z + 9), .null, .null, .null, .null, .null, .int 0, .null, .int 0])) := by rw [hM20, cy_set_self]
  have t20 : cy_top G M20 (z + 10) := by rw [hM20]; exact cy_top_set t19 (by omega)
  have b20 : ∀ x, x ≠ q → x < z → M20 x = M x := fun x h1 h2 => by rw [hM20]; exact (cy_set_ne _ _ (by omega)).trans (b19 x h1 h2)
  refine wm_aload_n C d_Model_init_92 rfl (j := 0) rfl ?_
  refine wm_bipush (v := 8) C d_Model_init_93 (by decide) ?_
  refine wm_newa C hG aw_int (N := 8) (by decide) (by decide) (by decide) (by decide) (by decide) d_Model_init_95 (fun q21 hq21 => ?_)
  rw [cy_top_eq t20 hq21]
  have t21 := cy_top_new (e := .inl (cI, 8, .inl (fun _ => 0))) t20
  generalize hM21 : cy_set M20 (z + 10) (.inl (cI, 8, .inl (fun _ => 0))) = M21 at t21 ⊢
  have f21_0 : M21 (z) = some (.inl (cB, 300, .inl (fun _ => 0))) := by rw [← hM21, cy_set_ne _ _ (by omega)]; exact f20_0
  have f21_1 : M21 (z + 1) = some (.inl (cB, 2048, .inl (fun _ => 0))) := by rw [← hM21, cy_set_ne _ _ (by omega)]; exact f20_1
  have f21_2 : M21 (z + 2) = some (.inl (cI, 8, .inl (fun _ => 0))) := by rw [← hM21, cy_set_ne _ _ (by omega)]; exact f20_2
  have f21_3 : M21 (z + 3) = some (.inl (cI, 2048, .inl (fun _ => 0))) := by rw [← hM21, cy_set_ne _ _ (by omega)]; exact f20_3
  have f21_4 : M21 (z + 4) = some (.inl (cI, 128, .inl (fun _ => 0))) := by rw [← hM21, cy_set_ne _ _ (by omega)]; exact f20_4
  have f21_5 : M21 (z + 5) = some (.inl (cI, 128, .inl (fun _ => 0))) := by rw [← hM21, cy_set_ne _ _ (by omega)]; exact f20_5
  have f21_6 : M21 (z + 6) = some (.inl (cZ, 301, .inl (fun _ => 0))) := by rw [← hM21, cy_set_ne _ _ (by omega)]; exact f20_6
  have f21_7 : M21 (z + 7) = some (.inl (cI, 301, .inl (fun _ => 0))) := by rw [← hM21, cy_set_ne _ _ (by omega)]; exact f20_7
  have f21_8 : M21 (z + 8) = some (.inl (cZ, 301, .inl (fun _ => 0))) := by rw [← hM21, cy_set_ne _ _ (by omega)]; exact f20_8
  have f21_9 : M21 (z + 9) = some (.inl (cI, 8, .inl (fun _ => 0))) := by rw [← hM21, cy_set_ne _ _ (by omega)]; exact f20_9
  have f21_10 : M21 (q) = some (.inr (7, [.ref z, .int 0, .ref (z + 1), .ref (z + 2), .ref (z + 3), .ref (z + 4), .ref (z + 5), .int 0, .ref (z + 6), .ref (z + 7), .ref (z + 8), .int 0, .int 0, .int 0, .int 0, .int 0, .int 0, .int 0, .int 0, .int 0, .ref (z + 9), .null, .null, .null, .null, .null, .int 0, .null, .int 0])) := by rw [← hM21, cy_set_ne _ _ (by omega)]; exact g20
  have g21 : M21 (z + 10) = some (.inl (cI, 8, .inl (fun _ => 0))) := by rw [← hM21, cy_set_self]
  have b21 : ∀ x, x ≠ q → x < z → M21 x = M x := fun x h1 h2 => by rw [← hM21]; exact (cy_set_ne _ _ (by omega)).trans (b20 x h1 h2)
  refine wm_putF C hN co_Model f21_10 21 (by decide) fl_Model_42 rfl rfl rfl rfl (Nat.le_of_ble_eq_true rfl) d_Model_init_97 ?_
  have hM22 : ∃ X, X = cy_set M21 (q) (.inr (7, [.ref z, .int 0, .ref (z + 1), .ref (z + 2), .ref (z + 3), .ref (z + 4), .ref (z + 5), .int 0, .ref (z + 6), .ref (z + 7), .ref (z + 8), .int 0, .int 0, .int 0, .int 0, .int 0, .int 0, .int 0, .int 0, .int 0, .ref (z + 9), .ref (z + 10), .null, .null, .null, .null, .int 0, .null, .int 0])) := ⟨_, rfl⟩
  obtain ⟨M22, hM22⟩ := hM22
  refine wm_eqM (M2 := M22) hM22 ?_
  have f22_0 : M22 (z) = some (.inl (cB, 300, .inl (fun _ => 0))) := by rw [hM22, cy_set_ne _ _ (by omega)]; exact f21_0
  have f22_1 : M22 (z + 1) = some (.inl (cB, 2048, .inl (fun _ => 0))) := by rw [hM22, cy_set_ne _ _ (by omega)]; exact f21_1
  have f22_2 : M22 (z + 2) = some (.inl (cI, 8, .inl (fun _ => 0))) := by rw [hM22, cy_set_ne _ _ (by omega)]; exact f21_2
  have f22_3 : M22 (z + 3) = some (.inl (cI, 2048, .inl (fun _ => 0))) := by rw [hM22, cy_set_ne _ _ (by omega)]; exact f21_3
  have f22_4 : M22 (z + 4) = some (.inl (cI, 128, .inl (fun _ => 0))) := by rw [hM22, cy_set_ne _ _ (by omega)]; exact f21_4
  have f22_5 : M22 (z + 5) = some (.inl (cI, 128, .inl (fun _ => 0))) := by rw [hM22, cy_set_ne _ _ (by omega)]; exact f21_5
  have f22_6 : M22 (z + 6) = some (.inl (cZ, 301, .inl (fun _ => 0))) := by rw [hM22, cy_set_ne _ _ (by omega)]; exact f21_6
  have f22_7 : M22 (z + 7) = some (.inl (cI, 301, .inl (fun _ => 0))) := by rw [hM22, cy_set_ne _ _ (by omega)]; exact f21_7
  have f22_8 : M22 (z + 8) = some (.inl (cZ, 301, .inl (fun _ => 0))) := by rw [hM22, cy_set_ne _ _ (by omega)]; exact f21_8
  have f22_9 : M22 (z + 9) = some (.inl (cI, 8, .inl (fun _ => 0))) := by rw [hM22, cy_set_ne _ _ (by omega)]; exact f21_9
  have f22_10 : M22 (z + 10) = some (.inl (cI, 8, .inl (fun _ => 0))) := by rw [hM22, cy_set_ne _ _ (by omega)]; exact g21
  have g22 : M22 (q) = some (.inr (7, [.ref z, .int 0, .ref (z + 1), .ref (z + 2), .ref (z + 3), .ref (z + 4), .ref (z + 5), .int 0, .ref (z + 6), .ref (z + 7), .ref (z + 8), .int 0, .int 0, .int 0, .int 0, .int 0, .int 0, .int 0, .int 0, .int 0, .ref (z + 9), .ref (z + 10), .null, .null, .null, .null, .int 0, .null, .int 0])) := by rw [hM22, cy_set_self]
  have t22 : cy_top G M22 (z + 11) := by rw [hM22]; exact cy_top_set t21 (by omega)
  have b22 : ∀ x, x ≠ q → x < z → M22 x = M x := fun x h1 h2 => by rw [hM22]; exact (cy_set_ne _ _ (by omega)).trans (b21 x h1 h2)
  refine wm_aload_n C d_Model_init_100 rfl (j := 0) rfl ?_
  refine wm_bipush (v := 8) C d_Model_init_101 (by decide) ?_
  refine wm_newa C hG aw_int (N := 8) (by decide) (by decide) (by decide) (by decide) (by decide) d_Model_init_103 (fun q23 hq23 => ?_)
  rw [cy_top_eq t22 hq23]
  have t23 := cy_top_new (e := .inl (cI, 8, .inl (fun _ => 0))) t22
  generalize hM23 : cy_set M22 (z + 11) (.inl (cI, 8, .inl (fun _ => 0))) = M23 at t23 ⊢
  have f23_0 : M23 (z) = some (.inl (cB, 300, .inl (fun _ => 0))) := by rw [← hM23, cy_set_ne _ _ (by omega)]; exact f22_0
  have f23_1 : M23 (z + 1) = some (.inl (cB, 2048, .inl (fun _ => 0))) := by rw [← hM23, cy_set_ne _ _ (by omega)]; exact f22_1
  have f23_2 : M23 (z + 2) = some (.inl (cI, 8, .inl (fun _ => 0))) := by rw [← hM23, cy_set_ne _ _ (by omega)]; exact f22_2
  have f23_3 : M23 (z + 3) = some (.inl (cI, 2048, .inl (fun _ => 0))) := by rw [← hM23, cy_set_ne _ _ (by omega)]; exact f22_3
  have f23_4 : M23 (z + 4) = some (.inl (cI, 128, .inl (fun _ => 0))) := by rw [← hM23, cy_set_ne _ _ (by omega)]; exact f22_4
  have f23_5 : M23 (z + 5) = some (.inl (cI, 128, .inl (fun _ => 0))) := by rw [← hM23, cy_set_ne _ _ (by omega)]; exact f22_5
  have f23_6 : M23 (z + 6) = some (.inl (cZ, 301, .inl (fun _ => 0))) := by rw [← hM23, cy_set_ne _ _ (by omega)]; exact f22_6
  have f23_7 : M23 (z + 7) = some (.inl (cI, 301, .inl (fun _ => 0))) := by rw [← hM23, cy_set_ne _ _ (by omega)]; exact f22_7
  have f23_8 : M23 (z + 8) = some (.inl (cZ, 301, .inl (fun _ => 0))) := by rw [← hM23, cy_set_ne _ _ (by omega)]; exact f22_8
  have f23_9 : M23 (z + 9) = some (.inl (cI, 8, .inl (fun _ => 0))) := by rw [← hM23, cy_set_ne _ _ (by omega)]; exact f22_9
  have f23_10 : M23 (z + 10) = some (.inl (cI, 8, .inl (fun _ => 0))) := by rw [← hM23, cy_set_ne _ _ (by omega)]; exact f22_10
  have f23_11 : M23 (q) = some (.inr (7, [.ref z, .int 0, .ref (z + 1), .ref (z + 2), .ref (z + 3), .ref (z + 4), .ref (z + 5), .int 0, .ref (z + 6), .ref (z + 7), .ref (z + 8), .int 0, .int 0, .int 0, .int 0, .int 0, .int 0, .int 0, .int 0, .int 0, .ref (z + 9), .ref (z + 10), .null, .null, .null, .null, .int 0, .null, .int 0])) := by rw [← hM23, cy_set_ne _ _ (by omega)]; exact g22
  have g23 : M23 (z + 11) = some (.inl (cI, 8, .inl (fun _ => 0))) := by rw [← hM23, cy_set_self]
  have b23 : ∀ x, x ≠ q → x < z → M23 x = M x := fun x h1 h2 => by rw [← hM23]; exact (cy_set_ne _ _ (by omega)).trans (b22 x h1 h2)
  refine wm_putF C hN co_Model f23_11 22 (by decide) fl_Model_45 rfl rfl rfl rfl (Nat.le_of_ble_eq_true rfl) d_Model_init_105 ?_
  have hM24 : ∃ X, X = cy_set M23 (q) (.inr (7, [.ref z, .int 0, .ref (z + 1), .ref (z + 2), .ref (z + 3), .ref (z + 4), .ref (z + 5), .int 0, .ref (z + 6), .ref (z + 7), .ref (z + 8), .int 0, .int 0, .int 0, .int 0, .int 0, .int 0, .int 0, .int 0, .int 0, .ref (z + 9), .ref (z + 10), .ref (z + 11), .null, .null, .null, .int 0, .null, .int 0])) := ⟨_, rfl⟩
  obtain ⟨M24, hM24⟩ := hM24
  refine wm_eqM (M2 := M24) hM24 ?_
  have f24_0 : M24 (z) = some (.inl (cB, 300, .inl (fun _ => 0))) := by rw [hM24, cy_set_ne _ _ (by omega)]; exact f23_0
  have f24_1 : M24 (z + 1) = some (.inl (cB, 2048, .inl (fun _ => 0))) := by rw [hM24, cy_set_ne _ _ (by omega)]; exact f23_1
  have f24_2 : M24 (z + 2) = some (.inl (cI, 8, .inl (fun _ => 0))) := by rw [hM24, cy_set_ne _ _ (by omega)]; exact f23_2
  have f24_3 : M24 (z + 3) = some (.inl (cI, 2048, .inl (fun _ => 0))) := by rw [hM24, cy_set_ne _ _ (by omega)]; exact f23_3
  have f24_4 : M24 (z + 4) = some (.inl (cI, 128, .inl (fun _ => 0))) := by rw [hM24, cy_set_ne _ _ (by omega)]; exact f23_4
  have f24_5 : M24 (z + 5) = some (.inl (cI, 128, .inl (fun _ => 0))) := by rw [hM24, cy_set_ne _ _ (by omega)]; exact f23_5
  have f24_6 : M24 (z + 6) = some (.inl (cZ, 301, .inl (fun _ => 0))) := by rw [hM24, cy_set_ne _ _ (by omega)]; exact f23_6
  have f24_7 : M24 (z + 7) = some (.inl (cI, 301, .inl (fun _ => 0))) := by rw [hM24, cy_set_ne _ _ (by omega)]; exact f23_7
  have f24_8 : M24 (z + 8) = some (.inl (cZ, 301, .inl (fun _ => 0))) := by rw [hM24, cy_set_ne _ _ (by omega)]; exact f23_8
  have f24_9 : M24 (z + 9) = some (.inl (cI, 8, .inl (fun _ => 0))) := by rw [hM24, cy_set_ne _ _ (by omega)]; exact f23_9
  have f24_10 : M24 (z + 10) = some (.inl (cI, 8, .inl (fun _ => 0))) := by rw [hM24, cy_set_ne _ _ (by omega)]; exact f23_10
  have f24_11 : M24 (z + 11) = some (.inl (cI, 8, .inl (fun _ => 0))) := by rw [hM24, cy_set_ne _ _ (by omega)]; exact g23
  have g24 : M24 (q) = some (.inr (7, [.ref z, .int 0, .ref (z + 1), .ref (z + 2), .ref (z + 3), .ref (z + 4), .ref (z + 5), .int 0, .ref (z + 6), .ref (z + 7), .ref (z + 8), .int 0, .int 0, .int 0, .int 0, .int 0, .int 0, .int 0, .int 0, .int 0, .ref (z + 9), .ref (z + 10), .ref (z + 11), .null, .null, .null, .int 0, .null, .int 0])) := by rw [hM24, cy_set_self]
  have t24 : cy_top G M24 (z + 12) := by rw [hM24]; exact cy_top_set t23 (by omega)
  have b24 : ∀ x, x ≠ q → x < z → M24 x = M x := fun x h1 h2 => by rw [hM24]; exact (cy_set_ne _ _ (by omega)).trans (b23 x h1 h2)
  refine wm_aload_n C d_Model_init_108 rfl (j := 0) rfl ?_
  refine wm_bipush (v := 64) C d_Model_init_109 (by decide) ?_
  refine wm_newa C hG aw_int (N := 64) (by decide) (by decide) (by decide) (by decide) (by decide) d_Model_init_111 (fun q25 hq25 => ?_)
  rw [cy_top_eq t24 hq25]
  have t25 := cy_top_new (e := .inl (cI, 64, .inl (fun _ => 0))) t24
  generalize hM25 : cy_set M24 (z + 12) (.inl (cI, 64, .inl (fun _ => 0))) = M25 at t25 ⊢
  have f25_0 : M25 (z) = some (.inl (cB, 300, .inl (fun _ => 0))) := by rw [← hM25, cy_set_ne _ _ (by omega)]; exact f24_0
  have f25_1 : M25 (z + 1) = some (.inl (cB, 2048, .inl (fun _ => 0))) := by rw [← hM25, cy_set_ne _ _ (by omega)]; exact f24_1
  have f25_2 : M25 (z + 2) = some (.inl (cI, 8, .inl (fun _ => 0))) := by rw [← hM25, cy_set_ne _ _ (by omega)]; exact f24_2
  have f25_3 : M25 (z + 3) = some (.inl (cI, 2048, .inl (fun _ => 0))) := by rw [← hM25, cy_set_ne _ _ (by omega)]; exact f24_3
  have f25_4 : M25 (z + 4) = some (.inl (cI, 128, .inl (fun _ => 0))) := by rw [← hM25, cy_set_ne _ _ (by omega)]; exact f24_4
  have f25_5 : M25 (z + 5) = some (.inl (cI, 128, .inl (fun _ => 0))) := by rw [← hM25, cy_set_ne _ _ (by omega)]; exact f24_5
  have f25_6 : M25 (z + 6) = some (.inl (cZ, 301, .inl (fun _ => 0))) := by rw [← hM25, cy_set_ne _ _ (by omega)]; exact f24_6
  have f25_7 : M25 (z + 7) = some (.inl (cI, 301, .inl (fun _ => 0))) := by rw [← hM25, cy_set_ne _ _ (by omega)]; exact f24_7
  have f25_8 : M25 (z + 8) = some (.inl (cZ, 301, .inl (fun _ => 0))) := by rw [← hM25, cy_set_ne _ _ (by omega)]; exact f24_8
  have f25_9 : M25 (z + 9) = some (.inl (cI, 8, .inl (fun _ => 0))) := by rw [← hM25, cy_set_ne _ _ (by omega)]; exact f24_9
  have f25_10 : M25 (z + 10) = some (.inl (cI, 8, .inl (fun _ => 0))) := by rw [← hM25, cy_set_ne _ _ (by omega)]; exact f24_10
  have f25_11 : M25 (z + 11) = some (.inl (cI, 8, .inl (fun _ => 0))) := by rw [← hM25, cy_set_ne _ _ (by omega)]; exact f24_11
  have f25_12 : M25 (q) = some (.inr (7, [.ref z, .int 0, .ref (z + 1), .ref (z + 2), .ref (z + 3), .ref (z + 4), .ref (z + 5), .int 0, .ref (z + 6), .ref (z + 7), .ref (z + 8), .int 0, .int 0, .int 0, .int 0, .int 0, .int 0, .int 0, .int 0, .int 0, .ref (z + 9), .ref (z + 10), .ref (z + 11), .null, .null, .null, .int 0, .null, .int 0])) := by rw [← hM25, cy_set_ne _ _ (by omega)]; exact g24
  have g25 : M25 (z + 12) = some (.inl (cI, 64, .inl (fun _ => 0))) := by rw [← hM25, cy_set_self]
  have b25 : ∀ x, x ≠ q → x < z → M25 x = M x := fun x h1 h2 => by rw [← hM25]; exact (cy_set_ne _ _ (by omega)).trans (b24 x h1 h2)
  refine wm_putF C hN co_Model f25_12 23 (by decide) fl_Model_48 rfl rfl rfl rfl (Nat.le_of_ble_eq_true rfl) d_Model_init_113 ?_
  have hM26 : ∃ X, X = cy_set M25 (q) (.inr (7, [.ref z, .int 0, .ref (z + 1), .ref (z + 2), .ref (z + 3), .ref (z + 4), .ref (z + 5), .int 0, .ref (z + 6), .ref (z + 7), .ref (z + 8), .int 0, .int 0, .int 0, .int 0, .int 0, .int 0, .int 0, .int 0, .int 0, .ref (z + 9), .ref (z + 10), .ref (z + 11), .ref (z + 12), .null, .null, .int 0, .null, .int 0])) := ⟨_, rfl⟩
  obtain ⟨M26, hM26⟩ := hM26
  refine wm_eqM (M2 := M26) hM26 ?_
  have f26_0 : M26 (z) = some (.inl (cB, 300, .inl (fun _ => 0))) := by rw [hM26, cy_set_ne _ _ (by omega)]; exact f25_0
  have f26_1 : M26 (z + 1) = some (.inl (cB, 2048, .inl (fun _ => 0))) := by rw [hM26, cy_set_ne _ _ (by omega)]; exact f25_1
  have f26_2 : M26 (z + 2) = some (.inl (cI, 8, .inl (fun _ => 0))) := by rw [hM26, cy_set_ne _ _ (by omega)]; exact f25_2
  have f26_3 : M26 (z + 3) = some (.inl (cI, 2048, .inl (fun _ => 0))) := by rw [hM26, cy_set_ne _ _ (by omega)]; exact f25_3
  have f26_4 : M26 (z + 4) = some (.inl (cI, 128, .inl (fun _ => 0))) := by rw [hM26, cy_set_ne _ _ (by omega)]; exact f25_4
  have f26_5 : M26 (z + 5) = some (.inl (cI, 128, .inl (fun _ => 0))) := by rw [hM26, cy_set_ne _ _ (by omega)]; exact f25_5
  have f26_6 : M26 (z + 6) = some (.inl (cZ, 301, .inl (fun _ => 0))) := by rw [hM26, cy_set_ne _ _ (by omega)]; exact f25_6
  have f26_7 : M26 (z + 7) = some (.inl (cI, 301, .inl (fun _ => 0))) := by rw [hM26, cy_set_ne _ _ (by omega)]; exact f25_7
  have f26_8 : M26 (z + 8) = some (.inl (cZ, 301, .inl (fun _ => 0))) := by rw [hM26, cy_set_ne _ _ (by omega)]; exact f25_8
  have f26_9 : M26 (z + 9) = some (.inl (cI, 8, .inl (fun _ => 0))) := by rw [hM26, cy_set_ne _ _ (by omega)]; exact f25_9
  have f26_10 : M26 (z + 10) = some (.inl (cI, 8, .inl (fun _ => 0))) := by rw [hM26, cy_set_ne _ _ (by omega)]; exact f25_10
  have f26_11 : M26 (z + 11) = some (.inl (cI, 8, .inl (fun _ => 0))) := by rw [hM26, cy_set_ne _ _ (by omega)]; exact f25_11
  have f26_12 : M26 (z + 12) = some (.inl (cI, 64, .inl (fun _ => 0))) := by rw [hM26, cy_set_ne _ _ (by omega)]; exact g25
  have g26 : M26 (q) = some (.inr (7, [.ref z, .int 0, .ref (z + 1), .ref (z + 2), .ref (z + 3), .ref (z + 4), .ref (z + 5), .int 0, .ref (z + 6), .ref (z + 7), .ref (z + 8), .int 0, .int 0, .int 0, .int 0, .int 0, .int 0, .int 0, .int 0, .int 0, .ref (z + 9), .ref (z + 10), .ref (z + 11), .ref (z + 12), .null, .null, .int 0, .null, .int 0])) := by rw [hM26, cy_set_self]
  have t26 : cy_top G M26 (z + 13) := by rw [hM26]; exact cy_top_set t25 (by omega)
  have b26 : ∀ x, x ≠ q → x < z → M26 x = M x := fun x h1 h2 => by rw [hM26]; exact (cy_set_ne _ _ (by omega)).trans (b25 x h1 h2)
  refine wm_aload_n C d_Model_init_116 rfl (j := 0) rfl ?_
  refine wm_bipush (v := 64) C d_Model_init_117 (by decide) ?_
  refine wm_newa C hG aw_int (N := 64) (by decide) (by decide) (by decide) (by decide) (by decide) d_Model_init_119 (fun q27 hq27 => ?_)
  rw [cy_top_eq t26 hq27]
  have t27 := cy_top_new (e := .inl (cI, 64, .inl (fun _ => 0))) t26
  generalize hM27 : cy_set M26 (z + 13) (.inl (cI, 64, .inl (fun _ => 0))) = M27 at t27 ⊢
  have f27_0 : M27 (z) = some (.inl (cB, 300, .inl (fun _ => 0))) := by rw [← hM27, cy_set_ne _ _ (by omega)]; exact f26_0
  have f27_1 : M27 (z + 1) = some (.inl (cB, 2048, .inl (fun _ => 0))) := by rw [← hM27, cy_set_ne _ _ (by omega)]; exact f26_1
  have f27_2 : M27 (z + 2) = some (.inl (cI, 8, .inl (fun _ => 0))) := by rw [← hM27, cy_set_ne _ _ (by omega)]; exact f26_2
  have f27_3 : M27 (z + 3) = some (.inl (cI, 2048, .inl (fun _ => 0))) := by rw [← hM27, cy_set_ne _ _ (by omega)]; exact f26_3
  have f27_4 : M27 (z + 4) = some (.inl (cI, 128, .inl (fun _ => 0))) := by rw [← hM27, cy_set_ne _ _ (by omega)]; exact f26_4
  have f27_5 : M27 (z + 5) = some (.inl (cI, 128, .inl (fun _ => 0))) := by rw [← hM27, cy_set_ne _ _ (by omega)]; exact f26_5
  have f27_6 : M27 (z + 6) = some (.inl (cZ, 301, .inl (fun _ => 0))) := by rw [← hM27, cy_set_ne _ _ (by omega)]; exact f26_6
  have f27_7 : M27 (z + 7) = some (.inl (cI, 301, .inl (fun _ => 0))) := by rw [← hM27, cy_set_ne _ _ (by omega)]; exact f26_7
  have f27_8 : M27 (z + 8) = some (.inl (cZ, 301, .inl (fun _ => 0))) := by rw [← hM27, cy_set_ne _ _ (by omega)]; exact f26_8
  have f27_9 : M27 (z + 9) = some (.inl (cI, 8, .inl (fun _ => 0))) := by rw [← hM27, cy_set_ne _ _ (by omega)]; exact f26_9
  have f27_10 : M27 (z + 10) = some (.inl (cI, 8, .inl (fun _ => 0))) := by rw [← hM27, cy_set_ne _ _ (by omega)]; exact f26_10
  have f27_11 : M27 (z + 11) = some (.inl (cI, 8, .inl (fun _ => 0))) := by rw [← hM27, cy_set_ne _ _ (by omega)]; exact f26_11
  have f27_12 : M27 (z + 12) = some (.inl (cI, 64, .inl (fun _ => 0))) := by rw [← hM27, cy_set_ne _ _ (by omega)]; exact f26_12
  have f27_13 : M27 (q) = some (.inr (7, [.ref z, .int 0, .ref (z + 1), .ref (z + 2), .ref (z + 3), .ref (z + 4), .ref (z + 5), .int 0, .ref (z + 6), .ref (z + 7), .ref (z + 8), .int 0, .int 0, .int 0, .int 0, .int 0, .int 0, .int 0, .int 0, .int 0, .ref (z + 9), .ref (z + 10), .ref (z + 11), .ref (z + 12), .null, .null, .int 0, .null, .int 0])) := by rw [← hM27, cy_set_ne _ _ (by omega)]; exact g26
  have g27 : M27 (z + 13) = some (.inl (cI, 64, .inl (fun _ => 0))) := by rw [← hM27, cy_set_self]
  have b27 : ∀ x, x ≠ q → x < z → M27 x = M x := fun x h1 h2 => by rw [← hM27]; exact (cy_set_ne _ _ (by omega)).trans (b26 x h1 h2)
  refine wm_putF C hN co_Model f27_13 24 (by decide) fl_Model_51 rfl rfl rfl rfl (Nat.le_of_ble_eq_true rfl) d_Model_init_121 ?_
  have hM28 : ∃ X, X = cy_set M27 (q) (.inr (7, [.ref z, .int 0, .ref (z + 1), .ref (z + 2), .ref (z + 3), .ref (z + 4), .ref (z + 5), .int 0, .ref (z + 6), .ref (z + 7), .ref (z + 8), .int 0, .int 0, .int 0, .int 0, .int 0, .int 0, .int 0, .int 0, .int 0, .ref (z + 9), .ref (z + 10), .ref (z + 11), .ref (z + 12), .ref (z + 13), .null, .int 0, .null, .int 0])) := ⟨_, rfl⟩
  obtain ⟨M28, hM28⟩ := hM28
  refine wm_eqM (M2 := M28) hM28 ?_
  have f28_0 : M28 (z) = some (.inl (cB, 300, .inl (fun _ => 0))) := by rw [hM28, cy_set_ne _ _ (by omega)]; exact f27_0
  have f28_1 : M28 (z + 1) = some (.inl (cB, 2048, .inl (fun _ => 0))) := by rw [hM28, cy_set_ne _ _ (by omega)]; exact f27_1
  have f28_2 : M28 (z + 2) = some (.inl (cI, 8, .inl (fun _ => 0))) := by rw [hM28, cy_set_ne _ _ (by omega)]; exact f27_2
  have f28_3 : M28 (z + 3) = some (.inl (cI, 2048, .inl (fun _ => 0))) := by rw [hM28, cy_set_ne _ _ (by omega)]; exact f27_3
  have f28_4 : M28 (z + 4) = some (.inl (cI, 128, .inl (fun _ => 0))) := by rw [hM28, cy_set_ne _ _ (by omega)]; exact f27_4
  have f28_5 : M28 (z + 5) = some (.inl (cI, 128, .inl (fun _ => 0))) := by rw [hM28, cy_set_ne _ _ (by omega)]; exact f27_5
  have f28_6 : M28 (z + 6) = some (.inl (cZ, 301, .inl (fun _ => 0))) := by rw [hM28, cy_set_ne _ _ (by omega)]; exact f27_6
  have f28_7 : M28 (z + 7) = some (.inl (cI, 301, .inl (fun _ => 0))) := by rw [hM28, cy_set_ne _ _ (by omega)]; exact f27_7
  have f28_8 : M28 (z + 8) = some (.inl (cZ, 301, .inl (fun _ => 0))) := by rw [hM28, cy_set_ne _ _ (by omega)]; exact f27_8
  have f28_9 : M28 (z + 9) = some (.inl (cI, 8, .inl (fun _ => 0))) := by rw [hM28, cy_set_ne _ _ (by omega)]; exact f27_9
  have f28_10 : M28 (z + 10) = some (.inl (cI, 8, .inl (fun _ => 0))) := by rw [hM28, cy_set_ne _ _ (by omega)]; exact f27_10
  have f28_11 : M28 (z + 11) = some (.inl (cI, 8, .inl (fun _ => 0))) := by rw [hM28, cy_set_ne _ _ (by omega)]; exact f27_11
  have f28_12 : M28 (z + 12) = some (.inl (cI, 64, .inl (fun _ => 0))) := by rw [hM28, cy_set_ne _ _ (by omega)]; exact f27_12
  have f28_13 : M28 (z + 13) = some (.inl (cI, 64, .inl (fun _ => 0))) := by rw [hM28, cy_set_ne _ _ (by omega)]; exact g27
  have g28 : M28 (q) = some (.inr (7, [.ref z, .int 0, .ref (z + 1), .ref (z + 2), .ref (z + 3), .ref (z + 4), .ref (z + 5), .int 0, .ref (z + 6), .ref (z + 7), .ref (z + 8), .int 0, .int 0, .int 0, .int 0, .int 0, .int 0, .int 0, .int 0, .int 0, .ref (z + 9), .ref (z + 10), .ref (z + 11), .ref (z + 12), .ref (z + 13), .null, .int 0, .null, .int 0])) := by rw [hM28, cy_set_self]
  have t28 : cy_top G M28 (z + 14) := by rw [hM28]; exact cy_top_set t27 (by omega)
  have b28 : ∀ x, x ≠ q → x < z → M28 x = M x := fun x h1 h2 => by rw [hM28]; exact (cy_set_ne _ _ (by omega)).trans (b27 x h1 h2)
  refine wm_aload_n C d_Model_init_124 rfl (j := 0) rfl ?_
  refine wm_sipush (v := 300) C d_Model_init_125 (by decide) ?_
  refine wm_newb C hG2 aw_byte (N := 300) (by decide) (by decide) (by decide) (by decide) (by decide) d_Model_init_128 (fun q29 hq29 => ?_)
  rw [cy_top_eq t28 hq29]
  have t29 := cy_top_new (e := .inl (cB, 300, .inl (fun _ => 0))) t28
  generalize hM29 : cy_set M28 (z + 14) (.inl (cB, 300, .inl (fun _ => 0))) = M29 at t29 ⊢
  have f29_0 : M29 (z) = some (.inl (cB, 300, .inl (fun _ => 0))) := by rw [← hM29, cy_set_ne _ _ (by omega)]; exact f28_0
  have f29_1 : M29 (z + 1) = some (.inl (cB, 2048, .inl (fun _ => 0))) := by rw [← hM29, cy_set_ne _ _ (by omega)]; exact f28_1
  have f29_2 : M29 (z + 2) = some (.inl (cI, 8, .inl (fun _ => 0))) := by rw [← hM29, cy_set_ne _ _ (by omega)]; exact f28_2
  have f29_3 : M29 (z + 3) = some (.inl (cI, 2048, .inl (fun _ => 0))) := by rw [← hM29, cy_set_ne _ _ (by omega)]; exact f28_3
  have f29_4 : M29 (z + 4) = some (.inl (cI, 128, .inl (fun _ => 0))) := by rw [← hM29, cy_set_ne _ _ (by omega)]; exact f28_4
  have f29_5 : M29 (z + 5) = some (.inl (cI, 128, .inl (fun _ => 0))) := by rw [← hM29, cy_set_ne _ _ (by omega)]; exact f28_5
  have f29_6 : M29 (z + 6) = some (.inl (cZ, 301, .inl (fun _ => 0))) := by rw [← hM29, cy_set_ne _ _ (by omega)]; exact f28_6
  have f29_7 : M29 (z + 7) = some (.inl (cI, 301, .inl (fun _ => 0))) := by rw [← hM29, cy_set_ne _ _ (by omega)]; exact f28_7
  have f29_8 : M29 (z + 8) = some (.inl (cZ, 301, .inl (fun _ => 0))) := by rw [← hM29, cy_set_ne _ _ (by omega)]; exact f28_8
  have f29_9 : M29 (z + 9) = some (.inl (cI, 8, .inl (fun _ => 0))) := by rw [← hM29, cy_set_ne _ _ (by omega)]; exact f28_9
  have f29_10 : M29 (z + 10) = some (.inl (cI, 8, .inl (fun _ => 0))) := by rw [← hM29, cy_set_ne _ _ (by omega)]; exact f28_10
  have f29_11 : M29 (z + 11) = some (.inl (cI, 8, .inl (fun _ => 0))) := by rw [← hM29, cy_set_ne _ _ (by omega)]; exact f28_11
  have f29_12 : M29 (z + 12) = some (.inl (cI, 64, .inl (fun _ => 0))) := by rw [← hM29, cy_set_ne _ _ (by omega)]; exact f28_12
  have f29_13 : M29 (z + 13) = some (.inl (cI, 64, .inl (fun _ => 0))) := by rw [← hM29, cy_set_ne _ _ (by omega)]; exact f28_13
  have f29_14 : M29 (q) = some (.inr (7, [.ref z, .int 0, .ref (z + 1), .ref (z + 2), .ref (z + 3), .ref (z + 4), .ref (z + 5), .int 0, .ref (z + 6), .ref (z + 7), .ref (z + 8), .int 0, .int 0, .int 0, .int 0, .int 0, .int 0, .int 0, .int 0, .int 0, .ref (z + 9), .ref (z + 10), .ref (z + 11), .ref (z + 12), .ref (z + 13), .null, .int 0, .null, .int 0])) := by rw [← hM29, cy_set_ne _ _ (by omega)]; exact g28
  have g29 : M29 (z + 14) = some (.inl (cB, 300, .inl (fun _ => 0))) := by rw [← hM29, cy_set_self]
  have b29 : ∀ x, x ≠ q → x < z → M29 x = M x := fun x h1 h2 => by rw [← hM29]; exact (cy_set_ne _ _ (by omega)).trans (b28 x h1 h2)
  refine wm_putF C hN co_Model f29_14 25 (by decide) fl_Model_54 rfl rfl rfl rfl (Nat.le_of_ble_eq_true rfl) d_Model_init_130 ?_
  have hM30 : ∃ X, X = cy_set M29 (q) (.inr (7, [.ref z, .int 0, .ref (z + 1), .ref (z + 2), .ref (z + 3), .ref (z + 4), .ref (z + 5), .int 0, .ref (z + 6), .ref (z + 7), .ref (z + 8), .int 0, .int 0, .int 0, .int 0, .int 0, .int 0, .int 0, .int 0, .int 0, .ref (z + 9), .ref (z + 10), .ref (z + 11), .ref (z + 12), .ref (z + 13), .ref (z + 14), .int 0, .null, .int 0])) := ⟨_, rfl⟩
  obtain ⟨M30, hM30⟩ := hM30
  refine wm_eqM (M2 := M30) hM30 ?_
  have f30_0 : M30 (z) = some (.inl (cB, 300, .inl (fun _ => 0))) := by rw [hM30, cy_set_ne _ _ (by omega)]; exact f29_0
  have f30_1 : M30 (z + 1) = some (.inl (cB, 2048, .inl (fun _ => 0))) := by rw [hM30, cy_set_ne _ _ (by omega)]; exact f29_1
  have f30_2 : M30 (z + 2) = some (.inl (cI, 8, .inl (fun _ => 0))) := by rw [hM30, cy_set_ne _ _ (by omega)]; exact f29_2
  have f30_3 : M30 (z + 3) = some (.inl (cI, 2048, .inl (fun _ => 0))) := by rw [hM30, cy_set_ne _ _ (by omega)]; exact f29_3
  have f30_4 : M30 (z + 4) = some (.inl (cI, 128, .inl (fun _ => 0))) := by rw [hM30, cy_set_ne _ _ (by omega)]; exact f29_4
  have f30_5 : M30 (z + 5) = some (.inl (cI, 128, .inl (fun _ => 0))) := by rw [hM30, cy_set_ne _ _ (by omega)]; exact f29_5
  have f30_6 : M30 (z + 6) = some (.inl (cZ, 301, .inl (fun _ => 0))) := by rw [hM30, cy_set_ne _ _ (by omega)]; exact f29_6
  have f30_7 : M30 (z + 7) = some (.inl (cI, 301, .inl (fun _ => 0))) := by rw [hM30, cy_set_ne _ _ (by omega)]; exact f29_7
  have f30_8 : M30 (z + 8) = some (.inl (cZ, 301, .inl (fun _ => 0))) := by rw [hM30, cy_set_ne _ _ (by omega)]; exact f29_8
  have f30_9 : M30 (z + 9) = some (.inl (cI, 8, .inl (fun _ => 0))) := by rw [hM30, cy_set_ne _ _ (by omega)]; exact f29_9
  have f30_10 : M30 (z + 10) = some (.inl (cI, 8, .inl (fun _ => 0))) := by rw [hM30, cy_set_ne _ _ (by omega)]; exact f29_10
  have f30_11 : M30 (z + 11) = some (.inl (cI, 8, .inl (fun _ => 0))) := by rw [hM30, cy_set_ne _ _ (by omega)]; exact f29_11
  have f30_12 : M30 (z + 12) = some (.inl (cI, 64, .inl (fun _ => 0))) := by rw [hM30, cy_set_ne _ _ (by omega)]; exact f29_12
  have f30_13 : M30 (z + 13) = some (.inl (cI, 64, .inl (fun _ => 0))) := by rw [hM30, cy_set_ne _ _ (by omega)]; exact f29_13
  have f30_14 : M30 (z + 14) = some (.inl (cB, 300, .inl (fun _ => 0))) := by rw [hM30, cy_set_ne _ _ (by omega)]; exact g29
  have g30 : M30 (q) = some (.inr (7, [.ref z, .int 0, .ref (z + 1), .ref (z + 2), .ref (z + 3), .ref (z + 4), .ref (z + 5), .int 0, .ref (z + 6), .ref (z + 7), .ref (z + 8), .int 0, .int 0, .int 0, .int 0, .int 0, .int 0, .int 0, .int 0, .int 0, .ref (z + 9), .ref (z + 10), .ref (z + 11), .ref (z + 12), .ref (z + 13), .ref (z + 14), .int 0, .null, .int 0])) := by rw [hM30, cy_set_self]
  have t30 : cy_top G M30 (z + 15) := by rw [hM30]; exact cy_top_set t29 (by omega)
  have b30 : ∀ x, x ≠ q → x < z → M30 x = M x := fun x h1 h2 => by rw [hM30]; exact (cy_set_ne _ _ (by omega)).trans (b29 x h1 h2)
  refine wm_aload_n C d_Model_init_133 rfl (j := 0) rfl ?_
  refine wm_bipush (v := 64) C d_Model_init_134 (by decide) ?_
  refine wm_newb C hG2 aw_byte (N := 64) (by decide) (by decide) (by decide) (by decide) (by decide) d_Model_init_136 (fun q31 hq31 => ?_)
  rw [cy_top_eq t30 hq31]
  have t31 := cy_top_new (e := .inl (cB, 64, .inl (fun _ => 0))) t30
  generalize hM31 : cy_set M30 (z + 15) (.inl (cB, 64, .inl (fun _ => 0))) = M31 at t31 ⊢
  have f31_0 : M31 (z) = some (.inl (cB, 300, .inl (fun _ => 0))) := by rw [← hM31, cy_set_ne _ _ (by omega)]; exact f30_0
  have f31_1 : M31 (z + 1) = some (.inl (cB, 2048, .inl (fun _ => 0))) := by rw [← hM31, cy_set_ne _ _ (by omega)]; exact f30_1
  have f31_2 : M31 (z + 2) = some (.inl (cI, 8, .inl (fun _ => 0))) := by rw [← hM31, cy_set_ne _ _ (by omega)]; exact f30_2
  have f31_3 : M31 (z + 3) = some (.inl (cI, 2048, .inl (fun _ => 0))) := by rw [← hM31, cy_set_ne _ _ (by omega)]; exact f30_3
  have f31_4 : M31 (z + 4) = some (.inl (cI, 128, .inl (fun _ => 0))) := by rw [← hM31, cy_set_ne _ _ (by omega)]; exact f30_4
  have f31_5 : M31 (z + 5) = some (.inl (cI, 128, .inl (fun _ => 0))) := by rw [← hM31, cy_set_ne _ _ (by omega)]; exact f30_5
  have f31_6 : M31 (z + 6) = some (.inl (cZ, 301, .inl (fun _ => 0))) := by rw [← hM31, cy_set_ne _ _ (by omega)]; exact f30_6
  have f31_7 : M31 (z + 7) = some (.inl (cI, 301, .inl (fun _ => 0))) := by rw [← hM31, cy_set_ne _ _ (by omega)]; exact f30_7
  have f31_8 : M31 (z + 8) = some (.inl (cZ, 301, .inl (fun _ => 0))) := by rw [← hM31, cy_set_ne _ _ (by omega)]; exact f30_8
  have f31_9 : M31 (z + 9) = some (.inl (cI, 8, .inl (fun _ => 0))) := by rw [← hM31, cy_set_ne _ _ (by omega)]; exact f30_9
  have f31_10 : M31 (z + 10) = some (.inl (cI, 8, .inl (fun _ => 0))) := by rw [← hM31, cy_set_ne _ _ (by omega)]; exact f30_10
  have f31_11 : M31 (z + 11) = some (.inl (cI, 8, .inl (fun _ => 0))) := by rw [← hM31, cy_set_ne _ _ (by omega)]; exact f30_11
  have f31_12 : M31 (z + 12) = some (.inl (cI, 64, .inl (fun _ => 0))) := by rw [← hM31, cy_set_ne _ _ (by omega)]; exact f30_12
  have f31_13 : M31 (z + 13) = some (.inl (cI, 64, .inl (fun _ => 0))) := by rw [← hM31, cy_set_ne _ _ (by omega)]; exact f30_13
  have f31_14 : M31 (z + 14) = some (.inl (cB, 300, .inl (fun _ => 0))) := by rw [← hM31, cy_set_ne _ _ (by omega)]; exact f30_14
  have f31_15 : M31 (q) = some (.inr (7, [.ref z, .int 0, .ref (z + 1), .ref (z + 2), .ref (z + 3), .ref (z + 4), .ref (z + 5), .int 0, .ref (z + 6), .ref (z + 7), .ref (z + 8), .int 0, .int 0, .int 0, .int 0, .int 0, .int 0, .int 0, .int 0, .int 0, .ref (z + 9), .ref (z + 10), .ref (z + 11), .ref (z + 12), .ref (z + 13), .ref (z + 14), .int 0, .null, .int 0])) := by rw [← hM31, cy_set_ne _ _ (by omega)]; exact g30
  have g31 : M31 (z + 15) = some (.inl (cB, 64, .inl (fun _ => 0))) := by rw [← hM31, cy_set_self]
  have b31 : ∀ x, x ≠ q → x < z → M31 x = M x := fun x h1 h2 => by rw [← hM31]; exact (cy_set_ne _ _ (by omega)).trans (b30 x h1 h2)
  refine wm_putF C hN co_Model f31_15 27 (by decide) fl_Model_57 rfl rfl rfl rfl (Nat.le_of_ble_eq_true rfl) d_Model_init_138 ?_
  have hM32 : ∃ X, X = cy_set M31 (q) (.inr (7, [.ref z, .int 0, .ref (z + 1), .ref (z + 2), .ref (z + 3), .ref (z + 4), .ref (z + 5), .int 0, .ref (z + 6), .ref (z + 7), .ref (z + 8), .int 0, .int 0, .int 0, .int 0, .int 0, .int 0, .int 0, .int 0, .int 0, .ref (z + 9), .ref (z + 10), .ref (z + 11), .ref (z + 12), .ref (z + 13), .ref (z + 14), .int 0, .ref (z + 15), .int 0])) := ⟨_, rfl⟩
  obtain ⟨M32, hM32⟩ := hM32
  refine wm_eqM (M2 := M32) hM32 ?_
  have f32_0 : M32 (z) = some (.inl (cB, 300, .inl (fun _ => 0))) := by rw [hM32, cy_set_ne _ _ (by omega)]; exact f31_0
  have f32_1 : M32 (z + 1) = some (.inl (cB, 2048, .inl (fun _ => 0))) := by rw [hM32, cy_set_ne _ _ (by omega)]; exact f31_1
  have f32_2 : M32 (z + 2) = some (.inl (cI, 8, .inl (fun _ => 0))) := by rw [hM32, cy_set_ne _ _ (by omega)]; exact f31_2
  have f32_3 : M32 (z + 3) = some (.inl (cI, 2048, .inl (fun _ => 0))) := by rw [hM32, cy_set_ne _ _ (by omega)]; exact f31_3
  have f32_4 : M32 (z + 4) = some (.inl (cI, 128, .inl (fun _ => 0))) := by rw [hM32, cy_set_ne _ _ (by omega)]; exact f31_4
  have f32_5 : M32 (z + 5) = some (.inl (cI, 128, .inl (fun _ => 0))) := by rw [hM32, cy_set_ne _ _ (by omega)]; exact f31_5
  have f32_6 : M32 (z + 6) = some (.inl (cZ, 301, .inl (fun _ => 0))) := by rw [hM32, cy_set_ne _ _ (by omega)]; exact f31_6
  have f32_7 : M32 (z + 7) = some (.inl (cI, 301, .inl (fun _ => 0))) := by rw [hM32, cy_set_ne _ _ (by omega)]; exact f31_7
  have f32_8 : M32 (z + 8) = some (.inl (cZ, 301, .inl (fun _ => 0))) := by rw [hM32, cy_set_ne _ _ (by omega)]; exact f31_8
  have f32_9 : M32 (z + 9) = some (.inl (cI, 8, .inl (fun _ => 0))) := by rw [hM32, cy_set_ne _ _ (by omega)]; exact f31_9
  have f32_10 : M32 (z + 10) = some (.inl (cI, 8, .inl (fun _ => 0))) := by rw [hM32, cy_set_ne _ _ (by omega)]; exact f31_10
  have f32_11 : M32 (z + 11) = some (.inl (cI, 8, .inl (fun _ => 0))) := by rw [hM32, cy_set_ne _ _ (by omega)]; exact f31_11
  have f32_12 : M32 (z + 12) = some (.inl (cI, 64, .inl (fun _ => 0))) := by rw [hM32, cy_set_ne _ _ (by omega)]; exact f31_12
  have f32_13 : M32 (z + 13) = some (.inl (cI, 64, .inl (fun _ => 0))) := by rw [hM32, cy_set_ne _ _ (by omega)]; exact f31_13
  have f32_14 : M32 (z + 14) = some (.inl (cB, 300, .inl (fun _ => 0))) := by rw [hM32, cy_set_ne _ _ (by omega)]; exact f31_14
  have f32_15 : M32 (z + 15) = some (.inl (cB, 64, .inl (fun _ => 0))) := by rw [hM32, cy_set_ne _ _ (by omega)]; exact g31
  have g32 : M32 (q) = some (.inr (7, [.ref z, .int 0, .ref (z + 1), .ref (z + 2), .ref (z + 3), .ref (z + 4), .ref (z + 5), .int 0, .ref (z + 6), .ref (z + 7), .ref (z + 8), .int 0, .int 0, .int 0, .int 0, .int 0, .int 0, .int 0, .int 0, .int 0, .ref (z + 9), .ref (z + 10), .ref (z + 11), .ref (z + 12), .ref (z + 13), .ref (z + 14), .int 0, .ref (z + 15), .int 0])) := by rw [hM32, cy_set_self]
  have t32 : cy_top G M32 (z + 16) := by rw [hM32]; exact cy_top_set t31 (by omega)
  have b32 : ∀ x, x ≠ q → x < z → M32 x = M x := fun x h1 h2 => by rw [hM32]; exact (cy_set_ne _ _ (by omega)).trans (b31 x h1 h2)
  refine wm_vret C P d_Model_init_141 ?_
  subst hqz1
  refine h _ ⟨g32, fun a ha => ?_, fun _ _ => rfl⟩ (fun x hx => b32 x (by omega) (by omega)) t32
  match a, ha with
  | 0, _ => exact f32_0
  | 1, _ => exact f32_1
  | 2, _ => exact f32_2
  | 3, _ => exact f32_3
  | 4, _ => exact f32_4
  | 5, _ => exact f32_5
  | 6, _ => exact f32_6
  | 7, _ => exact f32_7
  | 8, _ => exact f32_8
  | 9, _ => exact f32_9
  | 10, _ => exact f32_10
  | 11, _ => exact f32_11
  | 12, _ => exact f32_12
  | 13, _ => exact f32_13
  | 14, _ => exact f32_14
  | 15, _ => exact f32_15
  | a + 16, ha => exact absurd ha (by omega)
