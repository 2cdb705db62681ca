set_option maxHeartbeats 8000000 in
theorem c_Run_init {G : cy_G} {cI : ClassId} (hG : G.2.2.1[0]? = some (cI, .int)) {M : cy_Hp} {q z : Nat} {post : Option Value → cy_Hp → Prop} (hq : M q = some (.inr (5, [.null, .null, .null, .null, .null, .int 0, .int 0, .int 0, .int 0, .int 0]))) (hz : cy_top G M z) (sh : Nat) (h : ∀ M', (M' q = some (.inr (5, [.ref sh, .ref (z + 13), .ref z, .ref (z + 2), .ref (z + 13), .int 0, .int 0, .int 0, .int 0, .int 0])) ∧ cy_kRow cI M' z 300 ∧ cy_kRow cI M' (z + 2) 64 ∧ cy_kCode cI M' (z + 4) (z + 5) (-1) ∧ (M' (z + 13) = some (.inr (4, [.int 1, .null, .ref (z + 18), .ref (z + 14), .ref (z + 16), .ref (z + 4), .int 0])) ∧ M' (z + 18) = some (.inr (4, [.int 2, .ref (z + 13), .ref (z + 23), .ref (z + 19), .ref (z + 21), .ref (z + 4), .int 0])) ∧ M' (z + 23) = some (.inr (4, [.int 3, .ref (z + 18), .ref (z + 28), .ref (z + 24), .ref (z + 26), .ref (z + 4), .int 0])) ∧ M' (z + 28) = some (.inr (4, [.int 4, .ref (z + 23), .ref (z + 33), .ref (z + 29), .ref (z + 31), .ref (z + 4), .int 0])) ∧ M' (z + 33) = some (.inr (4, [.int 5, .ref (z + 28), .ref (z + 38), .ref (z + 34), .ref (z + 36), .ref (z + 4), .int 0])) ∧ M' (z + 38) = some (.inr (4, [.int 6, .ref (z + 33), .ref (z + 43), .ref (z + 39), .ref (z + 41), .ref (z + 4), .int 0])) ∧ M' (z + 43) = some (.inr (4, [.int 7, .ref (z + 38), .ref (z + 48), .ref (z + 44), .ref (z + 46), .ref (z + 4), .int 0])) ∧ M' (z + 48) = some (.inr (4, [.int 8, .ref (z + 43), .null, .ref (z + 49), .ref (z + 51), .ref (z + 4), .int 0]))) ∧ cy_kFr2 cI M' (z + 14) ∧ cy_kFr2 cI M' (z + 19) ∧ cy_kFr2 cI M' (z + 24) ∧ cy_kFr2 cI M' (z + 29) ∧ cy_kFr2 cI M' (z + 34) ∧ cy_kFr2 cI M' (z + 39) ∧ cy_kFr2 cI M' (z + 44) ∧ cy_kFr2 cI M' (z + 49)) → (∀ x, x ≠ q → x < z → M' x = M x) → cy_top G M' (z + 53) → post none M') : cy_Ct G 3 m_Run_init [.ref q, .ref sh] M 53 1141 post := by
  have hqz : q < z := cy_top_lt hz hq
  refine cy_Ct.of (by decide) (Nat.le_of_ble_eq_true rfl) ?_
  intro F C P hN
  have hN := hN rfl
  have hb : ∀ x, x ≠ q → x < z → M x = M x := fun _ _ _ => rfl
  have C : cy_C G F R_Run b_Run_init 6 3 53 1141 := C
  have P : cy_P G F none post 53 1141 := P
  show WM G F 6 0 0 0 [(0, .ref q), (1, .ref sh)] [] M
  refine wm_aload_n C d_Run_init_0 rfl (j := 0) rfl ?_
  refine wm_obj C ml_Run_3 ob_i ob_c (by decide) (Nat.le_of_ble_eq_true rfl) d_Run_init_1 ?_
  refine wm_aload_n C d_Run_init_4 rfl (j := 0) rfl ?_
  refine wm_aload_n C d_Run_init_5 rfl (j := 1) rfl ?_
  refine wm_putF C hN co_Run hq 0 (by decide) fl_Run_9 rfl rfl rfl rfl (Nat.le_of_ble_eq_true rfl) d_Run_init_6 ?_
  have hM1 : ∃ X, X = cy_set M (q) (.inr (5, [.ref sh, .null, .null, .null, .null, .int 0, .int 0, .int 0, .int 0, .int 0])) := ⟨_, rfl⟩
  obtain ⟨M1, hM1⟩ := hM1
  refine wm_eqM (M2 := M1) hM1 ?_
  have g1 : M1 (q) = some (.inr (5, [.ref sh, .null, .null, .null, .null, .int 0, .int 0, .int 0, .int 0, .int 0])) := by rw [hM1, cy_set_self]
  have t1 : cy_top G M1 (z) := by rw [hM1]; exact cy_top_set hz (by omega)
  have b1 : ∀ x, x ≠ q → x < z → M1 x = M x := fun x h1 h2 => by rw [hM1]; exact (cy_set_ne _ _ (by omega)).trans (hb x h1 h2)
  refine wm_aload_n C d_Run_init_9 rfl (j := 0) rfl ?_
  refine wm_new C co_Row cl_Run_15 in_Row ini_Row (fs := [.null, .int 0]) (fun j hj => by rcases (show j = 0 ∨ j = 1 by omega) with rfl | rfl <;> rfl) (by decide) (by decide) d_Run_init_10 (fun q2 hq2 => ?_)
  rw [cy_top_eq t1 hq2]
  have t2 := cy_top_new (e := .inr (0, [.null, .int 0])) t1
  generalize hM2 : cy_set M1 (z) (.inr (0, [.null, .int 0])) = M2 at t2 ⊢
  have f2_0 : M2 (q) = some (.inr (5, [.ref sh, .null, .null, .null, .null, .int 0, .int 0, .int 0, .int 0, .int 0])) := by rw [← hM2, cy_set_ne _ _ (by omega)]; exact g1
  have g2 : M2 (z) = some (.inr (0, [.null, .int 0])) := by rw [← hM2, cy_set_self]
  have b2 : ∀ x, x ≠ q → x < z → M2 x = M x := fun x h1 h2 => by rw [← hM2]; exact (cy_set_ne _ _ (by omega)).trans (b1 x h1 h2)
  refine wm_dup C d_Run_init_13 rfl ?_
  refine wm_sipush (v := 300) C d_Run_init_14 (by decide) ?_
  refine wm_callIN (d2 := 1) (mc := 1) (ms := 300) C mo_Row_init rfl ml_Run_17 [.int 300] [.ref z, .ref q] rfl rfl (by decide) (Nat.le_of_ble_eq_true rfl) (by decide) (by decide) d_Run_init_17 (cy_kv ?_)
  refine c_Row_init hG g2 t2 (n := 300) (by decide) (fun M3 g3 h3 o3 t3 => ⟨rfl, ?_⟩)
  have f3_0 : M3 (q) = some (.inr (5, [.ref sh, .null, .null, .null, .null, .int 0, .int 0, .int 0, .int 0, .int 0])) := (o3 _ (by omega) (by omega)).trans f2_0
  have b3 : ∀ x, x ≠ q → x < z → M3 x = M x := fun x h1 h2 => (o3 x (by omega) (by omega)).trans (b2 x h1 h2)
  refine wm_putF C hN co_Run f3_0 2 (by decide) fl_Run_20 rfl rfl rfl rfl (Nat.le_of_ble_eq_true rfl) d_Run_init_20 ?_
  have hM4 : ∃ X, X = cy_set M3 (q) (.inr (5, [.ref sh, .null, .ref z, .null, .null, .int 0, .int 0, .int 0, .int 0, .int 0])) := ⟨_, rfl⟩
  obtain ⟨M4, hM4⟩ := hM4
  refine wm_eqM (M2 := M4) hM4 ?_
  have f4_0 : M4 (z) = some (.inr (0, [.ref (z + 1), .int 0])) := by rw [hM4, cy_set_ne _ _ (by omega)]; exact g3
  have f4_1 : M4 (z + 1) = some (.inl (cI, 300, .inl (fun _ => 0))) := by rw [hM4, cy_set_ne _ _ (by omega)]; exact h3
  have g4 : M4 (q) = some (.inr (5, [.ref sh, .null, .ref z, .null, .null, .int 0, .int 0, .int 0, .int 0, .int 0])) := by rw [hM4, cy_set_self]
  have t4 : cy_top G M4 (z + 2) := by rw [hM4]; exact cy_top_set t3 (by omega)
  have b4 : ∀ x, x ≠ q → x < z → M4 x = M x := fun x h1 h2 => by rw [hM4]; exact (cy_set_ne _ _ (by omega)).trans (b3 x h1 h2)
  refine wm_aload_n C d_Run_init_23 rfl (j := 0) rfl ?_
  refine wm_new C co_Row cl_Run_15 in_Row ini_Row (fs := [.null, .int 0]) (fun j hj => by rcases (show j = 0 ∨ j = 1 by omega) with rfl | rfl <;> rfl) (by decide) (by decide) d_Run_init_24 (fun q5 hq5 => ?_)
  rw [cy_top_eq t4 hq5]
  have t5 := cy_top_new (e := .inr (0, [.null, .int 0])) t4
  generalize hM5 : cy_set M4 (z + 2) (.inr (0, [.null, .int 0])) = M5 at t5 ⊢
  have f5_0 : M5 (z) = some (.inr (0, [.ref (z + 1), .int 0])) := by rw [← hM5, cy_set_ne _ _ (by omega)]; exact f4_0
  have f5_1 : M5 (z + 1) = some (.inl (cI, 300, .inl (fun _ => 0))) := by rw [← hM5, cy_set_ne _ _ (by omega)]; exact f4_1
  have f5_2 : M5 (q) = some (.inr (5, [.ref sh, .null, .ref z, .null, .null, .int 0, .int 0, .int 0, .int 0, .int 0])) := by rw [← hM5, cy_set_ne _ _ (by omega)]; exact g4
  have g5 : M5 (z + 2) = some (.inr (0, [.null, .int 0])) := by rw [← hM5, cy_set_self]
  have b5 : ∀ x, x ≠ q → x < z → M5 x = M x := fun x h1 h2 => by rw [← hM5]; exact (cy_set_ne _ _ (by omega)).trans (b4 x h1 h2)
  refine wm_dup C d_Run_init_27 rfl ?_
  refine wm_bipush (v := 64) C d_Run_init_28 (by decide) ?_
  refine wm_callIN (d2 := 1) (mc := 1) (ms := 64) C mo_Row_init rfl ml_Run_17 [.int 64] [.ref (z + 2), .ref q] rfl rfl (by decide) (Nat.le_of_ble_eq_true rfl) (by decide) (by decide) d_Run_init_30 (cy_kv ?_)
  refine c_Row_init hG g5 t5 (n := 64) (by decide) (fun M6 g6 h6 o6 t6 => ⟨rfl, ?_⟩)
  have f6_0 : M6 (z) = some (.inr (0, [.ref (z + 1), .int 0])) := (o6 _ (by omega) (by omega)).trans f5_0
  have f6_1 : M6 (z + 1) = some (.inl (cI, 300, .inl (fun _ => 0))) := (o6 _ (by omega) (by omega)).trans f5_1
  have f6_2 : M6 (q) = some (.inr (5, [.ref sh, .null, .ref z, .null, .null, .int 0, .int 0, .int 0, .int 0, .int 0])) := (o6 _ (by omega) (by omega)).trans f5_2
  have b6 : ∀ x, x ≠ q → x < z → M6 x = M x := fun x h1 h2 => (o6 x (by omega) (by omega)).trans (b5 x h1 h2)
  refine wm_putF C hN co_Run f6_2 3 (by decide) fl_Run_24 rfl rfl rfl rfl (Nat.le_of_ble_eq_true rfl) d_Run_init_33 ?_
  have hM7 : ∃ X, X = cy_set M6 (q) (.inr (5, [.ref sh, .null, .ref z, .ref (z + 2), .null, .int 0, .int 0, .int 0, .int 0, .int 0])) := ⟨_, rfl⟩
  obtain ⟨M7, hM7⟩ := hM7
  refine wm_eqM (M2 := M7) hM7 ?_
  have f7_0 : M7 (z) = some (.inr (0, [.ref (z + 1), .int 0])) := by rw [hM7, cy_set_ne _ _ (by omega)]; exact f6_0
  have f7_1 : M7 (z + 1) = some (.inl (cI, 300, .inl (fun _ => 0))) := by rw [hM7, cy_set_ne _ _ (by omega)]; exact f6_1
  have f7_2 : M7 (z + 2) = some (.inr (0, [.ref (z + 3), .int 0])) := by rw [hM7, cy_set_ne _ _ (by omega)]; exact g6
  have f7_3 : M7 (z + 3) = some (.inl (cI, 64, .inl (fun _ => 0))) := by rw [hM7, cy_set_ne _ _ (by omega)]; exact h6
  have g7 : M7 (q) = some (.inr (5, [.ref sh, .null, .ref z, .ref (z + 2), .null, .int 0, .int 0, .int 0, .int 0, .int 0])) := by rw [hM7, cy_set_self]
  have t7 : cy_top G M7 (z + 4) := by rw [hM7]; exact cy_top_set t6 (by omega)
  have b7 : ∀ x, x ≠ q → x < z → M7 x = M x := fun x h1 h2 => by rw [hM7]; exact (cy_set_ne _ _ (by omega)).trans (b6 x h1 h2)
  refine wm_new C co_Code cl_Run_27 in_Code ini_Code (fs := [.int 0, .null, .null, .null, .null]) (fun j hj => by rcases (show j = 0 ∨ j = 1 ∨ j = 2 ∨ j = 3 ∨ j = 4 by omega) with rfl | rfl | rfl | rfl | rfl <;> rfl) (by decide) (by decide) d_Run_init_36 (fun q8 hq8 => ?_)
  rw [cy_top_eq t7 hq8]
  have t8 := cy_top_new (e := .inr (1, [.int 0, .null, .null, .null, .null])) t7
  generalize hM8 : cy_set M7 (z + 4) (.inr (1, [.int 0, .null, .null, .null, .null])) = M8 at t8 ⊢
  have f8_0 : M8 (z) = some (.inr (0, [.ref (z + 1), .int 0])) := by rw [← hM8, cy_set_ne _ _ (by omega)]; exact f7_0
  have f8_1 : M8 (z + 1) = some (.inl (cI, 300, .inl (fun _ => 0))) := by rw [← hM8, cy_set_ne _ _ (by omega)]; exact f7_1
  have f8_2 : M8 (z + 2) = some (.inr (0, [.ref (z + 3), .int 0])) := by rw [← hM8, cy_set_ne _ _ (by omega)]; exact f7_2
  have f8_3 : M8 (z + 3) = some (.inl (cI, 64, .inl (fun _ => 0))) := by rw [← hM8, cy_set_ne _ _ (by omega)]; exact f7_3
  have f8_4 : M8 (q) = some (.inr (5, [.ref sh, .null, .ref z, .ref (z + 2), .null, .int 0, .int 0, .int 0, .int 0, .int 0])) := by rw [← hM8, cy_set_ne _ _ (by omega)]; exact g7
  have g8 : M8 (z + 4) = some (.inr (1, [.int 0, .null, .null, .null, .null])) := by rw [← hM8, cy_set_self]
  have b8 : ∀ x, x ≠ q → x < z → M8 x = M x := fun x h1 h2 => by rw [← hM8]; exact (cy_set_ne _ _ (by omega)).trans (b7 x h1 h2)
  refine wm_dup C d_Run_init_39 rfl ?_
  refine wm_iconst (v := -1) C d_Run_init_40 (by decide) ?_
  refine wm_callIN (d2 := 2) (mc := 8) (ms := 552) C mo_Code_init rfl ml_Run_29 [.int (-1)] [.ref (z + 4)] rfl rfl (by decide) (Nat.le_of_ble_eq_true rfl) (by decide) (by decide) d_Run_init_41 (cy_kv ?_)
  refine c_Code_init hG g8 t8 (-1) (fun M9 g9 o9 t9 => ⟨rfl, ?_⟩)
  have f9_0 : M9 (z) = some (.inr (0, [.ref (z + 1), .int 0])) := (o9 _ (by omega) (by omega)).trans f8_0
  have f9_1 : M9 (z + 1) = some (.inl (cI, 300, .inl (fun _ => 0))) := (o9 _ (by omega) (by omega)).trans f8_1
  have f9_2 : M9 (z + 2) = some (.inr (0, [.ref (z + 3), .int 0])) := (o9 _ (by omega) (by omega)).trans f8_2
  have f9_3 : M9 (z + 3) = some (.inl (cI, 64, .inl (fun _ => 0))) := (o9 _ (by omega) (by omega)).trans f8_3
  have f9_4 : M9 (q) = some (.inr (5, [.ref sh, .null, .ref z, .ref (z + 2), .null, .int 0, .int 0, .int 0, .int 0, .int 0])) := (o9 _ (by omega) (by omega)).trans f8_4
  have b9 : ∀ x, x ≠ q → x < z → M9 x = M x := fun x h1 h2 => (o9 x (by omega) (by omega)).trans (b8 x h1 h2)
  refine wm_astore_n (lv' := [(2, .ref (z + 4)), (0, .ref q), (1, .ref sh)]) C d_Run_init_44 rfl (by decide) rfl ?_
  refine wm_aload_n C d_Run_init_45 rfl (j := 1) rfl ?_
  refine wm_new C co_Frame cl_Run_30 in_Frame ini_Frame (fs := [.int 0, .null, .null, .null, .null, .null, .int 0]) (fun j hj => by rcases (show j = 0 ∨ j = 1 ∨ j = 2 ∨ j = 3 ∨ j = 4 ∨ j = 5 ∨ j = 6 by omega) with rfl | rfl | rfl | rfl | rfl | rfl | rfl <;> rfl) (by decide) (by decide) d_Run_init_46 (fun q10 hq10 => ?_)
  rw [cy_top_eq t9 hq10]
  have t10 := cy_top_new (e := .inr (4, [.int 0, .null, .null, .null, .null, .null, .int 0])) t9
  generalize hM10 : cy_set M9 (z + 13) (.inr (4, [.int 0, .null, .null, .null, .null, .null, .int 0])) = M10 at t10 ⊢
  have f10_0 : M10 (z) = some (.inr (0, [.ref (z + 1), .int 0])) := by rw [← hM10, cy_set_ne _ _ (by omega)]; exact f9_0
  have f10_1 : M10 (z + 1) = some (.inl (cI, 300, .inl (fun _ => 0))) := by rw [← hM10, cy_set_ne _ _ (by omega)]; exact f9_1
  have f10_2 : M10 (z + 2) = some (.inr (0, [.ref (z + 3), .int 0])) := by rw [← hM10, cy_set_ne _ _ (by omega)]; exact f9_2
  have f10_3 : M10 (z + 3) = some (.inl (cI, 64, .inl (fun _ => 0))) := by rw [← hM10, cy_set_ne _ _ (by omega)]; exact f9_3
  have f10_4 : M10 (q) = some (.inr (5, [.ref sh, .null, .ref z, .ref (z + 2), .null, .int 0, .int 0, .int 0, .int 0, .int 0])) := by rw [← hM10, cy_set_ne _ _ (by omega)]; exact f9_4
  have f10_5 := cy_kCode_mv (M' := M10) g9 (fun x hx => by rw [← hM10, cy_set_ne _ _ (by omega)])
  have g10 : M10 (z + 13) = some (.inr (4, [.int 0, .null, .null, .null, .null, .null, .int 0])) := by rw [← hM10, cy_set_self]
  have b10 : ∀ x, x ≠ q → x < z → M10 x = M x := fun x h1 h2 => by rw [← hM10]; exact (cy_set_ne _ _ (by omega)).trans (b9 x h1 h2)
  refine wm_dup C d_Run_init_49 rfl ?_
  refine wm_iconst (v := 1) C d_Run_init_50 (by decide) ?_
  refine wm_null C d_Run_init_51 ?_
  refine wm_aload_n C d_Run_init_52 rfl (j := 0) rfl ?_
  refine wm_callIN (d2 := 2) (mc := 4) (ms := 20) C mo_Frame_init rfl ml_Run_32 [.int 1, .null, .ref (z + 4)] [.ref (z + 13), .ref q] rfl rfl (by decide) (Nat.le_of_ble_eq_true rfl) (by decide) (by decide) d_Run_init_53 (cy_kv ?_)
  refine c_Frame_init0 hG g10 t10 1 (z + 4) (fun M11 g11 o11 t11 => ⟨rfl, ?_⟩)
  have f11_0 : M11 (z) = some (.inr (0, [.ref (z + 1), .int 0])) := (o11 _ (by omega) (by omega)).trans f10_0
  have f11_1 : M11 (z + 1) = some (.inl (cI, 300, .inl (fun _ => 0))) := (o11 _ (by omega) (by omega)).trans f10_1
  have f11_2 : M11 (z + 2) = some (.inr (0, [.ref (z + 3), .int 0])) := (o11 _ (by omega) (by omega)).trans f10_2
  have f11_3 : M11 (z + 3) = some (.inl (cI, 64, .inl (fun _ => 0))) := (o11 _ (by omega) (by omega)).trans f10_3
  have f11_4 : M11 (q) = some (.inr (5, [.ref sh, .null, .ref z, .ref (z + 2), .null, .int 0, .int 0, .int 0, .int 0, .int 0])) := (o11 _ (by omega) (by omega)).trans f10_4
  have f11_5 := cy_kCode_mv (M' := M11) f10_5 (fun x hx => o11 x (by omega) (by omega))
  have b11 : ∀ x, x ≠ q → x < z → M11 x = M x := fun x h1 h2 => (o11 x (by omega) (by omega)).trans (b10 x h1 h2)
  refine wm_putF C hN co_Run f11_4 1 (by decide) fl_Run_35 rfl rfl rfl rfl (Nat.le_of_ble_eq_true rfl) d_Run_init_56 ?_
  have hM12 : ∃ X, X = cy_set M11 (q) (.inr (5, [.ref sh, .ref (z + 13), .ref z, .ref (z + 2), .null, .int 0, .int 0, .int 0, .int 0, .int 0])) := ⟨_, rfl⟩
  obtain ⟨M12, hM12⟩ := hM12
  refine wm_eqM (M2 := M12) hM12 ?_
  have f12_0 : M12 (z) = some (.inr (0, [.ref (z + 1), .int 0])) := by rw [hM12, cy_set_ne _ _ (by omega)]; exact f11_0
  have f12_1 : M12 (z + 1) = some (.inl (cI, 300, .inl (fun _ => 0))) := by rw [hM12, cy_set_ne _ _ (by omega)]; exact f11_1
  have f12_2 : M12 (z + 2) = some (.inr (0, [.ref (z + 3), .int 0])) := by rw [hM12, cy_set_ne _ _ (by omega)]; exact f11_2
  have f12_3 : M12 (z + 3) = some (.inl (cI, 64, .inl (fun _ => 0))) := by rw [hM12, cy_set_ne _ _ (by omega)]; exact f11_3
  have f12_4 := cy_kCode_mv (M' := M12) f11_5 (fun x hx => by rw [hM12, cy_set_ne _ _ (by omega)])
  have f12_5 : M12 (z + 13) = some (.inr (4, [.int 1, .null, .null, .ref (z + 14), .ref (z + 16), .ref (z + 4), .int 0])) := by rw [hM12, cy_set_ne _ _ (by omega)]; exact g11.1
  have f12_6 := cy_kFr2_mv (M' := M12) g11.2 (fun x hx => by rw [hM12, cy_set_ne _ _ (by omega)])
  have g12 : M12 (q) = some (.inr (5, [.ref sh, .ref (z + 13), .ref z, .ref (z + 2), .null, .int 0, .int 0, .int 0, .int 0, .int 0])) := by rw [hM12, cy_set_self]
  have t12 : cy_top G M12 (z + 18) := by rw [hM12]; exact cy_top_set t11 (by omega)
  have b12 : ∀ x, x ≠ q → x < z → M12 x = M x := fun x h1 h2 => by rw [hM12]; exact (cy_set_ne _ _ (by omega)).trans (b11 x h1 h2)
  refine wm_aload_n C d_Run_init_59 rfl (j := 1) rfl ?_
  refine wm_aload_n C d_Run_init_60 rfl (j := 1) rfl ?_
  refine wm_get C co_Run g12 1 (by decide) fl_Run_35 rfl d_Run_init_61 ?_
  refine wm_put C co_Run g12 4 (by decide) fl_Run_39 rfl rfl rfl (Nat.le_of_ble_eq_true rfl) d_Run_init_64 ?_
  have hM13 : ∃ X, X = cy_set M12 (q) (.inr (5, [.ref sh, .ref (z + 13), .ref z, .ref (z + 2), .ref (z + 13), .int 0, .int 0, .int 0, .int 0, .int 0])) := ⟨_, rfl⟩
  obtain ⟨M13, hM13⟩ := hM13
  refine wm_eqM (M2 := M13) hM13 ?_
  have f13_0 : M13 (z) = some (.inr (0, [.ref (z + 1), .int 0])) := by rw [hM13, cy_set_ne _ _ (by omega)]; exact f12_0
  have f13_1 : M13 (z + 1) = some (.inl (cI, 300, .inl (fun _ => 0))) := by rw [hM13, cy_set_ne _ _ (by omega)]; exact f12_1
  have f13_2 : M13 (z + 2) = some (.inr (0, [.ref (z + 3), .int 0])) := by rw [hM13, cy_set_ne _ _ (by omega)]; exact f12_2
  have f13_3 : M13 (z + 3) = some (.inl (cI, 64, .inl (fun _ => 0))) := by rw [hM13, cy_set_ne _ _ (by omega)]; exact f12_3
  have f13_4 := cy_kCode_mv (M' := M13) f12_4 (fun x hx => by rw [hM13, cy_set_ne _ _ (by omega)])
  have f13_5 : M13 (z + 13) = some (.inr (4, [.int 1, .null, .null, .ref (z + 14), .ref (z + 16), .ref (z + 4), .int 0])) := by rw [hM13, cy_set_ne _ _ (by omega)]; exact f12_5
  have f13_6 := cy_kFr2_mv (M' := M13) f12_6 (fun x hx => by rw [hM13, cy_set_ne _ _ (by omega)])
  have g13 : M13 (q) = some (.inr (5, [.ref sh, .ref (z + 13), .ref z, .ref (z + 2), .ref (z + 13), .int 0, .int 0, .int 0, .int 0, .int 0])) := by rw [hM13, cy_set_self]
  have t13 : cy_top G M13 (z + 18) := by rw [hM13]; exact cy_top_set t12 (by omega)
  have b13 : ∀ x, x ≠ q → x < z → M13 x = M x := fun x h1 h2 => by rw [hM13]; exact (cy_set_ne _ _ (by omega)).trans (b12 x h1 h2)
  refine wm_aload_n C d_Run_init_67 rfl (j := 1) rfl ?_
  refine wm_get C co_Run g13 1 (by decide) fl_Run_35 rfl d_Run_init_68 ?_
  refine wm_astore_n (lv' := [(3, .ref (z + 13)), (2, .ref (z + 4)), (0, .ref q), (1, .ref sh)]) C d_Run_init_71 rfl (by decide) rfl ?_
  refine wm_iconst (v := 2) C d_Run_init_72 (by decide) ?_
  refine wm_istore (lv' := [(4, .int 2), (3, .ref (z + 13)), (2, .ref (z + 4)), (0, .ref q), (1, .ref sh)]) C d_Run_init_73 (by decide) rfl ?_
  refine wm_iload C d_Run_init_75 (j := 0) rfl ?_
  refine wm_bipush (v := 8) C d_Run_init_77 (by decide) ?_
  refine wm_icmp_gt (tgt := 110) C d_Run_init_79 (by decide) (fun (h_79 : 8 < 2) => ?_) (fun (h_79 : ¬ 8 < 2) => ?_)
  · exact absurd h_79 (by decide)
  · refine wm_new C co_Frame cl_Run_30 in_Frame ini_Frame (fs := [.int 0, .null, .null, .null, .null, .null, .int 0]) (fun j hj => by rcases (show j = 0 ∨ j = 1 ∨ j = 2 ∨ j = 3 ∨ j = 4 ∨ j = 5 ∨ j = 6 by omega) with rfl | rfl | rfl | rfl | rfl | rfl | rfl <;> rfl) (by decide) (by decide) d_Run_init_82 (fun q14 hq14 => ?_)
    rw [cy_top_eq t13 hq14]
    have t14 := cy_top_new (e := .inr (4, [.int 0, .null, .null, .null, .null, .null, .int 0])) t13
    generalize hM14 : cy_set M13 (z + 18) (.inr (4, [.int 0, .null, .null, .null, .null, .null, .int 0])) = M14 at t14 ⊢
    have f14_0 : M14 (z) = some (.inr (0, [.ref (z + 1), .int 0])) := by rw [← hM14, cy_set_ne _ _ (by omega)]; exact f13_0
    have f14_1 : M14 (z + 1) = some (.inl (cI, 300, .inl (fun _ => 0))) := by rw [← hM14, cy_set_ne _ _ (by omega)]; exact f13_1
    have f14_2 : M14 (z + 2) = some (.inr (0, [.ref (z + 3), .int 0])) := by rw [← hM14, cy_set_ne _ _ (by omega)]; exact f13_2
    have f14_3 : M14 (z + 3) = some (.inl (cI, 64, .inl (fun _ => 0))) := by rw [← hM14, cy_set_ne _ _ (by omega)]; exact f13_3
    have f14_4 := cy_kCode_mv (M' := M14) f13_4 (fun x hx => by rw [← hM14, cy_set_ne _ _ (by omega)])
    have f14_5 : M14 (z + 13) = some (.inr (4, [.int 1, .null, .null, .ref (z + 14), .ref (z + 16), .ref (z + 4), .int 0])) := by rw [← hM14, cy_set_ne _ _ (by omega)]; exact f13_5
    have f14_6 := cy_kFr2_mv (M' := M14) f13_6 (fun x hx => by rw [← hM14, cy_set_ne _ _ (by omega)])
    have f14_7 : M14 (q) = some (.inr (5, [.ref sh, .ref (z + 13), .ref z, .ref (z + 2), .ref (z + 13), .int 0, .int 0, .int 0, .int 0, .int 0])) := by rw [← hM14, cy_set_ne _ _ (by omega)]; exact g13
    have g14 : M14 (z + 18) = some (.inr (4, [.int 0, .null, .null, .null, .null, .null, .int 0])) := by rw [← hM14, cy_set_self]
    have b14 : ∀ x, x ≠ q → x < z → M14 x = M x := fun x h1 h2 => by rw [← hM14]; exact (cy_set_ne _ _ (by omega)).trans (b13 x h1 h2)
    refine wm_dup C d_Run_init_85 rfl ?_
    refine wm_iload C d_Run_init_86 (j := 0) rfl ?_
    refine wm_aload_n C d_Run_init_88 rfl (j := 1) rfl ?_
    refine wm_aload_n C d_Run_init_89 rfl (j := 2) rfl ?_
    refine wm_callIN (d2 := 2) (mc := 4) (ms := 20) C mo_Frame_init rfl ml_Run_32 [.int 2, .ref (z + 13), .ref (z + 4)] [.ref (z + 18)] rfl rfl (by decide) (Nat.le_of_ble_eq_true rfl) (by decide) (by decide) d_Run_init_90 (cy_kv ?_)
    refine c_Frame_init hG g14 t14 2 (z + 13) (z + 4) (fun M15 g15 o15 t15 => ⟨rfl, ?_⟩)
    have f15_0 : M15 (z) = some (.inr (0, [.ref (z + 1), .int 0])) := (o15 _ (by omega) (by omega)).trans f14_0
    have f15_1 : M15 (z + 1) = some (.inl (cI, 300, .inl (fun _ => 0))) := (o15 _ (by omega) (by omega)).trans f14_1
    have f15_2 : M15 (z + 2) = some (.inr (0, [.ref (z + 3), .int 0])) := (o15 _ (by omega) (by omega)).trans f14_2
    have f15_3 : M15 (z + 3) = some (.inl (cI, 64, .inl (fun _ => 0))) := (o15 _ (by omega) (by omega)).trans f14_3
    have f15_4 := cy_kCode_mv (M' := M15) f14_4 (fun x hx => o15 x (by omega) (by omega))
    have f15_5 : M15 (z + 13) = some (.inr (4, [.int 1, .null, .null, .ref (z + 14), .ref (z + 16), .ref (z + 4), .int 0])) := (o15 _ (by omega) (by omega)).trans f14_5
    have f15_6 := cy_kFr2_mv (M' := M15) f14_6 (fun x hx => o15 x (by omega) (by omega))
    have f15_7 : M15 (q) = some (.inr (5, [.ref sh, .ref (z + 13), .ref z, .ref (z + 2), .ref (z + 13), .int 0, .int 0, .int 0, .int 0, .int 0])) := (o15 _ (by omega) (by omega)).trans f14_7
    have b15 : ∀ x, x ≠ q → x < z → M15 x = M x := fun x h1 h2 => (o15 x (by omega) (by omega)).trans (b14 x h1 h2)
    refine wm_astore (lv' := [(5, .ref (z + 18)), (4, .int 2), (3, .ref (z + 13)), (2, .ref (z + 4)), (0, .ref q), (1, .ref sh)]) C d_Run_init_93 (by decide) rfl ?_
    refine wm_aload_n C d_Run_init_95 rfl (j := 2) rfl ?_
    refine wm_aload C d_Run_init_96 (j := 0) rfl ?_
    refine wm_putN C co_Frame f15_5 2 (by decide) fl_Run_42 rfl rfl rfl (Nat.le_of_ble_eq_true rfl) d_Run_init_98 ?_
    have hM16 : ∃ X, X = cy_set M15 (z + 13) (.inr (4, [.int 1, .null, .ref (z + 18), .ref (z + 14), .ref (z + 16), .ref (z + 4), .int 0])) := ⟨_, rfl⟩
    obtain ⟨M16, hM16⟩ := hM16
    refine wm_eqM (M2 := M16) hM16 ?_
    have f16_0 : M16 (z) = some (.inr (0, [.ref (z + 1), .int 0])) := by rw [hM16, cy_set_ne _ _ (by omega)]; exact f15_0
    have f16_1 : M16 (z + 1) = some (.inl (cI, 300, .inl (fun _ => 0))) := by rw [hM16, cy_set_ne _ _ (by omega)]; exact f15_1
    have f16_2 : M16 (z + 2) = some (.inr (0, [.ref (z + 3), .int 0])) := by rw [hM16, cy_set_ne _ _ (by omega)]; exact f15_2
    have f16_3 : M16 (z + 3) = some (.inl (cI, 64, .inl (fun _ => 0))) := by rw [hM16, cy_set_ne _ _ (by omega)]; exact f15_3
    have f16_4 := cy_kCode_mv (M' := M16) f15_4 (fun x hx => by rw [hM16, cy_set_ne _ _ (by omega)])
    have f16_5 := cy_kFr2_mv (M' := M16) f15_6 (fun x hx => by rw [hM16, cy_set_ne _ _ (by omega)])
    have f16_6 : M16 (q) = some (.inr (5, [.ref sh, .ref (z + 13), .ref z, .ref (z + 2), .ref (z + 13), .int 0, .int 0, .int 0, .int 0, .int 0])) := by rw [hM16, cy_set_ne _ _ (by omega)]; exact f15_7
    have f16_7 : M16 (z + 18) = some (.inr (4, [.int 2, .ref (z + 13), .null, .ref (z + 19), .ref (z + 21), .ref (z + 4), .int 0])) := by rw [hM16, cy_set_ne _ _ (by omega)]; exact g15.1
    have f16_8 := cy_kFr2_mv (M' := M16) g15.2 (fun x hx => by rw [hM16, cy_set_ne _ _ (by omega)])
    have g16 : M16 (z + 13) = some (.inr (4, [.int 1, .null, .ref (z + 18), .ref (z + 14), .ref (z + 16), .ref (z + 4), .int 0])) := by rw [hM16, cy_set_self]
    have t16 : cy_top G M16 (z + 23) := by rw [hM16]; exact cy_top_set t15 (by omega)
    have b16 : ∀ x, x ≠ q → x < z → M16 x = M x := fun x h1 h2 => by rw [hM16]; exact (cy_set_ne _ _ (by omega)).trans (b15 x h1 h2)
    refine wm_aload C d_Run_init_101 (j := 0) rfl ?_
    refine wm_astore_n (lv' := [(3, .ref (z + 18)), (5, .ref (z + 18)), (4, .int 2), (2, .ref (z + 4)), (0, .ref q), (1, .ref sh)]) C d_Run_init_103 rfl (by decide) rfl ?_
    refine wm_iinc (v := 3) (lv' := [(4, .int 3), (3, .ref (z + 18)), (5, .ref (z + 18)), (2, .ref (z + 4)), (0, .ref q), (1, .ref sh)]) C d_Run_init_104 (k := 2) rfl (by decide) (by decide) rfl ?_
    refine wm_goto (tgt := 75) C d_Run_init_107 (by decide) ?_
    refine wm_iload C d_Run_init_75 (j := 0) rfl ?_
    refine wm_bipush (v := 8) C d_Run_init_77 (by decide) ?_
    refine wm_icmp_gt (tgt := 110) C d_Run_init_79 (by decide) (fun (h_79_2 : 8 < 3) => ?_) (fun (h_79_2 : ¬ 8 < 3) => ?_)
    · exact absurd h_79_2 (by decide)
    · refine wm_new C co_Frame cl_Run_30 in_Frame ini_Frame (fs := [.int 0, .null, .null, .null, .null, .null, .int 0]) (fun j hj => by rcases (show j = 0 ∨ j = 1 ∨ j = 2 ∨ j = 3 ∨ j = 4 ∨ j = 5 ∨ j = 6 by omega) with rfl | rfl | rfl | rfl | rfl | rfl | rfl <;> rfl) (by decide) (by decide) d_Run_init_82 (fun q17 hq17 => ?_)
      rw [cy_top_eq t16 hq17]
      have t17 := cy_top_new (e := .inr (4, [.int 0, .null, .null, .null, .null, .null, .int 0])) t16
      generalize hM17 : cy_set M16 (z + 23) (.inr (4, [.int 0, .null, .null, .null, .null, .null, .int 0])) = M17 at t17 ⊢
      have f17_0 : M17 (z) = some (.inr (0, [.ref (z + 1), .int 0])) := by rw [← hM17, cy_set_ne _ _ (by omega)]; exact f16_0
      have f17_1 : M17 (z + 1) = some (.inl (cI, 300, .inl (fun _ => 0))) := by rw [← hM17, cy_set_ne _ _ (by omega)]; exact f16_1
      have f17_2 : M17 (z + 2) = some (.inr (0, [.ref (z + 3), .int 0])) := by rw [← hM17, cy_set_ne _ _ (by omega)]; exact f16_2
      have f17_3 : M17 (z + 3) = some (.inl (cI, 64, .inl (fun _ => 0))) := by rw [← hM17, cy_set_ne _ _ (by omega)]; exact f16_3
      have f17_4 := cy_kCode_mv (M' := M17) f16_4 (fun x hx => by rw [← hM17, cy_set_ne _ _ (by omega)])
      have f17_5 := cy_kFr2_mv (M' := M17) f16_5 (fun x hx => by rw [← hM17, cy_set_ne _ _ (by omega)])
      have f17_6 : M17 (q) = some (.inr (5, [.ref sh, .ref (z + 13), .ref z, .ref (z + 2), .ref (z + 13), .int 0, .int 0, .int 0, .int 0, .int 0])) := by rw [← hM17, cy_set_ne _ _ (by omega)]; exact f16_6
      have f17_7 : M17 (z + 18) = some (.inr (4, [.int 2, .ref (z + 13), .null, .ref (z + 19), .ref (z + 21), .ref (z + 4), .int 0])) := by rw [← hM17, cy_set_ne _ _ (by omega)]; exact f16_7
      have f17_8 := cy_kFr2_mv (M' := M17) f16_8 (fun x hx => by rw [← hM17, cy_set_ne _ _ (by omega)])
      have f17_9 : M17 (z + 13) = some (.inr (4, [.int 1, .null, .ref (z + 18), .ref (z + 14), .ref (z + 16), .ref (z + 4), .int 0])) := by rw [← hM17, cy_set_ne _ _ (by omega)]; exact g16
      have g17 : M17 (z + 23) = some (.inr (4, [.int 0, .null, .null, .null, .null, .null, .int 0])) := by rw [← hM17, cy_set_self]
      have b17 : ∀ x, x ≠ q → x < z → M17 x = M x := fun x h1 h2 => by rw [← hM17]; exact (cy_set_ne _ _ (by omega)).trans (b16 x h1 h2)
      refine wm_dup C d_Run_init_85 rfl ?_
      refine wm_iload C d_Run_init_86 (j := 0) rfl ?_
      refine wm_aload_n C d_Run_init_88 rfl (j := 1) rfl ?_
      refine wm_aload_n C d_Run_init_89 rfl (j := 3) rfl ?_
      refine wm_callIN (d2 := 2) (mc := 4) (ms := 20) C mo_Frame_init rfl ml_Run_32 [.int 3, .ref (z + 18), .ref (z + 4)] [.ref (z + 23)] rfl rfl (by decide) (Nat.le_of_ble_eq_true rfl) (by decide) (by decide) d_Run_init_90 (cy_kv ?_)
      refine c_Frame_init hG g17 t17 3 (z + 18) (z + 4) (fun M18 g18 o18 t18 => ⟨rfl, ?_⟩)
      have f18_0 : M18 (z) = some (.inr (0, [.ref (z + 1), .int 0])) := (o18 _ (by omega) (by omega)).trans f17_0
      have f18_1 : M18 (z + 1) = some (.inl (cI, 300, .inl (fun _ => 0))) := (o18 _ (by omega) (by omega)).trans f17_1
      have f18_2 : M18 (z + 2) = some (.inr (0, [.ref (z + 3), .int 0])) := (o18 _ (by omega) (by omega)).trans f17_2
      have f18_3 : M18 (z + 3) = some (.inl (cI, 64, .inl (fun _ => 0))) := (o18 _ (by omega) (by omega)).trans f17_3
      have f18_4 := cy_kCode_mv (M' := M18) f17_4 (fun x hx => o18 x (by omega) (by omega))
      have f18_5 := cy_kFr2_mv (M' := M18) f17_5 (fun x hx => o18 x (by omega) (by omega))
      have f18_6 : M18 (q) = some (.inr (5, [.ref sh, .ref (z + 13), .ref z, .ref (z + 2), .ref (z + 13), .int 0, .int 0, .int 0, .int 0, .int 0])) := (o18 _ (by omega) (by omega)).trans f17_6
      have f18_7 : M18 (z + 18) = some (.inr (4, [.int 2, .ref (z + 13), .null, .ref (z + 19), .ref (z + 21), .ref (z + 4), .int 0])) := (o18 _ (by omega) (by omega)).trans f17_7
      have f18_8 := cy_kFr2_mv (M' := M18) f17_8 (fun x hx => o18 x (by omega) (by omega))
      have f18_9 : M18 (z + 13) = some (.inr (4, [.int 1, .null, .ref (z + 18), .ref (z + 14), .ref (z + 16), .ref (z + 4), .int 0])) := (o18 _ (by omega) (by omega)).trans f17_9
      have b18 : ∀ x, x ≠ q → x < z → M18 x = M x := fun x h1 h2 => (o18 x (by omega) (by omega)).trans (b17 x h1 h2)
      refine wm_astore (lv' := [(5, .ref (z + 23)), (4, .int 3), (3, .ref (z + 18)), (2, .ref (z + 4)), (0, .ref q), (1, .ref sh)]) C d_Run_init_93 (by decide) rfl ?_
      refine wm_aload_n C d_Run_init_95 rfl (j := 2) rfl ?_
      refine wm_aload C d_Run_init_96 (j := 0) rfl ?_
      refine wm_putN C co_Frame f18_7 2 (by decide) fl_Run_42 rfl rfl rfl (Nat.le_of_ble_eq_true rfl) d_Run_init_98 ?_
      have hM19 : ∃ X, X = cy_set M18 (z + 18) (.inr (4, [.int 2, .ref (z + 13), .ref (z + 23), .ref (z + 19), .ref (z + 21), .ref (z + 4), .int 0])) := ⟨_, rfl⟩
      obtain ⟨M19, hM19⟩ := hM19
      refine wm_eqM (M2 := M19) hM19 ?_
      have f19_0 : M19 (z) = some (.inr (0, [.ref (z + 1), .int 0])) := by rw [hM19, cy_set_ne _ _ (by omega)]; exact f18_0
      have f19_1 : M19 (z + 1) = some (.inl (cI, 300, .inl (fun _ => 0))) := by rw [hM19, cy_set_ne _ _ (by omega)]; exact f18_1
      have f19_2 : M19 (z + 2) = some (.inr (0, [.ref (z + 3), .int 0])) := by rw [hM19, cy_set_ne _ _ (by omega)]; exact f18_2
      have f19_3 : M19 (z + 3) = some (.inl (cI, 64, .inl (fun _ => 0))) := by rw [hM19, cy_set_ne _ _ (by omega)]; exact f18_3
      have f19_4 := cy_kCode_mv (M' := M19) f18_4 (fun x hx => by rw [hM19, cy_set_ne _ _ (by omega)])
      have f19_5 := cy_kFr2_mv (M' := M19) f18_5 (fun x hx => by rw [hM19, cy_set_ne _ _ (by omega)])
      have f19_6 : M19 (q) = some (.inr (5, [.ref sh, .ref (z + 13), .ref z, .ref (z + 2), .ref (z + 13), .int 0, .int 0, .int 0, .int 0, .int 0])) := by rw [hM19, cy_set_ne _ _ (by omega)]; exact f18_6
      have f19_7 := cy_kFr2_mv (M' := M19) f18_8 (fun x hx => by rw [hM19, cy_set_ne _ _ (by omega)])
      have f19_8 : M19 (z + 13) = some (.inr (4, [.int 1, .null, .ref (z + 18), .ref (z + 14), .ref (z + 16), .ref (z + 4), .int 0])) := by rw [hM19, cy_set_ne _ _ (by omega)]; exact f18_9
      have f19_9 : M19 (z + 23) = some (.inr (4, [.int 3, .ref (z + 18), .null, .ref (z + 24), .ref (z + 26), .ref (z + 4), .int 0])) := by rw [hM19, cy_set_ne _ _ (by omega)]; exact g18.1
      have f19_10 := cy_kFr2_mv (M' := M19) g18.2 (fun x hx => by rw [hM19, cy_set_ne _ _ (by omega)])
      have g19 : M19 (z + 18) = some (.inr (4, [.int 2, .ref (z + 13), .ref (z + 23), .ref (z + 19), .ref (z + 21), .ref (z + 4), .int 0])) := by rw [hM19, cy_set_self]
      have t19 : cy_top G M19 (z + 28) := by rw [hM19]; exact cy_top_set t18 (by omega)
      have b19 : ∀ x, x ≠ q → x < z → M19 x = M x := fun x h1 h2 => by rw [hM19]; exact (cy_set_ne _ _ (by omega)).trans (b18 x h1 h2)
      refine wm_aload C d_Run_init_101 (j := 0) rfl ?_
      refine wm_astore_n (lv' := [(3, .ref (z + 23)), (5, .ref (z + 23)), (4, .int 3), (2, .ref (z + 4)), (0, .ref q), (1, .ref sh)]) C d_Run_init_103 rfl (by decide) rfl ?_
      refine wm_iinc (v := 4) (lv' := [(4, .int 4), (3, .ref (z + 23)), (5, .ref (z + 23)), (2, .ref (z + 4)), (0, .ref q), (1, .ref sh)]) C d_Run_init_104 (k := 2) rfl (by decide) (by decide) rfl ?_
      refine wm_goto (tgt := 75) C d_Run_init_107 (by decide) ?_
      refine wm_iload C d_Run_init_75 (j := 0) rfl ?_
      refine wm_bipush (v := 8) C d_Run_init_77 (by decide) ?_
      refine wm_icmp_gt (tgt := 110) C d_Run_init_79 (by decide) (fun (h_79_3 : 8 < 4) => ?_) (fun (h_79_3 : ¬ 8 < 4) => ?_)
      · exact absurd h_79_3 (by decide)
      · refine wm_new C co_Frame cl_Run_30 in_Frame ini_Frame (fs := [.int 0, .null, .null, .null, .null, .null, .int 0]) (fun j hj => by rcases (show j = 0 ∨ j = 1 ∨ j = 2 ∨ j = 3 ∨ j = 4 ∨ j = 5 ∨ j = 6 by omega) with rfl | rfl | rfl | rfl | rfl | rfl | rfl <;> rfl) (by decide) (by decide) d_Run_init_82 (fun q20 hq20 => ?_)
        rw [cy_top_eq t19 hq20]
        have t20 := cy_top_new (e := .inr (4, [.int 0, .null, .null, .null, .null, .null, .int 0])) t19
        generalize hM20 : cy_set M19 (z + 28) (.inr (4, [.int 0, .null, .null, .null, .null, .null, .int 0])) = M20 at t20 ⊢
        have f20_0 : M20 (z) = some (.inr (0, [.ref (z + 1), .int 0])) := by rw [← hM20, cy_set_ne _ _ (by omega)]; exact f19_0
        have f20_1 : M20 (z + 1) = some (.inl (cI, 300, .inl (fun _ => 0))) := by rw [← hM20, cy_set_ne _ _ (by omega)]; exact f19_1
        have f20_2 : M20 (z + 2) = some (.inr (0, [.ref (z + 3), .int 0])) := by rw [← hM20, cy_set_ne _ _ (by omega)]; exact f19_2
        have f20_3 : M20 (z + 3) = some (.inl (cI, 64, .inl (fun _ => 0))) := by rw [← hM20, cy_set_ne _ _ (by omega)]; exact f19_3
        have f20_4 := cy_kCode_mv (M' := M20) f19_4 (fun x hx => by rw [← hM20, cy_set_ne _ _ (by omega)])
        have f20_5 := cy_kFr2_mv (M' := M20) f19_5 (fun x hx => by rw [← hM20, cy_set_ne _ _ (by omega)])
        have f20_6 : M20 (q) = some (.inr (5, [.ref sh, .ref (z + 13), .ref z, .ref (z + 2), .ref (z + 13), .int 0, .int 0, .int 0, .int 0, .int 0])) := by rw [← hM20, cy_set_ne _ _ (by omega)]; exact f19_6
        have f20_7 := cy_kFr2_mv (M' := M20) f19_7 (fun x hx => by rw [← hM20, cy_set_ne _ _ (by omega)])
        have f20_8 : M20 (z + 13) = some (.inr (4, [.int 1, .null, .ref (z + 18), .ref (z + 14), .ref (z + 16), .ref (z + 4), .int 0])) := by rw [← hM20, cy_set_ne _ _ (by omega)]; exact f19_8
        have f20_9 : M20 (z + 23) = some (.inr (4, [.int 3, .ref (z + 18), .null, .ref (z + 24), .ref (z + 26), .ref (z + 4), .int 0])) := by rw [← hM20, cy_set_ne _ _ (by omega)]; exact f19_9
        have f20_10 := cy_kFr2_mv (M' := M20) f19_10 (fun x hx => by rw [← hM20, cy_set_ne _ _ (by omega)])
        have f20_11 : M20 (z + 18) = some (.inr (4, [.int 2, .ref (z + 13), .ref (z + 23), .ref (z + 19), .ref (z + 21), .ref (z + 4), .int 0])) := by rw [← hM20, cy_set_ne _ _ (by omega)]; exact g19
        have g20 : M20 (z + 28) = some (.inr (4, [.int 0, .null, .null, .null, .null, .null, .int 0])) := by rw [← hM20, cy_set_self]
        have b20 : ∀ x, x ≠ q → x < z → M20 x = M x := fun x h1 h2 => by rw [← hM20]; exact (cy_set_ne _ _ (by omega)).trans (b19 x h1 h2)
        refine wm_dup C d_Run_init_85 rfl ?_
        refine wm_iload C d_Run_init_86 (j := 0) rfl ?_
        refine wm_aload_n C d_Run_init_88 rfl (j := 1) rfl ?_
        refine wm_aload_n C d_Run_init_89 rfl (j := 3) rfl ?_
        refine wm_callIN (d2 := 2) (mc := 4) (ms := 20) C mo_Frame_init rfl ml_Run_32 [.int 4, .ref (z + 23), .ref (z + 4)] [.ref (z + 28)] rfl rfl (by decide) (Nat.le_of_ble_eq_true rfl) (by decide) (by decide) d_Run_init_90 (cy_kv ?_)
        refine c_Frame_init hG g20 t20 4 (z + 23) (z + 4) (fun M21 g21 o21 t21 => ⟨rfl, ?_⟩)
        have f21_0 : M21 (z) = some (.inr (0, [.ref (z + 1), .int 0])) := (o21 _ (by omega) (by omega)).trans f20_0
        have f21_1 : M21 (z + 1) = some (.inl (cI, 300, .inl (fun _ => 0))) := (o21 _ (by omega) (by omega)).trans f20_1
        have f21_2 : M21 (z + 2) = some (.inr (0, [.ref (z + 3), .int 0])) := (o21 _ (by omega) (by omega)).trans f20_2
        have f21_3 : M21 (z + 3) = some (.inl (cI, 64, .inl (fun _ => 0))) := (o21 _ (by omega) (by omega)).trans f20_3
        have f21_4 := cy_kCode_mv (M' := M21) f20_4 (fun x hx => o21 x (by omega) (by omega))
        have f21_5 := cy_kFr2_mv (M' := M21) f20_5 (fun x hx => o21 x (by omega) (by omega))
        have f21_6 : M21 (q) = some (.inr (5, [.ref sh, .ref (z + 13), .ref z, .ref (z + 2), .ref (z + 13), .int 0, .int 0, .int 0, .int 0, .int 0])) := (o21 _ (by omega) (by omega)).trans f20_6
        have f21_7 := cy_kFr2_mv (M' := M21) f20_7 (fun x hx => o21 x (by omega) (by omega))
        have f21_8 : M21 (z + 13) = some (.inr (4, [.int 1, .null, .ref (z + 18), .ref (z + 14), .ref (z + 16), .ref (z + 4), .int 0])) := (o21 _ (by omega) (by omega)).trans f20_8
        have f21_9 : M21 (z + 23) = some (.inr (4, [.int 3, .ref (z + 18), .null, .ref (z + 24), .ref (z + 26), .ref (z + 4), .int 0])) := (o21 _ (by omega) (by omega)).trans f20_9
        have f21_10 := cy_kFr2_mv (M' := M21) f20_10 (fun x hx => o21 x (by omega) (by omega))
        have f21_11 : M21 (z + 18) = some (.inr (4, [.int 2, .ref (z + 13), .ref (z + 23), .ref (z + 19), .ref (z + 21), .ref (z + 4), .int 0])) := (o21 _ (by omega) (by omega)).trans f20_11
        have b21 : ∀ x, x ≠ q → x < z → M21 x = M x := fun x h1 h2 => (o21 x (by omega) (by omega)).trans (b20 x h1 h2)
        refine wm_astore (lv' := [(5, .ref (z + 28)), (4, .int 4), (3, .ref (z + 23)), (2, .ref (z + 4)), (0, .ref q), (1, .ref sh)]) C d_Run_init_93 (by decide) rfl ?_
        refine wm_aload_n C d_Run_init_95 rfl (j := 2) rfl ?_
        refine wm_aload C d_Run_init_96 (j := 0) rfl ?_
        refine wm_putN C co_Frame f21_9 2 (by decide) fl_Run_42 rfl rfl rfl (Nat.le_of_ble_eq_true rfl) d_Run_init_98 ?_
        have hM22 : ∃ X, X = cy_set M21 (z + 23) (.inr (4, [.int 3, .ref (z + 18), .ref (z + 28), .ref (z + 24), .ref (z + 26), .ref (z + 4), .int 0])) := ⟨_, rfl⟩
        obtain ⟨M22, hM22⟩ := hM22
        refine wm_eqM (M2 := M22) hM22 ?_
        have f22_0 : M22 (z) = some (.inr (0, [.ref (z + 1), .int 0])) := by rw [hM22, cy_set_ne _ _ (by omega)]; exact f21_0
        have f22_1 : M22 (z + 1) = some (.inl (cI, 300, .inl (fun _ => 0))) := by rw [hM22, cy_set_ne _ _ (by omega)]; exact f21_1
        have f22_2 : M22 (z + 2) = some (.inr (0, [.ref (z + 3), .int 0])) := by rw [hM22, cy_set_ne _ _ (by omega)]; exact f21_2
        have f22_3 : M22 (z + 3) = some (.inl (cI, 64, .inl (fun _ => 0))) := by rw [hM22, cy_set_ne _ _ (by omega)]; exact f21_3
        have f22_4 := cy_kCode_mv (M' := M22) f21_4 (fun x hx => by rw [hM22, cy_set_ne _ _ (by omega)])
        have f22_5 := cy_kFr2_mv (M' := M22) f21_5 (fun x hx => by rw [hM22, cy_set_ne _ _ (by omega)])
        have f22_6 : M22 (q) = some (.inr (5, [.ref sh, .ref (z + 13), .ref z, .ref (z + 2), .ref (z + 13), .int 0, .int 0, .int 0, .int 0, .int 0])) := by rw [hM22, cy_set_ne _ _ (by omega)]; exact f21_6
        have f22_7 := cy_kFr2_mv (M' := M22) f21_7 (fun x hx => by rw [hM22, cy_set_ne _ _ (by omega)])
        have f22_8 : M22 (z + 13) = some (.inr (4, [.int 1, .null, .ref (z + 18), .ref (z + 14), .ref (z + 16), .ref (z + 4), .int 0])) := by rw [hM22, cy_set_ne _ _ (by omega)]; exact f21_8
        have f22_9 := cy_kFr2_mv (M' := M22) f21_10 (fun x hx => by rw [hM22, cy_set_ne _ _ (by omega)])
        have f22_10 : M22 (z + 18) = some (.inr (4, [.int 2, .ref (z + 13), .ref (z + 23), .ref (z + 19), .ref (z + 21), .ref (z + 4), .int 0])) := by rw [hM22, cy_set_ne _ _ (by omega)]; exact f21_11
        have f22_11 : M22 (z + 28) = some (.inr (4, [.int 4, .ref (z + 23), .null, .ref (z + 29), .ref (z + 31), .ref (z + 4), .int 0])) := by rw [hM22, cy_set_ne _ _ (by omega)]; exact g21.1
        have f22_12 := cy_kFr2_mv (M' := M22) g21.2 (fun x hx => by rw [hM22, cy_set_ne _ _ (by omega)])
        have g22 : M22 (z + 23) = some (.inr (4, [.int 3, .ref (z + 18), .ref (z + 28), .ref (z + 24), .ref (z + 26), .ref (z + 4), .int 0])) := by rw [hM22, cy_set_self]
        have t22 : cy_top G M22 (z + 33) := by rw [hM22]; exact cy_top_set t21 (by omega)
        have b22 : ∀ x, x ≠ q → x < z → M22 x = M x := fun x h1 h2 => by rw [hM22]; exact (cy_set_ne _ _ (by omega)).trans (b21 x h1 h2)
        refine wm_aload C d_Run_init_101 (j := 0) rfl ?_
        refine wm_astore_n (lv' := [(3, .ref (z + 28)), (5, .ref (z + 28)), (4, .int 4), (2, .ref (z + 4)), (0, .ref q), (1, .ref sh)]) C d_Run_init_103 rfl (by decide) rfl ?_
        refine wm_iinc (v := 5) (lv' := [(4, .int 5), (3, .ref (z + 28)), (5, .ref (z + 28)), (2, .ref (z + 4)), (0, .ref q), (1, .ref sh)]) C d_Run_init_104 (k := 2) rfl (by decide) (by decide) rfl ?_
        refine wm_goto (tgt := 75) C d_Run_init_107 (by decide) ?_
        refine wm_iload C d_Run_init_75 (j := 0) rfl ?_
        refine wm_bipush (v := 8) C d_Run_init_77 (by decide) ?_
        refine wm_icmp_gt (tgt := 110) C d_Run_init_79 (by decide) (fun (h_79_4 : 8 < 5) => ?_) (fun (h_79_4 : ¬ 8 < 5) => ?_)
        · exact absurd h_79_4 (by decide)
        · refine wm_new C co_Frame cl_Run_30 in_Frame ini_Frame (fs := [.int 0, .null, .null, .null, .null, .null, .int 0]) (fun j hj => by rcases (show j = 0 ∨ j = 1 ∨ j = 2 ∨ j = 3 ∨ j = 4 ∨ j = 5 ∨ j = 6 by omega) with rfl | rfl | rfl | rfl | rfl | rfl | rfl <;> rfl) (by decide) (by decide) d_Run_init_82 (fun q23 hq23 => ?_)
          rw [cy_top_eq t22 hq23]
          have t23 := cy_top_new (e := .inr (4, [.int 0, .null, .null, .null, .null, .null, .int 0])) t22
          generalize hM23 : cy_set M22 (z + 33) (.inr (4, [.int 0, .null, .null, .null, .null, .null, .int 0])) = M23 at t23 ⊢
          have f23_0 : M23 (z) = some (.inr (0, [.ref (z + 1), .int 0])) := by rw [← hM23, cy_set_ne _ _ (by omega)]; exact f22_0
          have f23_1 : M23 (z + 1) = some (.inl (cI, 300, .inl (fun _ => 0))) := by rw [← hM23, cy_set_ne _ _ (by omega)]; exact f22_1
          have f23_2 : M23 (z + 2) = some (.inr (0, [.ref (z + 3), .int 0])) := by rw [← hM23, cy_set_ne _ _ (by omega)]; exact f22_2
          have f23_3 : M23 (z + 3) = some (.inl (cI, 64, .inl (fun _ => 0))) := by rw [← hM23, cy_set_ne _ _ (by omega)]; exact f22_3
          have f23_4 := cy_kCode_mv (M' := M23) f22_4 (fun x hx => by rw [← hM23, cy_set_ne _ _ (by omega)])
          have f23_5 := cy_kFr2_mv (M' := M23) f22_5 (fun x hx => by rw [← hM23, cy_set_ne _ _ (by omega)])
          have f23_6 : M23 (q) = some (.inr (5, [.ref sh, .ref (z + 13), .ref z, .ref (z + 2), .ref (z + 13), .int 0, .int 0, .int 0, .int 0, .int 0])) := by rw [← hM23, cy_set_ne _ _ (by omega)]; exact f22_6
          have f23_7 := cy_kFr2_mv (M' := M23) f22_7 (fun x hx => by rw [← hM23, cy_set_ne _ _ (by omega)])
          have f23_8 : M23 (z + 13) = some (.inr (4, [.int 1, .null, .ref (z + 18), .ref (z + 14), .ref (z + 16), .ref (z + 4), .int 0])) := by rw [← hM23, cy_set_ne _ _ (by omega)]; exact f22_8
          have f23_9 := cy_kFr2_mv (M' := M23) f22_9 (fun x hx => by rw [← hM23, cy_set_ne _ _ (by omega)])
          have f23_10 : M23 (z + 18) = some (.inr (4, [.int 2, .ref (z + 13), .ref (z + 23), .ref (z + 19), .ref (z + 21), .ref (z + 4), .int 0])) := by rw [← hM23, cy_set_ne _ _ (by omega)]; exact f22_10
          have f23_11 : M23 (z + 28) = some (.inr (4, [.int 4, .ref (z + 23), .null, .ref (z + 29), .ref (z + 31), .ref (z + 4), .int 0])) := by rw [← hM23, cy_set_ne _ _ (by omega)]; exact f22_11
          have f23_12 := cy_kFr2_mv (M' := M23) f22_12 (fun x hx => by rw [← hM23, cy_set_ne _ _ (by omega)])
          have f23_13 : M23 (z + 23) = some (.inr (4, [.int 3, .ref (z + 18), .ref (z + 28), .ref (z + 24), .ref (z + 26), .ref (z + 4), .int 0])) := by rw [← hM23, cy_set_ne _ _ (by omega)]; exact g22
          have g23 : M23 (z + 33) = some (.inr (4, [.int 0, .null, .null, .null, .null, .null, .int 0])) := by rw [← hM23, cy_set_self]
          have b23 : ∀ x, x ≠ q → x < z → M23 x = M x := fun x h1 h2 => by rw [← hM23]; exact (cy_set_ne _ _ (by omega)).trans (b22 x h1 h2)
          refine wm_dup C d_Run_init_85 rfl ?_
          refine wm_iload C d_Run_init_86 (j := 0) rfl ?_
          refine wm_aload_n C d_Run_init_88 rfl (j := 1) rfl ?_
          refine wm_aload_n C d_Run_init_89 rfl (j := 3) rfl ?_
          refine wm_callIN (d2 := 2) (mc := 4) (ms := 20) C mo_Frame_init rfl ml_Run_32 [.int 5, .ref (z + 28), .ref (z + 4)] [.ref (z + 33)] rfl rfl (by decide) (Nat.le_of_ble_eq_true rfl) (by decide) (by decide) d_Run_init_90 (cy_kv ?_)
          refine c_Frame_init hG g23 t23 5 (z + 28) (z + 4) (fun M24 g24 o24 t24 => ⟨rfl, ?_⟩)
          have f24_0 : M24 (z) = some (.inr (0, [.ref (z + 1), .int 0])) := (o24 _ (by omega) (by omega)).trans f23_0
          have f24_1 : M24 (z + 1) = some (.inl (cI, 300, .inl (fun _ => 0))) := (o24 _ (by omega) (by omega)).trans f23_1
          have f24_2 : M24 (z + 2) = some (.inr (0, [.ref (z + 3), .int 0])) := (o24 _ (by omega) (by omega)).trans f23_2
          have f24_3 : M24 (z + 3) = some (.inl (cI, 64, .inl (fun _ => 0))) := (o24 _ (by omega) (by omega)).trans f23_3
          have f24_4 := cy_kCode_mv (M' := M24) f23_4 (fun x hx => o24 x (by omega) (by omega))
          have f24_5 := cy_kFr2_mv (M' := M24) f23_5 (fun x hx => o24 x (by omega) (by omega))
          have f24_6 : M24 (q) = some (.inr (5, [.ref sh, .ref (z + 13), .ref z, .ref (z + 2), .ref (z + 13), .int 0, .int 0, .int 0, .int 0, .int 0])) := (o24 _ (by omega) (by omega)).trans f23_6
          have f24_7 := cy_kFr2_mv (M' := M24) f23_7 (fun x hx => o24 x (by omega) (by omega))
          have f24_8 : M24 (z + 13) = some (.inr (4, [.int 1, .null, .ref (z + 18), .ref (z + 14), .ref (z + 16), .ref (z + 4), .int 0])) := (o24 _ (by omega) (by omega)).trans f23_8
          have f24_9 := cy_kFr2_mv (M' := M24) f23_9 (fun x hx => o24 x (by omega) (by omega))
          have f24_10 : M24 (z + 18) = some (.inr (4, [.int 2, .ref (z + 13), .ref (z + 23), .ref (z + 19), .ref (z + 21), .ref (z + 4), .int 0])) := (o24 _ (by omega) (by omega)).trans f23_10
          have f24_11 : M24 (z + 28) = some (.inr (4, [.int 4, .ref (z + 23), .null, .ref (z + 29), .ref (z + 31), .ref (z + 4), .int 0])) := (o24 _ (by omega) (by omega)).trans f23_11
          have f24_12 := cy_kFr2_mv (M' := M24) f23_12 (fun x hx => o24 x (by omega) (by omega))
          have f24_13 : M24 (z + 23) = some (.inr (4, [.int 3, .ref (z + 18), .ref (z + 28), .ref (z + 24), .ref (z + 26), .ref (z + 4), .int 0])) := (o24 _ (by omega) (by omega)).trans f23_13
          have b24 : ∀ x, x ≠ q → x < z → M24 x = M x := fun x h1 h2 => (o24 x (by omega) (by omega)).trans (b23 x h1 h2)
          refine wm_astore (lv' := [(5, .ref (z + 33)), (4, .int 5), (3, .ref (z + 28)), (2, .ref (z + 4)), (0, .ref q), (1, .ref sh)]) C d_Run_init_93 (by decide) rfl ?_
          refine wm_aload_n C d_Run_init_95 rfl (j := 2) rfl ?_
          refine wm_aload C d_Run_init_96 (j := 0) rfl ?_
          refine wm_putN C co_Frame f24_11 2 (by decide) fl_Run_42 rfl rfl rfl (Nat.le_of_ble_eq_true rfl) d_Run_init_98 ?_
          have hM25 : ∃ X, X = cy_set M24 (z + 28) (.inr (4, [.int 4, .ref (z + 23), .ref (z + 33), .ref (z + 29), .ref (z + 31), .ref (z + 4), .int 0])) := ⟨_, rfl⟩
          obtain ⟨M25, hM25⟩ := hM25
          refine wm_eqM (M2 := M25) hM25 ?_
          have f25_0 : M25 (z) = some (.inr (0, [.ref (z + 1), .int 0])) := by rw [hM25, cy_set_ne _ _ (by omega)]; exact f24_0
          have f25_1 : M25 (z + 1) = some (.inl (cI, 300, .inl (fun _ => 0))) := by rw [hM25, cy_set_ne _ _ (by omega)]; exact f24_1
          have f25_2 : M25 (z + 2) = some (.inr (0, [.ref (z + 3), .int 0])) := by rw [hM25, cy_set_ne _ _ (by omega)]; exact f24_2
          have f25_3 : M25 (z + 3) = some (.inl (cI, 64, .inl (fun _ => 0))) := by rw [hM25, cy_set_ne _ _ (by omega)]; exact f24_3
          have f25_4 := cy_kCode_mv (M' := M25) f24_4 (fun x hx => by rw [hM25, cy_set_ne _ _ (by omega)])
          have f25_5 := cy_kFr2_mv (M' := M25) f24_5 (fun x hx => by rw [hM25, cy_set_ne _ _ (by omega)])
          have f25_6 : M25 (q) = some (.inr (5, [.ref sh, .ref (z + 13), .ref z, .ref (z + 2), .ref (z + 13), .int 0, .int 0, .int 0, .int 0, .int 0])) := by rw [hM25, cy_set_ne _ _ (by omega)]; exact f24_6
          have f25_7 := cy_kFr2_mv (M' := M25) f24_7 (fun x hx => by rw [hM25, cy_set_ne _ _ (by omega)])
          have f25_8 : M25 (z + 13) = some (.inr (4, [.int 1, .null, .ref (z + 18), .ref (z + 14), .ref (z + 16), .ref (z + 4), .int 0])) := by rw [hM25, cy_set_ne _ _ (by omega)]; exact f24_8
          have f25_9 := cy_kFr2_mv (M' := M25) f24_9 (fun x hx => by rw [hM25, cy_set_ne _ _ (by omega)])
          have f25_10 : M25 (z + 18) = some (.inr (4, [.int 2, .ref (z + 13), .ref (z + 23), .ref (z + 19), .ref (z + 21), .ref (z + 4), .int 0])) := by rw [hM25, cy_set_ne _ _ (by omega)]; exact f24_10
          have f25_11 := cy_kFr2_mv (M' := M25) f24_12 (fun x hx => by rw [hM25, cy_set_ne _ _ (by omega)])
          have f25_12 : M25 (z + 23) = some (.inr (4, [.int 3, .ref (z + 18), .ref (z + 28), .ref (z + 24), .ref (z + 26), .ref (z + 4), .int 0])) := by rw [hM25, cy_set_ne _ _ (by omega)]; exact f24_13
          have f25_13 : M25 (z + 33) = some (.inr (4, [.int 5, .ref (z + 28), .null, .ref (z + 34), .ref (z + 36), .ref (z + 4), .int 0])) := by rw [hM25, cy_set_ne _ _ (by omega)]; exact g24.1
          have f25_14 := cy_kFr2_mv (M' := M25) g24.2 (fun x hx => by rw [hM25, cy_set_ne _ _ (by omega)])
          have g25 : M25 (z + 28) = some (.inr (4, [.int 4, .ref (z + 23), .ref (z + 33), .ref (z + 29), .ref (z + 31), .ref (z + 4), .int 0])) := by rw [hM25, cy_set_self]
          have t25 : cy_top G M25 (z + 38) := by rw [hM25]; exact cy_top_set t24 (by omega)
          have b25 : ∀ x, x ≠ q → x < z → M25 x = M x := fun x h1 h2 => by rw [hM25]; exact (cy_set_ne _ _ (by omega)).trans (b24 x h1 h2)
          refine wm_aload C d_Run_init_101 (j := 0) rfl ?_
          refine wm_astore_n (lv' := [(3, .ref (z + 33)), (5, .ref (z + 33)), (4, .int 5), (2, .ref (z + 4)), (0, .ref q), (1, .ref sh)]) C d_Run_init_103 rfl (by decide) rfl ?_
          refine wm_iinc (v := 6) (lv' := [(4, .int 6), (3, .ref (z + 33)), (5, .ref (z + 33)), (2, .ref (z + 4)), (0, .ref q), (1, .ref sh)]) C d_Run_init_104 (k := 2) rfl (by decide) (by decide) rfl ?_
          refine wm_goto (tgt := 75) C d_Run_init_107 (by decide) ?_
          refine wm_iload C d_Run_init_75 (j := 0) rfl ?_
          refine wm_bipush (v := 8) C d_Run_init_77 (by decide) ?_
          refine wm_icmp_gt (tgt := 110) C d_Run_init_79 (by decide) (fun (h_79_5 : 8 < 6) => ?_) (fun (h_79_5 : ¬ 8 < 6) => ?_)
          · exact absurd h_79_5 (by decide)
          · refine wm_new C co_Frame cl_Run_30 in_Frame ini_Frame (fs := [.int 0, .null, .null, .null, .null, .null, .int 0]) (fun j hj => by rcases (show j = 0 ∨ j = 1 ∨ j = 2 ∨ j = 3 ∨ j = 4 ∨ j = 5 ∨ j = 6 by omega) with rfl | rfl | rfl | rfl | rfl | rfl | rfl <;> rfl) (by decide) (by decide) d_Run_init_82 (fun q26 hq26 => ?_)
            rw [cy_top_eq t25 hq26]
            have t26 := cy_top_new (e := .inr (4, [.int 0, .null, .null, .null, .null, .null, .int 0])) t25
            generalize hM26 : cy_set M25 (z + 38) (.inr (4, [.int 0, .null, .null, .null, .null, .null, .int 0])) = M26 at t26 ⊢
            have f26_0 : M26 (z) = some (.inr (0, [.ref (z + 1), .int 0])) := by rw [← hM26, cy_set_ne _ _ (by omega)]; exact f25_0
            have f26_1 : M26 (z + 1) = some (.inl (cI, 300, .inl (fun _ => 0))) := by rw [← hM26, cy_set_ne _ _ (by omega)]; exact f25_1
            have f26_2 : M26 (z + 2) = some (.inr (0, [.ref (z + 3), .int 0])) := by rw [← hM26, cy_set_ne _ _ (by omega)]; exact f25_2
            have f26_3 : M26 (z + 3) = some (.inl (cI, 64, .inl (fun _ => 0))) := by rw [← hM26, cy_set_ne _ _ (by omega)]; exact f25_3
            have f26_4 := cy_kCode_mv (M' := M26) f25_4 (fun x hx => by rw [← hM26, cy_set_ne _ _ (by omega)])
            have f26_5 := cy_kFr2_mv (M' := M26) f25_5 (fun x hx => by rw [← hM26, cy_set_ne _ _ (by omega)])
            have f26_6 : M26 (q) = some (.inr (5, [.ref sh, .ref (z + 13), .ref z, .ref (z + 2), .ref (z + 13), .int 0, .int 0, .int 0, .int 0, .int 0])) := by rw [← hM26, cy_set_ne _ _ (by omega)]; exact f25_6
            have f26_7 := cy_kFr2_mv (M' := M26) f25_7 (fun x hx => by rw [← hM26, cy_set_ne _ _ (by omega)])
            have f26_8 : M26 (z + 13) = some (.inr (4, [.int 1, .null, .ref (z + 18), .ref (z + 14), .ref (z + 16), .ref (z + 4), .int 0])) := by rw [← hM26, cy_set_ne _ _ (by omega)]; exact f25_8
            have f26_9 := cy_kFr2_mv (M' := M26) f25_9 (fun x hx => by rw [← hM26, cy_set_ne _ _ (by omega)])
            have f26_10 : M26 (z + 18) = some (.inr (4, [.int 2, .ref (z + 13), .ref (z + 23), .ref (z + 19), .ref (z + 21), .ref (z + 4), .int 0])) := by rw [← hM26, cy_set_ne _ _ (by omega)]; exact f25_10
            have f26_11 := cy_kFr2_mv (M' := M26) f25_11 (fun x hx => by rw [← hM26, cy_set_ne _ _ (by omega)])
            have f26_12 : M26 (z + 23) = some (.inr (4, [.int 3, .ref (z + 18), .ref (z + 28), .ref (z + 24), .ref (z + 26), .ref (z + 4), .int 0])) := by rw [← hM26, cy_set_ne _ _ (by omega)]; exact f25_12
            have f26_13 : M26 (z + 33) = some (.inr (4, [.int 5, .ref (z + 28), .null, .ref (z + 34), .ref (z + 36), .ref (z + 4), .int 0])) := by rw [← hM26, cy_set_ne _ _ (by omega)]; exact f25_13
            have f26_14 := cy_kFr2_mv (M' := M26) f25_14 (fun x hx => by rw [← hM26, cy_set_ne _ _ (by omega)])
            have f26_15 : M26 (z + 28) = some (.inr (4, [.int 4, .ref (z + 23), .ref (z + 33), .ref (z + 29), .ref (z + 31), .ref (z + 4), .int 0])) := by rw [← hM26, cy_set_ne _ _ (by omega)]; exact g25
            have g26 : M26 (z + 38) = some (.inr (4, [.int 0, .null, .null, .null, .null, .null, .int 0])) := by rw [← hM26, cy_set_self]
            have b26 : ∀ x, x ≠ q → x < z → M26 x = M x := fun x h1 h2 => by rw [← hM26]; exact (cy_set_ne _ _ (by omega)).trans (b25 x h1 h2)
            refine wm_dup C d_Run_init_85 rfl ?_
            refine wm_iload C d_Run_init_86 (j := 0) rfl ?_
            refine wm_aload_n C d_Run_init_88 rfl (j := 1) rfl ?_
            refine wm_aload_n C d_Run_init_89 rfl (j := 3) rfl ?_
            refine wm_callIN (d2 := 2) (mc := 4) (ms := 20) C mo_Frame_init rfl ml_Run_32 [.int 6, .ref (z + 33), .ref (z + 4)] [.ref (z + 38)] rfl rfl (by decide) (Nat.le_of_ble_eq_true rfl) (by decide) (by decide) d_Run_init_90 (cy_kv ?_)
            refine c_Frame_init hG g26 t26 6 (z + 33) (z + 4) (fun M27 g27 o27 t27 => ⟨rfl, ?_⟩)
            have f27_0 : M27 (z) = some (.inr (0, [.ref (z + 1), .int 0])) := (o27 _ (by omega) (by omega)).trans f26_0
            have f27_1 : M27 (z + 1) = some (.inl (cI, 300, .inl (fun _ => 0))) := (o27 _ (by omega) (by omega)).trans f26_1
            have f27_2 : M27 (z + 2) = some (.inr (0, [.ref (z + 3), .int 0])) := (o27 _ (by omega) (by omega)).trans f26_2
            have f27_3 : M27 (z + 3) = some (.inl (cI, 64, .inl (fun _ => 0))) := (o27 _ (by omega) (by omega)).trans f26_3
            have f27_4 := cy_kCode_mv (M' := M27) f26_4 (fun x hx => o27 x (by omega) (by omega))
            have f27_5 := cy_kFr2_mv (M' := M27) f26_5 (fun x hx => o27 x (by omega) (by omega))
            have f27_6 : M27 (q) = some (.inr (5, [.ref sh, .ref (z + 13), .ref z, .ref (z + 2), .ref (z + 13), .int 0, .int 0, .int 0, .int 0, .int 0])) := (o27 _ (by omega) (by omega)).trans f26_6
            have f27_7 := cy_kFr2_mv (M' := M27) f26_7 (fun x hx => o27 x (by omega) (by omega))
            have f27_8 : M27 (z + 13) = some (.inr (4, [.int 1, .null, .ref (z + 18), .ref (z + 14), .ref (z + 16), .ref (z + 4), .int 0])) := (o27 _ (by omega) (by omega)).trans f26_8
            have f27_9 := cy_kFr2_mv (M' := M27) f26_9 (fun x hx => o27 x (by omega) (by omega))
            have f27_10 : M27 (z + 18) = some (.inr (4, [.int 2, .ref (z + 13), .ref (z + 23), .ref (z + 19), .ref (z + 21), .ref (z + 4), .int 0])) := (o27 _ (by omega) (by omega)).trans f26_10
            have f27_11 := cy_kFr2_mv (M' := M27) f26_11 (fun x hx => o27 x (by omega) (by omega))
            have f27_12 : M27 (z + 23) = some (.inr (4, [.int 3, .ref (z + 18), .ref (z + 28), .ref (z + 24), .ref (z + 26), .ref (z + 4), .int 0])) := (o27 _ (by omega) (by omega)).trans f26_12
            have f27_13 : M27 (z + 33) = some (.inr (4, [.int 5, .ref (z + 28), .null, .ref (z + 34), .ref (z + 36), .ref (z + 4), .int 0])) := (o27 _ (by omega) (by omega)).trans f26_13
            have f27_14 := cy_kFr2_mv (M' := M27) f26_14 (fun x hx => o27 x (by omega) (by omega))
            have f27_15 : M27 (z + 28) = some (.inr (4, [.int 4, .ref (z + 23), .ref (z + 33), .ref (z + 29), .ref (z + 31), .ref (z + 4), .int 0])) := (o27 _ (by omega) (by omega)).trans f26_15
            have b27 : ∀ x, x ≠ q → x < z → M27 x = M x := fun x h1 h2 => (o27 x (by omega) (by omega)).trans (b26 x h1 h2)
            refine wm_astore (lv' := [(5, .ref (z + 38)), (4, .int 6), (3, .ref (z + 33)), (2, .ref (z + 4)), (0, .ref q), (1, .ref sh)]) C d_Run_init_93 (by decide) rfl ?_
            refine wm_aload_n C d_Run_init_95 rfl (j := 2) rfl ?_
            refine wm_aload C d_Run_init_96 (j := 0) rfl ?_
            refine wm_putN C co_Frame f27_13 2 (by decide) fl_Run_42 rfl rfl rfl (Nat.le_of_ble_eq_true rfl) d_Run_init_98 ?_
            have hM28 : ∃ X, X = cy_set M27 (z + 33) (.inr (4, [.int 5, .ref (z + 28), .ref (z + 38), .ref (z + 34), .ref (z + 36), .ref (z + 4), .int 0])) := ⟨_, rfl⟩
            obtain ⟨M28, hM28⟩ := hM28
            refine wm_eqM (M2 := M28) hM28 ?_
            have f28_0 : M28 (z) = some (.inr (0, [.ref (z + 1), .int 0])) := by rw [hM28, cy_set_ne _ _ (by omega)]; exact f27_0
            have f28_1 : M28 (z + 1) = some (.inl (cI, 300, .inl (fun _ => 0))) := by rw [hM28, cy_set_ne _ _ (by omega)]; exact f27_1
            have f28_2 : M28 (z + 2) = some (.inr (0, [.ref (z + 3), .int 0])) := by rw [hM28, cy_set_ne _ _ (by omega)]; exact f27_2
            have f28_3 : M28 (z + 3) = some (.inl (cI, 64, .inl (fun _ => 0))) := by rw [hM28, cy_set_ne _ _ (by omega)]; exact f27_3
            have f28_4 := cy_kCode_mv (M' := M28) f27_4 (fun x hx => by rw [hM28, cy_set_ne _ _ (by omega)])
            have f28_5 := cy_kFr2_mv (M' := M28) f27_5 (fun x hx => by rw [hM28, cy_set_ne _ _ (by omega)])
            have f28_6 : M28 (q) = some (.inr (5, [.ref sh, .ref (z + 13), .ref z, .ref (z + 2), .ref (z + 13), .int 0, .int 0, .int 0, .int 0, .int 0])) := by rw [hM28, cy_set_ne _ _ (by omega)]; exact f27_6
            have f28_7 := cy_kFr2_mv (M' := M28) f27_7 (fun x hx => by rw [hM28, cy_set_ne _ _ (by omega)])
            have f28_8 : M28 (z + 13) = some (.inr (4, [.int 1, .null, .ref (z + 18), .ref (z + 14), .ref (z + 16), .ref (z + 4), .int 0])) := by rw [hM28, cy_set_ne _ _ (by omega)]; exact f27_8
            have f28_9 := cy_kFr2_mv (M' := M28) f27_9 (fun x hx => by rw [hM28, cy_set_ne _ _ (by omega)])
            have f28_10 : M28 (z + 18) = some (.inr (4, [.int 2, .ref (z + 13), .ref (z + 23), .ref (z + 19), .ref (z + 21), .ref (z + 4), .int 0])) := by rw [hM28, cy_set_ne _ _ (by omega)]; exact f27_10
            have f28_11 := cy_kFr2_mv (M' := M28) f27_11 (fun x hx => by rw [hM28, cy_set_ne _ _ (by omega)])
            have f28_12 : M28 (z + 23) = some (.inr (4, [.int 3, .ref (z + 18), .ref (z + 28), .ref (z + 24), .ref (z + 26), .ref (z + 4), .int 0])) := by rw [hM28, cy_set_ne _ _ (by omega)]; exact f27_12
            have f28_13 := cy_kFr2_mv (M' := M28) f27_14 (fun x hx => by rw [hM28, cy_set_ne _ _ (by omega)])
            have f28_14 : M28 (z + 28) = some (.inr (4, [.int 4, .ref (z + 23), .ref (z + 33), .ref (z + 29), .ref (z + 31), .ref (z + 4), .int 0])) := by rw [hM28, cy_set_ne _ _ (by omega)]; exact f27_15
            have f28_15 : M28 (z + 38) = some (.inr (4, [.int 6, .ref (z + 33), .null, .ref (z + 39), .ref (z + 41), .ref (z + 4), .int 0])) := by rw [hM28, cy_set_ne _ _ (by omega)]; exact g27.1
            have f28_16 := cy_kFr2_mv (M' := M28) g27.2 (fun x hx => by rw [hM28, cy_set_ne _ _ (by omega)])
            have g28 : M28 (z + 33) = some (.inr (4, [.int 5, .ref (z + 28), .ref (z + 38), .ref (z + 34), .ref (z + 36), .ref (z + 4), .int 0])) := by rw [hM28, cy_set_self]
            have t28 : cy_top G M28 (z + 43) := by rw [hM28]; exact cy_top_set t27 (by omega)
            have b28 : ∀ x, x ≠ q → x < z → M28 x = M x := fun x h1 h2 => by rw [hM28]; exact (cy_set_ne _ _ (by omega)).trans (b27 x h1 h2)
            refine wm_aload C d_Run_init_101 (j := 0) rfl ?_
            refine wm_astore_n (lv' := [(3, .ref (z + 38)), (5, .ref (z + 38)), (4, .int 6), (2, .ref (z + 4)), (0, .ref q), (1, .ref sh)]) C d_Run_init_103 rfl (by decide) rfl ?_
            refine wm_iinc (v := 7) (lv' := [(4, .int 7), (3, .ref (z + 38)), (5, .ref (z + 38)), (2, .ref (z + 4)), (0, .ref q), (1, .ref sh)]) C d_Run_init_104 (k := 2) rfl (by decide) (by decide) rfl ?_
            refine wm_goto (tgt := 75) C d_Run_init_107 (by decide) ?_
            refine wm_iload C d_Run_init_75 (j := 0) rfl ?_
            refine wm_bipush (v := 8) C d_Run_init_77 (by decide) ?_
            refine wm_icmp_gt (tgt := 110) C d_Run_init_79 (by decide) (fun (h_79_6 : 8 < 7) => ?_) (fun (h_79_6 : ¬ 8 < 7) => ?_)
            · exact absurd h_79_6 (by decide)
            · refine wm_new C co_Frame cl_Run_30 in_Frame ini_Frame (fs := [.int 0, .null, .null, .null, .null, .null, .int 0]) (fun j hj => by rcases (show j = 0 ∨ j = 1 ∨ j = 2 ∨ j = 3 ∨ j = 4 ∨ j = 5 ∨ j = 6 by omega) with rfl | rfl | rfl | rfl | rfl | rfl | rfl <;> rfl) (by decide) (by decide) d_Run_init_82 (fun q29 hq29 => ?_)
              rw [cy_top_eq t28 hq29]
              have t29 := cy_top_new (e := .inr (4, [.int 0, .null, .null, .null, .null, .null, .int 0])) t28
              generalize hM29 : cy_set M28 (z + 43) (.inr (4, [.int 0, .null, .null, .null, .null, .null, .int 0])) = M29 at t29 ⊢
              have f29_0 : M29 (z) = some (.inr (0, [.ref (z + 1), .int 0])) := by rw [← hM29, cy_set_ne _ _ (by omega)]; exact f28_0
              have f29_1 : M29 (z + 1) = some (.inl (cI, 300, .inl (fun _ => 0))) := by rw [← hM29, cy_set_ne _ _ (by omega)]; exact f28_1
              have f29_2 : M29 (z + 2) = some (.inr (0, [.ref (z + 3), .int 0])) := by rw [← hM29, cy_set_ne _ _ (by omega)]; exact f28_2
              have f29_3 : M29 (z + 3) = some (.inl (cI, 64, .inl (fun _ => 0))) := by rw [← hM29, cy_set_ne _ _ (by omega)]; exact f28_3
              have f29_4 := cy_kCode_mv (M' := M29) f28_4 (fun x hx => by rw [← hM29, cy_set_ne _ _ (by omega)])
              have f29_5 := cy_kFr2_mv (M' := M29) f28_5 (fun x hx => by rw [← hM29, cy_set_ne _ _ (by omega)])
              have f29_6 : M29 (q) = some (.inr (5, [.ref sh, .ref (z + 13), .ref z, .ref (z + 2), .ref (z + 13), .int 0, .int 0, .int 0, .int 0, .int 0])) := by rw [← hM29, cy_set_ne _ _ (by omega)]; exact f28_6
              have f29_7 := cy_kFr2_mv (M' := M29) f28_7 (fun x hx => by rw [← hM29, cy_set_ne _ _ (by omega)])
              have f29_8 : M29 (z + 13) = some (.inr (4, [.int 1, .null, .ref (z + 18), .ref (z + 14), .ref (z + 16), .ref (z + 4), .int 0])) := by rw [← hM29, cy_set_ne _ _ (by omega)]; exact f28_8
              have f29_9 := cy_kFr2_mv (M' := M29) f28_9 (fun x hx => by rw [← hM29, cy_set_ne _ _ (by omega)])
              have f29_10 : M29 (z + 18) = some (.inr (4, [.int 2, .ref (z + 13), .ref (z + 23), .ref (z + 19), .ref (z + 21), .ref (z + 4), .int 0])) := by rw [← hM29, cy_set_ne _ _ (by omega)]; exact f28_10
              have f29_11 := cy_kFr2_mv (M' := M29) f28_11 (fun x hx => by rw [← hM29, cy_set_ne _ _ (by omega)])
              have f29_12 : M29 (z + 23) = some (.inr (4, [.int 3, .ref (z + 18), .ref (z + 28), .ref (z + 24), .ref (z + 26), .ref (z + 4), .int 0])) := by rw [← hM29, cy_set_ne _ _ (by omega)]; exact f28_12
              have f29_13 := cy_kFr2_mv (M' := M29) f28_13 (fun x hx => by rw [← hM29, cy_set_ne _ _ (by omega)])
              have f29_14 : M29 (z + 28) = some (.inr (4, [.int 4, .ref (z + 23), .ref (z + 33), .ref (z + 29), .ref (z + 31), .ref (z + 4), .int 0])) := by rw [← hM29, cy_set_ne _ _ (by omega)]; exact f28_14
              have f29_15 : M29 (z + 38) = some (.inr (4, [.int 6, .ref (z + 33), .null, .ref (z + 39), .ref (z + 41), .ref (z + 4), .int 0])) := by rw [← hM29, cy_set_ne _ _ (by omega)]; exact f28_15
              have f29_16 := cy_kFr2_mv (M' := M29) f28_16 (fun x hx => by rw [← hM29, cy_set_ne _ _ (by omega)])
              have f29_17 : M29 (z + 33) = some (.inr (4, [.int 5, .ref (z + 28), .ref (z + 38), .ref (z + 34), .ref (z + 36), .ref (z + 4), .int 0])) := by rw [← hM29, cy_set_ne _ _ (by omega)]; exact g28
              have g29 : M29 (z + 43) = some (.inr (4, [.int 0, .null, .null, .null, .null, .null, .int 0])) := by rw [← hM29, cy_set_self]
              have b29 : ∀ x, x ≠ q → x < z → M29 x = M x := fun x h1 h2 => by rw [← hM29]; exact (cy_set_ne _ _ (by omega)).trans (b28 x h1 h2)
              refine wm_dup C d_Run_init_85 rfl ?_
              refine wm_iload C d_Run_init_86 (j := 0) rfl ?_
              refine wm_aload_n C d_Run_init_88 rfl (j := 1) rfl ?_
              refine wm_aload_n C d_Run_init_89 rfl (j := 3) rfl ?_
              refine wm_callIN (d2 := 2) (mc := 4) (ms := 20) C mo_Frame_init rfl ml_Run_32 [.int 7, .ref (z + 38), .ref (z + 4)] [.ref (z + 43)] rfl rfl (by decide) (Nat.le_of_ble_eq_true rfl) (by decide) (by decide) d_Run_init_90 (cy_kv ?_)
              refine c_Frame_init hG g29 t29 7 (z + 38) (z + 4) (fun M30 g30 o30 t30 => ⟨rfl, ?_⟩)
              have f30_0 : M30 (z) = some (.inr (0, [.ref (z + 1), .int 0])) := (o30 _ (by omega) (by omega)).trans f29_0
              have f30_1 : M30 (z + 1) = some (.inl (cI, 300, .inl (fun _ => 0))) := (o30 _ (by omega) (by omega)).trans f29_1
              have f30_2 : M30 (z + 2) = some (.inr (0, [.ref (z + 3), .int 0])) := (o30 _ (by omega) (by omega)).trans f29_2
              have f30_3 : M30 (z + 3) = some (.inl (cI, 64, .inl (fun _ => 0))) := (o30 _ (by omega) (by omega)).trans f29_3
              have f30_4 := cy_kCode_mv (M' := M30) f29_4 (fun x hx => o30 x (by omega) (by omega))
              have f30_5 := cy_kFr2_mv (M' := M30) f29_5 (fun x hx => o30 x (by omega) (by omega))
              have f30_6 : M30 (q) = some (.inr (5, [.ref sh, .ref (z + 13), .ref z, .ref (z + 2), .ref (z + 13), .int 0, .int 0, .int 0, .int 0, .int 0])) := (o30 _ (by omega) (by omega)).trans f29_6
              have f30_7 := cy_kFr2_mv (M' := M30) f29_7 (fun x hx => o30 x (by omega) (by omega))
              have f30_8 : M30 (z + 13) = some (.inr (4, [.int 1, .null, .ref (z + 18), .ref (z + 14), .ref (z + 16), .ref (z + 4), .int 0])) := (o30 _ (by omega) (by omega)).trans f29_8
              have f30_9 := cy_kFr2_mv (M' := M30) f29_9 (fun x hx => o30 x (by omega) (by omega))
              have f30_10 : M30 (z + 18) = some (.inr (4, [.int 2, .ref (z + 13), .ref (z + 23), .ref (z + 19), .ref (z + 21), .ref (z + 4), .int 0])) := (o30 _ (by omega) (by omega)).trans f29_10
              have f30_11 := cy_kFr2_mv (M' := M30) f29_11 (fun x hx => o30 x (by omega) (by omega))
              have f30_12 : M30 (z + 23) = some (.inr (4, [.int 3, .ref (z + 18), .ref (z + 28), .ref (z + 24), .ref (z + 26), .ref (z + 4), .int 0])) := (o30 _ (by omega) (by omega)).trans f29_12
              have f30_13 := cy_kFr2_mv (M' := M30) f29_13 (fun x hx => o30 x (by omega) (by omega))
              have f30_14 : M30 (z + 28) = some (.inr (4, [.int 4, .ref (z + 23), .ref (z + 33), .ref (z + 29), .ref (z + 31), .ref (z + 4), .int 0])) := (o30 _ (by omega) (by omega)).trans f29_14
              have f30_15 : M30 (z + 38) = some (.inr (4, [.int 6, .ref (z + 33), .null, .ref (z + 39), .ref (z + 41), .ref (z + 4), .int 0])) := (o30 _ (by omega) (by omega)).trans f29_15
              have f30_16 := cy_kFr2_mv (M' := M30) f29_16 (fun x hx => o30 x (by omega) (by omega))
              have f30_17 : M30 (z + 33) = some (.inr (4, [.int 5, .ref (z + 28), .ref (z + 38), .ref (z + 34), .ref (z + 36), .ref (z + 4), .int 0])) := (o30 _ (by omega) (by omega)).trans f29_17
              have b30 : ∀ x, x ≠ q → x < z → M30 x = M x := fun x h1 h2 => (o30 x (by omega) (by omega)).trans (b29 x h1 h2)
              refine wm_astore (lv' := [(5, .ref (z + 43)), (4, .int 7), (3, .ref (z + 38)), (2, .ref (z + 4)), (0, .ref q), (1, .ref sh)]) C d_Run_init_93 (by decide) rfl ?_
              refine wm_aload_n C d_Run_init_95 rfl (j := 2) rfl ?_
              refine wm_aload C d_Run_init_96 (j := 0) rfl ?_
              refine wm_putN C co_Frame f30_15 2 (by decide) fl_Run_42 rfl rfl rfl (Nat.le_of_ble_eq_true rfl) d_Run_init_98 ?_
              have hM31 : ∃ X, X = cy_set M30 (z + 38) (.inr (4, [.int 6, .ref (z + 33), .ref (z + 43), .ref (z + 39), .ref (z + 41), .ref (z + 4), .int 0])) := ⟨_, rfl⟩
              obtain ⟨M31, hM31⟩ := hM31
              refine wm_eqM (M2 := M31) hM31 ?_
              have f31_0 : M31 (z) = some (.inr (0, [.ref (z + 1), .int 0])) := by rw [hM31, cy_set_ne _ _ (by omega)]; exact f30_0
              have f31_1 : M31 (z + 1) = some (.inl (cI, 300, .inl (fun _ => 0))) := by rw [hM31, cy_set_ne _ _ (by omega)]; exact f30_1
              have f31_2 : M31 (z + 2) = some (.inr (0, [.ref (z + 3), .int 0])) := by rw [hM31, cy_set_ne _ _ (by omega)]; exact f30_2
              have f31_3 : M31 (z + 3) = some (.inl (cI, 64, .inl (fun _ => 0))) := by rw [hM31, cy_set_ne _ _ (by omega)]; exact f30_3
              have f31_4 := cy_kCode_mv (M' := M31) f30_4 (fun x hx => by rw [hM31, cy_set_ne _ _ (by omega)])
              have f31_5 := cy_kFr2_mv (M' := M31) f30_5 (fun x hx => by rw [hM31, cy_set_ne _ _ (by omega)])
              have f31_6 : M31 (q) = some (.inr (5, [.ref sh, .ref (z + 13), .ref z, .ref (z + 2), .ref (z + 13), .int 0, .int 0, .int 0, .int 0, .int 0])) := by rw [hM31, cy_set_ne _ _ (by omega)]; exact f30_6
              have f31_7 := cy_kFr2_mv (M' := M31) f30_7 (fun x hx => by rw [hM31, cy_set_ne _ _ (by omega)])
              have f31_8 : M31 (z + 13) = some (.inr (4, [.int 1, .null, .ref (z + 18), .ref (z + 14), .ref (z + 16), .ref (z + 4), .int 0])) := by rw [hM31, cy_set_ne _ _ (by omega)]; exact f30_8
              have f31_9 := cy_kFr2_mv (M' := M31) f30_9 (fun x hx => by rw [hM31, cy_set_ne _ _ (by omega)])
              have f31_10 : M31 (z + 18) = some (.inr (4, [.int 2, .ref (z + 13), .ref (z + 23), .ref (z + 19), .ref (z + 21), .ref (z + 4), .int 0])) := by rw [hM31, cy_set_ne _ _ (by omega)]; exact f30_10
              have f31_11 := cy_kFr2_mv (M' := M31) f30_11 (fun x hx => by rw [hM31, cy_set_ne _ _ (by omega)])
              have f31_12 : M31 (z + 23) = some (.inr (4, [.int 3, .ref (z + 18), .ref (z + 28), .ref (z + 24), .ref (z + 26), .ref (z + 4), .int 0])) := by rw [hM31, cy_set_ne _ _ (by omega)]; exact f30_12
              have f31_13 := cy_kFr2_mv (M' := M31) f30_13 (fun x hx => by rw [hM31, cy_set_ne _ _ (by omega)])
              have f31_14 : M31 (z + 28) = some (.inr (4, [.int 4, .ref (z + 23), .ref (z + 33), .ref (z + 29), .ref (z + 31), .ref (z + 4), .int 0])) := by rw [hM31, cy_set_ne _ _ (by omega)]; exact f30_14
              have f31_15 := cy_kFr2_mv (M' := M31) f30_16 (fun x hx => by rw [hM31, cy_set_ne _ _ (by omega)])
              have f31_16 : M31 (z + 33) = some (.inr (4, [.int 5, .ref (z + 28), .ref (z + 38), .ref (z + 34), .ref (z + 36), .ref (z + 4), .int 0])) := by rw [hM31, cy_set_ne _ _ (by omega)]; exact f30_17
              have f31_17 : M31 (z + 43) = some (.inr (4, [.int 7, .ref (z + 38), .null, .ref (z + 44), .ref (z + 46), .ref (z + 4), .int 0])) := by rw [hM31, cy_set_ne _ _ (by omega)]; exact g30.1
              have f31_18 := cy_kFr2_mv (M' := M31) g30.2 (fun x hx => by rw [hM31, cy_set_ne _ _ (by omega)])
              have g31 : M31 (z + 38) = some (.inr (4, [.int 6, .ref (z + 33), .ref (z + 43), .ref (z + 39), .ref (z + 41), .ref (z + 4), .int 0])) := by rw [hM31, cy_set_self]
              have t31 : cy_top G M31 (z + 48) := by rw [hM31]; exact cy_top_set t30 (by omega)
              have b31 : ∀ x, x ≠ q → x < z → M31 x = M x := fun x h1 h2 => by rw [hM31]; exact (cy_set_ne _ _ (by omega)).trans (b30 x h1 h2)
              refine wm_aload C d_Run_init_101 (j := 0) rfl ?_
              refine wm_astore_n (lv' := [(3, .ref (z + 43)), (5, .ref (z + 43)), (4, .int 7), (2, .ref (z + 4)), (0, .ref q), (1, .ref sh)]) C d_Run_init_103 rfl (by decide) rfl ?_
              refine wm_iinc (v := 8) (lv' := [(4, .int 8), (3, .ref (z + 43)), (5, .ref (z + 43)), (2, .ref (z + 4)), (0, .ref q), (1, .ref sh)]) C d_Run_init_104 (k := 2) rfl (by decide) (by decide) rfl ?_
              refine wm_goto (tgt := 75) C d_Run_init_107 (by decide) ?_
              refine wm_iload C d_Run_init_75 (j := 0) rfl ?_
              refine wm_bipush (v := 8) C d_Run_init_77 (by decide) ?_
              refine wm_icmp_gt (tgt := 110) C d_Run_init_79 (by decide) (fun (h_79_7 : 8 < 8) => ?_) (fun (h_79_7 : ¬ 8 < 8) => ?_)
              · exact absurd h_79_7 (by decide)
              · refine wm_new C co_Frame cl_Run_30 in_Frame ini_Frame (fs := [.int 0, .null, .null, .null, .null, .null, .int 0]) (fun j hj => by rcases (show j = 0 ∨ j = 1 ∨ j = 2 ∨ j = 3 ∨ j = 4 ∨ j = 5 ∨ j = 6 by omega) with rfl | rfl | rfl | rfl | rfl | rfl | rfl <;> rfl) (by decide) (by decide) d_Run_init_82 (fun q32 hq32 => ?_)
                rw [cy_top_eq t31 hq32]
                have t32 := cy_top_new (e := .inr (4, [.int 0, .null, .null, .null, .null, .null, .int 0])) t31
                generalize hM32 : cy_set M31 (z + 48) (.inr (4, [.int 0, .null, .null, .null, .null, .null, .int 0])) = M32 at t32 ⊢
                have f32_0 : M32 (z) = some (.inr (0, [.ref (z + 1), .int 0])) := by rw [← hM32, cy_set_ne _ _ (by omega)]; exact f31_0
                have f32_1 : M32 (z + 1) = some (.inl (cI, 300, .inl (fun _ => 0))) := by rw [← hM32, cy_set_ne _ _ (by omega)]; exact f31_1
                have f32_2 : M32 (z + 2) = some (.inr (0, [.ref (z + 3), .int 0])) := by rw [← hM32, cy_set_ne _ _ (by omega)]; exact f31_2
                have f32_3 : M32 (z + 3) = some (.inl (cI, 64, .inl (fun _ => 0))) := by rw [← hM32, cy_set_ne _ _ (by omega)]; exact f31_3
                have f32_4 := cy_kCode_mv (M' := M32) f31_4 (fun x hx => by rw [← hM32, cy_set_ne _ _ (by omega)])
                have f32_5 := cy_kFr2_mv (M' := M32) f31_5 (fun x hx => by rw [← hM32, cy_set_ne _ _ (by omega)])
                have f32_6 : M32 (q) = some (.inr (5, [.ref sh, .ref (z + 13), .ref z, .ref (z + 2), .ref (z + 13), .int 0, .int 0, .int 0, .int 0, .int 0])) := by rw [← hM32, cy_set_ne _ _ (by omega)]; exact f31_6
                have f32_7 := cy_kFr2_mv (M' := M32) f31_7 (fun x hx => by rw [← hM32, cy_set_ne _ _ (by omega)])
                have f32_8 : M32 (z + 13) = some (.inr (4, [.int 1, .null, .ref (z + 18), .ref (z + 14), .ref (z + 16), .ref (z + 4), .int 0])) := by rw [← hM32, cy_set_ne _ _ (by omega)]; exact f31_8
                have f32_9 := cy_kFr2_mv (M' := M32) f31_9 (fun x hx => by rw [← hM32, cy_set_ne _ _ (by omega)])
                have f32_10 : M32 (z + 18) = some (.inr (4, [.int 2, .ref (z + 13), .ref (z + 23), .ref (z + 19), .ref (z + 21), .ref (z + 4), .int 0])) := by rw [← hM32, cy_set_ne _ _ (by omega)]; exact f31_10
                have f32_11 := cy_kFr2_mv (M' := M32) f31_11 (fun x hx => by rw [← hM32, cy_set_ne _ _ (by omega)])
                have f32_12 : M32 (z + 23) = some (.inr (4, [.int 3, .ref (z + 18), .ref (z + 28), .ref (z + 24), .ref (z + 26), .ref (z + 4), .int 0])) := by rw [← hM32, cy_set_ne _ _ (by omega)]; exact f31_12
                have f32_13 := cy_kFr2_mv (M' := M32) f31_13 (fun x hx => by rw [← hM32, cy_set_ne _ _ (by omega)])
                have f32_14 : M32 (z + 28) = some (.inr (4, [.int 4, .ref (z + 23), .ref (z + 33), .ref (z + 29), .ref (z + 31), .ref (z + 4), .int 0])) := by rw [← hM32, cy_set_ne _ _ (by omega)]; exact f31_14
                have f32_15 := cy_kFr2_mv (M' := M32) f31_15 (fun x hx => by rw [← hM32, cy_set_ne _ _ (by omega)])
                have f32_16 : M32 (z + 33) = some (.inr (4, [.int 5, .ref (z + 28), .ref (z + 38), .ref (z + 34), .ref (z + 36), .ref (z + 4), .int 0])) := by rw [← hM32, cy_set_ne _ _ (by omega)]; exact f31_16
                have f32_17 : M32 (z + 43) = some (.inr (4, [.int 7, .ref (z + 38), .null, .ref (z + 44), .ref (z + 46), .ref (z + 4), .int 0])) := by rw [← hM32, cy_set_ne _ _ (by omega)]; exact f31_17
                have f32_18 := cy_kFr2_mv (M' := M32) f31_18 (fun x hx => by rw [← hM32, cy_set_ne _ _ (by omega)])
                have f32_19 : M32 (z + 38) = some (.inr (4, [.int 6, .ref (z + 33), .ref (z + 43), .ref (z + 39), .ref (z + 41), .ref (z + 4), .int 0])) := by rw [← hM32, cy_set_ne _ _ (by omega)]; exact g31
                have g32 : M32 (z + 48) = some (.inr (4, [.int 0, .null, .null, .null, .null, .null, .int 0])) := by rw [← hM32, cy_set_self]
                have b32 : ∀ x, x ≠ q → x < z → M32 x = M x := fun x h1 h2 => by rw [← hM32]; exact (cy_set_ne _ _ (by omega)).trans (b31 x h1 h2)
                refine wm_dup C d_Run_init_85 rfl ?_
                refine wm_iload C d_Run_init_86 (j := 0) rfl ?_
                refine wm_aload_n C d_Run_init_88 rfl (j := 1) rfl ?_
                refine wm_aload_n C d_Run_init_89 rfl (j := 3) rfl ?_
                refine wm_callIN (d2 := 2) (mc := 4) (ms := 20) C mo_Frame_init rfl ml_Run_32 [.int 8, .ref (z + 43), .ref (z + 4)] [.ref (z + 48)] rfl rfl (by decide) (Nat.le_of_ble_eq_true rfl) (by decide) (by decide) d_Run_init_90 (cy_kv ?_)
                refine c_Frame_init hG g32 t32 8 (z + 43) (z + 4) (fun M33 g33 o33 t33 => ⟨rfl, ?_⟩)
                have f33_0 : M33 (z) = some (.inr (0, [.ref (z + 1), .int 0])) := (o33 _ (by omega) (by omega)).trans f32_0
                have f33_1 : M33 (z + 1) = some (.inl (cI, 300, .inl (fun _ => 0))) := (o33 _ (by omega) (by omega)).trans f32_1
                have f33_2 : M33 (z + 2) = some (.inr (0, [.ref (z + 3), .int 0])) := (o33 _ (by omega) (by omega)).trans f32_2
                have f33_3 : M33 (z + 3) = some (.inl (cI, 64, .inl (fun _ => 0))) := (o33 _ (by omega) (by omega)).trans f32_3
                have f33_4 := cy_kCode_mv (M' := M33) f32_4 (fun x hx => o33 x (by omega) (by omega))
                have f33_5 := cy_kFr2_mv (M' := M33) f32_5 (fun x hx => o33 x (by omega) (by omega))
                have f33_6 : M33 (q) = some (.inr (5, [.ref sh, .ref (z + 13), .ref z, .ref (z + 2), .ref (z + 13), .int 0, .int 0, .int 0, .int 0, .int 0])) := (o33 _ (by omega) (by omega)).trans f32_6
                have f33_7 := cy_kFr2_mv (M' := M33) f32_7 (fun x hx => o33 x (by omega) (by omega))
                have f33_8 : M33 (z + 13) = some (.inr (4, [.int 1, .null, .ref (z + 18), .ref (z + 14), .ref (z + 16), .ref (z + 4), .int 0])) := (o33 _ (by omega) (by omega)).trans f32_8
                have f33_9 := cy_kFr2_mv (M' := M33) f32_9 (fun x hx => o33 x (by omega) (by omega))
                have f33_10 : M33 (z + 18) = some (.inr (4, [.int 2, .ref (z + 13), .ref (z + 23), .ref (z + 19), .ref (z + 21), .ref (z + 4), .int 0])) := (o33 _ (by omega) (by omega)).trans f32_10
                have f33_11 := cy_kFr2_mv (M' := M33) f32_11 (fun x hx => o33 x (by omega) (by omega))
                have f33_12 : M33 (z + 23) = some (.inr (4, [.int 3, .ref (z + 18), .ref (z + 28), .ref (z + 24), .ref (z + 26), .ref (z + 4), .int 0])) := (o33 _ (by omega) (by omega)).trans f32_12
                have f33_13 := cy_kFr2_mv (M' := M33) f32_13 (fun x hx => o33 x (by omega) (by omega))
                have f33_14 : M33 (z + 28) = some (.inr (4, [.int 4, .ref (z + 23), .ref (z + 33), .ref (z + 29), .ref (z + 31), .ref (z + 4), .int 0])) := (o33 _ (by omega) (by omega)).trans f32_14
                have f33_15 := cy_kFr2_mv (M' := M33) f32_15 (fun x hx => o33 x (by omega) (by omega))
                have f33_16 : M33 (z + 33) = some (.inr (4, [.int 5, .ref (z + 28), .ref (z + 38), .ref (z + 34), .ref (z + 36), .ref (z + 4), .int 0])) := (o33 _ (by omega) (by omega)).trans f32_16
                have f33_17 : M33 (z + 43) = some (.inr (4, [.int 7, .ref (z + 38), .null, .ref (z + 44), .ref (z + 46), .ref (z + 4), .int 0])) := (o33 _ (by omega) (by omega)).trans f32_17
                have f33_18 := cy_kFr2_mv (M' := M33) f32_18 (fun x hx => o33 x (by omega) (by omega))
                have f33_19 : M33 (z + 38) = some (.inr (4, [.int 6, .ref (z + 33), .ref (z + 43), .ref (z + 39), .ref (z + 41), .ref (z + 4), .int 0])) := (o33 _ (by omega) (by omega)).trans f32_19
                have b33 : ∀ x, x ≠ q → x < z → M33 x = M x := fun x h1 h2 => (o33 x (by omega) (by omega)).trans (b32 x h1 h2)
                refine wm_astore (lv' := [(5, .ref (z + 48)), (4, .int 8), (3, .ref (z + 43)), (2, .ref (z + 4)), (0, .ref q), (1, .ref sh)]) C d_Run_init_93 (by decide) rfl ?_
                refine wm_aload_n C d_Run_init_95 rfl (j := 2) rfl ?_
                refine wm_aload C d_Run_init_96 (j := 0) rfl ?_
                refine wm_putN C co_Frame f33_17 2 (by decide) fl_Run_42 rfl rfl rfl (Nat.le_of_ble_eq_true rfl) d_Run_init_98 ?_
                have hM34 : ∃ X, X = cy_set M33 (z + 43) (.inr (4, [.int 7, .ref (z + 38), .ref (z + 48), .ref (z + 44), .ref (z + 46), .ref (z + 4), .int 0])) := ⟨_, rfl⟩
                obtain ⟨M34, hM34⟩ := hM34
                refine wm_eqM (M2 := M34) hM34 ?_
                have f34_0 : M34 (z) = some (.inr (0, [.ref (z + 1), .int 0])) := by rw [hM34, cy_set_ne _ _ (by omega)]; exact f33_0
                have f34_1 : M34 (z + 1) = some (.inl (cI, 300, .inl (fun _ => 0))) := by rw [hM34, cy_set_ne _ _ (by omega)]; exact f33_1
                have f34_2 : M34 (z + 2) = some (.inr (0, [.ref (z + 3), .int 0])) := by rw [hM34, cy_set_ne _ _ (by omega)]; exact f33_2
                have f34_3 : M34 (z + 3) = some (.inl (cI, 64, .inl (fun _ => 0))) := by rw [hM34, cy_set_ne _ _ (by omega)]; exact f33_3
                have f34_4 := cy_kCode_mv (M' := M34) f33_4 (fun x hx => by rw [hM34, cy_set_ne _ _ (by omega)])
                have f34_5 := cy_kFr2_mv (M' := M34) f33_5 (fun x hx => by rw [hM34, cy_set_ne _ _ (by omega)])
                have f34_6 : M34 (q) = some (.inr (5, [.ref sh, .ref (z + 13), .ref z, .ref (z + 2), .ref (z + 13), .int 0, .int 0, .int 0, .int 0, .int 0])) := by rw [hM34, cy_set_ne _ _ (by omega)]; exact f33_6
                have f34_7 := cy_kFr2_mv (M' := M34) f33_7 (fun x hx => by rw [hM34, cy_set_ne _ _ (by omega)])
                have f34_8 : M34 (z + 13) = some (.inr (4, [.int 1, .null, .ref (z + 18), .ref (z + 14), .ref (z + 16), .ref (z + 4), .int 0])) := by rw [hM34, cy_set_ne _ _ (by omega)]; exact f33_8
                have f34_9 := cy_kFr2_mv (M' := M34) f33_9 (fun x hx => by rw [hM34, cy_set_ne _ _ (by omega)])
                have f34_10 : M34 (z + 18) = some (.inr (4, [.int 2, .ref (z + 13), .ref (z + 23), .ref (z + 19), .ref (z + 21), .ref (z + 4), .int 0])) := by rw [hM34, cy_set_ne _ _ (by omega)]; exact f33_10
                have f34_11 := cy_kFr2_mv (M' := M34) f33_11 (fun x hx => by rw [hM34, cy_set_ne _ _ (by omega)])
                have f34_12 : M34 (z + 23) = some (.inr (4, [.int 3, .ref (z + 18), .ref (z + 28), .ref (z + 24), .ref (z + 26), .ref (z + 4), .int 0])) := by rw [hM34, cy_set_ne _ _ (by omega)]; exact f33_12
                have f34_13 := cy_kFr2_mv (M' := M34) f33_13 (fun x hx => by rw [hM34, cy_set_ne _ _ (by omega)])
                have f34_14 : M34 (z + 28) = some (.inr (4, [.int 4, .ref (z + 23), .ref (z + 33), .ref (z + 29), .ref (z + 31), .ref (z + 4), .int 0])) := by rw [hM34, cy_set_ne _ _ (by omega)]; exact f33_14
                have f34_15 := cy_kFr2_mv (M' := M34) f33_15 (fun x hx => by rw [hM34, cy_set_ne _ _ (by omega)])
                have f34_16 : M34 (z + 33) = some (.inr (4, [.int 5, .ref (z + 28), .ref (z + 38), .ref (z + 34), .ref (z + 36), .ref (z + 4), .int 0])) := by rw [hM34, cy_set_ne _ _ (by omega)]; exact f33_16
                have f34_17 := cy_kFr2_mv (M' := M34) f33_18 (fun x hx => by rw [hM34, cy_set_ne _ _ (by omega)])
                have f34_18 : M34 (z + 38) = some (.inr (4, [.int 6, .ref (z + 33), .ref (z + 43), .ref (z + 39), .ref (z + 41), .ref (z + 4), .int 0])) := by rw [hM34, cy_set_ne _ _ (by omega)]; exact f33_19
                have f34_19 : M34 (z + 48) = some (.inr (4, [.int 8, .ref (z + 43), .null, .ref (z + 49), .ref (z + 51), .ref (z + 4), .int 0])) := by rw [hM34, cy_set_ne _ _ (by omega)]; exact g33.1
                have f34_20 := cy_kFr2_mv (M' := M34) g33.2 (fun x hx => by rw [hM34, cy_set_ne _ _ (by omega)])
                have g34 : M34 (z + 43) = some (.inr (4, [.int 7, .ref (z + 38), .ref (z + 48), .ref (z + 44), .ref (z + 46), .ref (z + 4), .int 0])) := by rw [hM34, cy_set_self]
                have t34 : cy_top G M34 (z + 53) := by rw [hM34]; exact cy_top_set t33 (by omega)
                have b34 : ∀ x, x ≠ q → x < z → M34 x = M x := fun x h1 h2 => by rw [hM34]; exact (cy_set_ne _ _ (by omega)).trans (b33 x h1 h2)
                refine wm_aload C d_Run_init_101 (j := 0) rfl ?_
                refine wm_astore_n (lv' := [(3, .ref (z + 48)), (5, .ref (z + 48)), (4, .int 8), (2, .ref (z + 4)), (0, .ref q), (1, .ref sh)]) C d_Run_init_103 rfl (by decide) rfl ?_
                refine wm_iinc (v := 9) (lv' := [(4, .int 9), (3, .ref (z + 48)), (5, .ref (z + 48)), (2, .ref (z + 4)), (0, .ref q), (1, .ref sh)]) C d_Run_init_104 (k := 2) rfl (by decide) (by decide) rfl ?_
                refine wm_goto (tgt := 75) C d_Run_init_107 (by decide) ?_
                refine wm_iload C d_Run_init_75 (j := 0) rfl ?_
                refine wm_bipush (v := 8) C d_Run_init_77 (by decide) ?_
                refine wm_icmp_gt (tgt := 110) C d_Run_init_79 (by decide) (fun (h_79_8 : 8 < 9) => ?_) (fun (h_79_8 : ¬ 8 < 9) => ?_)
                · refine wm_vret C P d_Run_init_110 ?_
                  exact h _ ⟨f34_6, ⟨f34_0, f34_1⟩, ⟨f34_2, f34_3⟩, f34_4, ⟨f34_8, f34_10, f34_12, f34_14, f34_16, f34_18, g34, f34_19⟩, f34_5, f34_7, f34_9, f34_11, f34_13, f34_15, f34_17, f34_20⟩ b34 t34
                · exact absurd h_79_8 (by decide)
