set_option maxHeartbeats 8000000 in
theorem c_Shelf_init {G : cy_G} {cI : ClassId} (hG : G.2.2.1[0]? = some (cI, .int)) {M : cy_Hp} {q z : Nat} {post : Option Value → cy_Hp → Prop} (hq : M q = some (.inr (2, [.null]))) (hz : cy_top G M z) {cC : ClassId} (hG1 : G.2.2.1[1]? = some (cC, .object "CodeYard$Code")) (h : ∀ M', (M' q = some (.inr (2, [.ref z])) ∧ M' z = some (.inl (cC, 8, .inr (.inr (.inr (.inr (fun k => if k < 8 then some (z + 1 + 9 * k) else none)))))) ∧ ∀ k, k < 8 → cy_kCode cI M' (z + 1 + 9 * k) (z + 1 + 9 * k + 1) (nI k)) → (∀ x, x ≠ q → x < z → M' x = M x) → cy_top G M' (z + 73) → post none M') : cy_Ct G 3 m_Shelf_init [.ref q] M 73 4464 post := by
  have hqz : q < z := cy_top_lt hz hq
  refine cy_Ct.of (by decide) (Nat.le_of_ble_eq_true rfl) ?_
  intro F C P hN
  have hN := hN rfl
  have hb : ∀ x, x ≠ q → x < z → M x = M x := fun _ _ _ => rfl
  have C : cy_C G F R_Shelf b_Shelf_init 2 3 73 4464 := C
  have P : cy_P G F none post 73 4464 := P
  show WM G F 2 0 0 0 [(0, .ref q)] [] M
  refine wm_aload_n C d_Shelf_init_0 rfl (j := 0) rfl ?_
  refine wm_obj C ml_Shelf_3 ob_i ob_c (by decide) (Nat.le_of_ble_eq_true rfl) d_Shelf_init_1 ?_
  refine wm_aload_n C d_Shelf_init_4 rfl (j := 0) rfl ?_
  refine wm_bipush (v := 8) C d_Shelf_init_5 (by decide) ?_
  refine wm_newq C hG1 cl_Shelf_9 ao_Code (N := 8) (by decide) (by decide) (by decide) (by decide) (by decide) d_Shelf_init_7 (fun q1 hq1 => ?_)
  rw [cy_top_eq hz hq1]
  have t1 := cy_top_new (e := .inl (cC, 8, .inr (.inr (.inr (.inr (fun _ => none)))))) hz
  generalize hM1 : cy_set M z (.inl (cC, 8, .inr (.inr (.inr (.inr (fun _ => none)))))) = M1 at t1 ⊢
  have f1_0 : M1 (q) = some (.inr (2, [.null])) := by rw [← hM1, cy_set_ne _ _ (by omega)]; exact hq
  have g1 : M1 z = some (.inl (cC, 8, .inr (.inr (.inr (.inr (fun _ => none)))))) := by rw [← hM1, cy_set_self]
  have b1 : ∀ x, x ≠ q → x < z → M1 x = M x := fun x h1 h2 => by rw [← hM1, cy_set_ne _ _ (by omega)]
  refine wm_putF C hN co_Shelf f1_0 0 (by decide) fl_Shelf_11 rfl rfl rfl rfl (Nat.le_of_ble_eq_true rfl) d_Shelf_init_10 ?_
  have hM2 : ∃ X, X = cy_set M1 (q) (.inr (2, [.ref z])) := ⟨_, rfl⟩
  obtain ⟨M2, hM2⟩ := hM2
  refine wm_eqM (M2 := M2) hM2 ?_
  have f2_0 : M2 (z) = some (.inl (cC, 8, .inr (.inr (.inr (.inr (fun _ => none)))))) := by rw [hM2, cy_set_ne _ _ (by omega)]; exact g1
  have g2 : M2 (q) = some (.inr (2, [.ref z])) := by rw [hM2, cy_set_self]
  have t2 : cy_top G M2 (z + 1) := by rw [hM2]; exact cy_top_set t1 (by omega)
  have b2 : ∀ x, x ≠ q → x < z → M2 x = M x := fun x h1 h2 => by rw [hM2]; exact (cy_set_ne _ _ (by omega)).trans (b1 x h1 h2)
  refine wm_iconst (v := 0) C d_Shelf_init_13 (by decide) ?_
  refine wm_istore_n (lv' := [(1, .int 0), (0, .ref q)]) C d_Shelf_init_14 rfl (by decide) rfl ?_
  refine wm_iload_n C d_Shelf_init_15 rfl (j := 0) rfl ?_
  refine wm_aload_n C d_Shelf_init_16 rfl (j := 1) rfl ?_
  refine wm_get C co_Shelf g2 0 (by decide) fl_Shelf_11 rfl d_Shelf_init_17 ?_
  refine wm_alen C f2_0 hG1 d_Shelf_init_20 ?_
  rw [show nI 8 = 8 from rfl]
  refine wm_icmp_ge (tgt := 44) C d_Shelf_init_21 (by decide) (fun (h_21 : 8 ≤ 0) => ?_) (fun (h_21 : ¬ 8 ≤ 0) => ?_)
  · exact absurd h_21 (by decide)
  · refine wm_aload_n C d_Shelf_init_24 rfl (j := 1) rfl ?_
    refine wm_get C co_Shelf g2 0 (by decide) fl_Shelf_11 rfl d_Shelf_init_25 ?_
    refine wm_iload_n C d_Shelf_init_28 rfl (j := 0) rfl ?_
    refine wm_new C co_Code cl_Shelf_9 in_Code ini_Code (fs := [.int 0, .null, .null, .null, .null]) (fun j hj => by rcases (show j = 0 ∨ j = 1 ∨ j = 2 ∨ j = 3 ∨ j = 4 by omega) with rfl | rfl | rfl | rfl | rfl <;> rfl) (by decide) (by decide) d_Shelf_init_29 (fun q3 hq3 => ?_)
    rw [cy_top_eq t2 hq3]
    have t3 := cy_top_new (e := .inr (1, [.int 0, .null, .null, .null, .null])) t2
    generalize hM3 : cy_set M2 (z + 1) (.inr (1, [.int 0, .null, .null, .null, .null])) = M3 at t3 ⊢
    have f3_0 : M3 (z) = some (.inl (cC, 8, .inr (.inr (.inr (.inr (fun _ => none)))))) := by rw [← hM3, cy_set_ne _ _ (by omega)]; exact f2_0
    have f3_1 : M3 (q) = some (.inr (2, [.ref z])) := by rw [← hM3, cy_set_ne _ _ (by omega)]; exact g2
    have g3 : M3 (z + 1) = some (.inr (1, [.int 0, .null, .null, .null, .null])) := by rw [← hM3, cy_set_self]
    have b3 : ∀ x, x ≠ q → x < z → M3 x = M x := fun x h1 h2 => by rw [← hM3]; exact (cy_set_ne _ _ (by omega)).trans (b2 x h1 h2)
    refine wm_dup C d_Shelf_init_32 rfl ?_
    refine wm_iload_n C d_Shelf_init_33 rfl (j := 0) rfl ?_
    refine wm_callIN (d2 := 2) (mc := 8) (ms := 552) C mo_Code_init rfl ml_Shelf_17 [.int 0] [.ref (z + 1), .int 0, .ref z] rfl rfl (by decide) (Nat.le_of_ble_eq_true rfl) (by decide) (by decide) d_Shelf_init_34 (cy_kv ?_)
    refine c_Code_init hG g3 t3 0 (fun M4 g4 o4 t4 => ⟨rfl, ?_⟩)
    have f4_0 : M4 (z) = some (.inl (cC, 8, .inr (.inr (.inr (.inr (fun _ => none)))))) := (o4 _ (by omega) (by omega)).trans f3_0
    have f4_1 : M4 (q) = some (.inr (2, [.ref z])) := (o4 _ (by omega) (by omega)).trans f3_1
    have b4 : ∀ x, x ≠ q → x < z → M4 x = M x := fun x h1 h2 => (o4 x (by omega) (by omega)).trans (b3 x h1 h2)
    refine wm_aast (r := (R_Code, F_Code, 5)) C f4_0 hG1 g4.1 rfl (show vp_in (nI 0) 8 from vp_in_nI (by decide) (by decide)) d_Shelf_init_37 ?_
    have hM5 : ∃ X, X = cy_set M4 z (.inl (cC, 8, .inr (.inr (.inr (.inr (va_up (fun _ => none) 0 (some (z + 1)))))))) := ⟨_, rfl⟩
    obtain ⟨M5, hM5⟩ := hM5
    refine wm_eqM (M2 := M5) hM5 ?_
    have f5_0 : M5 (q) = some (.inr (2, [.ref z])) := by rw [hM5, cy_set_ne _ _ (by omega)]; exact f4_1
    have f5_1 := cy_kCode_mv (M' := M5) g4 (fun x hx => by rw [hM5, cy_set_ne _ _ (by omega)])
    have g5 : M5 z = some (.inl (cC, 8, .inr (.inr (.inr (.inr (va_up (fun _ => none) 0 (some (z + 1)))))))) := by rw [hM5, cy_set_self]
    have t5 : cy_top G M5 (z + 10) := by rw [hM5]; exact cy_top_set t4 (by omega)
    have b5 : ∀ x, x ≠ q → x < z → M5 x = M x := fun x h1 h2 => by rw [hM5]; exact (cy_set_ne _ _ (by omega)).trans (b4 x h1 h2)
    refine wm_iinc (v := 1) (lv' := [(1, .int 1), (0, .ref q)]) C d_Shelf_init_38 (k := 0) rfl (by decide) (by decide) rfl ?_
    refine wm_goto (tgt := 15) C d_Shelf_init_41 (by decide) ?_
    refine wm_iload_n C d_Shelf_init_15 rfl (j := 0) rfl ?_
    refine wm_aload_n C d_Shelf_init_16 rfl (j := 1) rfl ?_
    refine wm_get C co_Shelf f5_0 0 (by decide) fl_Shelf_11 rfl d_Shelf_init_17 ?_
    refine wm_alen C g5 hG1 d_Shelf_init_20 ?_
    rw [show nI 8 = 8 from rfl]
    refine wm_icmp_ge (tgt := 44) C d_Shelf_init_21 (by decide) (fun (h_21_2 : 8 ≤ 1) => ?_) (fun (h_21_2 : ¬ 8 ≤ 1) => ?_)
    · exact absurd h_21_2 (by decide)
    · refine wm_aload_n C d_Shelf_init_24 rfl (j := 1) rfl ?_
      refine wm_get C co_Shelf f5_0 0 (by decide) fl_Shelf_11 rfl d_Shelf_init_25 ?_
      refine wm_iload_n C d_Shelf_init_28 rfl (j := 0) rfl ?_
      refine wm_new C co_Code cl_Shelf_9 in_Code ini_Code (fs := [.int 0, .null, .null, .null, .null]) (fun j hj => by rcases (show j = 0 ∨ j = 1 ∨ j = 2 ∨ j = 3 ∨ j = 4 by omega) with rfl | rfl | rfl | rfl | rfl <;> rfl) (by decide) (by decide) d_Shelf_init_29 (fun q6 hq6 => ?_)
      rw [cy_top_eq t5 hq6]
      have t6 := cy_top_new (e := .inr (1, [.int 0, .null, .null, .null, .null])) t5
      generalize hM6 : cy_set M5 (z + 10) (.inr (1, [.int 0, .null, .null, .null, .null])) = M6 at t6 ⊢
      have f6_0 : M6 (q) = some (.inr (2, [.ref z])) := by rw [← hM6, cy_set_ne _ _ (by omega)]; exact f5_0
      have f6_1 := cy_kCode_mv (M' := M6) f5_1 (fun x hx => by rw [← hM6, cy_set_ne _ _ (by omega)])
      have f6_2 : M6 (z) = some (.inl (cC, 8, .inr (.inr (.inr (.inr (va_up (fun _ => none) 0 (some (z + 1)))))))) := by rw [← hM6, cy_set_ne _ _ (by omega)]; exact g5
      have g6 : M6 (z + 10) = some (.inr (1, [.int 0, .null, .null, .null, .null])) := by rw [← hM6, cy_set_self]
      have b6 : ∀ x, x ≠ q → x < z → M6 x = M x := fun x h1 h2 => by rw [← hM6]; exact (cy_set_ne _ _ (by omega)).trans (b5 x h1 h2)
      refine wm_dup C d_Shelf_init_32 rfl ?_
      refine wm_iload_n C d_Shelf_init_33 rfl (j := 0) rfl ?_
      refine wm_callIN (d2 := 2) (mc := 8) (ms := 552) C mo_Code_init rfl ml_Shelf_17 [.int 1] [.ref (z + 10), .int 1, .ref z] rfl rfl (by decide) (Nat.le_of_ble_eq_true rfl) (by decide) (by decide) d_Shelf_init_34 (cy_kv ?_)
      refine c_Code_init hG g6 t6 1 (fun M7 g7 o7 t7 => ⟨rfl, ?_⟩)
      have f7_0 : M7 (q) = some (.inr (2, [.ref z])) := (o7 _ (by omega) (by omega)).trans f6_0
      have f7_1 := cy_kCode_mv (M' := M7) f6_1 (fun x hx => o7 x (by omega) (by omega))
      have f7_2 : M7 (z) = some (.inl (cC, 8, .inr (.inr (.inr (.inr (va_up (fun _ => none) 0 (some (z + 1)))))))) := (o7 _ (by omega) (by omega)).trans f6_2
      have b7 : ∀ x, x ≠ q → x < z → M7 x = M x := fun x h1 h2 => (o7 x (by omega) (by omega)).trans (b6 x h1 h2)
      refine wm_aast (r := (R_Code, F_Code, 5)) C f7_2 hG1 g7.1 rfl (show vp_in (nI 1) 8 from vp_in_nI (by decide) (by decide)) d_Shelf_init_37 ?_
      have hM8 : ∃ X, X = cy_set M7 z (.inl (cC, 8, .inr (.inr (.inr (.inr (va_up (va_up (fun _ => none) 0 (some (z + 1))) 1 (some (z + 10)))))))) := ⟨_, rfl⟩
      obtain ⟨M8, hM8⟩ := hM8
      refine wm_eqM (M2 := M8) hM8 ?_
      have f8_0 : M8 (q) = some (.inr (2, [.ref z])) := by rw [hM8, cy_set_ne _ _ (by omega)]; exact f7_0
      have f8_1 := cy_kCode_mv (M' := M8) f7_1 (fun x hx => by rw [hM8, cy_set_ne _ _ (by omega)])
      have f8_2 := cy_kCode_mv (M' := M8) g7 (fun x hx => by rw [hM8, cy_set_ne _ _ (by omega)])
      have g8 : M8 z = some (.inl (cC, 8, .inr (.inr (.inr (.inr (va_up (va_up (fun _ => none) 0 (some (z + 1))) 1 (some (z + 10)))))))) := by rw [hM8, cy_set_self]
      have t8 : cy_top G M8 (z + 19) := by rw [hM8]; exact cy_top_set t7 (by omega)
      have b8 : ∀ x, x ≠ q → x < z → M8 x = M x := fun x h1 h2 => by rw [hM8]; exact (cy_set_ne _ _ (by omega)).trans (b7 x h1 h2)
      refine wm_iinc (v := 2) (lv' := [(1, .int 2), (0, .ref q)]) C d_Shelf_init_38 (k := 0) rfl (by decide) (by decide) rfl ?_
      refine wm_goto (tgt := 15) C d_Shelf_init_41 (by decide) ?_
      refine wm_iload_n C d_Shelf_init_15 rfl (j := 0) rfl ?_
      refine wm_aload_n C d_Shelf_init_16 rfl (j := 1) rfl ?_
      refine wm_get C co_Shelf f8_0 0 (by decide) fl_Shelf_11 rfl d_Shelf_init_17 ?_
      refine wm_alen C g8 hG1 d_Shelf_init_20 ?_
      rw [show nI 8 = 8 from rfl]
      refine wm_icmp_ge (tgt := 44) C d_Shelf_init_21 (by decide) (fun (h_21_3 : 8 ≤ 2) => ?_) (fun (h_21_3 : ¬ 8 ≤ 2) => ?_)
      · exact absurd h_21_3 (by decide)
      · refine wm_aload_n C d_Shelf_init_24 rfl (j := 1) rfl ?_
        refine wm_get C co_Shelf f8_0 0 (by decide) fl_Shelf_11 rfl d_Shelf_init_25 ?_
        refine wm_iload_n C d_Shelf_init_28 rfl (j := 0) rfl ?_
        refine wm_new C co_Code cl_Shelf_9 in_Code ini_Code (fs := [.int 0, .null, .null, .null, .null]) (fun j hj => by rcases (show j = 0 ∨ j = 1 ∨ j = 2 ∨ j = 3 ∨ j = 4 by omega) with rfl | rfl | rfl | rfl | rfl <;> rfl) (by decide) (by decide) d_Shelf_init_29 (fun q9 hq9 => ?_)
        rw [cy_top_eq t8 hq9]
        have t9 := cy_top_new (e := .inr (1, [.int 0, .null, .null, .null, .null])) t8
        generalize hM9 : cy_set M8 (z + 19) (.inr (1, [.int 0, .null, .null, .null, .null])) = M9 at t9 ⊢
        have f9_0 : M9 (q) = some (.inr (2, [.ref z])) := by rw [← hM9, cy_set_ne _ _ (by omega)]; exact f8_0
        have f9_1 := cy_kCode_mv (M' := M9) f8_1 (fun x hx => by rw [← hM9, cy_set_ne _ _ (by omega)])
        have f9_2 := cy_kCode_mv (M' := M9) f8_2 (fun x hx => by rw [← hM9, cy_set_ne _ _ (by omega)])
        have f9_3 : M9 (z) = some (.inl (cC, 8, .inr (.inr (.inr (.inr (va_up (va_up (fun _ => none) 0 (some (z + 1))) 1 (some (z + 10)))))))) := by rw [← hM9, cy_set_ne _ _ (by omega)]; exact g8
        have g9 : M9 (z + 19) = some (.inr (1, [.int 0, .null, .null, .null, .null])) := by rw [← hM9, cy_set_self]
        have b9 : ∀ x, x ≠ q → x < z → M9 x = M x := fun x h1 h2 => by rw [← hM9]; exact (cy_set_ne _ _ (by omega)).trans (b8 x h1 h2)
        refine wm_dup C d_Shelf_init_32 rfl ?_
        refine wm_iload_n C d_Shelf_init_33 rfl (j := 0) rfl ?_
        refine wm_callIN (d2 := 2) (mc := 8) (ms := 552) C mo_Code_init rfl ml_Shelf_17 [.int 2] [.ref (z + 19), .int 2, .ref z] rfl rfl (by decide) (Nat.le_of_ble_eq_true rfl) (by decide) (by decide) d_Shelf_init_34 (cy_kv ?_)
        refine c_Code_init hG g9 t9 2 (fun M10 g10 o10 t10 => ⟨rfl, ?_⟩)
        have f10_0 : M10 (q) = some (.inr (2, [.ref z])) := (o10 _ (by omega) (by omega)).trans f9_0
        have f10_1 := cy_kCode_mv (M' := M10) f9_1 (fun x hx => o10 x (by omega) (by omega))
        have f10_2 := cy_kCode_mv (M' := M10) f9_2 (fun x hx => o10 x (by omega) (by omega))
        have f10_3 : M10 (z) = some (.inl (cC, 8, .inr (.inr (.inr (.inr (va_up (va_up (fun _ => none) 0 (some (z + 1))) 1 (some (z + 10)))))))) := (o10 _ (by omega) (by omega)).trans f9_3
        have b10 : ∀ x, x ≠ q → x < z → M10 x = M x := fun x h1 h2 => (o10 x (by omega) (by omega)).trans (b9 x h1 h2)
        refine wm_aast (r := (R_Code, F_Code, 5)) C f10_3 hG1 g10.1 rfl (show vp_in (nI 2) 8 from vp_in_nI (by decide) (by decide)) d_Shelf_init_37 ?_
        have hM11 : ∃ X, X = cy_set M10 z (.inl (cC, 8, .inr (.inr (.inr (.inr (va_up (va_up (va_up (fun _ => none) 0 (some (z + 1))) 1 (some (z + 10))) 2 (some (z + 19)))))))) := ⟨_, rfl⟩
        obtain ⟨M11, hM11⟩ := hM11
        refine wm_eqM (M2 := M11) hM11 ?_
        have f11_0 : M11 (q) = some (.inr (2, [.ref z])) := by rw [hM11, cy_set_ne _ _ (by omega)]; exact f10_0
        have f11_1 := cy_kCode_mv (M' := M11) f10_1 (fun x hx => by rw [hM11, cy_set_ne _ _ (by omega)])
        have f11_2 := cy_kCode_mv (M' := M11) f10_2 (fun x hx => by rw [hM11, cy_set_ne _ _ (by omega)])
        have f11_3 := cy_kCode_mv (M' := M11) g10 (fun x hx => by rw [hM11, cy_set_ne _ _ (by omega)])
        have g11 : M11 z = some (.inl (cC, 8, .inr (.inr (.inr (.inr (va_up (va_up (va_up (fun _ => none) 0 (some (z + 1))) 1 (some (z + 10))) 2 (some (z + 19)))))))) := by rw [hM11, cy_set_self]
        have t11 : cy_top G M11 (z + 28) := by rw [hM11]; exact cy_top_set t10 (by omega)
        have b11 : ∀ x, x ≠ q → x < z → M11 x = M x := fun x h1 h2 => by rw [hM11]; exact (cy_set_ne _ _ (by omega)).trans (b10 x h1 h2)
        refine wm_iinc (v := 3) (lv' := [(1, .int 3), (0, .ref q)]) C d_Shelf_init_38 (k := 0) rfl (by decide) (by decide) rfl ?_
        refine wm_goto (tgt := 15) C d_Shelf_init_41 (by decide) ?_
        refine wm_iload_n C d_Shelf_init_15 rfl (j := 0) rfl ?_
        refine wm_aload_n C d_Shelf_init_16 rfl (j := 1) rfl ?_
        refine wm_get C co_Shelf f11_0 0 (by decide) fl_Shelf_11 rfl d_Shelf_init_17 ?_
        refine wm_alen C g11 hG1 d_Shelf_init_20 ?_
        rw [show nI 8 = 8 from rfl]
        refine wm_icmp_ge (tgt := 44) C d_Shelf_init_21 (by decide) (fun (h_21_4 : 8 ≤ 3) => ?_) (fun (h_21_4 : ¬ 8 ≤ 3) => ?_)
        · exact absurd h_21_4 (by decide)
        · refine wm_aload_n C d_Shelf_init_24 rfl (j := 1) rfl ?_
          refine wm_get C co_Shelf f11_0 0 (by decide) fl_Shelf_11 rfl d_Shelf_init_25 ?_
          refine wm_iload_n C d_Shelf_init_28 rfl (j := 0) rfl ?_
          refine wm_new C co_Code cl_Shelf_9 in_Code ini_Code (fs := [.int 0, .null, .null, .null, .null]) (fun j hj => by rcases (show j = 0 ∨ j = 1 ∨ j = 2 ∨ j = 3 ∨ j = 4 by omega) with rfl | rfl | rfl | rfl | rfl <;> rfl) (by decide) (by decide) d_Shelf_init_29 (fun q12 hq12 => ?_)
          rw [cy_top_eq t11 hq12]
          have t12 := cy_top_new (e := .inr (1, [.int 0, .null, .null, .null, .null])) t11
          generalize hM12 : cy_set M11 (z + 28) (.inr (1, [.int 0, .null, .null, .null, .null])) = M12 at t12 ⊢
          have f12_0 : M12 (q) = some (.inr (2, [.ref z])) := by rw [← hM12, cy_set_ne _ _ (by omega)]; exact f11_0
          have f12_1 := cy_kCode_mv (M' := M12) f11_1 (fun x hx => by rw [← hM12, cy_set_ne _ _ (by omega)])
          have f12_2 := cy_kCode_mv (M' := M12) f11_2 (fun x hx => by rw [← hM12, cy_set_ne _ _ (by omega)])
          have f12_3 := cy_kCode_mv (M' := M12) f11_3 (fun x hx => by rw [← hM12, cy_set_ne _ _ (by omega)])
          have f12_4 : M12 (z) = some (.inl (cC, 8, .inr (.inr (.inr (.inr (va_up (va_up (va_up (fun _ => none) 0 (some (z + 1))) 1 (some (z + 10))) 2 (some (z + 19)))))))) := by rw [← hM12, cy_set_ne _ _ (by omega)]; exact g11
          have g12 : M12 (z + 28) = some (.inr (1, [.int 0, .null, .null, .null, .null])) := by rw [← hM12, cy_set_self]
          have b12 : ∀ x, x ≠ q → x < z → M12 x = M x := fun x h1 h2 => by rw [← hM12]; exact (cy_set_ne _ _ (by omega)).trans (b11 x h1 h2)
          refine wm_dup C d_Shelf_init_32 rfl ?_
          refine wm_iload_n C d_Shelf_init_33 rfl (j := 0) rfl ?_
          refine wm_callIN (d2 := 2) (mc := 8) (ms := 552) C mo_Code_init rfl ml_Shelf_17 [.int 3] [.ref (z + 28), .int 3, .ref z] rfl rfl (by decide) (Nat.le_of_ble_eq_true rfl) (by decide) (by decide) d_Shelf_init_34 (cy_kv ?_)
          refine c_Code_init hG g12 t12 3 (fun M13 g13 o13 t13 => ⟨rfl, ?_⟩)
          have f13_0 : M13 (q) = some (.inr (2, [.ref z])) := (o13 _ (by omega) (by omega)).trans f12_0
          have f13_1 := cy_kCode_mv (M' := M13) f12_1 (fun x hx => o13 x (by omega) (by omega))
          have f13_2 := cy_kCode_mv (M' := M13) f12_2 (fun x hx => o13 x (by omega) (by omega))
          have f13_3 := cy_kCode_mv (M' := M13) f12_3 (fun x hx => o13 x (by omega) (by omega))
          have f13_4 : M13 (z) = some (.inl (cC, 8, .inr (.inr (.inr (.inr (va_up (va_up (va_up (fun _ => none) 0 (some (z + 1))) 1 (some (z + 10))) 2 (some (z + 19)))))))) := (o13 _ (by omega) (by omega)).trans f12_4
          have b13 : ∀ x, x ≠ q → x < z → M13 x = M x := fun x h1 h2 => (o13 x (by omega) (by omega)).trans (b12 x h1 h2)
          refine wm_aast (r := (R_Code, F_Code, 5)) C f13_4 hG1 g13.1 rfl (show vp_in (nI 3) 8 from vp_in_nI (by decide) (by decide)) d_Shelf_init_37 ?_
          have hM14 : ∃ X, X = cy_set M13 z (.inl (cC, 8, .inr (.inr (.inr (.inr (va_up (va_up (va_up (va_up (fun _ => none) 0 (some (z + 1))) 1 (some (z + 10))) 2 (some (z + 19))) 3 (some (z + 28)))))))) := ⟨_, rfl⟩
          obtain ⟨M14, hM14⟩ := hM14
          refine wm_eqM (M2 := M14) hM14 ?_
          have f14_0 : M14 (q) = some (.inr (2, [.ref z])) := by rw [hM14, cy_set_ne _ _ (by omega)]; exact f13_0
          have f14_1 := cy_kCode_mv (M' := M14) f13_1 (fun x hx => by rw [hM14, cy_set_ne _ _ (by omega)])
          have f14_2 := cy_kCode_mv (M' := M14) f13_2 (fun x hx => by rw [hM14, cy_set_ne _ _ (by omega)])
          have f14_3 := cy_kCode_mv (M' := M14) f13_3 (fun x hx => by rw [hM14, cy_set_ne _ _ (by omega)])
          have f14_4 := cy_kCode_mv (M' := M14) g13 (fun x hx => by rw [hM14, cy_set_ne _ _ (by omega)])
          have g14 : M14 z = some (.inl (cC, 8, .inr (.inr (.inr (.inr (va_up (va_up (va_up (va_up (fun _ => none) 0 (some (z + 1))) 1 (some (z + 10))) 2 (some (z + 19))) 3 (some (z + 28)))))))) := by rw [hM14, cy_set_self]
          have t14 : cy_top G M14 (z + 37) := by rw [hM14]; exact cy_top_set t13 (by omega)
          have b14 : ∀ x, x ≠ q → x < z → M14 x = M x := fun x h1 h2 => by rw [hM14]; exact (cy_set_ne _ _ (by omega)).trans (b13 x h1 h2)
          refine wm_iinc (v := 4) (lv' := [(1, .int 4), (0, .ref q)]) C d_Shelf_init_38 (k := 0) rfl (by decide) (by decide) rfl ?_
          refine wm_goto (tgt := 15) C d_Shelf_init_41 (by decide) ?_
          refine wm_iload_n C d_Shelf_init_15 rfl (j := 0) rfl ?_
          refine wm_aload_n C d_Shelf_init_16 rfl (j := 1) rfl ?_
          refine wm_get C co_Shelf f14_0 0 (by decide) fl_Shelf_11 rfl d_Shelf_init_17 ?_
          refine wm_alen C g14 hG1 d_Shelf_init_20 ?_
          rw [show nI 8 = 8 from rfl]
          refine wm_icmp_ge (tgt := 44) C d_Shelf_init_21 (by decide) (fun (h_21_5 : 8 ≤ 4) => ?_) (fun (h_21_5 : ¬ 8 ≤ 4) => ?_)
          · exact absurd h_21_5 (by decide)
          · refine wm_aload_n C d_Shelf_init_24 rfl (j := 1) rfl ?_
            refine wm_get C co_Shelf f14_0 0 (by decide) fl_Shelf_11 rfl d_Shelf_init_25 ?_
            refine wm_iload_n C d_Shelf_init_28 rfl (j := 0) rfl ?_
            refine wm_new C co_Code cl_Shelf_9 in_Code ini_Code (fs := [.int 0, .null, .null, .null, .null]) (fun j hj => by rcases (show j = 0 ∨ j = 1 ∨ j = 2 ∨ j = 3 ∨ j = 4 by omega) with rfl | rfl | rfl | rfl | rfl <;> rfl) (by decide) (by decide) d_Shelf_init_29 (fun q15 hq15 => ?_)
            rw [cy_top_eq t14 hq15]
            have t15 := cy_top_new (e := .inr (1, [.int 0, .null, .null, .null, .null])) t14
            generalize hM15 : cy_set M14 (z + 37) (.inr (1, [.int 0, .null, .null, .null, .null])) = M15 at t15 ⊢
            have f15_0 : M15 (q) = some (.inr (2, [.ref z])) := by rw [← hM15, cy_set_ne _ _ (by omega)]; exact f14_0
            have f15_1 := cy_kCode_mv (M' := M15) f14_1 (fun x hx => by rw [← hM15, cy_set_ne _ _ (by omega)])
            have f15_2 := cy_kCode_mv (M' := M15) f14_2 (fun x hx => by rw [← hM15, cy_set_ne _ _ (by omega)])
            have f15_3 := cy_kCode_mv (M' := M15) f14_3 (fun x hx => by rw [← hM15, cy_set_ne _ _ (by omega)])
            have f15_4 := cy_kCode_mv (M' := M15) f14_4 (fun x hx => by rw [← hM15, cy_set_ne _ _ (by omega)])
            have f15_5 : M15 (z) = some (.inl (cC, 8, .inr (.inr (.inr (.inr (va_up (va_up (va_up (va_up (fun _ => none) 0 (some (z + 1))) 1 (some (z + 10))) 2 (some (z + 19))) 3 (some (z + 28)))))))) := by rw [← hM15, cy_set_ne _ _ (by omega)]; exact g14
            have g15 : M15 (z + 37) = some (.inr (1, [.int 0, .null, .null, .null, .null])) := by rw [← hM15, cy_set_self]
            have b15 : ∀ x, x ≠ q → x < z → M15 x = M x := fun x h1 h2 => by rw [← hM15]; exact (cy_set_ne _ _ (by omega)).trans (b14 x h1 h2)
            refine wm_dup C d_Shelf_init_32 rfl ?_
            refine wm_iload_n C d_Shelf_init_33 rfl (j := 0) rfl ?_
            refine wm_callIN (d2 := 2) (mc := 8) (ms := 552) C mo_Code_init rfl ml_Shelf_17 [.int 4] [.ref (z + 37), .int 4, .ref z] rfl rfl (by decide) (Nat.le_of_ble_eq_true rfl) (by decide) (by decide) d_Shelf_init_34 (cy_kv ?_)
            refine c_Code_init hG g15 t15 4 (fun M16 g16 o16 t16 => ⟨rfl, ?_⟩)
            have f16_0 : M16 (q) = some (.inr (2, [.ref z])) := (o16 _ (by omega) (by omega)).trans f15_0
            have f16_1 := cy_kCode_mv (M' := M16) f15_1 (fun x hx => o16 x (by omega) (by omega))
            have f16_2 := cy_kCode_mv (M' := M16) f15_2 (fun x hx => o16 x (by omega) (by omega))
            have f16_3 := cy_kCode_mv (M' := M16) f15_3 (fun x hx => o16 x (by omega) (by omega))
            have f16_4 := cy_kCode_mv (M' := M16) f15_4 (fun x hx => o16 x (by omega) (by omega))
            have f16_5 : M16 (z) = some (.inl (cC, 8, .inr (.inr (.inr (.inr (va_up (va_up (va_up (va_up (fun _ => none) 0 (some (z + 1))) 1 (some (z + 10))) 2 (some (z + 19))) 3 (some (z + 28)))))))) := (o16 _ (by omega) (by omega)).trans f15_5
            have b16 : ∀ x, x ≠ q → x < z → M16 x = M x := fun x h1 h2 => (o16 x (by omega) (by omega)).trans (b15 x h1 h2)
            refine wm_aast (r := (R_Code, F_Code, 5)) C f16_5 hG1 g16.1 rfl (show vp_in (nI 4) 8 from vp_in_nI (by decide) (by decide)) d_Shelf_init_37 ?_
            have hM17 : ∃ X, X = cy_set M16 z (.inl (cC, 8, .inr (.inr (.inr (.inr (va_up (va_up (va_up (va_up (va_up (fun _ => none) 0 (some (z + 1))) 1 (some (z + 10))) 2 (some (z + 19))) 3 (some (z + 28))) 4 (some (z + 37)))))))) := ⟨_, rfl⟩
            obtain ⟨M17, hM17⟩ := hM17
            refine wm_eqM (M2 := M17) hM17 ?_
            have f17_0 : M17 (q) = some (.inr (2, [.ref z])) := by rw [hM17, cy_set_ne _ _ (by omega)]; exact f16_0
            have f17_1 := cy_kCode_mv (M' := M17) f16_1 (fun x hx => by rw [hM17, cy_set_ne _ _ (by omega)])
            have f17_2 := cy_kCode_mv (M' := M17) f16_2 (fun x hx => by rw [hM17, cy_set_ne _ _ (by omega)])
            have f17_3 := cy_kCode_mv (M' := M17) f16_3 (fun x hx => by rw [hM17, cy_set_ne _ _ (by omega)])
            have f17_4 := cy_kCode_mv (M' := M17) f16_4 (fun x hx => by rw [hM17, cy_set_ne _ _ (by omega)])
            have f17_5 := cy_kCode_mv (M' := M17) g16 (fun x hx => by rw [hM17, cy_set_ne _ _ (by omega)])
            have g17 : M17 z = some (.inl (cC, 8, .inr (.inr (.inr (.inr (va_up (va_up (va_up (va_up (va_up (fun _ => none) 0 (some (z + 1))) 1 (some (z + 10))) 2 (some (z + 19))) 3 (some (z + 28))) 4 (some (z + 37)))))))) := by rw [hM17, cy_set_self]
            have t17 : cy_top G M17 (z + 46) := by rw [hM17]; exact cy_top_set t16 (by omega)
            have b17 : ∀ x, x ≠ q → x < z → M17 x = M x := fun x h1 h2 => by rw [hM17]; exact (cy_set_ne _ _ (by omega)).trans (b16 x h1 h2)
            refine wm_iinc (v := 5) (lv' := [(1, .int 5), (0, .ref q)]) C d_Shelf_init_38 (k := 0) rfl (by decide) (by decide) rfl ?_
            refine wm_goto (tgt := 15) C d_Shelf_init_41 (by decide) ?_
            refine wm_iload_n C d_Shelf_init_15 rfl (j := 0) rfl ?_
            refine wm_aload_n C d_Shelf_init_16 rfl (j := 1) rfl ?_
            refine wm_get C co_Shelf f17_0 0 (by decide) fl_Shelf_11 rfl d_Shelf_init_17 ?_
            refine wm_alen C g17 hG1 d_Shelf_init_20 ?_
            rw [show nI 8 = 8 from rfl]
            refine wm_icmp_ge (tgt := 44) C d_Shelf_init_21 (by decide) (fun (h_21_6 : 8 ≤ 5) => ?_) (fun (h_21_6 : ¬ 8 ≤ 5) => ?_)
            · exact absurd h_21_6 (by decide)
            · refine wm_aload_n C d_Shelf_init_24 rfl (j := 1) rfl ?_
              refine wm_get C co_Shelf f17_0 0 (by decide) fl_Shelf_11 rfl d_Shelf_init_25 ?_
              refine wm_iload_n C d_Shelf_init_28 rfl (j := 0) rfl ?_
              refine wm_new C co_Code cl_Shelf_9 in_Code ini_Code (fs := [.int 0, .null, .null, .null, .null]) (fun j hj => by rcases (show j = 0 ∨ j = 1 ∨ j = 2 ∨ j = 3 ∨ j = 4 by omega) with rfl | rfl | rfl | rfl | rfl <;> rfl) (by decide) (by decide) d_Shelf_init_29 (fun q18 hq18 => ?_)
              rw [cy_top_eq t17 hq18]
              have t18 := cy_top_new (e := .inr (1, [.int 0, .null, .null, .null, .null])) t17
              generalize hM18 : cy_set M17 (z + 46) (.inr (1, [.int 0, .null, .null, .null, .null])) = M18 at t18 ⊢
              have f18_0 : M18 (q) = some (.inr (2, [.ref z])) := by rw [← hM18, cy_set_ne _ _ (by omega)]; exact f17_0
              have f18_1 := cy_kCode_mv (M' := M18) f17_1 (fun x hx => by rw [← hM18, cy_set_ne _ _ (by omega)])
              have f18_2 := cy_kCode_mv (M' := M18) f17_2 (fun x hx => by rw [← hM18, cy_set_ne _ _ (by omega)])
              have f18_3 := cy_kCode_mv (M' := M18) f17_3 (fun x hx => by rw [← hM18, cy_set_ne _ _ (by omega)])
              have f18_4 := cy_kCode_mv (M' := M18) f17_4 (fun x hx => by rw [← hM18, cy_set_ne _ _ (by omega)])
              have f18_5 := cy_kCode_mv (M' := M18) f17_5 (fun x hx => by rw [← hM18, cy_set_ne _ _ (by omega)])
              have f18_6 : M18 (z) = some (.inl (cC, 8, .inr (.inr (.inr (.inr (va_up (va_up (va_up (va_up (va_up (fun _ => none) 0 (some (z + 1))) 1 (some (z + 10))) 2 (some (z + 19))) 3 (some (z + 28))) 4 (some (z + 37)))))))) := by rw [← hM18, cy_set_ne _ _ (by omega)]; exact g17
              have g18 : M18 (z + 46) = some (.inr (1, [.int 0, .null, .null, .null, .null])) := by rw [← hM18, cy_set_self]
              have b18 : ∀ x, x ≠ q → x < z → M18 x = M x := fun x h1 h2 => by rw [← hM18]; exact (cy_set_ne _ _ (by omega)).trans (b17 x h1 h2)
              refine wm_dup C d_Shelf_init_32 rfl ?_
              refine wm_iload_n C d_Shelf_init_33 rfl (j := 0) rfl ?_
              refine wm_callIN (d2 := 2) (mc := 8) (ms := 552) C mo_Code_init rfl ml_Shelf_17 [.int 5] [.ref (z + 46), .int 5, .ref z] rfl rfl (by decide) (Nat.le_of_ble_eq_true rfl) (by decide) (by decide) d_Shelf_init_34 (cy_kv ?_)
              refine c_Code_init hG g18 t18 5 (fun M19 g19 o19 t19 => ⟨rfl, ?_⟩)
              have f19_0 : M19 (q) = some (.inr (2, [.ref z])) := (o19 _ (by omega) (by omega)).trans f18_0
              have f19_1 := cy_kCode_mv (M' := M19) f18_1 (fun x hx => o19 x (by omega) (by omega))
              have f19_2 := cy_kCode_mv (M' := M19) f18_2 (fun x hx => o19 x (by omega) (by omega))
              have f19_3 := cy_kCode_mv (M' := M19) f18_3 (fun x hx => o19 x (by omega) (by omega))
              have f19_4 := cy_kCode_mv (M' := M19) f18_4 (fun x hx => o19 x (by omega) (by omega))
              have f19_5 := cy_kCode_mv (M' := M19) f18_5 (fun x hx => o19 x (by omega) (by omega))
              have f19_6 : M19 (z) = some (.inl (cC, 8, .inr (.inr (.inr (.inr (va_up (va_up (va_up (va_up (va_up (fun _ => none) 0 (some (z + 1))) 1 (some (z + 10))) 2 (some (z + 19))) 3 (some (z + 28))) 4 (some (z + 37)))))))) := (o19 _ (by omega) (by omega)).trans f18_6
              have b19 : ∀ x, x ≠ q → x < z → M19 x = M x := fun x h1 h2 => (o19 x (by omega) (by omega)).trans (b18 x h1 h2)
              refine wm_aast (r := (R_Code, F_Code, 5)) C f19_6 hG1 g19.1 rfl (show vp_in (nI 5) 8 from vp_in_nI (by decide) (by decide)) d_Shelf_init_37 ?_
              have hM20 : ∃ X, X = cy_set M19 z (.inl (cC, 8, .inr (.inr (.inr (.inr (va_up (va_up (va_up (va_up (va_up (va_up (fun _ => none) 0 (some (z + 1))) 1 (some (z + 10))) 2 (some (z + 19))) 3 (some (z + 28))) 4 (some (z + 37))) 5 (some (z + 46)))))))) := ⟨_, rfl⟩
              obtain ⟨M20, hM20⟩ := hM20
              refine wm_eqM (M2 := M20) hM20 ?_
              have f20_0 : M20 (q) = some (.inr (2, [.ref z])) := by rw [hM20, cy_set_ne _ _ (by omega)]; exact f19_0
              have f20_1 := cy_kCode_mv (M' := M20) f19_1 (fun x hx => by rw [hM20, cy_set_ne _ _ (by omega)])
              have f20_2 := cy_kCode_mv (M' := M20) f19_2 (fun x hx => by rw [hM20, cy_set_ne _ _ (by omega)])
              have f20_3 := cy_kCode_mv (M' := M20) f19_3 (fun x hx => by rw [hM20, cy_set_ne _ _ (by omega)])
              have f20_4 := cy_kCode_mv (M' := M20) f19_4 (fun x hx => by rw [hM20, cy_set_ne _ _ (by omega)])
              have f20_5 := cy_kCode_mv (M' := M20) f19_5 (fun x hx => by rw [hM20, cy_set_ne _ _ (by omega)])
              have f20_6 := cy_kCode_mv (M' := M20) g19 (fun x hx => by rw [hM20, cy_set_ne _ _ (by omega)])
              have g20 : M20 z = some (.inl (cC, 8, .inr (.inr (.inr (.inr (va_up (va_up (va_up (va_up (va_up (va_up (fun _ => none) 0 (some (z + 1))) 1 (some (z + 10))) 2 (some (z + 19))) 3 (some (z + 28))) 4 (some (z + 37))) 5 (some (z + 46)))))))) := by rw [hM20, cy_set_self]
              have t20 : cy_top G M20 (z + 55) := by rw [hM20]; exact cy_top_set t19 (by omega)
              have b20 : ∀ x, x ≠ q → x < z → M20 x = M x := fun x h1 h2 => by rw [hM20]; exact (cy_set_ne _ _ (by omega)).trans (b19 x h1 h2)
              refine wm_iinc (v := 6) (lv' := [(1, .int 6), (0, .ref q)]) C d_Shelf_init_38 (k := 0) rfl (by decide) (by decide) rfl ?_
              refine wm_goto (tgt := 15) C d_Shelf_init_41 (by decide) ?_
              refine wm_iload_n C d_Shelf_init_15 rfl (j := 0) rfl ?_
              refine wm_aload_n C d_Shelf_init_16 rfl (j := 1) rfl ?_
              refine wm_get C co_Shelf f20_0 0 (by decide) fl_Shelf_11 rfl d_Shelf_init_17 ?_
              refine wm_alen C g20 hG1 d_Shelf_init_20 ?_
              rw [show nI 8 = 8 from rfl]
              refine wm_icmp_ge (tgt := 44) C d_Shelf_init_21 (by decide) (fun (h_21_7 : 8 ≤ 6) => ?_) (fun (h_21_7 : ¬ 8 ≤ 6) => ?_)
              · exact absurd h_21_7 (by decide)
              · refine wm_aload_n C d_Shelf_init_24 rfl (j := 1) rfl ?_
                refine wm_get C co_Shelf f20_0 0 (by decide) fl_Shelf_11 rfl d_Shelf_init_25 ?_
                refine wm_iload_n C d_Shelf_init_28 rfl (j := 0) rfl ?_
                refine wm_new C co_Code cl_Shelf_9 in_Code ini_Code (fs := [.int 0, .null, .null, .null, .null]) (fun j hj => by rcases (show j = 0 ∨ j = 1 ∨ j = 2 ∨ j = 3 ∨ j = 4 by omega) with rfl | rfl | rfl | rfl | rfl <;> rfl) (by decide) (by decide) d_Shelf_init_29 (fun q21 hq21 => ?_)
                rw [cy_top_eq t20 hq21]
                have t21 := cy_top_new (e := .inr (1, [.int 0, .null, .null, .null, .null])) t20
                generalize hM21 : cy_set M20 (z + 55) (.inr (1, [.int 0, .null, .null, .null, .null])) = M21 at t21 ⊢
                have f21_0 : M21 (q) = some (.inr (2, [.ref z])) := by rw [← hM21, cy_set_ne _ _ (by omega)]; exact f20_0
                have f21_1 := cy_kCode_mv (M' := M21) f20_1 (fun x hx => by rw [← hM21, cy_set_ne _ _ (by omega)])
                have f21_2 := cy_kCode_mv (M' := M21) f20_2 (fun x hx => by rw [← hM21, cy_set_ne _ _ (by omega)])
                have f21_3 := cy_kCode_mv (M' := M21) f20_3 (fun x hx => by rw [← hM21, cy_set_ne _ _ (by omega)])
                have f21_4 := cy_kCode_mv (M' := M21) f20_4 (fun x hx => by rw [← hM21, cy_set_ne _ _ (by omega)])
                have f21_5 := cy_kCode_mv (M' := M21) f20_5 (fun x hx => by rw [← hM21, cy_set_ne _ _ (by omega)])
                have f21_6 := cy_kCode_mv (M' := M21) f20_6 (fun x hx => by rw [← hM21, cy_set_ne _ _ (by omega)])
                have f21_7 : M21 (z) = some (.inl (cC, 8, .inr (.inr (.inr (.inr (va_up (va_up (va_up (va_up (va_up (va_up (fun _ => none) 0 (some (z + 1))) 1 (some (z + 10))) 2 (some (z + 19))) 3 (some (z + 28))) 4 (some (z + 37))) 5 (some (z + 46)))))))) := by rw [← hM21, cy_set_ne _ _ (by omega)]; exact g20
                have g21 : M21 (z + 55) = some (.inr (1, [.int 0, .null, .null, .null, .null])) := by rw [← hM21, cy_set_self]
                have b21 : ∀ x, x ≠ q → x < z → M21 x = M x := fun x h1 h2 => by rw [← hM21]; exact (cy_set_ne _ _ (by omega)).trans (b20 x h1 h2)
                refine wm_dup C d_Shelf_init_32 rfl ?_
                refine wm_iload_n C d_Shelf_init_33 rfl (j := 0) rfl ?_
                refine wm_callIN (d2 := 2) (mc := 8) (ms := 552) C mo_Code_init rfl ml_Shelf_17 [.int 6] [.ref (z + 55), .int 6, .ref z] rfl rfl (by decide) (Nat.le_of_ble_eq_true rfl) (by decide) (by decide) d_Shelf_init_34 (cy_kv ?_)
                refine c_Code_init hG g21 t21 6 (fun M22 g22 o22 t22 => ⟨rfl, ?_⟩)
                have f22_0 : M22 (q) = some (.inr (2, [.ref z])) := (o22 _ (by omega) (by omega)).trans f21_0
                have f22_1 := cy_kCode_mv (M' := M22) f21_1 (fun x hx => o22 x (by omega) (by omega))
                have f22_2 := cy_kCode_mv (M' := M22) f21_2 (fun x hx => o22 x (by omega) (by omega))
                have f22_3 := cy_kCode_mv (M' := M22) f21_3 (fun x hx => o22 x (by omega) (by omega))
                have f22_4 := cy_kCode_mv (M' := M22) f21_4 (fun x hx => o22 x (by omega) (by omega))
                have f22_5 := cy_kCode_mv (M' := M22) f21_5 (fun x hx => o22 x (by omega) (by omega))
                have f22_6 := cy_kCode_mv (M' := M22) f21_6 (fun x hx => o22 x (by omega) (by omega))
                have f22_7 : M22 (z) = some (.inl (cC, 8, .inr (.inr (.inr (.inr (va_up (va_up (va_up (va_up (va_up (va_up (fun _ => none) 0 (some (z + 1))) 1 (some (z + 10))) 2 (some (z + 19))) 3 (some (z + 28))) 4 (some (z + 37))) 5 (some (z + 46)))))))) := (o22 _ (by omega) (by omega)).trans f21_7
                have b22 : ∀ x, x ≠ q → x < z → M22 x = M x := fun x h1 h2 => (o22 x (by omega) (by omega)).trans (b21 x h1 h2)
                refine wm_aast (r := (R_Code, F_Code, 5)) C f22_7 hG1 g22.1 rfl (show vp_in (nI 6) 8 from vp_in_nI (by decide) (by decide)) d_Shelf_init_37 ?_
                have hM23 : ∃ X, X = cy_set M22 z (.inl (cC, 8, .inr (.inr (.inr (.inr (va_up (va_up (va_up (va_up (va_up (va_up (va_up (fun _ => none) 0 (some (z + 1))) 1 (some (z + 10))) 2 (some (z + 19))) 3 (some (z + 28))) 4 (some (z + 37))) 5 (some (z + 46))) 6 (some (z + 55)))))))) := ⟨_, rfl⟩
                obtain ⟨M23, hM23⟩ := hM23
                refine wm_eqM (M2 := M23) hM23 ?_
                have f23_0 : M23 (q) = some (.inr (2, [.ref z])) := by rw [hM23, cy_set_ne _ _ (by omega)]; exact f22_0
                have f23_1 := cy_kCode_mv (M' := M23) f22_1 (fun x hx => by rw [hM23, cy_set_ne _ _ (by omega)])
                have f23_2 := cy_kCode_mv (M' := M23) f22_2 (fun x hx => by rw [hM23, cy_set_ne _ _ (by omega)])
                have f23_3 := cy_kCode_mv (M' := M23) f22_3 (fun x hx => by rw [hM23, cy_set_ne _ _ (by omega)])
                have f23_4 := cy_kCode_mv (M' := M23) f22_4 (fun x hx => by rw [hM23, cy_set_ne _ _ (by omega)])
                have f23_5 := cy_kCode_mv (M' := M23) f22_5 (fun x hx => by rw [hM23, cy_set_ne _ _ (by omega)])
                have f23_6 := cy_kCode_mv (M' := M23) f22_6 (fun x hx => by rw [hM23, cy_set_ne _ _ (by omega)])
                have f23_7 := cy_kCode_mv (M' := M23) g22 (fun x hx => by rw [hM23, cy_set_ne _ _ (by omega)])
                have g23 : M23 z = some (.inl (cC, 8, .inr (.inr (.inr (.inr (va_up (va_up (va_up (va_up (va_up (va_up (va_up (fun _ => none) 0 (some (z + 1))) 1 (some (z + 10))) 2 (some (z + 19))) 3 (some (z + 28))) 4 (some (z + 37))) 5 (some (z + 46))) 6 (some (z + 55)))))))) := by rw [hM23, cy_set_self]
                have t23 : cy_top G M23 (z + 64) := by rw [hM23]; exact cy_top_set t22 (by omega)
                have b23 : ∀ x, x ≠ q → x < z → M23 x = M x := fun x h1 h2 => by rw [hM23]; exact (cy_set_ne _ _ (by omega)).trans (b22 x h1 h2)
                refine wm_iinc (v := 7) (lv' := [(1, .int 7), (0, .ref q)]) C d_Shelf_init_38 (k := 0) rfl (by decide) (by decide) rfl ?_
                refine wm_goto (tgt := 15) C d_Shelf_init_41 (by decide) ?_
                refine wm_iload_n C d_Shelf_init_15 rfl (j := 0) rfl ?_
                refine wm_aload_n C d_Shelf_init_16 rfl (j := 1) rfl ?_
                refine wm_get C co_Shelf f23_0 0 (by decide) fl_Shelf_11 rfl d_Shelf_init_17 ?_
                refine wm_alen C g23 hG1 d_Shelf_init_20 ?_
                rw [show nI 8 = 8 from rfl]
                refine wm_icmp_ge (tgt := 44) C d_Shelf_init_21 (by decide) (fun (h_21_8 : 8 ≤ 7) => ?_) (fun (h_21_8 : ¬ 8 ≤ 7) => ?_)
                · exact absurd h_21_8 (by decide)
                · refine wm_aload_n C d_Shelf_init_24 rfl (j := 1) rfl ?_
                  refine wm_get C co_Shelf f23_0 0 (by decide) fl_Shelf_11 rfl d_Shelf_init_25 ?_
                  refine wm_iload_n C d_Shelf_init_28 rfl (j := 0) rfl ?_
                  refine wm_new C co_Code cl_Shelf_9 in_Code ini_Code (fs := [.int 0, .null, .null, .null, .null]) (fun j hj => by rcases (show j = 0 ∨ j = 1 ∨ j = 2 ∨ j = 3 ∨ j = 4 by omega) with rfl | rfl | rfl | rfl | rfl <;> rfl) (by decide) (by decide) d_Shelf_init_29 (fun q24 hq24 => ?_)
                  rw [cy_top_eq t23 hq24]
                  have t24 := cy_top_new (e := .inr (1, [.int 0, .null, .null, .null, .null])) t23
                  generalize hM24 : cy_set M23 (z + 64) (.inr (1, [.int 0, .null, .null, .null, .null])) = M24 at t24 ⊢
                  have f24_0 : M24 (q) = some (.inr (2, [.ref z])) := by rw [← hM24, cy_set_ne _ _ (by omega)]; exact f23_0
                  have f24_1 := cy_kCode_mv (M' := M24) f23_1 (fun x hx => by rw [← hM24, cy_set_ne _ _ (by omega)])
                  have f24_2 := cy_kCode_mv (M' := M24) f23_2 (fun x hx => by rw [← hM24, cy_set_ne _ _ (by omega)])
                  have f24_3 := cy_kCode_mv (M' := M24) f23_3 (fun x hx => by rw [← hM24, cy_set_ne _ _ (by omega)])
                  have f24_4 := cy_kCode_mv (M' := M24) f23_4 (fun x hx => by rw [← hM24, cy_set_ne _ _ (by omega)])
                  have f24_5 := cy_kCode_mv (M' := M24) f23_5 (fun x hx => by rw [← hM24, cy_set_ne _ _ (by omega)])
                  have f24_6 := cy_kCode_mv (M' := M24) f23_6 (fun x hx => by rw [← hM24, cy_set_ne _ _ (by omega)])
                  have f24_7 := cy_kCode_mv (M' := M24) f23_7 (fun x hx => by rw [← hM24, cy_set_ne _ _ (by omega)])
                  have f24_8 : M24 (z) = some (.inl (cC, 8, .inr (.inr (.inr (.inr (va_up (va_up (va_up (va_up (va_up (va_up (va_up (fun _ => none) 0 (some (z + 1))) 1 (some (z + 10))) 2 (some (z + 19))) 3 (some (z + 28))) 4 (some (z + 37))) 5 (some (z + 46))) 6 (some (z + 55)))))))) := by rw [← hM24, cy_set_ne _ _ (by omega)]; exact g23
                  have g24 : M24 (z + 64) = some (.inr (1, [.int 0, .null, .null, .null, .null])) := by rw [← hM24, cy_set_self]
                  have b24 : ∀ x, x ≠ q → x < z → M24 x = M x := fun x h1 h2 => by rw [← hM24]; exact (cy_set_ne _ _ (by omega)).trans (b23 x h1 h2)
                  refine wm_dup C d_Shelf_init_32 rfl ?_
                  refine wm_iload_n C d_Shelf_init_33 rfl (j := 0) rfl ?_
                  refine wm_callIN (d2 := 2) (mc := 8) (ms := 552) C mo_Code_init rfl ml_Shelf_17 [.int 7] [.ref (z + 64), .int 7, .ref z] rfl rfl (by decide) (Nat.le_of_ble_eq_true rfl) (by decide) (by decide) d_Shelf_init_34 (cy_kv ?_)
                  refine c_Code_init hG g24 t24 7 (fun M25 g25 o25 t25 => ⟨rfl, ?_⟩)
                  have f25_0 : M25 (q) = some (.inr (2, [.ref z])) := (o25 _ (by omega) (by omega)).trans f24_0
                  have f25_1 := cy_kCode_mv (M' := M25) f24_1 (fun x hx => o25 x (by omega) (by omega))
                  have f25_2 := cy_kCode_mv (M' := M25) f24_2 (fun x hx => o25 x (by omega) (by omega))
                  have f25_3 := cy_kCode_mv (M' := M25) f24_3 (fun x hx => o25 x (by omega) (by omega))
                  have f25_4 := cy_kCode_mv (M' := M25) f24_4 (fun x hx => o25 x (by omega) (by omega))
                  have f25_5 := cy_kCode_mv (M' := M25) f24_5 (fun x hx => o25 x (by omega) (by omega))
                  have f25_6 := cy_kCode_mv (M' := M25) f24_6 (fun x hx => o25 x (by omega) (by omega))
                  have f25_7 := cy_kCode_mv (M' := M25) f24_7 (fun x hx => o25 x (by omega) (by omega))
                  have f25_8 : M25 (z) = some (.inl (cC, 8, .inr (.inr (.inr (.inr (va_up (va_up (va_up (va_up (va_up (va_up (va_up (fun _ => none) 0 (some (z + 1))) 1 (some (z + 10))) 2 (some (z + 19))) 3 (some (z + 28))) 4 (some (z + 37))) 5 (some (z + 46))) 6 (some (z + 55)))))))) := (o25 _ (by omega) (by omega)).trans f24_8
                  have b25 : ∀ x, x ≠ q → x < z → M25 x = M x := fun x h1 h2 => (o25 x (by omega) (by omega)).trans (b24 x h1 h2)
                  refine wm_aast (r := (R_Code, F_Code, 5)) C f25_8 hG1 g25.1 rfl (show vp_in (nI 7) 8 from vp_in_nI (by decide) (by decide)) d_Shelf_init_37 ?_
                  have hM26 : ∃ X, X = cy_set M25 z (.inl (cC, 8, .inr (.inr (.inr (.inr (va_up (va_up (va_up (va_up (va_up (va_up (va_up (va_up (fun _ => none) 0 (some (z + 1))) 1 (some (z + 10))) 2 (some (z + 19))) 3 (some (z + 28))) 4 (some (z + 37))) 5 (some (z + 46))) 6 (some (z + 55))) 7 (some (z + 64)))))))) := ⟨_, rfl⟩
                  obtain ⟨M26, hM26⟩ := hM26
                  refine wm_eqM (M2 := M26) hM26 ?_
                  have f26_0 : M26 (q) = some (.inr (2, [.ref z])) := by rw [hM26, cy_set_ne _ _ (by omega)]; exact f25_0
                  have f26_1 := cy_kCode_mv (M' := M26) f25_1 (fun x hx => by rw [hM26, cy_set_ne _ _ (by omega)])
                  have f26_2 := cy_kCode_mv (M' := M26) f25_2 (fun x hx => by rw [hM26, cy_set_ne _ _ (by omega)])
                  have f26_3 := cy_kCode_mv (M' := M26) f25_3 (fun x hx => by rw [hM26, cy_set_ne _ _ (by omega)])
                  have f26_4 := cy_kCode_mv (M' := M26) f25_4 (fun x hx => by rw [hM26, cy_set_ne _ _ (by omega)])
                  have f26_5 := cy_kCode_mv (M' := M26) f25_5 (fun x hx => by rw [hM26, cy_set_ne _ _ (by omega)])
                  have f26_6 := cy_kCode_mv (M' := M26) f25_6 (fun x hx => by rw [hM26, cy_set_ne _ _ (by omega)])
                  have f26_7 := cy_kCode_mv (M' := M26) f25_7 (fun x hx => by rw [hM26, cy_set_ne _ _ (by omega)])
                  have f26_8 := cy_kCode_mv (M' := M26) g25 (fun x hx => by rw [hM26, cy_set_ne _ _ (by omega)])
                  have g26 : M26 z = some (.inl (cC, 8, .inr (.inr (.inr (.inr (va_up (va_up (va_up (va_up (va_up (va_up (va_up (va_up (fun _ => none) 0 (some (z + 1))) 1 (some (z + 10))) 2 (some (z + 19))) 3 (some (z + 28))) 4 (some (z + 37))) 5 (some (z + 46))) 6 (some (z + 55))) 7 (some (z + 64)))))))) := by rw [hM26, cy_set_self]
                  have t26 : cy_top G M26 (z + 73) := by rw [hM26]; exact cy_top_set t25 (by omega)
                  have b26 : ∀ x, x ≠ q → x < z → M26 x = M x := fun x h1 h2 => by rw [hM26]; exact (cy_set_ne _ _ (by omega)).trans (b25 x h1 h2)
                  refine wm_iinc (v := 8) (lv' := [(1, .int 8), (0, .ref q)]) C d_Shelf_init_38 (k := 0) rfl (by decide) (by decide) rfl ?_
                  refine wm_goto (tgt := 15) C d_Shelf_init_41 (by decide) ?_
                  refine wm_iload_n C d_Shelf_init_15 rfl (j := 0) rfl ?_
                  refine wm_aload_n C d_Shelf_init_16 rfl (j := 1) rfl ?_
                  refine wm_get C co_Shelf f26_0 0 (by decide) fl_Shelf_11 rfl d_Shelf_init_17 ?_
                  refine wm_alen C g26 hG1 d_Shelf_init_20 ?_
                  rw [show nI 8 = 8 from rfl]
                  refine wm_icmp_ge (tgt := 44) C d_Shelf_init_21 (by decide) (fun (h_21_9 : 8 ≤ 8) => ?_) (fun (h_21_9 : ¬ 8 ≤ 8) => ?_)
                  · refine wm_vret C P d_Shelf_init_44 ?_
                    refine h _ ⟨f26_0, ?_, fun k hk => ?_⟩ b26 t26
                    · rw [g26]
                      refine congrArg (fun (f : Nat → Option Nat) => (some (Sum.inl (cC, 8, Sum.inr (Sum.inr (Sum.inr (Sum.inr f))))) : Option va_E)) (funext fun k => ?_)
                      match k with
                      | 0 => simp [va_up]
                      | 1 => simp [va_up]
                      | 2 => simp [va_up]
                      | 3 => simp [va_up]
                      | 4 => simp [va_up]
                      | 5 => simp [va_up]
                      | 6 => simp [va_up]
                      | 7 => simp [va_up]
                      | k + 8 => simp [va_up]
                    · match k, hk with
                      | 0, _ => exact f26_1
                      | 1, _ => exact f26_2
                      | 2, _ => exact f26_3
                      | 3, _ => exact f26_4
                      | 4, _ => exact f26_5
                      | 5, _ => exact f26_6
                      | 6, _ => exact f26_7
                      | 7, _ => exact f26_8
                  · exact absurd h_21_9 (by decide)
