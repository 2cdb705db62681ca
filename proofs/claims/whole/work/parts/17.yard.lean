def cy_kShelf (cI cC : ClassId) (M : cy_Hp) (a z : Nat) : Prop := M a = some (.inr (2, [.ref z])) ∧ M z = some (.inl (cC, 8, .inr (.inr (.inr (.inr (fun k => if k < 8 then some (z + 1 + 9 * k) else none)))))) ∧ ∀ k, k < 8 → cy_kCode cI M (z + 1 + 9 * k) (z + 1 + 9 * k + 1) (nI k)
theorem cy_kShelf_mv {cI cC : ClassId} {M M' : cy_Hp} {a z : Nat} (h : cy_kShelf cI cC M a z) (hM : ∀ x, x = a ∨ (z ≤ x ∧ x < z + 73) → M' x = M x) : cy_kShelf cI cC M' a z := by
  obtain ⟨h1, h2, h3⟩ := h
  exact ⟨(hM _ (by omega)).trans h1, (hM _ (by omega)).trans h2, fun k hk => cy_kCode_mv (h3 k hk) (fun x hx => hM x (by omega))⟩
def cy_kSurvey (cI : ClassId) (M : cy_Hp) (a z : Nat) : Prop := M a = some (.inr (3, [.ref z, .ref (z + 2), .ref (z + 4), .int 0, .int 0, .int 0])) ∧ cy_kRow cI M z 256 ∧ cy_kRow cI M (z + 2) 256 ∧ cy_kRow cI M (z + 4) 256
theorem cy_kSurvey_mv {cI : ClassId} {M M' : cy_Hp} {a z : Nat} (h : cy_kSurvey cI M a z) (hM : ∀ x, x = a ∨ (z ≤ x ∧ x < z + 6) → M' x = M x) : cy_kSurvey cI M' a z := by
  obtain ⟨h1, h2, h3, h4⟩ := h
  exact ⟨(hM _ (by omega)).trans h1, cy_kRow_mv h2 (fun x hx => hM x (by omega)), cy_kRow_mv h3 (fun x hx => hM x (by omega)), cy_kRow_mv h4 (fun x hx => hM x (by omega))⟩

def cy_kRun (cI : ClassId) (M : cy_Hp) (a z sh : Nat) : Prop := M a = some (.inr (5, [.ref sh, .ref (z + 13), .ref z, .ref (z + 2), .ref (z + 13), .int 0, .int 0, .int 0, .int 0, .int 0])) ∧ cy_kRow cI M z 300 ∧ cy_kRow cI M (z + 2) 64 ∧ cy_kCode cI M (z + 4) (z + 5) (-1) ∧ (M (z + 13) = some (.inr (4, [.int 1, .null, .ref (z + 18), .ref (z + 14), .ref (z + 16), .ref (z + 4), .int 0])) ∧ M (z + 18) = some (.inr (4, [.int 2, .ref (z + 13), .ref (z + 23), .ref (z + 19), .ref (z + 21), .ref (z + 4), .int 0])) ∧ M (z + 23) = some (.inr (4, [.int 3, .ref (z + 18), .ref (z + 28), .ref (z + 24), .ref (z + 26), .ref (z + 4), .int 0])) ∧ M (z + 28) = some (.inr (4, [.int 4, .ref (z + 23), .ref (z + 33), .ref (z + 29), .ref (z + 31), .ref (z + 4), .int 0])) ∧ M (z + 33) = some (.inr (4, [.int 5, .ref (z + 28), .ref (z + 38), .ref (z + 34), .ref (z + 36), .ref (z + 4), .int 0])) ∧ M (z + 38) = some (.inr (4, [.int 6, .ref (z + 33), .ref (z + 43), .ref (z + 39), .ref (z + 41), .ref (z + 4), .int 0])) ∧ M (z + 43) = some (.inr (4, [.int 7, .ref (z + 38), .ref (z + 48), .ref (z + 44), .ref (z + 46), .ref (z + 4), .int 0])) ∧ M (z + 48) = some (.inr (4, [.int 8, .ref (z + 43), .null, .ref (z + 49), .ref (z + 51), .ref (z + 4), .int 0]))) ∧ cy_kFr2 cI M (z + 14) ∧ cy_kFr2 cI M (z + 19) ∧ cy_kFr2 cI M (z + 24) ∧ cy_kFr2 cI M (z + 29) ∧ cy_kFr2 cI M (z + 34) ∧ cy_kFr2 cI M (z + 39) ∧ cy_kFr2 cI M (z + 44) ∧ cy_kFr2 cI M (z + 49)
theorem cy_kRun_mv {cI : ClassId} {M M' : cy_Hp} {a z sh : Nat} (h : cy_kRun cI M a z sh) (hM : ∀ x, x = a ∨ (z ≤ x ∧ x < z + 53) → M' x = M x) : cy_kRun cI M' a z sh := by
  obtain ⟨h1, h2, h3, h4, ⟨a0, a1, a2, a3, a4, a5, a6, a7⟩, b0, b1, b2, b3, b4, b5, b6, b7⟩ := h
  exact ⟨(hM _ (by omega)).trans h1, cy_kRow_mv h2 (fun x hx => hM x (by omega)), cy_kRow_mv h3 (fun x hx => hM x (by omega)), cy_kCode_mv h4 (fun x hx => hM x (by omega)), ⟨(hM _ (by omega)).trans a0, (hM _ (by omega)).trans a1, (hM _ (by omega)).trans a2, (hM _ (by omega)).trans a3, (hM _ (by omega)).trans a4, (hM _ (by omega)).trans a5, (hM _ (by omega)).trans a6, (hM _ (by omega)).trans a7⟩, cy_kFr2_mv b0 (fun x hx => hM x (by omega)), cy_kFr2_mv b1 (fun x hx => hM x (by omega)), cy_kFr2_mv b2 (fun x hx => hM x (by omega)), cy_kFr2_mv b3 (fun x hx => hM x (by omega)), cy_kFr2_mv b4 (fun x hx => hM x (by omega)), cy_kFr2_mv b5 (fun x hx => hM x (by omega)), cy_kFr2_mv b6 (fun x hx => hM x (by omega)), cy_kFr2_mv b7 (fun x hx => hM x (by omega))⟩
def cy_offR (r : Nat) : Nat := if r = 0 then 1 else if r ≤ 3 then 76 + 2 * r else if r = 4 then 85 else if r = 5 then 87 else if r < 38 then 6 + 9 * ((r - 6) / 4) + 2 * ((r - 6) % 4) else if r < 42 then 90 + 2 * (r - 38) else 99 + 5 * ((r - 42) / 2) + 2 * ((r - 42) % 2)
def cy_off (k : Nat) : Nat := if k < 116 then cy_offR (k / 2) + k % 2 else if k < 125 then (if k = 124 then 89 else 5 + 9 * (k - 116)) else if k < 133 then 98 + 5 * (k - 125) else if k = 133 then 0 else if k = 134 then 3 else if k = 135 then 77 else if k = 136 then 84 else 4
theorem cy_off_inj : ∀ i, i < 138 → ∀ j, j < 138 → i ≠ j → cy_off i ≠ cy_off j := by decide +kernel
theorem cy_off_lt : ∀ i, i < 138 → cy_off i < 138 := by decide +kernel
theorem cy_off_row : ∀ r, r < 58 → cy_off (2 * r) = cy_offR r ∧ cy_off (2 * r + 1) = cy_offR r + 1 := by decide +kernel
def cy_s0 : cy_S := (fun _ => [], fun _ => (8, 0), (0, 0, 0, 0, 0, 0), (0, 0, 0))
theorem cy_rw0 {E : cy_E} {M : cy_Hp} {r q : Nat} (hr : r < 58) (hL : ∀ k, E.2.2.1 k = q + cy_off k) (h : cy_kRow E.1 M (q + cy_offR r) (cy_cap r)) : cy_rw E M r [] := by
  obtain ⟨e1, e2⟩ := cy_off_row r hr
  refine ⟨fun _ => 0, ?_, ?_, Nat.zero_le _, fun j hj => absurd hj (Nat.not_lt_zero _)⟩
  · rw [hL, hL, e1, e2]; exact h.1
  · rw [hL, e2]; exact h.2

set_option maxHeartbeats 8000000 in
set_option maxRecDepth 4000 in
theorem c_Yard_init {G : cy_G} {cI cC : ClassId} (hG : G.2.2.1[0]? = some (cI, .int)) (hG1 : G.2.2.1[1]? = some (cC, .object "CodeYard$Code")) {M : cy_Hp} {q : Nat} {post : Option Value → cy_Hp → Prop} (hq : M q = some (.inr (6, [.null, .null, .null, .null]))) (hz0 : cy_top G M (q + 1)) (h : ∀ M', cy_R (cI, cC, fun k => q + cy_off k, M') cy_s0 M' → (∀ x, x < q → M' x = M x) → cy_top G M' (q + 138) → post none M') : cy_Ct G 4 m_Yard_init [.ref q] M 137 6698 post := by
  obtain ⟨z, hqz1⟩ : ∃ z, z = q + 1 := ⟨_, rfl⟩
  have hz : cy_top G M z := by rw [hqz1]; exact hz0
  have hqz : q < z := by omega
  refine cy_Ct.of (by decide) (Nat.le_of_ble_eq_true rfl) ?_
  intro F C P hN
  have hN := hN rfl
  have hb : ∀ x, x ≠ q → x < z → M x = M x := fun _ _ _ => rfl
  have C : cy_C G F R_Yard b_Yard_init 1 4 137 6698 := C
  have P : cy_P G F none post 137 6698 := P
  show WM G F 1 0 0 0 [(0, .ref q)] [] M
  refine wm_aload_n C d_Yard_init_0 rfl (j := 0) rfl ?_
  refine wm_obj C ml_Yard_1 ob_i ob_c (by decide) (Nat.le_of_ble_eq_true rfl) d_Yard_init_1 ?_
  refine wm_aload_n C d_Yard_init_4 rfl (j := 0) rfl ?_
  refine wm_new C co_Row cl_Yard_7 in_Row ini_Row (fs := [.null, .int 0]) (fun j hj => by rcases (show j = 0 ∨ j = 1 by omega) with rfl | rfl <;> rfl) (by decide) (by decide) d_Yard_init_5 (fun q1 hq1 => ?_)
  rw [cy_top_eq hz hq1]
  have t1 := cy_top_new (e := .inr (0, [.null, .int 0])) hz
  generalize hM1 : cy_set M (z) (.inr (0, [.null, .int 0])) = M1 at t1 ⊢
  have f1_0 : M1 (q) = some (.inr (6, [.null, .null, .null, .null])) := by rw [← hM1, cy_set_ne _ _ (by omega)]; exact hq
  have g1 : M1 (z) = some (.inr (0, [.null, .int 0])) := by rw [← hM1, cy_set_self]
  have b1 : ∀ x, x ≠ q → x < z → M1 x = M x := fun x h1 h2 => by rw [← hM1]; exact (cy_set_ne _ _ (by omega)).trans (hb x h1 h2)
  refine wm_dup C d_Yard_init_8 rfl ?_
  refine wm_sipush (v := 300) C d_Yard_init_9 (by decide) ?_
  refine wm_callIN (d2 := 1) (mc := 1) (ms := 300) C mo_Row_init rfl ml_Yard_11 [.int 300] [.ref z, .ref q] rfl rfl (by decide) (Nat.le_of_ble_eq_true rfl) (by decide) (by decide) d_Yard_init_12 (cy_kv ?_)
  refine c_Row_init hG g1 t1 (n := 300) (by decide) (fun M2 g2 h2 o2 t2 => ⟨rfl, ?_⟩)
  have f2_0 : M2 (q) = some (.inr (6, [.null, .null, .null, .null])) := (o2 _ (by omega) (by omega)).trans f1_0
  have b2 : ∀ x, x ≠ q → x < z → M2 x = M x := fun x h1 h2 => (o2 x (by omega) (by omega)).trans (b1 x h1 h2)
  refine wm_putF C hN co_Yard f2_0 0 (by decide) fl_Yard_14 rfl rfl rfl rfl (Nat.le_of_ble_eq_true rfl) d_Yard_init_15 ?_
  have hM3 : ∃ X, X = cy_set M2 (q) (.inr (6, [.ref z, .null, .null, .null])) := ⟨_, rfl⟩
  obtain ⟨M3, hM3⟩ := hM3
  refine wm_eqM (M2 := M3) hM3 ?_
  have f3_0 : M3 (z) = some (.inr (0, [.ref (z + 1), .int 0])) := by rw [hM3, cy_set_ne _ _ (by omega)]; exact g2
  have f3_1 : M3 (z + 1) = some (.inl (cI, 300, .inl (fun _ => 0))) := by rw [hM3, cy_set_ne _ _ (by omega)]; exact h2
  have g3 : M3 (q) = some (.inr (6, [.ref z, .null, .null, .null])) := by rw [hM3, cy_set_self]
  have t3 : cy_top G M3 (z + 2) := by rw [hM3]; exact cy_top_set t2 (by omega)
  have b3 : ∀ x, x ≠ q → x < z → M3 x = M x := fun x h1 h2 => by rw [hM3]; exact (cy_set_ne _ _ (by omega)).trans (b2 x h1 h2)
  refine wm_aload_n C d_Yard_init_18 rfl (j := 0) rfl ?_
  refine wm_new C co_Shelf cl_Yard_18 in_Shelf ini_Shelf (fs := [.null]) (fun j hj => by rcases (show j = 0 by omega) with rfl; rfl) (by decide) (by decide) d_Yard_init_19 (fun q4 hq4 => ?_)
  rw [cy_top_eq t3 hq4]
  have t4 := cy_top_new (e := .inr (2, [.null])) t3
  generalize hM4 : cy_set M3 (z + 2) (.inr (2, [.null])) = M4 at t4 ⊢
  have f4_0 : M4 (z) = some (.inr (0, [.ref (z + 1), .int 0])) := by rw [← hM4, cy_set_ne _ _ (by omega)]; exact f3_0
  have f4_1 : M4 (z + 1) = some (.inl (cI, 300, .inl (fun _ => 0))) := by rw [← hM4, cy_set_ne _ _ (by omega)]; exact f3_1
  have f4_2 : M4 (q) = some (.inr (6, [.ref z, .null, .null, .null])) := by rw [← hM4, cy_set_ne _ _ (by omega)]; exact g3
  have g4 : M4 (z + 2) = some (.inr (2, [.null])) := by rw [← hM4, cy_set_self]
  have b4 : ∀ x, x ≠ q → x < z → M4 x = M x := fun x h1 h2 => by rw [← hM4]; exact (cy_set_ne _ _ (by omega)).trans (b3 x h1 h2)
  refine wm_dup C d_Yard_init_22 rfl ?_
  refine wm_callIN (d2 := 3) (mc := 73) (ms := 4464) C mo_Shelf_init rfl ml_Yard_20 [] [.ref (z + 2), .ref q] rfl rfl (by decide) (Nat.le_of_ble_eq_true rfl) (by decide) (by decide) d_Yard_init_23 (cy_kv ?_)
  refine c_Shelf_init hG g4 t4 hG1 (fun M5 (g5 : cy_kShelf cI cC M5 (z + 2) (z + 3)) o5 t5 => ⟨rfl, ?_⟩)
  have f5_0 : M5 (z) = some (.inr (0, [.ref (z + 1), .int 0])) := (o5 _ (by omega) (by omega)).trans f4_0
  have f5_1 : M5 (z + 1) = some (.inl (cI, 300, .inl (fun _ => 0))) := (o5 _ (by omega) (by omega)).trans f4_1
  have f5_2 : M5 (q) = some (.inr (6, [.ref z, .null, .null, .null])) := (o5 _ (by omega) (by omega)).trans f4_2
  have b5 : ∀ x, x ≠ q → x < z → M5 x = M x := fun x h1 h2 => (o5 x (by omega) (by omega)).trans (b4 x h1 h2)
  refine wm_putF C hN co_Yard f5_2 1 (by decide) fl_Yard_21 rfl rfl rfl rfl (Nat.le_of_ble_eq_true rfl) d_Yard_init_26 ?_
  have hM6 : ∃ X, X = cy_set M5 (q) (.inr (6, [.ref z, .ref (z + 2), .null, .null])) := ⟨_, rfl⟩
  obtain ⟨M6, hM6⟩ := hM6
  refine wm_eqM (M2 := M6) hM6 ?_
  have f6_0 : M6 (z) = some (.inr (0, [.ref (z + 1), .int 0])) := by rw [hM6, cy_set_ne _ _ (by omega)]; exact f5_0
  have f6_1 : M6 (z + 1) = some (.inl (cI, 300, .inl (fun _ => 0))) := by rw [hM6, cy_set_ne _ _ (by omega)]; exact f5_1
  have f6_2 := cy_kShelf_mv (M' := M6) g5 (fun x hx => by rw [hM6, cy_set_ne _ _ (by omega)])
  have g6 : M6 (q) = some (.inr (6, [.ref z, .ref (z + 2), .null, .null])) := by rw [hM6, cy_set_self]
  have t6 : cy_top G M6 (z + 76) := by rw [hM6]; exact cy_top_set t5 (by omega)
  have b6 : ∀ x, x ≠ q → x < z → M6 x = M x := fun x h1 h2 => by rw [hM6]; exact (cy_set_ne _ _ (by omega)).trans (b5 x h1 h2)
  refine wm_aload_n C d_Yard_init_29 rfl (j := 0) rfl ?_
  refine wm_new C co_Survey cl_Yard_25 in_Survey ini_Survey (fs := [.null, .null, .null, .int 0, .int 0, .int 0]) (fun j hj => by rcases (show j = 0 ∨ j = 1 ∨ j = 2 ∨ j = 3 ∨ j = 4 ∨ j = 5 by omega) with rfl | rfl | rfl | rfl | rfl | rfl <;> rfl) (by decide) (by decide) d_Yard_init_30 (fun q7 hq7 => ?_)
  rw [cy_top_eq t6 hq7]
  have t7 := cy_top_new (e := .inr (3, [.null, .null, .null, .int 0, .int 0, .int 0])) t6
  generalize hM7 : cy_set M6 (z + 76) (.inr (3, [.null, .null, .null, .int 0, .int 0, .int 0])) = M7 at t7 ⊢
  have f7_0 : M7 (z) = some (.inr (0, [.ref (z + 1), .int 0])) := by rw [← hM7, cy_set_ne _ _ (by omega)]; exact f6_0
  have f7_1 : M7 (z + 1) = some (.inl (cI, 300, .inl (fun _ => 0))) := by rw [← hM7, cy_set_ne _ _ (by omega)]; exact f6_1
  have f7_2 := cy_kShelf_mv (M' := M7) f6_2 (fun x hx => by rw [← hM7, cy_set_ne _ _ (by omega)])
  have f7_3 : M7 (q) = some (.inr (6, [.ref z, .ref (z + 2), .null, .null])) := by rw [← hM7, cy_set_ne _ _ (by omega)]; exact g6
  have g7 : M7 (z + 76) = some (.inr (3, [.null, .null, .null, .int 0, .int 0, .int 0])) := by rw [← hM7, cy_set_self]
  have b7 : ∀ x, x ≠ q → x < z → M7 x = M x := fun x h1 h2 => by rw [← hM7]; exact (cy_set_ne _ _ (by omega)).trans (b6 x h1 h2)
  refine wm_dup C d_Yard_init_33 rfl ?_
  refine wm_callIN (d2 := 2) (mc := 6) (ms := 774) C mo_Survey_init rfl ml_Yard_27 [] [.ref (z + 76), .ref q] rfl rfl (by decide) (Nat.le_of_ble_eq_true rfl) (by decide) (by decide) d_Yard_init_34 (cy_kv ?_)
  refine c_Survey_init hG g7 t7 (fun M8 (g8 : cy_kSurvey cI M8 (z + 76) (z + 77)) o8 t8 => ⟨rfl, ?_⟩)
  have f8_0 : M8 (z) = some (.inr (0, [.ref (z + 1), .int 0])) := (o8 _ (by omega) (by omega)).trans f7_0
  have f8_1 : M8 (z + 1) = some (.inl (cI, 300, .inl (fun _ => 0))) := (o8 _ (by omega) (by omega)).trans f7_1
  have f8_2 := cy_kShelf_mv (M' := M8) f7_2 (fun x hx => o8 x (by omega) (by omega))
  have f8_3 : M8 (q) = some (.inr (6, [.ref z, .ref (z + 2), .null, .null])) := (o8 _ (by omega) (by omega)).trans f7_3
  have b8 : ∀ x, x ≠ q → x < z → M8 x = M x := fun x h1 h2 => (o8 x (by omega) (by omega)).trans (b7 x h1 h2)
  refine wm_putF C hN co_Yard f8_3 2 (by decide) fl_Yard_28 rfl rfl rfl rfl (Nat.le_of_ble_eq_true rfl) d_Yard_init_37 ?_
  have hM9 : ∃ X, X = cy_set M8 (q) (.inr (6, [.ref z, .ref (z + 2), .ref (z + 76), .null])) := ⟨_, rfl⟩
  obtain ⟨M9, hM9⟩ := hM9
  refine wm_eqM (M2 := M9) hM9 ?_
  have f9_0 : M9 (z) = some (.inr (0, [.ref (z + 1), .int 0])) := by rw [hM9, cy_set_ne _ _ (by omega)]; exact f8_0
  have f9_1 : M9 (z + 1) = some (.inl (cI, 300, .inl (fun _ => 0))) := by rw [hM9, cy_set_ne _ _ (by omega)]; exact f8_1
  have f9_2 := cy_kShelf_mv (M' := M9) f8_2 (fun x hx => by rw [hM9, cy_set_ne _ _ (by omega)])
  have f9_3 := cy_kSurvey_mv (M' := M9) g8 (fun x hx => by rw [hM9, cy_set_ne _ _ (by omega)])
  have g9 : M9 (q) = some (.inr (6, [.ref z, .ref (z + 2), .ref (z + 76), .null])) := by rw [hM9, cy_set_self]
  have t9 : cy_top G M9 (z + 83) := by rw [hM9]; exact cy_top_set t8 (by omega)
  have b9 : ∀ x, x ≠ q → x < z → M9 x = M x := fun x h1 h2 => by rw [hM9]; exact (cy_set_ne _ _ (by omega)).trans (b8 x h1 h2)
  refine wm_aload_n C d_Yard_init_40 rfl (j := 0) rfl ?_
  refine wm_new C co_Run cl_Yard_32 in_Run ini_Run (fs := [.null, .null, .null, .null, .null, .int 0, .int 0, .int 0, .int 0, .int 0]) (fun j hj => by rcases (show j = 0 ∨ j = 1 ∨ j = 2 ∨ j = 3 ∨ j = 4 ∨ j = 5 ∨ j = 6 ∨ j = 7 ∨ j = 8 ∨ j = 9 by omega) with rfl | rfl | rfl | rfl | rfl | rfl | rfl | rfl | rfl | rfl <;> rfl) (by decide) (by decide) d_Yard_init_41 (fun q10 hq10 => ?_)
  rw [cy_top_eq t9 hq10]
  have t10 := cy_top_new (e := .inr (5, [.null, .null, .null, .null, .null, .int 0, .int 0, .int 0, .int 0, .int 0])) t9
  generalize hM10 : cy_set M9 (z + 83) (.inr (5, [.null, .null, .null, .null, .null, .int 0, .int 0, .int 0, .int 0, .int 0])) = M10 at t10 ⊢
  have f10_0 : M10 (z) = some (.inr (0, [.ref (z + 1), .int 0])) := by rw [← hM10, cy_set_ne _ _ (by omega)]; exact f9_0
  have f10_1 : M10 (z + 1) = some (.inl (cI, 300, .inl (fun _ => 0))) := by rw [← hM10, cy_set_ne _ _ (by omega)]; exact f9_1
  have f10_2 := cy_kShelf_mv (M' := M10) f9_2 (fun x hx => by rw [← hM10, cy_set_ne _ _ (by omega)])
  have f10_3 := cy_kSurvey_mv (M' := M10) f9_3 (fun x hx => by rw [← hM10, cy_set_ne _ _ (by omega)])
  have f10_4 : M10 (q) = some (.inr (6, [.ref z, .ref (z + 2), .ref (z + 76), .null])) := by rw [← hM10, cy_set_ne _ _ (by omega)]; exact g9
  have g10 : M10 (z + 83) = some (.inr (5, [.null, .null, .null, .null, .null, .int 0, .int 0, .int 0, .int 0, .int 0])) := by rw [← hM10, cy_set_self]
  have b10 : ∀ x, x ≠ q → x < z → M10 x = M x := fun x h1 h2 => by rw [← hM10]; exact (cy_set_ne _ _ (by omega)).trans (b9 x h1 h2)
  refine wm_dup C d_Yard_init_44 rfl ?_
  refine wm_aload_n C d_Yard_init_45 rfl (j := 0) rfl ?_
  refine wm_get C co_Yard f10_4 1 (by decide) fl_Yard_21 rfl d_Yard_init_46 ?_
  refine wm_callIN (d2 := 3) (mc := 53) (ms := 1141) C mo_Run_init rfl ml_Yard_34 [.ref (z + 2)] [.ref (z + 83), .ref q] rfl rfl (by decide) (Nat.le_of_ble_eq_true rfl) (by decide) (by decide) d_Yard_init_49 (cy_kv ?_)
  refine c_Run_init hG g10 t10 (z + 2) (fun M11 (g11 : cy_kRun cI M11 (z + 83) (z + 84) (z + 2)) o11 t11 => ⟨rfl, ?_⟩)
  have f11_0 : M11 (z) = some (.inr (0, [.ref (z + 1), .int 0])) := (o11 _ (by omega) (by omega)).trans f10_0
  have f11_1 : M11 (z + 1) = some (.inl (cI, 300, .inl (fun _ => 0))) := (o11 _ (by omega) (by omega)).trans f10_1
  have f11_2 := cy_kShelf_mv (M' := M11) f10_2 (fun x hx => o11 x (by omega) (by omega))
  have f11_3 := cy_kSurvey_mv (M' := M11) f10_3 (fun x hx => o11 x (by omega) (by omega))
  have f11_4 : M11 (q) = some (.inr (6, [.ref z, .ref (z + 2), .ref (z + 76), .null])) := (o11 _ (by omega) (by omega)).trans f10_4
  have b11 : ∀ x, x ≠ q → x < z → M11 x = M x := fun x h1 h2 => (o11 x (by omega) (by omega)).trans (b10 x h1 h2)
  refine wm_putF C hN co_Yard f11_4 3 (by decide) fl_Yard_37 rfl rfl rfl rfl (Nat.le_of_ble_eq_true rfl) d_Yard_init_52 ?_
  have hM12 : ∃ X, X = cy_set M11 (q) (.inr (6, [.ref z, .ref (z + 2), .ref (z + 76), .ref (z + 83)])) := ⟨_, rfl⟩
  obtain ⟨M12, hM12⟩ := hM12
  refine wm_eqM (M2 := M12) hM12 ?_
  have f12_0 : M12 (z) = some (.inr (0, [.ref (z + 1), .int 0])) := by rw [hM12, cy_set_ne _ _ (by omega)]; exact f11_0
  have f12_1 : M12 (z + 1) = some (.inl (cI, 300, .inl (fun _ => 0))) := by rw [hM12, cy_set_ne _ _ (by omega)]; exact f11_1
  have f12_2 := cy_kShelf_mv (M' := M12) f11_2 (fun x hx => by rw [hM12, cy_set_ne _ _ (by omega)])
  have f12_3 := cy_kSurvey_mv (M' := M12) f11_3 (fun x hx => by rw [hM12, cy_set_ne _ _ (by omega)])
  have f12_4 := cy_kRun_mv (M' := M12) g11 (fun x hx => by rw [hM12, cy_set_ne _ _ (by omega)])
  have g12 : M12 (q) = some (.inr (6, [.ref z, .ref (z + 2), .ref (z + 76), .ref (z + 83)])) := by rw [hM12, cy_set_self]
  have t12 : cy_top G M12 (z + 137) := by rw [hM12]; exact cy_top_set t11 (by omega)
  have b12 : ∀ x, x ≠ q → x < z → M12 x = M x := fun x h1 h2 => by rw [hM12]; exact (cy_set_ne _ _ (by omega)).trans (b11 x h1 h2)
  refine wm_vret C P d_Yard_init_55 ?_
  subst hqz1
  refine h _ ?_ (fun x hx => b12 x (by omega) (by omega)) t12
  obtain ⟨s1, s2, s3⟩ := f12_2
  obtain ⟨v1, v2, v3, v4⟩ := f12_3
  obtain ⟨r1, r2, r3, r4, ⟨a0, a1, a2, a3, a4, a5, a6, a7⟩, b0, b1, b2, b3, b4, b5, b6, b7⟩ := f12_4
  refine ⟨fun r hr => cy_rw0 (q := q) hr (fun _ => rfl) ?_, fun k hk => ?_, fun j hj => ⟨?_, Nat.lt_succ_self 8⟩, g12, s1, v1, ⟨r1, by decide⟩, ?_, fun _ _ => rfl⟩
  · match r, hr with
    | 0, _ => exact ⟨f12_0, f12_1⟩
    | 1, _ => exact v2
    | 2, _ => exact v3
    | 3, _ => exact v4
    | 4, _ => exact r2
    | 5, _ => exact r3
    | 6, _ => exact (s3 0 (by decide)).2.1
    | 7, _ => exact (s3 0 (by decide)).2.2.1
    | 8, _ => exact (s3 0 (by decide)).2.2.2.1
    | 9, _ => exact (s3 0 (by decide)).2.2.2.2
    | 10, _ => exact (s3 1 (by decide)).2.1
    | 11, _ => exact (s3 1 (by decide)).2.2.1
    | 12, _ => exact (s3 1 (by decide)).2.2.2.1
    | 13, _ => exact (s3 1 (by decide)).2.2.2.2
    | 14, _ => exact (s3 2 (by decide)).2.1
    | 15, _ => exact (s3 2 (by decide)).2.2.1
    | 16, _ => exact (s3 2 (by decide)).2.2.2.1
    | 17, _ => exact (s3 2 (by decide)).2.2.2.2
    | 18, _ => exact (s3 3 (by decide)).2.1
    | 19, _ => exact (s3 3 (by decide)).2.2.1
    | 20, _ => exact (s3 3 (by decide)).2.2.2.1
    | 21, _ => exact (s3 3 (by decide)).2.2.2.2
    | 22, _ => exact (s3 4 (by decide)).2.1
    | 23, _ => exact (s3 4 (by decide)).2.2.1
    | 24, _ => exact (s3 4 (by decide)).2.2.2.1
    | 25, _ => exact (s3 4 (by decide)).2.2.2.2
    | 26, _ => exact (s3 5 (by decide)).2.1
    | 27, _ => exact (s3 5 (by decide)).2.2.1
    | 28, _ => exact (s3 5 (by decide)).2.2.2.1
    | 29, _ => exact (s3 5 (by decide)).2.2.2.2
    | 30, _ => exact (s3 6 (by decide)).2.1
    | 31, _ => exact (s3 6 (by decide)).2.2.1
    | 32, _ => exact (s3 6 (by decide)).2.2.2.1
    | 33, _ => exact (s3 6 (by decide)).2.2.2.2
    | 34, _ => exact (s3 7 (by decide)).2.1
    | 35, _ => exact (s3 7 (by decide)).2.2.1
    | 36, _ => exact (s3 7 (by decide)).2.2.2.1
    | 37, _ => exact (s3 7 (by decide)).2.2.2.2
    | 38, _ => exact r4.2.1
    | 39, _ => exact r4.2.2.1
    | 40, _ => exact r4.2.2.2.1
    | 41, _ => exact r4.2.2.2.2
    | 42, _ => exact b0.1
    | 43, _ => exact b0.2
    | 44, _ => exact b1.1
    | 45, _ => exact b1.2
    | 46, _ => exact b2.1
    | 47, _ => exact b2.2
    | 48, _ => exact b3.1
    | 49, _ => exact b3.2
    | 50, _ => exact b4.1
    | 51, _ => exact b4.2
    | 52, _ => exact b5.1
    | 53, _ => exact b5.2
    | 54, _ => exact b6.1
    | 55, _ => exact b6.2
    | 56, _ => exact b7.1
    | 57, _ => exact b7.2
    | r + 58, hr => exact absurd hr (by omega)
  · match k, hk with
    | 0, _ => exact (s3 0 (by decide)).1
    | 1, _ => exact (s3 1 (by decide)).1
    | 2, _ => exact (s3 2 (by decide)).1
    | 3, _ => exact (s3 3 (by decide)).1
    | 4, _ => exact (s3 4 (by decide)).1
    | 5, _ => exact (s3 5 (by decide)).1
    | 6, _ => exact (s3 6 (by decide)).1
    | 7, _ => exact (s3 7 (by decide)).1
    | 8, _ => exact r4.1
  · match j, hj with
    | 0, _ => exact a0
    | 1, _ => exact a1
    | 2, _ => exact a2
    | 3, _ => exact a3
    | 4, _ => exact a4
    | 5, _ => exact a5
    | 6, _ => exact a6
    | 7, _ => exact a7
  · refine s2.trans (congrArg (fun (f : Nat → Option Nat) => (some (Sum.inl (cC, 8, Sum.inr (Sum.inr (Sum.inr (Sum.inr f))))) : Option va_E)) (funext fun k => ?_))
    by_cases hk : k < 8
    · rw [if_pos hk, if_pos hk]
      match k, hk with
      | 0, _ => rfl
      | 1, _ => rfl
      | 2, _ => rfl
      | 3, _ => rfl
      | 4, _ => rfl
      | 5, _ => rfl
      | 6, _ => rfl
      | 7, _ => rfl
    · rw [if_neg hk, if_neg hk]
