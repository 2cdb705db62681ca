def cy_kRow (cI : ClassId) (M : cy_Hp) (a n : Nat) : Prop := M a = some (.inr (0, [.ref (a + 1), .int 0])) ∧ M (a + 1) = some (.inl (cI, n, .inl (fun _ => 0)))
def cy_kCode (cI : ClassId) (M : cy_Hp) (a : Nat) (z : Nat) (v : Int32) : Prop := M a = some (.inr (1, [.int v, .ref z, .ref (z + 2), .ref (z + 4), .ref (z + 6)])) ∧ cy_kRow cI M z 256 ∧ cy_kRow cI M (z + 2) 256 ∧ cy_kRow cI M (z + 4) 16 ∧ cy_kRow cI M (z + 6) 16
theorem cy_kRow_mv {cI : ClassId} {M M' : cy_Hp} {a n : Nat} (h : cy_kRow cI M a n) (hM : ∀ x, a ≤ x ∧ x < a + 2 → M' x = M x) : cy_kRow cI M' a n := ⟨(hM _ (by omega)).trans h.1, (hM _ (by omega)).trans h.2⟩
theorem cy_kCode_mv {cI : ClassId} {M M' : cy_Hp} {a z : Nat} {v : Int32} (h : cy_kCode cI M a z v) (hM : ∀ x, x = a ∨ (z ≤ x ∧ x < z + 8) → M' x = M x) : cy_kCode cI M' a z v := by
  obtain ⟨h1, h2, h3, h4, h5⟩ := h
  exact ⟨(hM _ (by omega)).trans h1, cy_kRow_mv h2 (fun x hx => hM x (by omega)), cy_kRow_mv h3 (fun x hx => hM x (by omega)), cy_kRow_mv h4 (fun x hx => hM x (by omega)), cy_kRow_mv h5 (fun x hx => hM x (by omega))⟩
def cy_kFr2 (cI : ClassId) (M : cy_Hp) (z : Nat) : Prop := cy_kRow cI M z 8 ∧ cy_kRow cI M (z + 2) 8
theorem cy_kFr2_mv {cI : ClassId} {M M' : cy_Hp} {z : Nat} (h : cy_kFr2 cI M z) (hM : ∀ x, z ≤ x ∧ x < z + 4 → M' x = M x) : cy_kFr2 cI M' z := ⟨cy_kRow_mv h.1 (fun x hx => hM x (by omega)), cy_kRow_mv h.2 (fun x hx => hM x (by omega))⟩
def cy_kFrame (cI : ClassId) (M : cy_Hp) (a : Nat) (z : Nat) (lvl : Int32) (o i : Value) (k : Nat) : Prop := M a = some (.inr (4, [.int lvl, o, i, .ref z, .ref (z + 2), .ref k, .int 0])) ∧ cy_kFr2 cI M z
theorem wm_eqM {G : cy_G} {F : cy_F} {nL kc ks pc : Nat} {lv : List (Nat × Value)} {st : List Value} {M M2 : cy_Hp} (h : M2 = M) (k : WM G F nL kc ks pc lv st M2) : WM G F nL kc ks pc lv st M := h ▸ k
set_option maxHeartbeats 4000000 in
theorem c_Row_init {G : cy_G} {cI : ClassId} (hG : G.2.2.1[0]? = some (cI, .int)) {M : cy_Hp} {q z n : Nat} {post : Option Value → cy_Hp → Prop} (hq : M q = some (.inr (0, [.null, .int 0]))) (hz : cy_top G M z) (hn : n ≤ 300) (h : ∀ M', M' q = some (.inr (0, [.ref z, .int 0])) → M' z = some (.inl (cI, n, .inl (fun _ => 0))) → (∀ x, x ≠ q → x < z → M' x = M x) → cy_top G M' (z + 1) → post none M') : cy_Ct G 1 m_Row_init [.ref q, .int (nI n)] M 1 n post := by
  have hqz : q < z := cy_top_lt hz hq
  refine cy_Ct.of (by decide) (Nat.le_of_ble_eq_true rfl) ?_
  intro F C P hN
  have hN := hN rfl
  have C : cy_C G F R_Row b_Row_init 2 1 1 n := C
  have P : cy_P G F none post 1 n := P
  show WM G F 2 0 0 0 [(0, .ref q), (1, .int (nI n))] [] M
  refine wm_aload_n C d_Row_init_0 rfl (j := 0) rfl ?_
  refine wm_obj C ml_Row_1 ob_i ob_c (by decide) (Nat.le_of_ble_eq_true rfl) d_Row_init_1 ?_
  refine wm_aload_n C d_Row_init_4 rfl (j := 0) rfl ?_
  refine wm_iload_n C d_Row_init_5 rfl (j := 1) rfl ?_
  refine wm_iconst (v := 0) C d_Row_init_6 (by decide) ?_
  refine wm_mmax C ml_Row_7 mm_max_s mm_i mm_max_c (by decide) (Nat.le_of_ble_eq_true rfl) (Nat.zero_le _) (Nat.zero_le _) d_Row_init_7 ?_
  rw [if_neg (nI_pos (show n < 2 ^ 31 by omega))]
  refine wm_newa C hG aw_int (nI_pos (show n < 2 ^ 31 by omega)) (nI_clamp (show n < 2 ^ 31 by omega)) (by omega) (by decide) (by omega) d_Row_init_10 (fun q1 hq1 => ?_)
  rw [cy_top_eq hz hq1]
  have t1 := cy_top_new (e := .inl (cI, n, .inl (fun _ => 0))) hz
  generalize hM1 : cy_set M z (.inl (cI, n, .inl (fun _ => 0))) = M1 at t1 ⊢
  have f1 : M1 q = some (.inr (0, [.null, .int 0])) := by rw [← hM1, cy_set_ne _ _ (by omega)]; exact hq
  have g1 : M1 z = some (.inl (cI, n, .inl (fun _ => 0))) := by rw [← hM1, cy_set_self]
  refine wm_putF C hN co_Row f1 0 (by decide) fl_Row_13 rfl rfl rfl rfl (Nat.le_of_ble_eq_true rfl) d_Row_init_12 ?_
  refine wm_aload_n C d_Row_init_15 rfl (j := 0) rfl ?_
  refine wm_iconst (v := 0) C d_Row_init_16 (by decide) ?_
  refine wm_put C co_Row (cy_set_self _ _ _) 1 (by decide) fl_Row_19 rfl rfl rfl (Nat.le_of_ble_eq_true rfl) d_Row_init_17 ?_
  refine wm_widen (kc2 := 1) (ks2 := n) (by decide) (by omega) ?_
  refine wm_vret C P d_Row_init_20 ?_
  rw [cy_set_set]
  refine h _ (cy_set_self _ _ _) ((cy_set_ne _ _ (by omega)).trans g1) (fun x h1 h2 => ?_) (cy_top_set t1 (by omega))
  rw [cy_set_ne _ _ h1, ← hM1, cy_set_ne _ _ (by omega)]
set_option maxHeartbeats 8000000 in
theorem c_Code_init {G : cy_G} {cI : ClassId} (hG : G.2.2.1[0]? = some (cI, .int)) {M : cy_Hp} {q z : Nat} {post : Option Value → cy_Hp → Prop} (hq : M q = some (.inr (1, [.int 0, .null, .null, .null, .null]))) (hz : cy_top G M z) (v : Int32) (h : ∀ M', cy_kCode cI M' q z v → (∀ x, x ≠ q → x < z → M' x = M x) → cy_top G M' (z + 8) → post none M') : cy_Ct G 2 m_Code_init [.ref q, .int v] M 8 552 post := by
  have hqz : q < z := cy_top_lt hz hq
  refine cy_Ct.of (by decide) (Nat.le_of_ble_eq_true rfl) ?_
  intro F C P hN
  have hN := hN rfl
  have hb : ∀ x, x ≠ q → x < z → M x = M x := fun _ _ _ => rfl
  have C : cy_C G F R_Code b_Code_init 2 2 8 552 := C
  have P : cy_P G F none post 8 552 := P
  show WM G F 2 0 0 0 [(0, .ref q), (1, .int v)] [] M
  refine wm_aload_n C d_Code_init_0 rfl (j := 0) rfl ?_
  refine wm_obj C ml_Code_3 ob_i ob_c (by decide) (Nat.le_of_ble_eq_true rfl) d_Code_init_1 ?_
  refine wm_aload_n C d_Code_init_4 rfl (j := 0) rfl ?_
  refine wm_iload_n C d_Code_init_5 rfl (j := 1) rfl ?_
  refine wm_putF C hN co_Code hq 0 (by decide) fl_Code_9 rfl rfl rfl rfl (Nat.le_of_ble_eq_true rfl) d_Code_init_6 ?_
  have hM1 : ∃ X, X = cy_set M (q) (.inr (1, [.int v, .null, .null, .null, .null])) := ⟨_, rfl⟩
  obtain ⟨M1, hM1⟩ := hM1
  refine wm_eqM (M2 := M1) hM1 ?_
  have g1 : M1 (q) = some (.inr (1, [.int v, .null, .null, .null, .null])) := by rw [hM1, cy_set_self]
  have t1 : cy_top G M1 (z) := by rw [hM1]; exact cy_top_set hz (by omega)
  have b1 : ∀ x, x ≠ q → x < z → M1 x = M x := fun x h1 h2 => by rw [hM1]; exact (cy_set_ne _ _ (by omega)).trans (hb x h1 h2)
  refine wm_aload_n C d_Code_init_9 rfl (j := 0) rfl ?_
  refine wm_new C co_Row cl_Code_15 in_Row ini_Row (fs := [.null, .int 0]) (fun j hj => by rcases (show j = 0 ∨ j = 1 by omega) with rfl | rfl <;> rfl) (by decide) (by decide) d_Code_init_10 (fun q2 hq2 => ?_)
  rw [cy_top_eq t1 hq2]
  have t2 := cy_top_new (e := .inr (0, [.null, .int 0])) t1
  generalize hM2 : cy_set M1 (z) (.inr (0, [.null, .int 0])) = M2 at t2 ⊢
  have f2_0 : M2 (q) = some (.inr (1, [.int v, .null, .null, .null, .null])) := by rw [← hM2, cy_set_ne _ _ (by omega)]; exact g1
  have g2 : M2 (z) = some (.inr (0, [.null, .int 0])) := by rw [← hM2, cy_set_self]
  have b2 : ∀ x, x ≠ q → x < z → M2 x = M x := fun x h1 h2 => by rw [← hM2]; exact (cy_set_ne _ _ (by omega)).trans (b1 x h1 h2)
  refine wm_dup C d_Code_init_13 rfl ?_
  refine wm_sipush (v := 256) C d_Code_init_14 (by decide) ?_
  refine wm_callIN (d2 := 1) (mc := 1) (ms := 256) C mo_Row_init rfl ml_Code_17 [.int 256] [.ref z, .ref q] rfl rfl (by decide) (Nat.le_of_ble_eq_true rfl) (by decide) (by decide) d_Code_init_17 (cy_kv ?_)
  refine c_Row_init hG g2 t2 (n := 256) (by decide) (fun M3 g3 h3 o3 t3 => ⟨rfl, ?_⟩)
  have f3_0 : M3 (q) = some (.inr (1, [.int v, .null, .null, .null, .null])) := (o3 _ (by omega) (by omega)).trans f2_0
  have b3 : ∀ x, x ≠ q → x < z → M3 x = M x := fun x h1 h2 => (o3 x (by omega) (by omega)).trans (b2 x h1 h2)
  refine wm_putF C hN co_Code f3_0 1 (by decide) fl_Code_20 rfl rfl rfl rfl (Nat.le_of_ble_eq_true rfl) d_Code_init_20 ?_
  have hM4 : ∃ X, X = cy_set M3 (q) (.inr (1, [.int v, .ref z, .null, .null, .null])) := ⟨_, rfl⟩
  obtain ⟨M4, hM4⟩ := hM4
  refine wm_eqM (M2 := M4) hM4 ?_
  have f4_0 : M4 (z) = some (.inr (0, [.ref (z + 1), .int 0])) := by rw [hM4, cy_set_ne _ _ (by omega)]; exact g3
  have f4_1 : M4 (z + 1) = some (.inl (cI, 256, .inl (fun _ => 0))) := by rw [hM4, cy_set_ne _ _ (by omega)]; exact h3
  have g4 : M4 (q) = some (.inr (1, [.int v, .ref z, .null, .null, .null])) := by rw [hM4, cy_set_self]
  have t4 : cy_top G M4 (z + 2) := by rw [hM4]; exact cy_top_set t3 (by omega)
  have b4 : ∀ x, x ≠ q → x < z → M4 x = M x := fun x h1 h2 => by rw [hM4]; exact (cy_set_ne _ _ (by omega)).trans (b3 x h1 h2)
  refine wm_aload_n C d_Code_init_23 rfl (j := 0) rfl ?_
  refine wm_new C co_Row cl_Code_15 in_Row ini_Row (fs := [.null, .int 0]) (fun j hj => by rcases (show j = 0 ∨ j = 1 by omega) with rfl | rfl <;> rfl) (by decide) (by decide) d_Code_init_24 (fun q5 hq5 => ?_)
  rw [cy_top_eq t4 hq5]
  have t5 := cy_top_new (e := .inr (0, [.null, .int 0])) t4
  generalize hM5 : cy_set M4 (z + 2) (.inr (0, [.null, .int 0])) = M5 at t5 ⊢
  have f5_0 : M5 (z) = some (.inr (0, [.ref (z + 1), .int 0])) := by rw [← hM5, cy_set_ne _ _ (by omega)]; exact f4_0
  have f5_1 : M5 (z + 1) = some (.inl (cI, 256, .inl (fun _ => 0))) := by rw [← hM5, cy_set_ne _ _ (by omega)]; exact f4_1
  have f5_2 : M5 (q) = some (.inr (1, [.int v, .ref z, .null, .null, .null])) := by rw [← hM5, cy_set_ne _ _ (by omega)]; exact g4
  have g5 : M5 (z + 2) = some (.inr (0, [.null, .int 0])) := by rw [← hM5, cy_set_self]
  have b5 : ∀ x, x ≠ q → x < z → M5 x = M x := fun x h1 h2 => by rw [← hM5]; exact (cy_set_ne _ _ (by omega)).trans (b4 x h1 h2)
  refine wm_dup C d_Code_init_27 rfl ?_
  refine wm_sipush (v := 256) C d_Code_init_28 (by decide) ?_
  refine wm_callIN (d2 := 1) (mc := 1) (ms := 256) C mo_Row_init rfl ml_Code_17 [.int 256] [.ref (z + 2), .ref q] rfl rfl (by decide) (Nat.le_of_ble_eq_true rfl) (by decide) (by decide) d_Code_init_31 (cy_kv ?_)
  refine c_Row_init hG g5 t5 (n := 256) (by decide) (fun M6 g6 h6 o6 t6 => ⟨rfl, ?_⟩)
  have f6_0 : M6 (z) = some (.inr (0, [.ref (z + 1), .int 0])) := (o6 _ (by omega) (by omega)).trans f5_0
  have f6_1 : M6 (z + 1) = some (.inl (cI, 256, .inl (fun _ => 0))) := (o6 _ (by omega) (by omega)).trans f5_1
  have f6_2 : M6 (q) = some (.inr (1, [.int v, .ref z, .null, .null, .null])) := (o6 _ (by omega) (by omega)).trans f5_2
  have b6 : ∀ x, x ≠ q → x < z → M6 x = M x := fun x h1 h2 => (o6 x (by omega) (by omega)).trans (b5 x h1 h2)
  refine wm_putF C hN co_Code f6_2 2 (by decide) fl_Code_24 rfl rfl rfl rfl (Nat.le_of_ble_eq_true rfl) d_Code_init_34 ?_
  have hM7 : ∃ X, X = cy_set M6 (q) (.inr (1, [.int v, .ref z, .ref (z + 2), .null, .null])) := ⟨_, rfl⟩
  obtain ⟨M7, hM7⟩ := hM7
  refine wm_eqM (M2 := M7) hM7 ?_
  have f7_0 : M7 (z) = some (.inr (0, [.ref (z + 1), .int 0])) := by rw [hM7, cy_set_ne _ _ (by omega)]; exact f6_0
  have f7_1 : M7 (z + 1) = some (.inl (cI, 256, .inl (fun _ => 0))) := by rw [hM7, cy_set_ne _ _ (by omega)]; exact f6_1
  have f7_2 : M7 (z + 2) = some (.inr (0, [.ref (z + 3), .int 0])) := by rw [hM7, cy_set_ne _ _ (by omega)]; exact g6
  have f7_3 : M7 (z + 3) = some (.inl (cI, 256, .inl (fun _ => 0))) := by rw [hM7, cy_set_ne _ _ (by omega)]; exact h6
  have g7 : M7 (q) = some (.inr (1, [.int v, .ref z, .ref (z + 2), .null, .null])) := by rw [hM7, cy_set_self]
  have t7 : cy_top G M7 (z + 4) := by rw [hM7]; exact cy_top_set t6 (by omega)
  have b7 : ∀ x, x ≠ q → x < z → M7 x = M x := fun x h1 h2 => by rw [hM7]; exact (cy_set_ne _ _ (by omega)).trans (b6 x h1 h2)
  refine wm_aload_n C d_Code_init_37 rfl (j := 0) rfl ?_
  refine wm_new C co_Row cl_Code_15 in_Row ini_Row (fs := [.null, .int 0]) (fun j hj => by rcases (show j = 0 ∨ j = 1 by omega) with rfl | rfl <;> rfl) (by decide) (by decide) d_Code_init_38 (fun q8 hq8 => ?_)
  rw [cy_top_eq t7 hq8]
  have t8 := cy_top_new (e := .inr (0, [.null, .int 0])) t7
  generalize hM8 : cy_set M7 (z + 4) (.inr (0, [.null, .int 0])) = M8 at t8 ⊢
  have f8_0 : M8 (z) = some (.inr (0, [.ref (z + 1), .int 0])) := by rw [← hM8, cy_set_ne _ _ (by omega)]; exact f7_0
  have f8_1 : M8 (z + 1) = some (.inl (cI, 256, .inl (fun _ => 0))) := by rw [← hM8, cy_set_ne _ _ (by omega)]; exact f7_1
  have f8_2 : M8 (z + 2) = some (.inr (0, [.ref (z + 3), .int 0])) := by rw [← hM8, cy_set_ne _ _ (by omega)]; exact f7_2
  have f8_3 : M8 (z + 3) = some (.inl (cI, 256, .inl (fun _ => 0))) := by rw [← hM8, cy_set_ne _ _ (by omega)]; exact f7_3
  have f8_4 : M8 (q) = some (.inr (1, [.int v, .ref z, .ref (z + 2), .null, .null])) := by rw [← hM8, cy_set_ne _ _ (by omega)]; exact g7
  have g8 : M8 (z + 4) = some (.inr (0, [.null, .int 0])) := by rw [← hM8, cy_set_self]
  have b8 : ∀ x, x ≠ q → x < z → M8 x = M x := fun x h1 h2 => by rw [← hM8]; exact (cy_set_ne _ _ (by omega)).trans (b7 x h1 h2)
  refine wm_dup C d_Code_init_41 rfl ?_
  refine wm_bipush (v := 16) C d_Code_init_42 (by decide) ?_
  refine wm_callIN (d2 := 1) (mc := 1) (ms := 16) C mo_Row_init rfl ml_Code_17 [.int 16] [.ref (z + 4), .ref q] rfl rfl (by decide) (Nat.le_of_ble_eq_true rfl) (by decide) (by decide) d_Code_init_44 (cy_kv ?_)
  refine c_Row_init hG g8 t8 (n := 16) (by decide) (fun M9 g9 h9 o9 t9 => ⟨rfl, ?_⟩)
  have f9_0 : M9 (z) = some (.inr (0, [.ref (z + 1), .int 0])) := (o9 _ (by omega) (by omega)).trans f8_0
  have f9_1 : M9 (z + 1) = some (.inl (cI, 256, .inl (fun _ => 0))) := (o9 _ (by omega) (by omega)).trans f8_1
  have f9_2 : M9 (z + 2) = some (.inr (0, [.ref (z + 3), .int 0])) := (o9 _ (by omega) (by omega)).trans f8_2
  have f9_3 : M9 (z + 3) = some (.inl (cI, 256, .inl (fun _ => 0))) := (o9 _ (by omega) (by omega)).trans f8_3
  have f9_4 : M9 (q) = some (.inr (1, [.int v, .ref z, .ref (z + 2), .null, .null])) := (o9 _ (by omega) (by omega)).trans f8_4
  have b9 : ∀ x, x ≠ q → x < z → M9 x = M x := fun x h1 h2 => (o9 x (by omega) (by omega)).trans (b8 x h1 h2)
  refine wm_putF C hN co_Code f9_4 3 (by decide) fl_Code_27 rfl rfl rfl rfl (Nat.le_of_ble_eq_true rfl) d_Code_init_47 ?_
  have hM10 : ∃ X, X = cy_set M9 (q) (.inr (1, [.int v, .ref z, .ref (z + 2), .ref (z + 4), .null])) := ⟨_, rfl⟩
  obtain ⟨M10, hM10⟩ := hM10
  refine wm_eqM (M2 := M10) hM10 ?_
  have f10_0 : M10 (z) = some (.inr (0, [.ref (z + 1), .int 0])) := by rw [hM10, cy_set_ne _ _ (by omega)]; exact f9_0
  have f10_1 : M10 (z + 1) = some (.inl (cI, 256, .inl (fun _ => 0))) := by rw [hM10, cy_set_ne _ _ (by omega)]; exact f9_1
  have f10_2 : M10 (z + 2) = some (.inr (0, [.ref (z + 3), .int 0])) := by rw [hM10, cy_set_ne _ _ (by omega)]; exact f9_2
  have f10_3 : M10 (z + 3) = some (.inl (cI, 256, .inl (fun _ => 0))) := by rw [hM10, cy_set_ne _ _ (by omega)]; exact f9_3
  have f10_4 : M10 (z + 4) = some (.inr (0, [.ref (z + 5), .int 0])) := by rw [hM10, cy_set_ne _ _ (by omega)]; exact g9
  have f10_5 : M10 (z + 5) = some (.inl (cI, 16, .inl (fun _ => 0))) := by rw [hM10, cy_set_ne _ _ (by omega)]; exact h9
  have g10 : M10 (q) = some (.inr (1, [.int v, .ref z, .ref (z + 2), .ref (z + 4), .null])) := by rw [hM10, cy_set_self]
  have t10 : cy_top G M10 (z + 6) := by rw [hM10]; exact cy_top_set t9 (by omega)
  have b10 : ∀ x, x ≠ q → x < z → M10 x = M x := fun x h1 h2 => by rw [hM10]; exact (cy_set_ne _ _ (by omega)).trans (b9 x h1 h2)
  refine wm_aload_n C d_Code_init_50 rfl (j := 0) rfl ?_
  refine wm_new C co_Row cl_Code_15 in_Row ini_Row (fs := [.null, .int 0]) (fun j hj => by rcases (show j = 0 ∨ j = 1 by omega) with rfl | rfl <;> rfl) (by decide) (by decide) d_Code_init_51 (fun q11 hq11 => ?_)
  rw [cy_top_eq t10 hq11]
  have t11 := cy_top_new (e := .inr (0, [.null, .int 0])) t10
  generalize hM11 : cy_set M10 (z + 6) (.inr (0, [.null, .int 0])) = M11 at t11 ⊢
  have f11_0 : M11 (z) = some (.inr (0, [.ref (z + 1), .int 0])) := by rw [← hM11, cy_set_ne _ _ (by omega)]; exact f10_0
  have f11_1 : M11 (z + 1) = some (.inl (cI, 256, .inl (fun _ => 0))) := by rw [← hM11, cy_set_ne _ _ (by omega)]; exact f10_1
  have f11_2 : M11 (z + 2) = some (.inr (0, [.ref (z + 3), .int 0])) := by rw [← hM11, cy_set_ne _ _ (by omega)]; exact f10_2
  have f11_3 : M11 (z + 3) = some (.inl (cI, 256, .inl (fun _ => 0))) := by rw [← hM11, cy_set_ne _ _ (by omega)]; exact f10_3
  have f11_4 : M11 (z + 4) = some (.inr (0, [.ref (z + 5), .int 0])) := by rw [← hM11, cy_set_ne _ _ (by omega)]; exact f10_4
  have f11_5 : M11 (z + 5) = some (.inl (cI, 16, .inl (fun _ => 0))) := by rw [← hM11, cy_set_ne _ _ (by omega)]; exact f10_5
  have f11_6 : M11 (q) = some (.inr (1, [.int v, .ref z, .ref (z + 2), .ref (z + 4), .null])) := by rw [← hM11, cy_set_ne _ _ (by omega)]; exact g10
  have g11 : M11 (z + 6) = some (.inr (0, [.null, .int 0])) := by rw [← hM11, cy_set_self]
  have b11 : ∀ x, x ≠ q → x < z → M11 x = M x := fun x h1 h2 => by rw [← hM11]; exact (cy_set_ne _ _ (by omega)).trans (b10 x h1 h2)
  refine wm_dup C d_Code_init_54 rfl ?_
  refine wm_bipush (v := 16) C d_Code_init_55 (by decide) ?_
  refine wm_callIN (d2 := 1) (mc := 1) (ms := 16) C mo_Row_init rfl ml_Code_17 [.int 16] [.ref (z + 6), .ref q] rfl rfl (by decide) (Nat.le_of_ble_eq_true rfl) (by decide) (by decide) d_Code_init_57 (cy_kv ?_)
  refine c_Row_init hG g11 t11 (n := 16) (by decide) (fun M12 g12 h12 o12 t12 => ⟨rfl, ?_⟩)
  have f12_0 : M12 (z) = some (.inr (0, [.ref (z + 1), .int 0])) := (o12 _ (by omega) (by omega)).trans f11_0
  have f12_1 : M12 (z + 1) = some (.inl (cI, 256, .inl (fun _ => 0))) := (o12 _ (by omega) (by omega)).trans f11_1
  have f12_2 : M12 (z + 2) = some (.inr (0, [.ref (z + 3), .int 0])) := (o12 _ (by omega) (by omega)).trans f11_2
  have f12_3 : M12 (z + 3) = some (.inl (cI, 256, .inl (fun _ => 0))) := (o12 _ (by omega) (by omega)).trans f11_3
  have f12_4 : M12 (z + 4) = some (.inr (0, [.ref (z + 5), .int 0])) := (o12 _ (by omega) (by omega)).trans f11_4
  have f12_5 : M12 (z + 5) = some (.inl (cI, 16, .inl (fun _ => 0))) := (o12 _ (by omega) (by omega)).trans f11_5
  have f12_6 : M12 (q) = some (.inr (1, [.int v, .ref z, .ref (z + 2), .ref (z + 4), .null])) := (o12 _ (by omega) (by omega)).trans f11_6
  have b12 : ∀ x, x ≠ q → x < z → M12 x = M x := fun x h1 h2 => (o12 x (by omega) (by omega)).trans (b11 x h1 h2)
  refine wm_putF C hN co_Code f12_6 4 (by decide) fl_Code_30 rfl rfl rfl rfl (Nat.le_of_ble_eq_true rfl) d_Code_init_60 ?_
  have hM13 : ∃ X, X = cy_set M12 (q) (.inr (1, [.int v, .ref z, .ref (z + 2), .ref (z + 4), .ref (z + 6)])) := ⟨_, rfl⟩
  obtain ⟨M13, hM13⟩ := hM13
  refine wm_eqM (M2 := M13) hM13 ?_
  have f13_0 : M13 (z) = some (.inr (0, [.ref (z + 1), .int 0])) := by rw [hM13, cy_set_ne _ _ (by omega)]; exact f12_0
  have f13_1 : M13 (z + 1) = some (.inl (cI, 256, .inl (fun _ => 0))) := by rw [hM13, cy_set_ne _ _ (by omega)]; exact f12_1
  have f13_2 : M13 (z + 2) = some (.inr (0, [.ref (z + 3), .int 0])) := by rw [hM13, cy_set_ne _ _ (by omega)]; exact f12_2
  have f13_3 : M13 (z + 3) = some (.inl (cI, 256, .inl (fun _ => 0))) := by rw [hM13, cy_set_ne _ _ (by omega)]; exact f12_3
  have f13_4 : M13 (z + 4) = some (.inr (0, [.ref (z + 5), .int 0])) := by rw [hM13, cy_set_ne _ _ (by omega)]; exact f12_4
  have f13_5 : M13 (z + 5) = some (.inl (cI, 16, .inl (fun _ => 0))) := by rw [hM13, cy_set_ne _ _ (by omega)]; exact f12_5
  have f13_6 : M13 (z + 6) = some (.inr (0, [.ref (z + 7), .int 0])) := by rw [hM13, cy_set_ne _ _ (by omega)]; exact g12
  have f13_7 : M13 (z + 7) = some (.inl (cI, 16, .inl (fun _ => 0))) := by rw [hM13, cy_set_ne _ _ (by omega)]; exact h12
  have g13 : M13 (q) = some (.inr (1, [.int v, .ref z, .ref (z + 2), .ref (z + 4), .ref (z + 6)])) := by rw [hM13, cy_set_self]
  have t13 : cy_top G M13 (z + 8) := by rw [hM13]; exact cy_top_set t12 (by omega)
  have b13 : ∀ x, x ≠ q → x < z → M13 x = M x := fun x h1 h2 => by rw [hM13]; exact (cy_set_ne _ _ (by omega)).trans (b12 x h1 h2)
  refine wm_vret C P d_Code_init_63 ?_
  exact h _ ⟨g13, ⟨f13_0, f13_1⟩, ⟨f13_2, f13_3⟩, ⟨f13_4, f13_5⟩, ⟨f13_6, f13_7⟩⟩ b13 t13
set_option maxHeartbeats 8000000 in
theorem c_Survey_init {G : cy_G} {cI : ClassId} (hG : G.2.2.1[0]? = some (cI, .int)) {M : cy_Hp} {q z : Nat} {post : Option Value → cy_Hp → Prop} (hq : M q = some (.inr (3, [.null, .null, .null, .int 0, .int 0, .int 0]))) (hz : cy_top G M z)  (h : ∀ M', M' q = some (.inr (3, [.ref z, .ref (z + 2), .ref (z + 4), .int 0, .int 0, .int 0])) ∧ cy_kRow cI M' z 256 ∧ cy_kRow cI M' (z + 2) 256 ∧ cy_kRow cI M' (z + 4) 256 → (∀ x, x ≠ q → x < z → M' x = M x) → cy_top G M' (z + 6) → post none M') : cy_Ct G 2 m_Survey_init [.ref q] M 6 774 post := by
  have hqz : q < z := cy_top_lt hz hq
  refine cy_Ct.of (by decide) (Nat.le_of_ble_eq_true rfl) ?_
  intro F C P hN
  have hN := hN rfl
  have hb : ∀ x, x ≠ q → x < z → M x = M x := fun _ _ _ => rfl
  have C : cy_C G F R_Survey b_Survey_init 1 2 6 774 := C
  have P : cy_P G F none post 6 774 := P
  show WM G F 1 0 0 0 [(0, .ref q)] [] M
  refine wm_aload_n C d_Survey_init_0 rfl (j := 0) rfl ?_
  refine wm_obj C ml_Survey_3 ob_i ob_c (by decide) (Nat.le_of_ble_eq_true rfl) d_Survey_init_1 ?_
  refine wm_aload_n C d_Survey_init_4 rfl (j := 0) rfl ?_
  refine wm_new C co_Row cl_Survey_9 in_Row ini_Row (fs := [.null, .int 0]) (fun j hj => by rcases (show j = 0 ∨ j = 1 by omega) with rfl | rfl <;> rfl) (by decide) (by decide) d_Survey_init_5 (fun q1 hq1 => ?_)
  rw [cy_top_eq hz hq1]
  have t1 := cy_top_new (e := .inr (0, [.null, .int 0])) hz
  generalize hM1 : cy_set M (z) (.inr (0, [.null, .int 0])) = M1 at t1 ⊢
  have f1_0 : M1 (q) = some (.inr (3, [.null, .null, .null, .int 0, .int 0, .int 0])) := by rw [← hM1, cy_set_ne _ _ (by omega)]; exact hq
  have g1 : M1 (z) = some (.inr (0, [.null, .int 0])) := by rw [← hM1, cy_set_self]
  have b1 : ∀ x, x ≠ q → x < z → M1 x = M x := fun x h1 h2 => by rw [← hM1]; exact (cy_set_ne _ _ (by omega)).trans (hb x h1 h2)
  refine wm_dup C d_Survey_init_8 rfl ?_
  refine wm_sipush (v := 256) C d_Survey_init_9 (by decide) ?_
  refine wm_callIN (d2 := 1) (mc := 1) (ms := 256) C mo_Row_init rfl ml_Survey_11 [.int 256] [.ref z, .ref q] rfl rfl (by decide) (Nat.le_of_ble_eq_true rfl) (by decide) (by decide) d_Survey_init_12 (cy_kv ?_)
  refine c_Row_init hG g1 t1 (n := 256) (by decide) (fun M2 g2 h2 o2 t2 => ⟨rfl, ?_⟩)
  have f2_0 : M2 (q) = some (.inr (3, [.null, .null, .null, .int 0, .int 0, .int 0])) := (o2 _ (by omega) (by omega)).trans f1_0
  have b2 : ∀ x, x ≠ q → x < z → M2 x = M x := fun x h1 h2 => (o2 x (by omega) (by omega)).trans (b1 x h1 h2)
  refine wm_putF C hN co_Survey f2_0 0 (by decide) fl_Survey_14 rfl rfl rfl rfl (Nat.le_of_ble_eq_true rfl) d_Survey_init_15 ?_
  have hM3 : ∃ X, X = cy_set M2 (q) (.inr (3, [.ref z, .null, .null, .int 0, .int 0, .int 0])) := ⟨_, rfl⟩
  obtain ⟨M3, hM3⟩ := hM3
  refine wm_eqM (M2 := M3) hM3 ?_
  have f3_0 : M3 (z) = some (.inr (0, [.ref (z + 1), .int 0])) := by rw [hM3, cy_set_ne _ _ (by omega)]; exact g2
  have f3_1 : M3 (z + 1) = some (.inl (cI, 256, .inl (fun _ => 0))) := by rw [hM3, cy_set_ne _ _ (by omega)]; exact h2
  have g3 : M3 (q) = some (.inr (3, [.ref z, .null, .null, .int 0, .int 0, .int 0])) := by rw [hM3, cy_set_self]
  have t3 : cy_top G M3 (z + 2) := by rw [hM3]; exact cy_top_set t2 (by omega)
  have b3 : ∀ x, x ≠ q → x < z → M3 x = M x := fun x h1 h2 => by rw [hM3]; exact (cy_set_ne _ _ (by omega)).trans (b2 x h1 h2)
  refine wm_aload_n C d_Survey_init_18 rfl (j := 0) rfl ?_
  refine wm_new C co_Row cl_Survey_9 in_Row ini_Row (fs := [.null, .int 0]) (fun j hj => by rcases (show j = 0 ∨ j = 1 by omega) with rfl | rfl <;> rfl) (by decide) (by decide) d_Survey_init_19 (fun q4 hq4 => ?_)
  rw [cy_top_eq t3 hq4]
  have t4 := cy_top_new (e := .inr (0, [.null, .int 0])) t3
  generalize hM4 : cy_set M3 (z + 2) (.inr (0, [.null, .int 0])) = M4 at t4 ⊢
  have f4_0 : M4 (z) = some (.inr (0, [.ref (z + 1), .int 0])) := by rw [← hM4, cy_set_ne _ _ (by omega)]; exact f3_0
  have f4_1 : M4 (z + 1) = some (.inl (cI, 256, .inl (fun _ => 0))) := by rw [← hM4, cy_set_ne _ _ (by omega)]; exact f3_1
  have f4_2 : M4 (q) = some (.inr (3, [.ref z, .null, .null, .int 0, .int 0, .int 0])) := by rw [← hM4, cy_set_ne _ _ (by omega)]; exact g3
  have g4 : M4 (z + 2) = some (.inr (0, [.null, .int 0])) := by rw [← hM4, cy_set_self]
  have b4 : ∀ x, x ≠ q → x < z → M4 x = M x := fun x h1 h2 => by rw [← hM4]; exact (cy_set_ne _ _ (by omega)).trans (b3 x h1 h2)
  refine wm_dup C d_Survey_init_22 rfl ?_
  refine wm_sipush (v := 256) C d_Survey_init_23 (by decide) ?_
  refine wm_callIN (d2 := 1) (mc := 1) (ms := 256) C mo_Row_init rfl ml_Survey_11 [.int 256] [.ref (z + 2), .ref q] rfl rfl (by decide) (Nat.le_of_ble_eq_true rfl) (by decide) (by decide) d_Survey_init_26 (cy_kv ?_)
  refine c_Row_init hG g4 t4 (n := 256) (by decide) (fun M5 g5 h5 o5 t5 => ⟨rfl, ?_⟩)
  have f5_0 : M5 (z) = some (.inr (0, [.ref (z + 1), .int 0])) := (o5 _ (by omega) (by omega)).trans f4_0
  have f5_1 : M5 (z + 1) = some (.inl (cI, 256, .inl (fun _ => 0))) := (o5 _ (by omega) (by omega)).trans f4_1
  have f5_2 : M5 (q) = some (.inr (3, [.ref z, .null, .null, .int 0, .int 0, .int 0])) := (o5 _ (by omega) (by omega)).trans f4_2
  have b5 : ∀ x, x ≠ q → x < z → M5 x = M x := fun x h1 h2 => (o5 x (by omega) (by omega)).trans (b4 x h1 h2)
  refine wm_putF C hN co_Survey f5_2 1 (by decide) fl_Survey_20 rfl rfl rfl rfl (Nat.le_of_ble_eq_true rfl) d_Survey_init_29 ?_
  have hM6 : ∃ X, X = cy_set M5 (q) (.inr (3, [.ref z, .ref (z + 2), .null, .int 0, .int 0, .int 0])) := ⟨_, rfl⟩
  obtain ⟨M6, hM6⟩ := hM6
  refine wm_eqM (M2 := M6) hM6 ?_
  have f6_0 : M6 (z) = some (.inr (0, [.ref (z + 1), .int 0])) := by rw [hM6, cy_set_ne _ _ (by omega)]; exact f5_0
  have f6_1 : M6 (z + 1) = some (.inl (cI, 256, .inl (fun _ => 0))) := by rw [hM6, cy_set_ne _ _ (by omega)]; exact f5_1
  have f6_2 : M6 (z + 2) = some (.inr (0, [.ref (z + 3), .int 0])) := by rw [hM6, cy_set_ne _ _ (by omega)]; exact g5
  have f6_3 : M6 (z + 3) = some (.inl (cI, 256, .inl (fun _ => 0))) := by rw [hM6, cy_set_ne _ _ (by omega)]; exact h5
  have g6 : M6 (q) = some (.inr (3, [.ref z, .ref (z + 2), .null, .int 0, .int 0, .int 0])) := by rw [hM6, cy_set_self]
  have t6 : cy_top G M6 (z + 4) := by rw [hM6]; exact cy_top_set t5 (by omega)
  have b6 : ∀ x, x ≠ q → x < z → M6 x = M x := fun x h1 h2 => by rw [hM6]; exact (cy_set_ne _ _ (by omega)).trans (b5 x h1 h2)
  refine wm_aload_n C d_Survey_init_32 rfl (j := 0) rfl ?_
  refine wm_new C co_Row cl_Survey_9 in_Row ini_Row (fs := [.null, .int 0]) (fun j hj => by rcases (show j = 0 ∨ j = 1 by omega) with rfl | rfl <;> rfl) (by decide) (by decide) d_Survey_init_33 (fun q7 hq7 => ?_)
  rw [cy_top_eq t6 hq7]
  have t7 := cy_top_new (e := .inr (0, [.null, .int 0])) t6
  generalize hM7 : cy_set M6 (z + 4) (.inr (0, [.null, .int 0])) = M7 at t7 ⊢
  have f7_0 : M7 (z) = some (.inr (0, [.ref (z + 1), .int 0])) := by rw [← hM7, cy_set_ne _ _ (by omega)]; exact f6_0
  have f7_1 : M7 (z + 1) = some (.inl (cI, 256, .inl (fun _ => 0))) := by rw [← hM7, cy_set_ne _ _ (by omega)]; exact f6_1
  have f7_2 : M7 (z + 2) = some (.inr (0, [.ref (z + 3), .int 0])) := by rw [← hM7, cy_set_ne _ _ (by omega)]; exact f6_2
  have f7_3 : M7 (z + 3) = some (.inl (cI, 256, .inl (fun _ => 0))) := by rw [← hM7, cy_set_ne _ _ (by omega)]; exact f6_3
  have f7_4 : M7 (q) = some (.inr (3, [.ref z, .ref (z + 2), .null, .int 0, .int 0, .int 0])) := by rw [← hM7, cy_set_ne _ _ (by omega)]; exact g6
  have g7 : M7 (z + 4) = some (.inr (0, [.null, .int 0])) := by rw [← hM7, cy_set_self]
  have b7 : ∀ x, x ≠ q → x < z → M7 x = M x := fun x h1 h2 => by rw [← hM7]; exact (cy_set_ne _ _ (by omega)).trans (b6 x h1 h2)
  refine wm_dup C d_Survey_init_36 rfl ?_
  refine wm_sipush (v := 256) C d_Survey_init_37 (by decide) ?_
  refine wm_callIN (d2 := 1) (mc := 1) (ms := 256) C mo_Row_init rfl ml_Survey_11 [.int 256] [.ref (z + 4), .ref q] rfl rfl (by decide) (Nat.le_of_ble_eq_true rfl) (by decide) (by decide) d_Survey_init_40 (cy_kv ?_)
  refine c_Row_init hG g7 t7 (n := 256) (by decide) (fun M8 g8 h8 o8 t8 => ⟨rfl, ?_⟩)
  have f8_0 : M8 (z) = some (.inr (0, [.ref (z + 1), .int 0])) := (o8 _ (by omega) (by omega)).trans f7_0
  have f8_1 : M8 (z + 1) = some (.inl (cI, 256, .inl (fun _ => 0))) := (o8 _ (by omega) (by omega)).trans f7_1
  have f8_2 : M8 (z + 2) = some (.inr (0, [.ref (z + 3), .int 0])) := (o8 _ (by omega) (by omega)).trans f7_2
  have f8_3 : M8 (z + 3) = some (.inl (cI, 256, .inl (fun _ => 0))) := (o8 _ (by omega) (by omega)).trans f7_3
  have f8_4 : M8 (q) = some (.inr (3, [.ref z, .ref (z + 2), .null, .int 0, .int 0, .int 0])) := (o8 _ (by omega) (by omega)).trans f7_4
  have b8 : ∀ x, x ≠ q → x < z → M8 x = M x := fun x h1 h2 => (o8 x (by omega) (by omega)).trans (b7 x h1 h2)
  refine wm_putF C hN co_Survey f8_4 2 (by decide) fl_Survey_23 rfl rfl rfl rfl (Nat.le_of_ble_eq_true rfl) d_Survey_init_43 ?_
  have hM9 : ∃ X, X = cy_set M8 (q) (.inr (3, [.ref z, .ref (z + 2), .ref (z + 4), .int 0, .int 0, .int 0])) := ⟨_, rfl⟩
  obtain ⟨M9, hM9⟩ := hM9
  refine wm_eqM (M2 := M9) hM9 ?_
  have f9_0 : M9 (z) = some (.inr (0, [.ref (z + 1), .int 0])) := by rw [hM9, cy_set_ne _ _ (by omega)]; exact f8_0
  have f9_1 : M9 (z + 1) = some (.inl (cI, 256, .inl (fun _ => 0))) := by rw [hM9, cy_set_ne _ _ (by omega)]; exact f8_1
  have f9_2 : M9 (z + 2) = some (.inr (0, [.ref (z + 3), .int 0])) := by rw [hM9, cy_set_ne _ _ (by omega)]; exact f8_2
  have f9_3 : M9 (z + 3) = some (.inl (cI, 256, .inl (fun _ => 0))) := by rw [hM9, cy_set_ne _ _ (by omega)]; exact f8_3
  have f9_4 : M9 (z + 4) = some (.inr (0, [.ref (z + 5), .int 0])) := by rw [hM9, cy_set_ne _ _ (by omega)]; exact g8
  have f9_5 : M9 (z + 5) = some (.inl (cI, 256, .inl (fun _ => 0))) := by rw [hM9, cy_set_ne _ _ (by omega)]; exact h8
  have g9 : M9 (q) = some (.inr (3, [.ref z, .ref (z + 2), .ref (z + 4), .int 0, .int 0, .int 0])) := by rw [hM9, cy_set_self]
  have t9 : cy_top G M9 (z + 6) := by rw [hM9]; exact cy_top_set t8 (by omega)
  have b9 : ∀ x, x ≠ q → x < z → M9 x = M x := fun x h1 h2 => by rw [hM9]; exact (cy_set_ne _ _ (by omega)).trans (b8 x h1 h2)
  refine wm_vret C P d_Survey_init_46 ?_
  exact h _ ⟨g9, ⟨f9_0, f9_1⟩, ⟨f9_2, f9_3⟩, ⟨f9_4, f9_5⟩⟩ b9 t9
set_option maxHeartbeats 8000000 in
theorem c_Frame_init0 {G : cy_G} {cI : ClassId} (hG : G.2.2.1[0]? = some (cI, .int)) {M : cy_Hp} {q z : Nat} {post : Option Value → cy_Hp → Prop} (hq : M q = some (.inr (4, [.int 0, .null, .null, .null, .null, .null, .int 0]))) (hz : cy_top G M z) (lvl : Int32) (kk : Nat) (h : ∀ M', cy_kFrame cI M' q z lvl .null .null kk → (∀ x, x ≠ q → x < z → M' x = M x) → cy_top G M' (z + 4) → post none M') : cy_Ct G 2 m_Frame_init [.ref q, .int lvl, .null, .ref kk] M 4 20 post := by
  have hqz : q < z := cy_top_lt hz hq
  refine cy_Ct.of (by decide) (Nat.le_of_ble_eq_true rfl) ?_
  intro F C P hN
  have hN := hN rfl
  have hb : ∀ x, x ≠ q → x < z → M x = M x := fun _ _ _ => rfl
  have C : cy_C G F R_Frame b_Frame_init 4 2 4 20 := C
  have P : cy_P G F none post 4 20 := P
  show WM G F 4 0 0 0 [(0, .ref q), (1, .int lvl), (2, .null), (3, .ref kk)] [] M
  refine wm_aload_n C d_Frame_init_0 rfl (j := 0) rfl ?_
  refine wm_obj C ml_Frame_3 ob_i ob_c (by decide) (Nat.le_of_ble_eq_true rfl) d_Frame_init_1 ?_
  refine wm_aload_n C d_Frame_init_4 rfl (j := 0) rfl ?_
  refine wm_iload_n C d_Frame_init_5 rfl (j := 1) rfl ?_
  refine wm_putF C hN co_Frame hq 0 (by decide) fl_Frame_9 rfl rfl rfl rfl (Nat.le_of_ble_eq_true rfl) d_Frame_init_6 ?_
  have hM1 : ∃ X, X = cy_set M (q) (.inr (4, [.int lvl, .null, .null, .null, .null, .null, .int 0])) := ⟨_, rfl⟩
  obtain ⟨M1, hM1⟩ := hM1
  refine wm_eqM (M2 := M1) hM1 ?_
  have g1 : M1 (q) = some (.inr (4, [.int lvl, .null, .null, .null, .null, .null, .int 0])) := by rw [hM1, cy_set_self]
  have t1 : cy_top G M1 (z) := by rw [hM1]; exact cy_top_set hz (by omega)
  have b1 : ∀ x, x ≠ q → x < z → M1 x = M x := fun x h1 h2 => by rw [hM1]; exact (cy_set_ne _ _ (by omega)).trans (hb x h1 h2)
  refine wm_aload_n C d_Frame_init_9 rfl (j := 0) rfl ?_
  refine wm_aload_nN C d_Frame_init_10 rfl (j := 2) rfl ?_
  refine wm_putF C hN co_Frame g1 1 (by decide) fl_Frame_15 rfl rfl rfl rfl (Nat.le_of_ble_eq_true rfl) d_Frame_init_11 ?_
  have hM2 : ∃ X, X = cy_set M1 (q) (.inr (4, [.int lvl, .null, .null, .null, .null, .null, .int 0])) := ⟨_, rfl⟩
  obtain ⟨M2, hM2⟩ := hM2
  refine wm_eqM (M2 := M2) hM2 ?_
  have g2 : M2 (q) = some (.inr (4, [.int lvl, .null, .null, .null, .null, .null, .int 0])) := by rw [hM2, cy_set_self]
  have t2 : cy_top G M2 (z) := by rw [hM2]; exact cy_top_set t1 (by omega)
  have b2 : ∀ x, x ≠ q → x < z → M2 x = M x := fun x h1 h2 => by rw [hM2]; exact (cy_set_ne _ _ (by omega)).trans (b1 x h1 h2)
  refine wm_aload_n C d_Frame_init_14 rfl (j := 0) rfl ?_
  refine wm_new C co_Row cl_Frame_19 in_Row ini_Row (fs := [.null, .int 0]) (fun j hj => by rcases (show j = 0 ∨ j = 1 by omega) with rfl | rfl <;> rfl) (by decide) (by decide) d_Frame_init_15 (fun q3 hq3 => ?_)
  rw [cy_top_eq t2 hq3]
  have t3 := cy_top_new (e := .inr (0, [.null, .int 0])) t2
  generalize hM3 : cy_set M2 (z) (.inr (0, [.null, .int 0])) = M3 at t3 ⊢
  have f3_0 : M3 (q) = some (.inr (4, [.int lvl, .null, .null, .null, .null, .null, .int 0])) := by rw [← hM3, cy_set_ne _ _ (by omega)]; exact g2
  have g3 : M3 (z) = some (.inr (0, [.null, .int 0])) := by rw [← hM3, cy_set_self]
  have b3 : ∀ x, x ≠ q → x < z → M3 x = M x := fun x h1 h2 => by rw [← hM3]; exact (cy_set_ne _ _ (by omega)).trans (b2 x h1 h2)
  refine wm_dup C d_Frame_init_18 rfl ?_
  refine wm_bipush (v := 8) C d_Frame_init_19 (by decide) ?_
  refine wm_callIN (d2 := 1) (mc := 1) (ms := 8) C mo_Row_init rfl ml_Frame_21 [.int 8] [.ref z, .ref q] rfl rfl (by decide) (Nat.le_of_ble_eq_true rfl) (by decide) (by decide) d_Frame_init_21 (cy_kv ?_)
  refine c_Row_init hG g3 t3 (n := 8) (by decide) (fun M4 g4 h4 o4 t4 => ⟨rfl, ?_⟩)
  have f4_0 : M4 (q) = some (.inr (4, [.int lvl, .null, .null, .null, .null, .null, .int 0])) := (o4 _ (by omega) (by omega)).trans f3_0
  have b4 : ∀ x, x ≠ q → x < z → M4 x = M x := fun x h1 h2 => (o4 x (by omega) (by omega)).trans (b3 x h1 h2)
  refine wm_putF C hN co_Frame f4_0 3 (by decide) fl_Frame_24 rfl rfl rfl rfl (Nat.le_of_ble_eq_true rfl) d_Frame_init_24 ?_
  have hM5 : ∃ X, X = cy_set M4 (q) (.inr (4, [.int lvl, .null, .null, .ref z, .null, .null, .int 0])) := ⟨_, rfl⟩
  obtain ⟨M5, hM5⟩ := hM5
  refine wm_eqM (M2 := M5) hM5 ?_
  have f5_0 : M5 (z) = some (.inr (0, [.ref (z + 1), .int 0])) := by rw [hM5, cy_set_ne _ _ (by omega)]; exact g4
  have f5_1 : M5 (z + 1) = some (.inl (cI, 8, .inl (fun _ => 0))) := by rw [hM5, cy_set_ne _ _ (by omega)]; exact h4
  have g5 : M5 (q) = some (.inr (4, [.int lvl, .null, .null, .ref z, .null, .null, .int 0])) := by rw [hM5, cy_set_self]
  have t5 : cy_top G M5 (z + 2) := by rw [hM5]; exact cy_top_set t4 (by omega)
  have b5 : ∀ x, x ≠ q → x < z → M5 x = M x := fun x h1 h2 => by rw [hM5]; exact (cy_set_ne _ _ (by omega)).trans (b4 x h1 h2)
  refine wm_aload_n C d_Frame_init_27 rfl (j := 0) rfl ?_
  refine wm_new C co_Row cl_Frame_19 in_Row ini_Row (fs := [.null, .int 0]) (fun j hj => by rcases (show j = 0 ∨ j = 1 by omega) with rfl | rfl <;> rfl) (by decide) (by decide) d_Frame_init_28 (fun q6 hq6 => ?_)
  rw [cy_top_eq t5 hq6]
  have t6 := cy_top_new (e := .inr (0, [.null, .int 0])) t5
  generalize hM6 : cy_set M5 (z + 2) (.inr (0, [.null, .int 0])) = M6 at t6 ⊢
  have f6_0 : M6 (z) = some (.inr (0, [.ref (z + 1), .int 0])) := by rw [← hM6, cy_set_ne _ _ (by omega)]; exact f5_0
  have f6_1 : M6 (z + 1) = some (.inl (cI, 8, .inl (fun _ => 0))) := by rw [← hM6, cy_set_ne _ _ (by omega)]; exact f5_1
  have f6_2 : M6 (q) = some (.inr (4, [.int lvl, .null, .null, .ref z, .null, .null, .int 0])) := by rw [← hM6, cy_set_ne _ _ (by omega)]; exact g5
  have g6 : M6 (z + 2) = some (.inr (0, [.null, .int 0])) := by rw [← hM6, cy_set_self]
  have b6 : ∀ x, x ≠ q → x < z → M6 x = M x := fun x h1 h2 => by rw [← hM6]; exact (cy_set_ne _ _ (by omega)).trans (b5 x h1 h2)
  refine wm_dup C d_Frame_init_31 rfl ?_
  refine wm_bipush (v := 8) C d_Frame_init_32 (by decide) ?_
  refine wm_callIN (d2 := 1) (mc := 1) (ms := 8) C mo_Row_init rfl ml_Frame_21 [.int 8] [.ref (z + 2), .ref q] rfl rfl (by decide) (Nat.le_of_ble_eq_true rfl) (by decide) (by decide) d_Frame_init_34 (cy_kv ?_)
  refine c_Row_init hG g6 t6 (n := 8) (by decide) (fun M7 g7 h7 o7 t7 => ⟨rfl, ?_⟩)
  have f7_0 : M7 (z) = some (.inr (0, [.ref (z + 1), .int 0])) := (o7 _ (by omega) (by omega)).trans f6_0
  have f7_1 : M7 (z + 1) = some (.inl (cI, 8, .inl (fun _ => 0))) := (o7 _ (by omega) (by omega)).trans f6_1
  have f7_2 : M7 (q) = some (.inr (4, [.int lvl, .null, .null, .ref z, .null, .null, .int 0])) := (o7 _ (by omega) (by omega)).trans f6_2
  have b7 : ∀ x, x ≠ q → x < z → M7 x = M x := fun x h1 h2 => (o7 x (by omega) (by omega)).trans (b6 x h1 h2)
  refine wm_putF C hN co_Frame f7_2 4 (by decide) fl_Frame_28 rfl rfl rfl rfl (Nat.le_of_ble_eq_true rfl) d_Frame_init_37 ?_
  have hM8 : ∃ X, X = cy_set M7 (q) (.inr (4, [.int lvl, .null, .null, .ref z, .ref (z + 2), .null, .int 0])) := ⟨_, rfl⟩
  obtain ⟨M8, hM8⟩ := hM8
  refine wm_eqM (M2 := M8) hM8 ?_
  have f8_0 : M8 (z) = some (.inr (0, [.ref (z + 1), .int 0])) := by rw [hM8, cy_set_ne _ _ (by omega)]; exact f7_0
  have f8_1 : M8 (z + 1) = some (.inl (cI, 8, .inl (fun _ => 0))) := by rw [hM8, cy_set_ne _ _ (by omega)]; exact f7_1
  have f8_2 : M8 (z + 2) = some (.inr (0, [.ref (z + 3), .int 0])) := by rw [hM8, cy_set_ne _ _ (by omega)]; exact g7
  have f8_3 : M8 (z + 3) = some (.inl (cI, 8, .inl (fun _ => 0))) := by rw [hM8, cy_set_ne _ _ (by omega)]; exact h7
  have g8 : M8 (q) = some (.inr (4, [.int lvl, .null, .null, .ref z, .ref (z + 2), .null, .int 0])) := by rw [hM8, cy_set_self]
  have t8 : cy_top G M8 (z + 4) := by rw [hM8]; exact cy_top_set t7 (by omega)
  have b8 : ∀ x, x ≠ q → x < z → M8 x = M x := fun x h1 h2 => by rw [hM8]; exact (cy_set_ne _ _ (by omega)).trans (b7 x h1 h2)
  refine wm_aload_n C d_Frame_init_40 rfl (j := 0) rfl ?_
  refine wm_aload_n C d_Frame_init_41 rfl (j := 3) rfl ?_
  refine wm_put C co_Frame g8 5 (by decide) fl_Frame_31 rfl rfl rfl (Nat.le_of_ble_eq_true rfl) d_Frame_init_42 ?_
  have hM9 : ∃ X, X = cy_set M8 (q) (.inr (4, [.int lvl, .null, .null, .ref z, .ref (z + 2), .ref kk, .int 0])) := ⟨_, rfl⟩
  obtain ⟨M9, hM9⟩ := hM9
  refine wm_eqM (M2 := M9) hM9 ?_
  have f9_0 : M9 (z) = some (.inr (0, [.ref (z + 1), .int 0])) := by rw [hM9, cy_set_ne _ _ (by omega)]; exact f8_0
  have f9_1 : M9 (z + 1) = some (.inl (cI, 8, .inl (fun _ => 0))) := by rw [hM9, cy_set_ne _ _ (by omega)]; exact f8_1
  have f9_2 : M9 (z + 2) = some (.inr (0, [.ref (z + 3), .int 0])) := by rw [hM9, cy_set_ne _ _ (by omega)]; exact f8_2
  have f9_3 : M9 (z + 3) = some (.inl (cI, 8, .inl (fun _ => 0))) := by rw [hM9, cy_set_ne _ _ (by omega)]; exact f8_3
  have g9 : M9 (q) = some (.inr (4, [.int lvl, .null, .null, .ref z, .ref (z + 2), .ref kk, .int 0])) := by rw [hM9, cy_set_self]
  have t9 : cy_top G M9 (z + 4) := by rw [hM9]; exact cy_top_set t8 (by omega)
  have b9 : ∀ x, x ≠ q → x < z → M9 x = M x := fun x h1 h2 => by rw [hM9]; exact (cy_set_ne _ _ (by omega)).trans (b8 x h1 h2)
  refine wm_vret C P d_Frame_init_45 ?_
  exact h _ ⟨g9, ⟨f9_0, f9_1⟩, ⟨f9_2, f9_3⟩⟩ b9 t9
set_option maxHeartbeats 8000000 in
theorem c_Frame_init {G : cy_G} {cI : ClassId} (hG : G.2.2.1[0]? = some (cI, .int)) {M : cy_Hp} {q z : Nat} {post : Option Value → cy_Hp → Prop} (hq : M q = some (.inr (4, [.int 0, .null, .null, .null, .null, .null, .int 0]))) (hz : cy_top G M z) (lvl : Int32) (ou : Nat) (kk : Nat) (h : ∀ M', cy_kFrame cI M' q z lvl (.ref ou) .null kk → (∀ x, x ≠ q → x < z → M' x = M x) → cy_top G M' (z + 4) → post none M') : cy_Ct G 2 m_Frame_init [.ref q, .int lvl, .ref ou, .ref kk] M 4 20 post := by
  have hqz : q < z := cy_top_lt hz hq
  refine cy_Ct.of (by decide) (Nat.le_of_ble_eq_true rfl) ?_
  intro F C P hN
  have hN := hN rfl
  have hb : ∀ x, x ≠ q → x < z → M x = M x := fun _ _ _ => rfl
  have C : cy_C G F R_Frame b_Frame_init 4 2 4 20 := C
  have P : cy_P G F none post 4 20 := P
  show WM G F 4 0 0 0 [(0, .ref q), (1, .int lvl), (2, .ref ou), (3, .ref kk)] [] M
  refine wm_aload_n C d_Frame_init_0 rfl (j := 0) rfl ?_
  refine wm_obj C ml_Frame_3 ob_i ob_c (by decide) (Nat.le_of_ble_eq_true rfl) d_Frame_init_1 ?_
  refine wm_aload_n C d_Frame_init_4 rfl (j := 0) rfl ?_
  refine wm_iload_n C d_Frame_init_5 rfl (j := 1) rfl ?_
  refine wm_putF C hN co_Frame hq 0 (by decide) fl_Frame_9 rfl rfl rfl rfl (Nat.le_of_ble_eq_true rfl) d_Frame_init_6 ?_
  have hM1 : ∃ X, X = cy_set M (q) (.inr (4, [.int lvl, .null, .null, .null, .null, .null, .int 0])) := ⟨_, rfl⟩
  obtain ⟨M1, hM1⟩ := hM1
  refine wm_eqM (M2 := M1) hM1 ?_
  have g1 : M1 (q) = some (.inr (4, [.int lvl, .null, .null, .null, .null, .null, .int 0])) := by rw [hM1, cy_set_self]
  have t1 : cy_top G M1 (z) := by rw [hM1]; exact cy_top_set hz (by omega)
  have b1 : ∀ x, x ≠ q → x < z → M1 x = M x := fun x h1 h2 => by rw [hM1]; exact (cy_set_ne _ _ (by omega)).trans (hb x h1 h2)
  refine wm_aload_n C d_Frame_init_9 rfl (j := 0) rfl ?_
  refine wm_aload_n C d_Frame_init_10 rfl (j := 2) rfl ?_
  refine wm_putF C hN co_Frame g1 1 (by decide) fl_Frame_15 rfl rfl rfl rfl (Nat.le_of_ble_eq_true rfl) d_Frame_init_11 ?_
  have hM2 : ∃ X, X = cy_set M1 (q) (.inr (4, [.int lvl, .ref ou, .null, .null, .null, .null, .int 0])) := ⟨_, rfl⟩
  obtain ⟨M2, hM2⟩ := hM2
  refine wm_eqM (M2 := M2) hM2 ?_
  have g2 : M2 (q) = some (.inr (4, [.int lvl, .ref ou, .null, .null, .null, .null, .int 0])) := by rw [hM2, cy_set_self]
  have t2 : cy_top G M2 (z) := by rw [hM2]; exact cy_top_set t1 (by omega)
  have b2 : ∀ x, x ≠ q → x < z → M2 x = M x := fun x h1 h2 => by rw [hM2]; exact (cy_set_ne _ _ (by omega)).trans (b1 x h1 h2)
  refine wm_aload_n C d_Frame_init_14 rfl (j := 0) rfl ?_
  refine wm_new C co_Row cl_Frame_19 in_Row ini_Row (fs := [.null, .int 0]) (fun j hj => by rcases (show j = 0 ∨ j = 1 by omega) with rfl | rfl <;> rfl) (by decide) (by decide) d_Frame_init_15 (fun q3 hq3 => ?_)
  rw [cy_top_eq t2 hq3]
  have t3 := cy_top_new (e := .inr (0, [.null, .int 0])) t2
  generalize hM3 : cy_set M2 (z) (.inr (0, [.null, .int 0])) = M3 at t3 ⊢
  have f3_0 : M3 (q) = some (.inr (4, [.int lvl, .ref ou, .null, .null, .null, .null, .int 0])) := by rw [← hM3, cy_set_ne _ _ (by omega)]; exact g2
  have g3 : M3 (z) = some (.inr (0, [.null, .int 0])) := by rw [← hM3, cy_set_self]
  have b3 : ∀ x, x ≠ q → x < z → M3 x = M x := fun x h1 h2 => by rw [← hM3]; exact (cy_set_ne _ _ (by omega)).trans (b2 x h1 h2)
  refine wm_dup C d_Frame_init_18 rfl ?_
  refine wm_bipush (v := 8) C d_Frame_init_19 (by decide) ?_
  refine wm_callIN (d2 := 1) (mc := 1) (ms := 8) C mo_Row_init rfl ml_Frame_21 [.int 8] [.ref z, .ref q] rfl rfl (by decide) (Nat.le_of_ble_eq_true rfl) (by decide) (by decide) d_Frame_init_21 (cy_kv ?_)
  refine c_Row_init hG g3 t3 (n := 8) (by decide) (fun M4 g4 h4 o4 t4 => ⟨rfl, ?_⟩)
  have f4_0 : M4 (q) = some (.inr (4, [.int lvl, .ref ou, .null, .null, .null, .null, .int 0])) := (o4 _ (by omega) (by omega)).trans f3_0
  have b4 : ∀ x, x ≠ q → x < z → M4 x = M x := fun x h1 h2 => (o4 x (by omega) (by omega)).trans (b3 x h1 h2)
  refine wm_putF C hN co_Frame f4_0 3 (by decide) fl_Frame_24 rfl rfl rfl rfl (Nat.le_of_ble_eq_true rfl) d_Frame_init_24 ?_
  have hM5 : ∃ X, X = cy_set M4 (q) (.inr (4, [.int lvl, .ref ou, .null, .ref z, .null, .null, .int 0])) := ⟨_, rfl⟩
  obtain ⟨M5, hM5⟩ := hM5
  refine wm_eqM (M2 := M5) hM5 ?_
  have f5_0 : M5 (z) = some (.inr (0, [.ref (z + 1), .int 0])) := by rw [hM5, cy_set_ne _ _ (by omega)]; exact g4
  have f5_1 : M5 (z + 1) = some (.inl (cI, 8, .inl (fun _ => 0))) := by rw [hM5, cy_set_ne _ _ (by omega)]; exact h4
  have g5 : M5 (q) = some (.inr (4, [.int lvl, .ref ou, .null, .ref z, .null, .null, .int 0])) := by rw [hM5, cy_set_self]
  have t5 : cy_top G M5 (z + 2) := by rw [hM5]; exact cy_top_set t4 (by omega)
  have b5 : ∀ x, x ≠ q → x < z → M5 x = M x := fun x h1 h2 => by rw [hM5]; exact (cy_set_ne _ _ (by omega)).trans (b4 x h1 h2)
  refine wm_aload_n C d_Frame_init_27 rfl (j := 0) rfl ?_
  refine wm_new C co_Row cl_Frame_19 in_Row ini_Row (fs := [.null, .int 0]) (fun j hj => by rcases (show j = 0 ∨ j = 1 by omega) with rfl | rfl <;> rfl) (by decide) (by decide) d_Frame_init_28 (fun q6 hq6 => ?_)
  rw [cy_top_eq t5 hq6]
  have t6 := cy_top_new (e := .inr (0, [.null, .int 0])) t5
  generalize hM6 : cy_set M5 (z + 2) (.inr (0, [.null, .int 0])) = M6 at t6 ⊢
  have f6_0 : M6 (z) = some (.inr (0, [.ref (z + 1), .int 0])) := by rw [← hM6, cy_set_ne _ _ (by omega)]; exact f5_0
  have f6_1 : M6 (z + 1) = some (.inl (cI, 8, .inl (fun _ => 0))) := by rw [← hM6, cy_set_ne _ _ (by omega)]; exact f5_1
  have f6_2 : M6 (q) = some (.inr (4, [.int lvl, .ref ou, .null, .ref z, .null, .null, .int 0])) := by rw [← hM6, cy_set_ne _ _ (by omega)]; exact g5
  have g6 : M6 (z + 2) = some (.inr (0, [.null, .int 0])) := by rw [← hM6, cy_set_self]
  have b6 : ∀ x, x ≠ q → x < z → M6 x = M x := fun x h1 h2 => by rw [← hM6]; exact (cy_set_ne _ _ (by omega)).trans (b5 x h1 h2)
  refine wm_dup C d_Frame_init_31 rfl ?_
  refine wm_bipush (v := 8) C d_Frame_init_32 (by decide) ?_
  refine wm_callIN (d2 := 1) (mc := 1) (ms := 8) C mo_Row_init rfl ml_Frame_21 [.int 8] [.ref (z + 2), .ref q] rfl rfl (by decide) (Nat.le_of_ble_eq_true rfl) (by decide) (by decide) d_Frame_init_34 (cy_kv ?_)
  refine c_Row_init hG g6 t6 (n := 8) (by decide) (fun M7 g7 h7 o7 t7 => ⟨rfl, ?_⟩)
  have f7_0 : M7 (z) = some (.inr (0, [.ref (z + 1), .int 0])) := (o7 _ (by omega) (by omega)).trans f6_0
  have f7_1 : M7 (z + 1) = some (.inl (cI, 8, .inl (fun _ => 0))) := (o7 _ (by omega) (by omega)).trans f6_1
  have f7_2 : M7 (q) = some (.inr (4, [.int lvl, .ref ou, .null, .ref z, .null, .null, .int 0])) := (o7 _ (by omega) (by omega)).trans f6_2
  have b7 : ∀ x, x ≠ q → x < z → M7 x = M x := fun x h1 h2 => (o7 x (by omega) (by omega)).trans (b6 x h1 h2)
  refine wm_putF C hN co_Frame f7_2 4 (by decide) fl_Frame_28 rfl rfl rfl rfl (Nat.le_of_ble_eq_true rfl) d_Frame_init_37 ?_
  have hM8 : ∃ X, X = cy_set M7 (q) (.inr (4, [.int lvl, .ref ou, .null, .ref z, .ref (z + 2), .null, .int 0])) := ⟨_, rfl⟩
  obtain ⟨M8, hM8⟩ := hM8
  refine wm_eqM (M2 := M8) hM8 ?_
  have f8_0 : M8 (z) = some (.inr (0, [.ref (z + 1), .int 0])) := by rw [hM8, cy_set_ne _ _ (by omega)]; exact f7_0
  have f8_1 : M8 (z + 1) = some (.inl (cI, 8, .inl (fun _ => 0))) := by rw [hM8, cy_set_ne _ _ (by omega)]; exact f7_1
  have f8_2 : M8 (z + 2) = some (.inr (0, [.ref (z + 3), .int 0])) := by rw [hM8, cy_set_ne _ _ (by omega)]; exact g7
  have f8_3 : M8 (z + 3) = some (.inl (cI, 8, .inl (fun _ => 0))) := by rw [hM8, cy_set_ne _ _ (by omega)]; exact h7
  have g8 : M8 (q) = some (.inr (4, [.int lvl, .ref ou, .null, .ref z, .ref (z + 2), .null, .int 0])) := by rw [hM8, cy_set_self]
  have t8 : cy_top G M8 (z + 4) := by rw [hM8]; exact cy_top_set t7 (by omega)
  have b8 : ∀ x, x ≠ q → x < z → M8 x = M x := fun x h1 h2 => by rw [hM8]; exact (cy_set_ne _ _ (by omega)).trans (b7 x h1 h2)
  refine wm_aload_n C d_Frame_init_40 rfl (j := 0) rfl ?_
  refine wm_aload_n C d_Frame_init_41 rfl (j := 3) rfl ?_
  refine wm_put C co_Frame g8 5 (by decide) fl_Frame_31 rfl rfl rfl (Nat.le_of_ble_eq_true rfl) d_Frame_init_42 ?_
  have hM9 : ∃ X, X = cy_set M8 (q) (.inr (4, [.int lvl, .ref ou, .null, .ref z, .ref (z + 2), .ref kk, .int 0])) := ⟨_, rfl⟩
  obtain ⟨M9, hM9⟩ := hM9
  refine wm_eqM (M2 := M9) hM9 ?_
  have f9_0 : M9 (z) = some (.inr (0, [.ref (z + 1), .int 0])) := by rw [hM9, cy_set_ne _ _ (by omega)]; exact f8_0
  have f9_1 : M9 (z + 1) = some (.inl (cI, 8, .inl (fun _ => 0))) := by rw [hM9, cy_set_ne _ _ (by omega)]; exact f8_1
  have f9_2 : M9 (z + 2) = some (.inr (0, [.ref (z + 3), .int 0])) := by rw [hM9, cy_set_ne _ _ (by omega)]; exact f8_2
  have f9_3 : M9 (z + 3) = some (.inl (cI, 8, .inl (fun _ => 0))) := by rw [hM9, cy_set_ne _ _ (by omega)]; exact f8_3
  have g9 : M9 (q) = some (.inr (4, [.int lvl, .ref ou, .null, .ref z, .ref (z + 2), .ref kk, .int 0])) := by rw [hM9, cy_set_self]
  have t9 : cy_top G M9 (z + 4) := by rw [hM9]; exact cy_top_set t8 (by omega)
  have b9 : ∀ x, x ≠ q → x < z → M9 x = M x := fun x h1 h2 => by rw [hM9]; exact (cy_set_ne _ _ (by omega)).trans (b8 x h1 h2)
  refine wm_vret C P d_Frame_init_45 ?_
  exact h _ ⟨g9, ⟨f9_0, f9_1⟩, ⟨f9_2, f9_3⟩⟩ b9 t9
