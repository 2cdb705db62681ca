theorem rl_undo_l : ∀ (q : Nat) (r : md_S) (i : Nat), i ≤ 128 → 128 < i + q → md_undo_l_ok q r (nI i) ∧ (md_undo_l q r (nI i)).2 = r.2 ∧ (∀ a, a ≠ 4 → (md_undo_l q r (nI i)).1 a = r.1 a) ∧ (∀ j, (md_undo_l q r (nI i)).1 4 j = if i ≤ j ∧ j < 128 then r.1 5 j else r.1 4 j) := by
  intro q
  induction q with
  | zero => intro r i h1 h2; omega
  | succ q ih =>
    intro r i h1 h2
    unfold md_undo_l_ok md_undo_l
    by_cases h : i = 128
    · subst h
      have hc : (128 : Int32) ≤ nI 128 := by decide
      rw [if_pos hc, if_pos hc]
      exact ⟨trivial, rfl, fun _ _ => rfl, fun j => by rw [if_neg (by omega)]⟩
    · have hc : ¬ (128 : Int32) ≤ nI i := nI_ge (show i < 128 by omega) (by decide)
      rw [if_neg hc, if_neg hc, nI_1, nI_clamp (by omega)]
      obtain ⟨o, e1, e2, e3⟩ := ih (md_sa r 4 (nI i) (r.1 5 i)) (i + 1) (by omega) (by omega)
      refine ⟨⟨vp_in_nI (by omega) (by decide), vp_in_nI (by omega) (by decide), o⟩, e1, fun a ha => (e2 a ha).trans (rl_un ha), fun j => ?_⟩
      rw [e3 j]
      show (if i + 1 ≤ j ∧ j < 128 then r.1 5 j else upd (r.1 4) (nI i).toNatClampNeg (r.1 5 i) j) = _
      rw [nI_clamp (by omega)]
      by_cases hj : j = i
      · subst hj; rw [if_neg (by omega), pk_us, if_pos (by omega)]
      · rw [pk_un hj]
        by_cases g : i + 1 ≤ j ∧ j < 128
        · rw [if_pos g, if_pos (by omega)]
        · rw [if_neg g, if_neg (by omega)]
theorem rl_undo (r : md_S) : md_undo_ok r ∧ (md_undo r).2 = r.2 ∧ (∀ a, a ≠ 4 → (md_undo r).1 a = r.1 a) ∧ ∀ j, j < 128 → (md_undo r).1 4 j = r.1 5 j := by
  obtain ⟨o, e1, e2, e3⟩ := rl_undo_l md_k129 r 0 (by decide) (by decide)
  unfold md_undo_ok md_undo
  rw [show (0 : Int32) = nI 0 from rfl]
  exact ⟨⟨o, trivial⟩, e1, e2, fun j hj => (e3 j).trans (if_pos ⟨Nat.zero_le _, hj⟩)⟩
theorem rl_begin_a : ∀ (q : Nat) (r : md_S) (i : Nat), i ≤ 128 → 128 < i + q → md_begin_a_ok q r (nI i) ∧ (md_begin_a q r (nI i)).2 = r.2 ∧ (∀ a, a ≠ 5 → (md_begin_a q r (nI i)).1 a = r.1 a) ∧ (∀ j, (md_begin_a q r (nI i)).1 5 j = if i ≤ j ∧ j < 128 then r.1 4 j else r.1 5 j) := by
  intro q
  induction q with
  | zero => intro r i h1 h2; omega
  | succ q ih =>
    intro r i h1 h2
    unfold md_begin_a_ok md_begin_a
    by_cases h : i = 128
    · subst h
      have hc : (128 : Int32) ≤ nI 128 := by decide
      rw [if_pos hc, if_pos hc]
      exact ⟨trivial, rfl, fun _ _ => rfl, fun j => by rw [if_neg (by omega)]⟩
    · have hc : ¬ (128 : Int32) ≤ nI i := nI_ge (show i < 128 by omega) (by decide)
      rw [if_neg hc, if_neg hc, nI_1, nI_clamp (by omega)]
      obtain ⟨o, e1, e2, e3⟩ := ih (md_sa r 5 (nI i) (r.1 4 i)) (i + 1) (by omega) (by omega)
      refine ⟨⟨vp_in_nI (by omega) (by decide), vp_in_nI (by omega) (by decide), o⟩, e1, fun a ha => (e2 a ha).trans (rl_un ha), fun j => ?_⟩
      rw [e3 j]
      show (if i + 1 ≤ j ∧ j < 128 then r.1 4 j else upd (r.1 5) (nI i).toNatClampNeg (r.1 4 i) j) = _
      rw [nI_clamp (by omega)]
      by_cases hj : j = i
      · subst hj; rw [if_neg (by omega), pk_us, if_pos (by omega)]
      · rw [pk_un hj]
        by_cases g : i + 1 ≤ j ∧ j < 128
        · rw [if_pos g, if_pos (by omega)]
        · rw [if_neg g, if_neg (by omega)]
theorem rl_begin_b (n : Nat) (hn : n ≤ 300) : ∀ (q : Nat) (r : md_S) (i : Nat), r.2 0 = nI n → i ≤ n → n < i + q → md_begin_b_ok q r (nI i) ∧ (md_begin_b q r (nI i)).2 = r.2 ∧ (∀ a, a ≠ 14 → (md_begin_b q r (nI i)).1 a = r.1 a) ∧ (∀ j, (md_begin_b q r (nI i)).1 14 j = if i ≤ j ∧ j < n then (r.1 0 j).toInt8.toInt32 else r.1 14 j) := by
  intro q
  induction q with
  | zero => intro r i h0 h1 h2; omega
  | succ q ih =>
    intro r i h0 h1 h2
    unfold md_begin_b_ok md_begin_b
    rw [h0]
    by_cases h : i = n
    · subst h
      have hc : nI i ≤ nI i := nI_le (Nat.le_refl _) (by omega)
      rw [if_pos hc, if_pos hc]
      exact ⟨trivial, rfl, fun _ _ => rfl, fun j => by rw [if_neg (by omega)]⟩
    · have hc : ¬ nI n ≤ nI i := nI_ge (show i < n by omega) (by omega)
      rw [if_neg hc, if_neg hc, nI_1, nI_clamp (by omega)]
      obtain ⟨o, e1, e2, e3⟩ := ih (md_sa r 14 (nI i) (r.1 0 i).toInt8.toInt32) (i + 1) h0 (by omega) (by omega)
      refine ⟨⟨vp_in_nI (by omega) (by decide), vp_in_nI (by omega) (by decide), o⟩, e1, fun a ha => (e2 a ha).trans (rl_un ha), fun j => ?_⟩
      rw [e3 j]
      show (if i + 1 ≤ j ∧ j < n then (r.1 0 j).toInt8.toInt32 else upd (r.1 14) (nI i).toNatClampNeg (r.1 0 i).toInt8.toInt32 j) = _
      rw [nI_clamp (by omega)]
      by_cases hj : j = i
      · subst hj; rw [if_neg (by omega), pk_us, if_pos (by omega)]
      · rw [pk_un hj]
        by_cases g : i + 1 ≤ j ∧ j < n
        · rw [if_pos g, if_pos (by omega)]
        · rw [if_neg g, if_neg (by omega)]
theorem rl_enter_l (d : Nat) (hd : d < 8) : ∀ (q : Nat) (r : md_S) (i : Nat), r.2 10 = nI d → i ≤ 8 → 8 < i + q → md_enter_l_ok q r (nI i) ∧ (md_enter_l q r (nI i)).2 = r.2 ∧ (∀ a, a ≠ 12 → a ≠ 13 → (md_enter_l q r (nI i)).1 a = r.1 a) ∧ (∀ a, a = 12 ∨ a = 13 → ∀ j, (md_enter_l q r (nI i)).1 a j = if 8 * d + i ≤ j ∧ j < 8 * d + 8 then 0 else r.1 a j) := by
  intro q
  induction q with
  | zero => intro r i h0 h1 h2; omega
  | succ q ih =>
    intro r i h0 h1 h2
    unfold md_enter_l_ok md_enter_l
    rw [h0]
    by_cases h : i = 8
    · subst h
      have hc : (8 : Int32) ≤ nI 8 := by decide
      rw [if_pos hc, if_pos hc]
      exact ⟨trivial, rfl, fun _ _ _ => rfl, fun a _ j => by rw [if_neg (by omega)]⟩
    · have hc : ¬ (8 : Int32) ≤ nI i := nI_ge (show i < 8 by omega) (by decide)
      rw [if_neg hc, if_neg hc, nI_1, rl_8]
      obtain ⟨o, e1, e2, e3⟩ := ih (md_sa (md_sa r 12 (nI (8 * d + i)) 0) 13 (nI (8 * d + i)) 0) (i + 1) h0 (by omega) (by omega)
      refine ⟨⟨vp_in_nI (by omega) (by decide), vp_in_nI (by omega) (by decide), o⟩, e1, fun a ha hb => (e2 a ha hb).trans ((rl_un hb).trans (rl_un ha)), fun a ha j => ?_⟩
      rw [e3 a ha j]
      have : (md_sa (md_sa r 12 (nI (8 * d + i)) 0) 13 (nI (8 * d + i)) 0).1 a j = upd (r.1 a) (8 * d + i) 0 j := by
        rcases ha with rfl | rfl
        · show upd (r.1 12) (nI (8 * d + i)).toNatClampNeg 0 j = _; rw [nI_clamp (by omega)]
        · show upd (r.1 13) (nI (8 * d + i)).toNatClampNeg 0 j = _; rw [nI_clamp (by omega)]
      rw [this]
      by_cases hj : j = 8 * d + i
      · subst hj; rw [if_neg (by omega), pk_us, if_pos (by omega)]
      · rw [pk_un hj]
        by_cases g : 8 * d + (i + 1) ≤ j ∧ j < 8 * d + 8
        · rw [if_pos g, if_pos (by omega)]
        · rw [if_neg g, if_neg (by omega)]
theorem rl_enter (r : md_S) (d k b : Nat) (hd : d < 8) (hk : k < 8) (hb : b < 256) (h0 : r.2 10 = nI d) : md_enter_ok r (nI k) (nI b) ∧ (∀ a, a ≠ 10 → (md_enter r (nI k) (nI b)).2 a = r.2 a) ∧ (md_enter r (nI k) (nI b)).2 10 = nI (d + 1) ∧ (∀ a, a < 9 ∨ 13 < a → (md_enter r (nI k) (nI b)).1 a = r.1 a) ∧ (md_enter r (nI k) (nI b)).1 9 d = nI k ∧ (md_enter r (nI k) (nI b)).1 10 d = (r.1 1 (256 * k + b) &&& 255) ∧ (md_enter r (nI k) (nI b)).1 11 d = 0 ∧ (∀ a j, a = 9 ∨ a = 10 ∨ a = 11 → j ≠ d → (md_enter r (nI k) (nI b)).1 a j = r.1 a j) ∧ (∀ a i, a = 12 ∨ a = 13 → i < 8 → (md_enter r (nI k) (nI b)).1 a (8 * d + i) = 0) ∧ (∀ a j, a = 12 ∨ a = 13 → j < 8 * d → (md_enter r (nI k) (nI b)).1 a j = r.1 a j) := by
  unfold md_enter_ok md_enter
  rw [rl_256, nI_clamp (show 256 * k + b < 2 ^ 31 by omega), h0]
  have hcl : (nI d).toNatClampNeg = d := nI_clamp (by omega)
  generalize hR : md_sa (md_sa (md_sa r 9 (nI d) (nI k)) 10 (nI d) ((md_sa r 9 (nI d) (nI k)).1 1 (256 * k + b) &&& 255)) 11 (nI d) 0 = R
  have R2 : R.2 = r.2 := by rw [← hR]; rfl
  have R9 : R.1 9 = upd (r.1 9) d (nI k) := by rw [← hR]; show upd (r.1 9) (nI d).toNatClampNeg _ = _; rw [hcl]
  have R10 : R.1 10 = upd (r.1 10) d (r.1 1 (256 * k + b) &&& 255) := by rw [← hR]; show upd (r.1 10) (nI d).toNatClampNeg _ = _; rw [hcl]; rfl
  have R11 : R.1 11 = upd (r.1 11) d 0 := by rw [← hR]; show upd (r.1 11) (nI d).toNatClampNeg _ = _; rw [hcl]
  have Ra : ∀ a, a ≠ 9 → a ≠ 10 → a ≠ 11 → R.1 a = r.1 a := fun a h1 h2 h3 => by
    rw [← hR]; exact (rl_un h3).trans ((rl_un h2).trans (rl_un h1))
  obtain ⟨o, e1, e2, e3⟩ := rl_enter_l d hd md_k9 R 0 (by rw [R2]; exact h0) (by decide) (by decide)
  have v : vp_in (nI d) 8 := vp_in_nI hd (by decide)
  refine ⟨⟨v, vp_in_nI (by omega) (by decide), v, v, o, trivial⟩, fun a ha => ?_, ?_, fun a ha => ?_, ?_, ?_, ?_, fun a j ha hj => ?_, fun a i ha hi => ?_, fun a j ha hj => ?_⟩
  · exact (rl_un ha).trans (by rw [show (0 : Int32) = nI 0 from rfl, e1, R2])
  · show (md_enter_l md_k9 R 0).2 10 + 1 = _
    rw [show (0 : Int32) = nI 0 from rfl, e1, R2, h0, nI_1]
  · exact (e2 a (by omega) (by omega)).trans (Ra a (by omega) (by omega) (by omega))
  · exact (congrFun (e2 9 (by decide) (by decide)) d).trans (by rw [R9, pk_us])
  · exact (congrFun (e2 10 (by decide) (by decide)) d).trans (by rw [R10, pk_us])
  · exact (congrFun (e2 11 (by decide) (by decide)) d).trans (by rw [R11, pk_us])
  · rcases ha with rfl | rfl | rfl
    · exact (congrFun (e2 9 (by decide) (by decide)) j).trans (by rw [R9, pk_un hj])
    · exact (congrFun (e2 10 (by decide) (by decide)) j).trans (by rw [R10, pk_un hj])
    · exact (congrFun (e2 11 (by decide) (by decide)) j).trans (by rw [R11, pk_un hj])
  · exact (e3 a ha _).trans (if_pos (by omega))
  · exact (e3 a ha _).trans ((if_neg (by omega)).trans (congrFun (Ra a (by omega) (by omega) (by omega)) j))
theorem rl_keepCells (s : cy_S) : (cy_Shelf_keepCells s).2 = s.2 ∧ (∀ a, (∀ k, k < 8 → a ≠ 9 + 4 * k) → (cy_Shelf_keepCells s).1 a = s.1 a) ∧ ∀ k, k < 8 → (cy_Shelf_keepCells s).1 (9 + 4 * k) = (s.1 (8 + 4 * k)).take 16 := by
  refine ⟨rfl, fun a h => ?_, fun k hk => ?_⟩
  · unfold cy_Shelf_keepCells cy_rlike cy_sr
    exact (rl_un (h 7 (by decide))).trans ((rl_un (h 6 (by decide))).trans ((rl_un (h 5 (by decide))).trans ((rl_un (h 4 (by decide))).trans ((rl_un (h 3 (by decide))).trans ((rl_un (h 2 (by decide))).trans ((rl_un (h 1 (by decide))).trans (rl_un (h 0 (by decide)))))))))
  · rcases k with _ | _ | _ | _ | _ | _ | _ | _ | k
    all_goals first | rfl | omega
theorem rl_bringCellsBack (s : cy_S) : (cy_Shelf_bringCellsBack s).2 = s.2 ∧ (∀ a, (∀ k, k < 8 → a ≠ 8 + 4 * k) → (cy_Shelf_bringCellsBack s).1 a = s.1 a) ∧ ∀ k, k < 8 → (cy_Shelf_bringCellsBack s).1 (8 + 4 * k) = (s.1 (9 + 4 * k)).take 16 := by
  refine ⟨rfl, fun a h => ?_, fun k hk => ?_⟩
  · unfold cy_Shelf_bringCellsBack cy_rlike cy_sr
    exact (rl_un (h 7 (by decide))).trans ((rl_un (h 6 (by decide))).trans ((rl_un (h 5 (by decide))).trans ((rl_un (h 4 (by decide))).trans ((rl_un (h 3 (by decide))).trans ((rl_un (h 2 (by decide))).trans ((rl_un (h 1 (by decide))).trans (rl_un (h 0 (by decide)))))))))
  · rcases k with _ | _ | _ | _ | _ | _ | _ | _ | k
    all_goals first | rfl | omega
theorem rl_enterC (s : cy_S) (j k : Nat) (b : Nat) (hb : b < 2 ^ 31) : (cy_Frame_enter s j k (nI b)).2.2 = s.2.2 ∧ (cy_Frame_enter s j k (nI b)).2.1 = cy_up s.2.1 j (k, (s.1 (6 + 4 * k)).getD b 0) ∧ (∀ a, a ≠ 42 + 2 * j → a ≠ 43 + 2 * j → (cy_Frame_enter s j k (nI b)).1 a = s.1 a) ∧ (cy_Frame_enter s j k (nI b)).1 (42 + 2 * j) = [] ∧ (cy_Frame_enter s j k (nI b)).1 (43 + 2 * j) = List.replicate (min 8 (cy_cap (43 + 2 * j))) 0 := by
  refine ⟨rfl, ?_, fun a h1 h2 => (rl_un h2).trans (rl_un h1), (rl_un (by omega)).trans rl_us, rl_us⟩
  show cy_up (cy_up s.2.1 j (k, (s.2.1 j).2)) j ((cy_up s.2.1 j (k, (s.2.1 j).2) j).1, cy_la (s.1 (6 + 4 * k)) (nI b) 0) = _
  rw [rl_uu, rl_us, cy_la, if_neg (nI_pos hb), nI_clamp hb]
