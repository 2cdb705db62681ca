theorem rl_top {s : cy_S} {r : md_S} (h : rl_M s r) : (r.2 10 - 1) = nI s.2.2.1.1 ∧ (r.2 10 - 1).toNatClampNeg = s.2.2.1.1 ∧ vp_in (r.2 10 - 1) 8 := by
  obtain ⟨_, _, _, _, _, _, _, h8, h10, _⟩ := h
  rw [h10, nI_pred]
  exact ⟨rfl, nI_clamp (by omega), vp_in_nI h8 (by decide)⟩
theorem rl_heldM {s : cy_S} {r : md_S} (h : rl_M s r) : cy_Run_isHeld s = 1 := by
  unfold cy_Run_isHeld; rw [h.2.2.2.1, h.2.2.2.2.1, if_neg (by decide), if_pos rfl]
theorem rl_heldE {s : cy_S} {r : md_S} (h : rl_E s r) : cy_Run_isHeld s = 0 := by
  unfold cy_Run_isHeld
  obtain ⟨_, _, _, h | h | h⟩ := h
  · rw [if_pos h]
  · by_cases g : s.2.2.1.2.1 = 0
    · rw [if_pos g]
    · rw [if_neg g, h.1, if_neg (by decide)]
  · by_cases g : s.2.2.1.2.1 = 0
    · rw [if_pos g]
    · rw [if_neg g, h.1, if_neg (by decide)]
theorem rl_state (s : cy_S) (r : md_S) (w : Int32) (h : rl_Rel s r) : md_state_ok r w ∧ cy_Yard_state s w = md_state r w := by
  have hB := rl_RelB h
  obtain ⟨_, _, _, hO, hN⟩ := hB
  obtain ⟨n1, n2, n3, d, hd, n4, n5⟩ := hN
  unfold md_state_ok cy_Yard_state md_state cy_Run_tell
  rw [n1, n2, n3, n4, n5, hO.1]
  rcases h.2 with h | ⟨h, hJ⟩
  · obtain ⟨_, _, h5, h | h | h⟩ := h
    · rw [if_pos h, if_pos h, if_pos h]; exact ⟨trivial, rfl⟩
    · rw [h5, h.1, h.2]; simp only [show ((0 : Int32) = 1) = False from by decide, if_true, if_false]
      refine ⟨?_, trivial⟩
      repeat' split
      all_goals trivial
    · rw [h5, h.1, h.2]; simp only [show ((2 : Int32) = 1) = False from by decide, show ((1 : Int32) = 0) = False from by decide, if_true, if_false]
      refine ⟨?_, trivial⟩
      repeat' split
      all_goals trivial
  · obtain ⟨t1, t2, t3⟩ := rl_top h
    obtain ⟨_, _, _, hb, hs, h5, h6, h8, h10, hF⟩ := h
    obtain ⟨f1, f2, f3, _⟩ := hF _ (Nat.le_refl _)
    rw [hb, hs, h5, t2, f2, f3, h10]
    simp only [show ((1 : Int32) = 0) = False from by decide, if_true, if_false, cy_num, if_neg (show ¬ (s.2.1 s.2.2.1.1).1 = 8 by omega)]
    refine ⟨?_, trivial⟩
    try rw [← h10]
    repeat' split
    all_goals first | trivial | exact ⟨t3, trivial⟩
theorem rl_8 (w j : Nat) : (8 : Int32) * nI w + nI j = nI (8 * w + j) := by
  rw [show (8 : Int32) = nI 8 from rfl, pk_mul, nI_add]
theorem rl_16 (w j : Nat) : nI w * (16 : Int32) + nI j = nI (16 * w + j) := by
  rw [show (16 : Int32) = nI 16 from rfl, pk_mul, nI_add, Nat.mul_comm]
theorem rl_256 (w j : Nat) : nI w * (256 : Int32) + nI j = nI (256 * w + j) := by
  rw [show (256 : Int32) = nI 256 from rfl, pk_mul, nI_add, Nat.mul_comm]
theorem rl_stack (s : cy_S) (r : md_S) (i : Int32) (h : rl_Rel s r) : md_stack_ok r i ∧ cy_Yard_stack s i = md_stack r i := by
  unfold md_stack_ok cy_Yard_stack md_stack
  rcases h.2 with h | ⟨h, hJ⟩
  · rw [rl_heldE h, h.2.2.1]; simp only [if_true]; exact ⟨trivial, trivial⟩
  · rw [rl_heldM h]
    obtain ⟨t1, t2, t3⟩ := rl_top h
    obtain ⟨_, _, _, hb, hs, h5, h6, h8, h10, hF⟩ := h
    obtain ⟨f1, f2, f3, f4, f5, f6, f7, f8⟩ := hF _ (Nat.le_refl _)
    rw [h5, t2, f4, if_neg (show ¬ (1 : Int32) = 0 by decide), if_neg (show ¬ (1 : Int32) = 0 by decide), if_neg (show ¬ (1 : Int32) = 0 by decide)]
    unfold cy_rat cy_la
    by_cases h0 : i < 0
    · rw [if_pos h0, if_pos h0, if_pos h0]; exact ⟨trivial, rfl⟩
    · rw [if_neg h0, if_neg h0, if_neg h0]
      obtain ⟨j, hj, rfl⟩ := nI_of h0
      rw [nI_clamp hj]
      by_cases h1 : j < (s.1 (42 + 2 * s.2.2.1.1)).length
      · have h2 := nI_lt h1 (by omega)
        rw [if_pos h2, if_pos h2, t1, rl_8, nI_clamp (by omega)]
        exact ⟨⟨t1 ▸ t3, vp_in_nI (by omega) (by decide), trivial⟩, f6 j h1⟩
      · have h2 : ¬ nI j < nI (s.1 (42 + 2 * s.2.2.1.1)).length := nI_nlt (by omega) hj
        rw [if_neg h2, if_neg h2]
        exact ⟨⟨t3, trivial⟩, rl_gX (by omega)⟩
theorem rl_local (s : cy_S) (r : md_S) (i : Int32) (h : rl_Rel s r) : md_local_ok r i ∧ cy_Yard_local s i = md_local r i := by
  unfold md_local_ok cy_Yard_local md_local
  rcases h.2 with h | ⟨h, hJ⟩
  · rw [rl_heldE h, h.2.2.1]; simp only [if_true]; exact ⟨trivial, trivial⟩
  · rw [rl_heldM h]
    obtain ⟨t1, t2, t3⟩ := rl_top h
    obtain ⟨_, _, _, hb, hs, h5, h6, h8, h10, hF⟩ := h
    obtain ⟨f1, f2, f3, f4, f5, f6, f7, f8⟩ := hF _ (Nat.le_refl _)
    rw [h5, if_neg (show ¬ (1 : Int32) = 0 by decide), if_neg (show ¬ (1 : Int32) = 0 by decide), if_neg (show ¬ (1 : Int32) = 0 by decide)]
    unfold cy_rat cy_la
    by_cases h0 : i < 0
    · rw [if_pos h0, if_pos h0, if_pos h0]; exact ⟨trivial, rfl⟩
    · rw [if_neg h0, if_neg h0, if_neg h0]
      obtain ⟨j, hj, rfl⟩ := nI_of h0
      rw [nI_clamp hj]
      by_cases h1 : j ≤ 7
      · have h2 : nI j ≤ 7 := nI_le h1 (by decide)
        rw [if_pos h2, if_pos h2, t1, rl_8, nI_clamp (by omega)]
        exact ⟨⟨vp_in_nI (by omega) (by decide), trivial⟩, f8 j (by omega)⟩
      · have h2 : ¬ nI j ≤ 7 := nI_ge (show 7 < j by omega) hj
        rw [if_neg h2, if_neg h2]
        exact ⟨trivial, rl_gX (by omega)⟩
theorem rl_out (s : cy_S) (r : md_S) (i : Int32) (h : rl_Rel s r) : md_out_ok r i ∧ cy_Yard_out s i = md_out r i := by
  obtain ⟨_, _, _, hO, hN⟩ := rl_RelB h
  obtain ⟨o1, o2, o3⟩ := hO
  unfold md_out_ok cy_Yard_out md_out cy_rat cy_la
  rw [o1]
  by_cases h0 : i < 0
  · rw [if_pos h0, if_pos h0, if_pos h0]; exact ⟨trivial, rfl⟩
  · rw [if_neg h0, if_neg h0, if_neg h0]
    obtain ⟨j, hj, rfl⟩ := nI_of h0
    rw [nI_clamp hj]
    by_cases h1 : j < (s.1 5).length
    · have h2 := nI_lt h1 (by omega)
      rw [if_pos h2, if_pos h2]
      exact ⟨⟨vp_in_nI (by omega) (by decide), trivial⟩, by rw [rl_gO h1]; exact o3 j h1⟩
    · have h2 : ¬ nI j < nI (s.1 5).length := nI_nlt (by omega) hj
      rw [if_neg h2, if_neg h2]
      exact ⟨trivial, rl_gX (by omega)⟩
theorem rl_noN {s : cy_S} {k : Nat} (hk : k < 8) (hl : (s.1 (6 + 4 * k)).length ≤ 256) : cy_no s (nI k) ↔ (s.1 (6 + 4 * k)).length = 0 := by
  unfold cy_no cy_bad cy_Code_isTaken
  rw [nI_clamp (by omega)]
  have h1 : ¬ nI k < 0 := nI_pos (by omega)
  have h2 : ¬ nI 8 ≤ nI k := nI_ge hk (by decide)
  constructor
  · intro h
    rcases h with (h | h) | h
    · exact absurd h h1
    · exact absurd h h2
    · by_cases g : nI (s.1 (6 + 4 * k)).length ≤ 0
      · exact Nat.le_zero.mp ((rl_leI rfl (show (0 : Int32) = nI 0 from rfl) (by omega) (by decide)).1 g)
      · rw [if_neg g] at h; exact absurd h (by decide)
  · intro h
    right
    rw [if_pos ((rl_leI rfl (show (0 : Int32) = nI 0 from rfl) (by omega) (by decide)).2 (by omega))]
theorem rl_kc (k : Int32) : k < 0 ∨ (¬ k < 0 ∧ (8 : Int32) ≤ k) ∨ ∃ j : Nat, j < 8 ∧ k = nI j ∧ ¬ k < 0 ∧ ¬ (8 : Int32) ≤ k := by
  by_cases h0 : k < 0
  · exact Or.inl h0
  · by_cases h1 : (8 : Int32) ≤ k
    · exact Or.inr (Or.inl ⟨h0, h1⟩)
    · obtain ⟨j, hj, rfl⟩ := nI_of h0
      exact Or.inr (Or.inr ⟨j, by
        rcases Nat.lt_or_ge j 8 with h | h
        · exact h
        · exact absurd (nI_le h hj) h1, rfl, h0, h1⟩)
theorem rl_cell (s : cy_S) (r : md_S) (k i : Int32) (h : rl_Rel s r) : md_cell_ok r k i ∧ cy_Yard_cell s k i = md_cell r k i := by
  obtain ⟨_, hD, _⟩ := rl_RelB h
  have hK := rl_RelK h
  unfold md_cell_ok cy_Yard_cell md_cell
  rcases rl_kc k with h0 | ⟨h0, h1⟩ | ⟨j, hj, rfl, h0, h1⟩
  · rw [if_pos h0, if_pos h0, if_pos (show cy_no s k from Or.inl (Or.inl h0))]; exact ⟨trivial, rfl⟩
  · rw [if_neg h0, if_neg h0, if_pos h1, if_pos h1, if_pos (show cy_no s k from Or.inl (Or.inr h1))]; exact ⟨trivial, rfl⟩
  · obtain ⟨d1, d2, d3, d4⟩ := hD j hj
    rw [if_neg h0, if_neg h0, if_neg h1, if_neg h1]
    by_cases g : (s.1 (6 + 4 * j)).length = 0
    · rw [if_pos ((rl_noN hj d1).2 g), nI_clamp (by omega), d3, g, if_pos (show nI 0 = 0 from rfl), if_pos (show nI 0 = 0 from rfl)]; exact ⟨⟨vp_in_nI hj (by decide), trivial⟩, rfl⟩
    · rw [if_neg (fun q => g ((rl_noN hj d1).1 q)), nI_clamp (by omega), d3, if_neg (nI_ne0 (by omega) (by omega)), if_neg (nI_ne0 (by omega) (by omega))]
      obtain ⟨k1, k2⟩ := hK j hj (by omega)
      unfold cy_rat cy_la
      by_cases g0 : i < 0
      · rw [if_pos g0, if_pos g0, if_pos g0]; exact ⟨⟨vp_in_nI hj (by decide), trivial⟩, rfl⟩
      · rw [if_neg g0, if_neg g0, if_neg g0]
        obtain ⟨q, hq, rfl⟩ := nI_of g0
        rw [nI_clamp hq]
        by_cases g1 : q < 16
        · have h2 : nI q < 16 := nI_lt g1 (by decide)
          rw [if_pos h2, if_pos h2, rl_16, nI_clamp (by omega)]
          exact ⟨⟨vp_in_nI hj (by decide), vp_in_nI (by omega) (by decide), trivial⟩, k2 q g1⟩
        · have h2 : ¬ nI q < 16 := nI_nlt (show 16 ≤ q by omega) hq
          rw [if_neg h2, if_neg h2]
          exact ⟨⟨vp_in_nI hj (by decide), trivial⟩, rl_gX (by omega)⟩
theorem rl_height (s : cy_S) (r : md_S) (k i : Int32) (h : rl_Rel s r) : md_height_ok r k i ∧ cy_Yard_height s k i = md_height r k i := by
  obtain ⟨_, hD, _⟩ := rl_RelB h
  unfold md_height_ok cy_Yard_height md_height
  rcases rl_kc k with h0 | ⟨h0, h1⟩ | ⟨j, hj, rfl, h0, h1⟩
  · rw [if_pos h0, if_pos h0, if_pos (show cy_no s k from Or.inl (Or.inl h0))]; exact ⟨trivial, rfl⟩
  · rw [if_neg h0, if_neg h0, if_pos h1, if_pos h1, if_pos (show cy_no s k from Or.inl (Or.inr h1))]; exact ⟨trivial, rfl⟩
  · obtain ⟨d1, d2, d3, d4⟩ := hD j hj
    rw [if_neg h0, if_neg h0, if_neg h1, if_neg h1]
    by_cases g : (s.1 (6 + 4 * j)).length = 0
    · rw [if_pos ((rl_noN hj d1).2 g), nI_clamp (by omega), d3, g, if_pos (show nI 0 = 0 from rfl), if_pos (show nI 0 = 0 from rfl)]; exact ⟨⟨vp_in_nI hj (by decide), trivial⟩, rfl⟩
    · rw [if_neg (fun q => g ((rl_noN hj d1).1 q)), nI_clamp (by omega), d3, if_neg (nI_ne0 (by omega) (by omega)), if_neg (nI_ne0 (by omega) (by omega))]
      unfold cy_rat cy_la
      by_cases g0 : i < 0
      · rw [if_pos g0, if_pos g0, if_pos g0]; exact ⟨⟨vp_in_nI hj (by decide), trivial⟩, rfl⟩
      · rw [if_neg g0, if_neg g0, if_neg g0]
        obtain ⟨q, hq, rfl⟩ := nI_of g0
        rw [nI_clamp hq]
        by_cases g1 : q < (s.1 (6 + 4 * j)).length
        · have h2 := nI_lt g1 (by omega)
          rw [if_pos h2, if_pos h2, rl_256, nI_clamp (by omega)]
          exact ⟨⟨vp_in_nI hj (by decide), vp_in_nI hj (by decide), vp_in_nI (by omega) (by decide), trivial⟩, by rw [rl_gO (by omega), (d4 q g1).2.2]⟩
        · have h2 : ¬ nI q < nI (s.1 (6 + 4 * j)).length := nI_nlt (by omega) hq
          rw [if_neg h2, if_neg h2]
          exact ⟨⟨vp_in_nI hj (by decide), vp_in_nI hj (by decide), trivial⟩, rl_gX (by omega)⟩
theorem rl_size (s : cy_S) (r : md_S) (k : Int32) (h : rl_Rel s r) : md_size_ok r k ∧ cy_Yard_size s k = md_size r k := by
  obtain ⟨_, hD, _⟩ := rl_RelB h
  unfold md_size_ok cy_Yard_size md_size
  rcases rl_kc k with h0 | ⟨h0, h1⟩ | ⟨j, hj, rfl, h0, h1⟩
  · rw [if_pos h0, if_pos h0, if_pos (show cy_no s k from Or.inl (Or.inl h0))]; exact ⟨trivial, rfl⟩
  · rw [if_neg h0, if_neg h0, if_pos h1, if_pos h1, if_pos (show cy_no s k from Or.inl (Or.inr h1))]; exact ⟨trivial, rfl⟩
  · obtain ⟨d1, d2, d3, d4⟩ := hD j hj
    rw [if_neg h0, if_neg h0, if_neg h1, if_neg h1]
    by_cases g : (s.1 (6 + 4 * j)).length = 0
    · rw [if_pos ((rl_noN hj d1).2 g), nI_clamp (by omega), d3, g, if_pos (show nI 0 = 0 from rfl), if_pos (show nI 0 = 0 from rfl)]; exact ⟨⟨vp_in_nI hj (by decide), trivial⟩, rfl⟩
    · rw [if_neg (fun q => g ((rl_noN hj d1).1 q)), nI_clamp (by omega), d3, if_neg (nI_ne0 (by omega) (by omega)), if_neg (nI_ne0 (by omega) (by omega))]
      exact ⟨⟨vp_in_nI hj (by decide), vp_in_nI hj (by decide), trivial⟩, rfl⟩
