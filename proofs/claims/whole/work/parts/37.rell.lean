theorem rl_ops1 : ∀ o : Nat, o < 28 → (o < 5 → cy_Yard_hasOperand (nI o) = 1) ∧ (16 ≤ o → o < 19 → cy_Yard_hasOperand (nI o) = 1 ∧ cy_Yard_isJump (nI o) = 1) ∧ (o = 27 → cy_Yard_hasOperand (nI o) = 1) ∧ (o < 22 ∨ 24 < o → cy_Yard_isEnding (nI o) = 0) := by decide +kernel
theorem rl_ops2 : cy_Yard_takes (nI 22) = nI 1 ∧ cy_Yard_takes (nI 27) = nI 0 ∧ cy_Yard_gives (nI 27) = nI 1 ∧ cy_Yard_operandMost (nI 27) = nI 23 ∧ rl_len (nI 27) = 2 := by decide +kernel
theorem rl_step (s : cy_S) (r : md_S) (hI : rl_I s) (h : rl_M s r) (hJ : rl_J s) (hd : s.2.2.1.2.2.2.2.2 < 2000) : md_oneStep_ok r ∧ rl_O (cy_Run_step s) (md_oneStep r) := by
  have hc : rl_c s < 8 := rl_Mc h _ (Nat.le_refl _)
  obtain ⟨k1, p, k2, k3, k4⟩ := (rl_J_jt.1 hJ).2
  have k1 : 0 < (s.1 (6 + 4 * rl_c s)).length := k1
  have k2 : p < (s.1 (6 + 4 * rl_c s)).length := k2
  have k3 : rl_p s = nI p := k3
  have k4 : (s.1 (7 + 4 * rl_c s)).getD p 0 = nI (rl_n s) := k4
  have hn8 : rl_n s ≤ 8 := (h.2.2.2.2.2.2.2.2.2 _ (Nat.le_refl _)).2.2.2.2.1
  obtain ⟨d1, d2, d3, d4⟩ := h.1.2.1 _ hc
  obtain ⟨o, t, g, b1, b2, b3, b4, b5, b6, b7, b8, b9, b10⟩ : rl_cl (s.1 (6 + 4 * rl_c s)) (s.1 (7 + 4 * rl_c s)) p (rl_n s) := by
    rcases (hI _ hc k1).2.2 p k2 with e | ⟨hh, e1, e2, e3⟩
    · rw [k4] at e
      exact absurd (nI_pos (n := rl_n s) (by omega)) (by rw [e]; decide)
    · rw [k4] at e2
      have := (nI_eq (by omega) (by omega)).1 e2
      rw [this]; exact e3
  obtain ⟨x1, x2, x3⟩ := d4 p k2
  have x2 : r.1 1 (256 * rl_c s + p) &&& 255 = nI o := x2.trans b1
  obtain ⟨m1, m2⟩ := rl_mstep s r h p o b2 (by omega) k3 x2
  rw [rl_cstep s p o (by omega) b2 hd k3 b1, m1]
  obtain ⟨y1, y2, y3, y4⟩ := rl_ops1 o b2
  -- the operand on both sides
  have opnd : cy_Yard_hasOperand (nI o) = 1 → ∃ b : Nat, b < 256 ∧ nI b ≤ cy_Yard_operandMost (nI o) ∧ (cy_Yard_isJump (nI o) = 1 → b < (s.1 (6 + 4 * rl_c s)).length ∧ (s.1 (7 + 4 * rl_c s)).getD b 0 = nI (rl_n s - t + g)) ∧ (if cy_Yard_hasOperand (nI o) = 0 then 0 else (s.1 (6 + 4 * rl_c s)).getD (p + 1) 0) = nI b ∧ (if p + 1 < 256 then r.1 1 (256 * rl_c s + p + 1) else 0) = (nI b).toInt8.toInt32 ∧ (if p + 1 < 256 then r.1 1 (256 * rl_c s + p + 1) else 0) &&& 255 = nI b := by
    intro ho
    obtain ⟨q1, b, q2, q3, q4, q5⟩ := b9 ho
    obtain ⟨z1, z2, z3⟩ := d4 (p + 1) q1
    have e : p + 1 < 256 := by omega
    rw [if_pos e, if_neg (by rw [ho]; decide)]
    rw [q2] at z1 z2
    exact ⟨b, q3, q4, q5, q2, z1, z2⟩
  have G1 : rl_G s (cy_sf_place (cy_s_done s (s.2.2.1.2.2.2.2.2 + 1)) s.2.2.1.1 (nI (p + rl_len (nI o)))) (md_sa (md_ss r 9 (r.2 9 + 1)) 10 (nI (rl_w s)) (nI (p + rl_len (nI o)))) (rl_n s) (nI (p + rl_len (nI o))) := rl_G_t (rl_done h hd) (rl_place (rl_done h hd).1 _)
  generalize hVc : (if cy_Yard_hasOperand (nI o) = 0 then 0 else (s.1 (6 + 4 * rl_c s)).getD (p + 1) 0) = Vc at opnd ⊢
  generalize hVm : (if p + 1 < 256 then r.1 1 (256 * rl_c s + p + 1) else 0) = Vm at opnd m2 ⊢
  have ew : rl_w (cy_sf_place (cy_s_done s (s.2.2.1.2.2.2.2.2 + 1)) s.2.2.1.1 (nI (p + rl_len (nI o)))) = rl_w s := rfl
  have en : rl_n (cy_sf_place (cy_s_done s (s.2.2.1.2.2.2.2.2 + 1)) s.2.2.1.1 (nI (p + rl_len (nI o)))) = rl_n s := rfl
  have ec : rl_c (cy_sf_place (cy_s_done s (s.2.2.1.2.2.2.2.2 + 1)) s.2.2.1.1 (nI (p + rl_len (nI o)))) = rl_c s := G1.2.1.2.2.2.2
  have epl : rl_p (cy_sf_place (cy_s_done s (s.2.2.1.2.2.2.2.2 + 1)) s.2.2.1.1 (nI (p + rl_len (nI o)))) = nI (p + rl_len (nI o)) := G1.2.2.2
  have er : (cy_sf_place (cy_s_done s (s.2.2.1.2.2.2.2.2 + 1)) s.2.2.1.1 (nI (p + rl_len (nI o)))).1 = s.1 := rfl
  generalize md_sa (md_ss r 9 (r.2 9 + 1)) 10 (nI (rl_w s)) (nI (p + rl_len (nI o))) = r1 at G1 m2 ⊢
  generalize cy_sf_place (cy_s_done s (s.2.2.1.2.2.2.2.2 + 1)) s.2.2.1.1 (nI (p + rl_len (nI o))) = s1 at G1 ew en ec epl er ⊢
  have M1 := G1.1
  have I1 : rl_I s1 := rl_I_c G1.2.1.1 G1.2.1.2.1 hI
  unfold rl_cdisp rl_mdisp
  unfold rl_mdisp_ok at m2
  by_cases c5 : o < 5
  · rw [if_pos c5] at m2; rw [if_pos c5, if_pos c5]
    obtain ⟨b, q1, q2, q3, q4, q5, q6⟩ := opnd (y1 c5)
    obtain ⟨a1, a2⟩ := rl_move M1 (by rw [ec, er]; exact k1) o b t g c5 b3 b4 b5 b6 (by rw [en]; exact b7) (by rw [en]; exact b8) q1 q2
    rw [ew, ec, ← q5] at a1
    rw [ew, ec, en, epl, ← q5] at a2
    obtain ⟨n1, n2⟩ := b10 (y4 (by omega)) (by omega)
    refine ⟨m2 ⟨a1, trivial⟩, rl_O_Z hI h hJ (Or.inl (rl_G_t G1 ?_)) n1 n2⟩
    rw [q4]; exact a2
  rw [if_neg c5] at m2; rw [if_neg c5, if_neg c5]
  by_cases c16 : o < 16
  · rw [if_pos c16] at m2; rw [if_pos c16, if_pos c16]
    obtain ⟨a1, a2⟩ := rl_works M1 o t g (by omega) c16 b3 b4 b5 b6 (by rw [en]; exact b7) (by rw [en]; exact b8) (by rw [en]; exact hn8)
    rw [en, epl] at a2
    obtain ⟨n1, n2⟩ := b10 (y4 (by omega)) (by omega)
    exact ⟨m2 ⟨a1, trivial⟩, rl_O_Z hI h hJ (Or.inl (rl_G_t G1 a2)) n1 n2⟩
  rw [if_neg c16] at m2; rw [if_neg (show ¬ o < 13 by omega), if_neg c16, if_neg c16]
  by_cases c19 : o < 19
  · rw [if_pos c19] at m2; rw [if_pos c19, if_pos c19]
    obtain ⟨b, q1, q2, q3, q4, q5, q6⟩ := opnd (y2 (by omega) c19).1
    obtain ⟨j1, j2⟩ := q3 (y2 (by omega) c19).2
    obtain ⟨a1, pl, a2, a3⟩ := rl_jump M1 o t g (nI b) (by omega) c19 b3 b4 b5 b6 (by rw [en]; exact b7) (by rw [en]; exact b8)
    rw [ew] at a1 a2
    rw [en] at a2
    rw [q6] at m2
    rw [q6, q4]
    refine ⟨m2 ⟨a1, trivial⟩, ?_⟩
    rcases a3 with rfl | ⟨a4, rfl⟩
    · exact rl_O_Z hI h hJ (Or.inl (rl_G_t G1 a2)) j1 j2
    · obtain ⟨n1, n2⟩ := b10 (y4 (by omega)) a4
      rw [epl] at a2
      exact rl_O_Z hI h hJ (Or.inl (rl_G_t G1 a2)) n1 n2
  rw [if_neg c19] at m2; rw [if_neg c19, if_neg c19]
  have zt : ∀ {s' r' m}, rl_Z s1 s' r' m (rl_p s1) → rl_Z s s' r' m (nI (p + rl_len (nI o))) := fun {s' r' m} z => by
    rw [epl] at z
    rcases z with z | ⟨z1, z2, z3⟩
    · exact Or.inl (rl_G_t G1 z)
    · exact Or.inr ⟨z1, fun k hk => (z2 k hk).trans (G1.2.1.1 k hk), fun k hk => (z3 k hk).trans (G1.2.1.2.1 k hk)⟩
  by_cases c22 : o < 22
  · rw [if_pos c22] at m2; rw [if_pos c22]
    obtain ⟨a1, a2⟩ := rl_bytes M1 o t g Vc (by omega) c22 b3 b4 b5 b6 (by rw [en]; exact b7) (by rw [en]; exact b8)
    rw [en] at a2
    obtain ⟨n1, n2⟩ := b10 (y4 (by omega)) (by omega)
    exact ⟨m2 ⟨a1, trivial⟩, rl_O_Z hI h hJ (zt a2) n1 n2⟩
  rw [if_neg c22] at m2; rw [if_neg c22]
  by_cases c25 : o < 25
  · rw [if_pos c25] at m2; rw [if_pos c25]
    have : o = 22 ∨ o = 23 ∨ o = 24 := by omega
    rcases this with rfl | rfl | rfl
    · have : t = 1 := (nI_eq (by omega) (by omega)).1 (b3.symm.trans rl_ops2.1)
      subst this
      obtain ⟨p1, p2, p3⟩ := rl_pop M1 (by rw [en]; exact b7)
      obtain ⟨e1, e2⟩ := rl_finish (rl_I_c p3.2.1.1 p3.2.1.2.1 I1) p3.1 (rl_below h hJ (rl_kp_t G1.2.1 p3.2.1)) (md_pop r1).1
      refine ⟨m2 ⟨⟨p1, e1, trivial⟩, trivial⟩, ?_⟩
      have c1 : cy_Run_doOther s1 (nI 22) Vc = cy_Run_finish (cy_rdrop s1 (42 + 2 * s1.2.2.1.1)) (md_pop r1).1 := by
        unfold cy_Run_doOther
        rw [if_neg (by decide), if_neg (by decide), if_neg (by decide), if_pos (by decide), ← p2]
      rw [c1]; exact e2
    · obtain ⟨e1, e2⟩ := rl_finish I1 M1 (rl_below h hJ G1.2.1) 0
      exact ⟨m2 ⟨⟨e1, trivial⟩, trivial⟩, e2⟩
    · obtain ⟨e1, e2⟩ := rl_O_fail I1 M1 1
      exact ⟨m2 ⟨⟨e1, trivial⟩, trivial⟩, e2⟩
  rw [if_neg c25] at m2; rw [if_neg c25]
  by_cases c27 : o < 27
  · rw [if_pos c27] at m2; rw [if_pos c27]
    obtain ⟨a1, a2⟩ := rl_divide M1 o t g Vc (by omega) c27 b3 b4 b5 b6 (by rw [en]; exact b7) (by rw [en]; exact b8) (by rw [en]; exact hn8)
    rw [en] at a2
    obtain ⟨n1, n2⟩ := b10 (y4 (by omega)) (by omega)
    exact ⟨m2 ⟨a1, trivial⟩, rl_O_Z hI h hJ (zt a2) n1 n2⟩
  rw [if_neg c27] at m2; rw [if_neg c27]
  have : o = 27 := by omega
  subst this
  obtain ⟨o1, o2, o3, o4, o5⟩ := rl_ops2
  obtain ⟨b, q1, q2, q3, q4, q5, q6⟩ := opnd (y3 rfl)
  have ht0 : t = 0 := (nI_eq (by omega) (by omega)).1 (b3.symm.trans o2)
  have hg1 : g = 1 := (nI_eq (by omega) (by omega)).1 (b4.symm.trans o3)
  subst ht0 hg1
  have hb24 : b ≤ 23 := (nI_leI (by omega) (by decide)).1 (o4 ▸ q2)
  obtain ⟨n1, n2⟩ := b10 (y4 (by omega)) (by omega)
  obtain ⟨e1, e2⟩ := rl_callT I1 M1 (rl_below h hJ G1.2.1) (by
    show 0 < (s1.1 (6 + 4 * rl_c s1)).length ∧ ∃ p : Nat, p < (s1.1 (6 + 4 * rl_c s1)).length ∧ rl_p s1 = nI p ∧ (s1.1 (7 + 4 * rl_c s1)).getD p 0 = nI (rl_n s1 + 1)
    rw [ec, er, epl, en]
    exact ⟨k1, _, n1, rfl, n2⟩) b (by omega)
  rw [q6] at m2
  rw [q4, q6]
  exact ⟨m2 ⟨e1, trivial⟩, e2⟩
theorem rl_O_Rel {s : cy_S} {r : md_S} (h : rl_O s r) : (s.2.2.1.2.2.1 = 2 → rl_Rel (cy_Shelf_bringCellsBack s) r ∧ r.2 5 = 0 ∧ r.2 6 = 1) ∧ (s.2.2.1.2.2.1 ≠ 2 → rl_Rel s r ∧ s.2.2.1.2.2.1 = if r.2 5 = 0 then if r.2 6 = 0 then 0 else 2 else 1) := by
  obtain ⟨hI, h⟩ := h
  rcases h with ⟨hM, hJ⟩ | ⟨hE, e1, e2⟩ | ⟨hB, hK, x1, x2, x3⟩
  · refine ⟨fun q => absurd (hM.2.2.2.2.1.symm.trans q) (by decide), fun _ => ⟨⟨hI, Or.inr ⟨hM, hJ⟩⟩, ?_⟩⟩
    rw [hM.2.2.2.2.1, hM.2.2.2.2.2.1, if_neg (by decide)]
  · refine ⟨fun q => absurd (e1.symm.trans q) (by decide), fun _ => ⟨⟨hI, Or.inl hE⟩, ?_⟩⟩
    rw [e1, e2, hE.2.2.1, if_pos rfl, if_pos rfl]
  · refine ⟨fun _ => ⟨⟨rl_I_back hI, Or.inl ⟨rl_B_back hB (fun _ _ => rfl) rfl, rl_K_back hK (fun _ _ => rfl), x2, Or.inr (Or.inr ⟨x1, x3⟩)⟩⟩, x2, x3⟩, fun q => absurd x1 q⟩
theorem rl_advance (n : Nat) (hn : n ≤ 2001) : ∀ (q : Nat) (s : cy_S) (r : md_S) (i : Nat), i ≤ n → n < i + q → rl_O s r → md_go_l_ok q r (nI i) (nI n) ∧ rl_Rel (cy_Run_advance_l q s (nI i) (nI n)).2 (md_go_l q r (nI i) (nI n)) ∧ (cy_Run_advance_l q s (nI i) (nI n)).1 = if (md_go_l q r (nI i) (nI n)).2 5 = 0 then if (md_go_l q r (nI i) (nI n)).2 6 = 0 then 0 else 2 else 1 := by
  intro q
  induction q with
  | zero => intro s r i h1 h2; omega
  | succ q ih =>
    intro s r i h1 h2 hO
    have fin : (if s.2.2.1.2.2.1 = 2 then ((cy_Shelf_bringCellsBack s).2.2.1.2.2.1, cy_Shelf_bringCellsBack s) else (s.2.2.1.2.2.1, s) : Int32 × cy_S).1 = (if r.2 5 = 0 then if r.2 6 = 0 then 0 else 2 else 1) ∧ rl_Rel (if s.2.2.1.2.2.1 = 2 then ((cy_Shelf_bringCellsBack s).2.2.1.2.2.1, cy_Shelf_bringCellsBack s) else (s.2.2.1.2.2.1, s) : Int32 × cy_S).2 r := by
      obtain ⟨a1, a2⟩ := rl_O_Rel hO
      by_cases g : s.2.2.1.2.2.1 = 2
      · rw [if_pos g]
        obtain ⟨a3, a4, a5⟩ := a1 g
        rw [a4, a5, if_pos rfl, if_neg (by decide)]
        exact ⟨g, a3⟩
      · rw [if_neg g]
        obtain ⟨a3, a4⟩ := a2 g
        exact ⟨a4, a3⟩
    unfold md_go_l_ok cy_Run_advance_l md_go_l
    by_cases hi : i = n
    · have hc : nI n ≤ nI i := by rw [hi]; exact nI_le (Nat.le_refl _) (by omega)
      rw [if_pos hc, if_pos hc, if_pos hc]
      exact ⟨trivial, fin.2, fin.1⟩
    · have hc : ¬ nI n ≤ nI i := nI_ge (by omega) (by omega)
      rw [if_neg hc, if_neg hc, if_neg hc, nI_1]
      by_cases hst : s.2.2.1.2.2.1 = 1
      · have hM : rl_M s r ∧ rl_J s := by
          rcases hO.2 with h | ⟨_, h, _⟩ | h
          · exact h
          · exact absurd (hst.symm.trans h) (by decide)
          · exact absurd (hst.symm.trans h.2.2.1) (by decide)
        have g5 : ¬ r.2 5 = 0 := by rw [hM.1.2.2.2.2.2.1]; decide
        rw [if_pos hst, if_neg g5, if_neg g5]
        obtain ⟨_, _, _, d, hd, n4, n5⟩ := hM.1.1.2.2.2.2
        by_cases h2000 : d = 2000
        · have g9 : r.2 9 = 2000 := by rw [n4, h2000]; rfl
          rw [if_pos g9, if_pos g9]
          have es : cy_Run_step s = cy_Run_fail s 6 := by
            unfold cy_Run_step
            rw [if_neg (by rw [n5, h2000]; decide)]
          rw [es]
          obtain ⟨z1, z2⟩ := rl_O_fail hO.1 hM.1 6
          obtain ⟨w1, w2, w3⟩ := ih _ _ (i + 1) (by omega) (by omega) z2
          exact ⟨⟨z1, w1⟩, w2, w3⟩
        · have g9 : ¬ r.2 9 = 2000 := by rw [n4]; exact fun e => h2000 ((nI_eq (by omega) (by decide)).1 (show nI d = nI 2000 from e))
          rw [if_neg g9, if_neg g9]
          obtain ⟨z1, z2⟩ := rl_step s r hO.1 hM.1 hM.2 (by rw [n5]; exact nI_lt (show d < 2000 by omega) (by decide))
          obtain ⟨w1, w2, w3⟩ := ih _ _ (i + 1) (by omega) (by omega) z2
          exact ⟨⟨z1, w1⟩, w2, w3⟩
      · have g5 : r.2 5 = 0 := by
          rcases hO.2 with h | ⟨h, _⟩ | h
          · exact absurd h.1.2.2.2.2.1 hst
          · exact h.2.2.1
          · exact h.2.2.2.1
        rw [if_neg hst, if_pos g5, if_pos g5]
        exact ⟨trivial, fin.2, fin.1⟩
theorem rl_go (s : cy_S) (r : md_S) (n : Int32) (h : rl_Rel s r) : md_go_ok r n ∧ (cy_Yard_go s n).1 = (md_go r n).1 ∧ rl_Rel (cy_Yard_go s n).2 (md_go r n).2 := by
  unfold md_go_ok cy_Yard_go md_go
  by_cases h0 : n < 0
  · rw [if_pos h0, if_pos h0, if_pos h0]; exact ⟨trivial, rfl, h⟩
  rw [if_neg h0, if_neg h0, if_neg h0]
  obtain ⟨m, hm, rfl⟩ := nI_of h0
  by_cases h1 : m ≤ 2001
  · have g1 : ¬ (2001 : Int32) < nI m := nI_nlt (show m ≤ 2001 from h1) (by decide)
    rw [if_neg g1, if_neg g1, if_neg g1]
    rcases h.2 with hE | ⟨hM, hJ⟩
    · rw [if_pos hE.2.2.1, if_pos hE.2.2.1, if_pos (rl_heldE hE)]; exact ⟨trivial, rfl, h⟩
    · have g5 : ¬ r.2 5 = 0 := by rw [hM.2.2.2.2.2.1]; decide
      rw [if_neg g5, if_neg g5, if_neg (show ¬ cy_Run_isHeld s = 0 by rw [rl_heldM hM]; decide)]
      unfold cy_Run_advance
      have f1 : ((nI m).toInt - (0 : Int32).toInt).toNat + 1 = m + 1 := by
        rw [nI_toInt hm, show (0 : Int32).toInt = 0 from rfl]; omega
      have f2 : (nI m).toInt.toNat + 1 = m + 1 := by rw [nI_toInt hm]; omega
      rw [f1, f2, show (0 : Int32) = nI 0 from rfl]
      obtain ⟨a1, a2, a3⟩ := rl_advance m h1 (m + 1) s r 0 (Nat.zero_le _) (by omega) ⟨h.1, Or.inl ⟨hM, hJ⟩⟩
      rw [show nI 0 = (0 : Int32) from rfl] at a1 a2 a3 ⊢
      rw [a3]
      by_cases q5 : (md_go_l (m + 1) r 0 (nI m)).2 5 = 0
      · rw [if_pos q5, if_pos q5, if_pos q5]
        by_cases q6 : (md_go_l (m + 1) r 0 (nI m)).2 6 = 0
        · rw [if_pos q6, if_pos q6, if_pos q6]; exact ⟨⟨a1, trivial⟩, rfl, a2⟩
        · rw [if_neg q6, if_neg q6, if_neg q6]; exact ⟨⟨a1, trivial⟩, rfl, a2⟩
      · rw [if_neg q5, if_neg q5, if_neg q5]; exact ⟨⟨a1, trivial⟩, rfl, a2⟩
  · have g1 : (2001 : Int32) < nI m := nI_lt (show 2001 < m by omega) hm
    rw [if_pos g1, if_pos g1, if_pos g1]; exact ⟨trivial, rfl, h⟩
