theorem rl_load_a (n k : Nat) (hn : n ≤ 256) (hk : k < 8) : ∀ (q : Nat) (r : md_S) (i : Nat), r.2 1 = nI n → i ≤ n → n < i + q → md_load_a_ok q r (nI i) (nI k) ∧ (md_load_a q r (nI i) (nI k)).2 = r.2 ∧ (∀ a, a ≠ 1 → a ≠ 3 → (md_load_a q r (nI i) (nI k)).1 a = r.1 a) ∧ (∀ p, i ≤ p → p < n → (md_load_a q r (nI i) (nI k)).1 1 (256 * k + p) = (r.1 0 p).toInt8.toInt32 ∧ (md_load_a q r (nI i) (nI k)).1 3 (256 * k + p) = r.1 7 p) ∧ (∀ j, (j < 256 * k + i ∨ 256 * k + 256 ≤ j) → (md_load_a q r (nI i) (nI k)).1 1 j = r.1 1 j ∧ (md_load_a q r (nI i) (nI k)).1 3 j = r.1 3 j) := by
  intro q
  induction q with
  | zero => intro r i h0 h1 h2; omega
  | succ q ih =>
    intro r i h0 h1 h2
    unfold md_load_a_ok md_load_a
    rw [h0]
    by_cases h : i = n
    · have hc : nI n ≤ nI i := by rw [h]; exact nI_le (Nat.le_refl _) (by omega)
      rw [if_pos hc, if_pos hc]
      exact ⟨trivial, rfl, fun _ _ _ => rfl, fun p a b => by omega, fun _ _ => ⟨rfl, rfl⟩⟩
    · have hc : ¬ nI n ≤ nI i := nI_ge (show i < n by omega) (by omega)
      rw [if_neg hc, if_neg hc, nI_1, rl_256, nI_clamp (show i < 2 ^ 31 by omega)]
      have hcl : (nI (256 * k + i)).toNatClampNeg = 256 * k + i := nI_clamp (by omega)
      have e7 : (md_sa r 1 (nI (256 * k + i)) (r.1 0 i).toInt8.toInt32).1 7 i = r.1 7 i := rfl
      rw [e7]
      obtain ⟨o, e1, e2, e3, e4⟩ := ih (md_sa (md_sa r 1 (nI (256 * k + i)) (r.1 0 i).toInt8.toInt32) 3 (nI (256 * k + i)) (r.1 7 i)) (i + 1) h0 (by omega) (by omega)
      have u1 : (md_sa (md_sa r 1 (nI (256 * k + i)) (r.1 0 i).toInt8.toInt32) 3 (nI (256 * k + i)) (r.1 7 i)).1 1 = upd (r.1 1) (256 * k + i) (r.1 0 i).toInt8.toInt32 := by
        show upd (r.1 1) (nI (256 * k + i)).toNatClampNeg _ = _; rw [hcl]
      have u3 : (md_sa (md_sa r 1 (nI (256 * k + i)) (r.1 0 i).toInt8.toInt32) 3 (nI (256 * k + i)) (r.1 7 i)).1 3 = upd (r.1 3) (256 * k + i) (r.1 7 i) := by
        show upd (r.1 3) (nI (256 * k + i)).toNatClampNeg _ = _; rw [hcl]
      have v : vp_in (nI (256 * k + i)) 2048 := vp_in_nI (by omega) (by decide)
      refine ⟨⟨vp_in_nI (by omega) (by decide), v, vp_in_nI (by omega) (by decide), v, o⟩, e1, fun a x y => (e2 a x y).trans ((rl_un y).trans (rl_un x)), fun p x y => ?_, fun j hj => ?_⟩
      · by_cases e : p = i
        · subst e
          obtain ⟨f1, f3⟩ := e4 (256 * k + p) (by omega)
          rw [f1, f3, u1, u3, pk_us, pk_us]; exact ⟨rfl, rfl⟩
        · exact e3 p (by omega) y
      · obtain ⟨f1, f3⟩ := e4 j (by omega)
        rw [f1, f3, u1, u3, pk_un (by omega), pk_un (by omega)]; exact ⟨rfl, rfl⟩
theorem rl_load_b (k : Nat) (hk : k < 8) : ∀ (q : Nat) (r : md_S) (i : Nat), i ≤ 16 → 16 < i + q → md_load_b_ok q r (nI i) (nI k) ∧ (md_load_b q r (nI i) (nI k)).2 = r.2 ∧ (∀ a, a ≠ 4 → (md_load_b q r (nI i) (nI k)).1 a = r.1 a) ∧ (∀ p, i ≤ p → p < 16 → (md_load_b q r (nI i) (nI k)).1 4 (16 * k + p) = 0) ∧ (∀ j, (j < 16 * k + i ∨ 16 * k + 16 ≤ j) → (md_load_b q r (nI i) (nI k)).1 4 j = r.1 4 j) := by
  intro q
  induction q with
  | zero => intro r i h1 h2; omega
  | succ q ih =>
    intro r i h1 h2
    unfold md_load_b_ok md_load_b
    by_cases h : i = 16
    · have hc : (16 : Int32) ≤ nI i := by rw [h]; decide
      rw [if_pos hc, if_pos hc]
      exact ⟨trivial, rfl, fun _ _ => rfl, fun p a b => by omega, fun _ _ => rfl⟩
    · have hc : ¬ (16 : Int32) ≤ nI i := nI_ge (show i < 16 by omega) (by decide)
      rw [if_neg hc, if_neg hc, nI_1, rl_16]
      have hcl : (nI (16 * k + i)).toNatClampNeg = 16 * k + i := nI_clamp (by omega)
      obtain ⟨o, e1, e2, e3, e4⟩ := ih (md_sa r 4 (nI (16 * k + i)) 0) (i + 1) (by omega) (by omega)
      have u4 : (md_sa r 4 (nI (16 * k + i)) 0).1 4 = upd (r.1 4) (16 * k + i) 0 := by
        show upd (r.1 4) (nI (16 * k + i)).toNatClampNeg _ = _; rw [hcl]
      refine ⟨⟨vp_in_nI (by omega) (by decide), o⟩, e1, fun a x => (e2 a x).trans (rl_un x), fun p x y => ?_, fun j hj => ?_⟩
      · by_cases e : p = i
        · subst e
          rw [e4 (16 * k + p) (by omega), u4, pk_us]
        · exact e3 p (by omega) y
      · rw [e4 j (by omega), u4, pk_un (by omega)]
theorem rl_take3 (s : cy_S) (k : Nat) (hk : k < 8) : (cy_Code_take s k).2 = s.2 ∧ (∀ a, a ≠ 6 + 4 * k → a ≠ 7 + 4 * k → a ≠ 8 + 4 * k → (cy_Code_take s k).1 a = s.1 a) ∧ (cy_Code_take s k).1 (6 + 4 * k) = (s.1 0).take 256 ∧ (cy_Code_take s k).1 (7 + 4 * k) = (s.1 2).take 256 ∧ (cy_Code_take s k).1 (8 + 4 * k) = List.replicate 16 0 := by
  have c6 : cy_cap (6 + 4 * k) = 256 := by unfold cy_cap; rw [if_neg (by omega), if_neg (by omega), if_neg (by omega), if_pos (by omega), if_pos (by omega)]
  have c7 : cy_cap (7 + 4 * k) = 256 := by unfold cy_cap; rw [if_neg (by omega), if_neg (by omega), if_neg (by omega), if_pos (by omega), if_pos (by omega)]
  have c8 : cy_cap (8 + 4 * k) = 16 := by unfold cy_cap; rw [if_neg (by omega), if_neg (by omega), if_neg (by omega), if_pos (by omega), if_neg (by omega)]
  unfold cy_Code_take
  refine ⟨rfl, fun a h6 h7 h8 => (rl_un h8).trans ((rl_un h7).trans (rl_un h6)), ?_, ?_, ?_⟩
  · refine (rl_un (by omega)).trans ((rl_un (by omega)).trans (rl_us.trans ?_)); rw [c6]
  · refine (rl_un (by omega)).trans (rl_us.trans ?_)
    rw [c7]
    show ((cy_rlike s (6 + 4 * k) 0).1 2).take 256 = _
    rw [show (cy_rlike s (6 + 4 * k) 0).1 2 = s.1 2 from rl_un (by omega)]
  · refine rl_us.trans ?_
    rw [c8]; rfl
theorem rl_load (s : cy_S) (r : md_S) (k : Int32) (h : rl_Rel s r) : md_load_ok r k ∧ (cy_Yard_load s k).1 = (md_load r k).1 ∧ rl_Rel (cy_Yard_load s k).2 (md_load r k).2 := by
  unfold md_load_ok cy_Yard_load md_load
  rcases rl_kc k with h0 | ⟨h0, h1⟩ | ⟨j, hj, rfl, h0, h1⟩
  · rw [if_pos h0, if_pos h0, if_pos (show cy_bad k from Or.inl h0)]; exact ⟨trivial, rfl, h⟩
  · rw [if_neg h0, if_neg h0, if_pos h1, if_pos h1, if_pos (show cy_bad k from Or.inr h1)]; exact ⟨trivial, rfl, h⟩
  have nb : ¬ cy_bad (nI j) := fun q => q.elim h0 h1
  rw [if_neg h0, if_neg h0, if_neg h1, if_neg h1, if_neg nb]
  rcases h.2 with hE | ⟨hM, hJ⟩
  rotate_left
  · have g5 : ¬ r.2 5 = 0 := by rw [hM.2.2.2.2.2.1]; decide
    rw [if_neg g5, if_neg g5, if_neg (show ¬ cy_Run_isHeld s = 0 by rw [rl_heldM hM]; decide)]
    exact ⟨trivial, rfl, h⟩
  rw [if_pos hE.2.2.1, if_pos hE.2.2.1, if_pos (rl_heldE hE), nI_clamp (by omega)]
  have hT := rl_RelT h
  obtain ⟨lo, lk⟩ := rl_look s r hT
  generalize cy_Survey_lookOver s = X at lk ⊢
  generalize md_look r = Y at lk ⊢
  have cut0 : ∀ (S : cy_S), (cy_rcut S 0 0).1 0 = [] := fun S => rfl
  rcases lk with hF | ⟨hn4, hn, x1, x2, x3, x4, x5⟩
  · obtain ⟨n1, n2, n3, n4, n5, n6⟩ := rl_ft_ne hF
    rw [if_neg n1, if_neg n3, if_neg n3]
    refine ⟨⟨lo, trivial⟩, n4, rl_keep h (fun a ha => (rl_un (by omega)).trans (n5.1 a (Or.inr ha))) n5.2.1 n5.2.2 (fun a z0 z6 z7 z8 => n6.1 a z6 z7 z8) (fun a ha => (rl_un (by omega)).trans (n6.2 a (Or.inr ha))) ?_⟩
    exact ⟨rfl, Nat.zero_le _, fun j hj => absurd hj (Nat.not_lt_zero _)⟩
  · have y0 : Y.2.2 2 ≤ 0 := by rw [x4]; decide
    rw [if_pos x1, if_pos y0, if_pos y0]
    obtain ⟨⟨f1, f2, f3⟩, ⟨m1, m2⟩, l1, l2, l3, nn, vr⟩ := x2
    rw [nn]
    generalize hnl : (s.1 0).length = n at *
    generalize hr1 : md_sa (md_ss Y.2 0 0) 2 (nI j) (nI n) = r1
    have hcj : (nI j).toNatClampNeg = j := nI_clamp (by omega)
    have q1 : r1.2 1 = nI n := by rw [← hr1]; exact nn
    rw [q1, nI_toInt (by omega), show (((n : Nat) : Int).toNat + 2) = n + 2 by omega]
    obtain ⟨oa, a1, a2, a3, a4⟩ := rl_load_a n j hn hj (n + 2) r1 0 q1 (Nat.zero_le _) (by omega)
    rw [show md_load_a (n + 2) r1 0 (nI j) = md_load_a (n + 2) r1 (nI 0) (nI j) from congrArg (fun z => md_load_a (n + 2) r1 z (nI j)) (show (0 : Int32) = nI 0 from rfl), show md_load_a_ok (n + 2) r1 0 (nI j) = md_load_a_ok (n + 2) r1 (nI 0) (nI j) from congrArg (fun z => md_load_a_ok (n + 2) r1 z (nI j)) (show (0 : Int32) = nI 0 from rfl)]
    generalize md_load_a (n + 2) r1 (nI 0) (nI j) = r2 at a1 a2 a3 a4 ⊢
    obtain ⟨ob, b1, b2, b3, b4⟩ := rl_load_b j hj md_k17 r2 0 (by decide) (by decide)
    rw [show md_load_b md_k17 r2 0 (nI j) = md_load_b md_k17 r2 (nI 0) (nI j) from congrArg (fun z => md_load_b md_k17 r2 z (nI j)) (show (0 : Int32) = nI 0 from rfl), show md_load_b_ok md_k17 r2 0 (nI j) = md_load_b_ok md_k17 r2 (nI 0) (nI j) from congrArg (fun z => md_load_b_ok md_k17 r2 z (nI j)) (show (0 : Int32) = nI 0 from rfl)]
    generalize md_load_b md_k17 r2 (nI 0) (nI j) = r3 at b1 b2 b3 b4 ⊢
    obtain ⟨t1, t2, t6, t7, t8⟩ := rl_take3 X.2 j hj
    have hH : rl_H s r := ⟨hT, by omega, by omega⟩
    refine ⟨⟨lo, vp_in_nI hj (by decide), oa, ob, trivial⟩, ?_, ?_⟩
    · show (cy_Code_take X.2 j).2.2.2.1 = Y.1; rw [t1]; exact x3
    -- the new states
    generalize hs' : cy_rcut (cy_Code_take X.2 j) 0 0 = s'
    have g0 : s'.1 0 = [] := by rw [← hs']; rfl
    have go : ∀ a, 4 ≤ a → a ≠ 6 + 4 * j → a ≠ 7 + 4 * j → a ≠ 8 + 4 * j → s'.1 a = s.1 a := fun a h4 h6 h7 h8 => by
      rw [← hs']; exact (rl_un (by omega)).trans ((t2 a h6 h7 h8).trans (f1 a (Or.inr h4)))
    have g6 : s'.1 (6 + 4 * j) = s.1 0 := by
      rw [← hs']; refine (rl_un (by omega)).trans (t6.trans ?_); rw [f1 0 (Or.inl rfl)]; exact rl_take (by omega)
    have g7 : s'.1 (7 + 4 * j) = X.2.1 2 := by
      rw [← hs']; refine (rl_un (by omega)).trans (t7.trans ?_); exact rl_take (by omega)
    have g8 : s'.1 (8 + 4 * j) = List.replicate 16 0 := by
      rw [← hs']; exact (rl_un (by omega)).trans t8
    have gq : s'.2.2.1 = s.2.2.1 := by rw [← hs']; show (cy_Code_take X.2 j).2.2.1 = _; rw [t1]; exact f3
    have e2 : ∀ a, a = 0 ∨ 4 ≤ a → a ≠ 0 → r3.2 a = r.2 a := fun a ha hne => by
      rw [b1, a1, ← hr1]; exact (rl_un hne).trans (m2 a ha)
    have e20 : r3.2 0 = nI 0 := by rw [b1, a1, ← hr1]; rfl
    have ea : ∀ a, a ≠ 4 → a ≠ 1 → a ≠ 3 → a ≠ 2 → a ≠ 6 → a ≠ 7 → a ≠ 8 → r3.1 a = r.1 a := fun a z4 z1 z3 z2 z6 z7 z8 => by
      rw [b2 a z4, a2 a z1 z3, ← hr1]; exact (rl_un z2).trans (m1 a z6 z7 z8)
    have er2 : r3.1 2 = upd (r.1 2) j (nI n) := by
      rw [b2 2 (by decide), a2 2 (by decide) (by decide), ← hr1]
      show upd (Y.2.1 2) (nI j).toNatClampNeg (nI n) = _
      rw [hcj, m1 2 (by decide) (by decide) (by decide)]
    have r1o : ∀ a, a ≠ 2 → r1.1 a = Y.2.1 a := fun a z => by rw [← hr1]; exact rl_un z
    have er4 : ∀ i, (i < 16 * j ∨ 16 * j + 16 ≤ i) → r3.1 4 i = r.1 4 i := fun i hi => by
      rw [b4 i (by omega), a2 4 (by decide) (by decide), r1o 4 (by decide), m1 4 (by decide) (by decide) (by decide)]
    have er1 : ∀ i, (i < 256 * j ∨ 256 * j + 256 ≤ i) → r3.1 1 i = r.1 1 i ∧ r3.1 3 i = r.1 3 i := fun i hi => by
      rw [b2 1 (by decide), b2 3 (by decide), (a4 i (by omega)).1, (a4 i (by omega)).2, r1o 1 (by decide), r1o 3 (by decide), m1 1 (by decide) (by decide) (by decide), m1 3 (by decide) (by decide) (by decide)]; exact ⟨rfl, rfl⟩
    obtain ⟨hB, hK, h5, hst⟩ := hE
    obtain ⟨_, hD, hi, ho, hN⟩ := hB
    refine ⟨fun k hk => ?_, Or.inl ⟨⟨?_, fun k hk => ?_, ?_, ?_, ?_⟩, fun k hk => ?_, ?_, ?_⟩⟩
    · by_cases e : k = j
      · subst e; rw [g6, g7]; intro _; exact x5
      · rw [go _ (by omega) (by omega) (by omega) (by omega), go _ (by omega) (by omega) (by omega) (by omega)]; exact h.1 k hk
    · rw [g0]; exact ⟨e20, Nat.zero_le _, fun i hi => absurd hi (Nat.not_lt_zero _)⟩
    · by_cases e : k = j
      · subst e
        unfold rl_D
        rw [g6, g7, l2, hnl, er2, pk_us]
        refine ⟨hn, rfl, rfl, fun p hp => ?_⟩
        obtain ⟨u1, u3⟩ := a3 p (Nat.zero_le _) hp
        have e0 : r1.1 0 p = r.1 0 p := by rw [r1o 0 (by decide), m1 0 (by decide) (by decide) (by decide)]
        have et : (s.1 0).getD p 0 = r.1 0 p &&& 255 := hT.2.2 p (by omega)
        rw [b2 1 (by decide), b2 3 (by decide), u1, u3, e0, et, rl_8and, rl_and8]
        refine ⟨rfl, rfl, ?_⟩
        rw [r1o 7 (by decide)]; exact (vr p hp).2.symm
      · obtain ⟨d1, d2, d3, d4⟩ := hD k hk
        unfold rl_D
        rw [go _ (by omega) (by omega) (by omega) (by omega), go _ (by omega) (by omega) (by omega) (by omega), er2, pk_un e]
        refine ⟨d1, d2, d3, fun p hp => ?_⟩
        obtain ⟨u1, u3⟩ := er1 (256 * k + p) (by omega)
        rw [u1, u3]; exact d4 p hp
    · rw [go 4 (by decide) (by omega) (by omega) (by omega), ea 14 (by decide) (by decide) (by decide) (by decide) (by decide) (by decide) (by decide), e2 11 (by decide) (by decide)]; exact hi
    · rw [go 5 (by decide) (by omega) (by omega) (by omega), ea 15 (by decide) (by decide) (by decide) (by decide) (by decide) (by decide) (by decide), e2 12 (by decide) (by decide)]; exact ho
    · unfold rl_N; rw [gq, e2 4 (by decide) (by decide), e2 7 (by decide) (by decide), e2 8 (by decide) (by decide), e2 9 (by decide) (by decide)]; exact hN
    · by_cases e : k = j
      · subst e
        rw [g8]; intro _
        exact ⟨List.length_replicate, fun i hi => by rw [b3 i (Nat.zero_le _) hi]; exact rl_gR hi⟩
      · rw [go _ (by omega) (by omega) (by omega) (by omega), go _ (by omega) (by omega) (by omega) (by omega)]
        intro hl
        obtain ⟨u1, u2⟩ := hK k hk hl
        exact ⟨u1, fun i hi => by rw [er4 _ (by omega)]; exact u2 i hi⟩
    · rw [e2 5 (by decide) (by decide)]; exact h5
    · rw [gq, e2 6 (by decide) (by decide)]; exact hst
theorem rl_sim : cy_Sim rl_Rel :=
  ⟨rl_start, rl_feed, rl_end, rl_poke, rl_load, rl_begin, rl_go, rl_state, rl_stack, rl_local, rl_cell, rl_out, rl_height, rl_size⟩
