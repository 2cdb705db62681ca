theorem rl_gR {n i : Nat} {v d : Int32} (h : i < n) : (List.replicate n v).getD i d = v := by
  simp [List.getD_eq_getElem?_getD, List.getElem?_replicate, h]
theorem rl_take {xs : List Int32} {n : Nat} (h : xs.length ≤ n) : xs.take n = xs := List.take_of_length_le h
theorem rl_begin_core (s : cy_S) (r : md_S) (k b : Nat) (hB : rl_B s r) (hI : rl_I s) (hK : rl_K s 8 (r.1 4)) (hk : k < 8) (hb : b < 3) (hl : 0 < (s.1 (6 + 4 * k)).length) :
    md_begin_a_ok md_k129 r 0 ∧ md_begin_b_ok (((md_ss (md_begin_a md_k129 r 0) 11 ((md_begin_a md_k129 r 0).2 0)).2 0).toInt.toNat + 2) (md_ss (md_begin_a md_k129 r 0) 11 ((md_begin_a md_k129 r 0).2 0)) 0 ∧
    md_enter_ok (md_ss (md_ss (md_ss (md_ss (md_ss (md_ss (md_ss (md_ss (md_ss (md_begin_b (((md_ss (md_begin_a md_k129 r 0) 11 ((md_begin_a md_k129 r 0).2 0)).2 0).toInt.toNat + 2) (md_ss (md_begin_a md_k129 r 0) 11 ((md_begin_a md_k129 r 0).2 0)) 0) 0 0) 12 0) 4 1) 5 1) 6 0) 7 0) 8 0) 9 0) 10 0) (nI k) (nI b) ∧
    rl_Rel (cy_rcut (cy_s_done (cy_s_reason (cy_s_result (cy_s_status (cy_s_begun (cy_s_work (cy_Frame_enter (cy_rcut (cy_rlike (cy_Shelf_keepCells s) 4 0) 5 0) 0 k (nI b)) 0) 1) 1) 0) 0) 0) 0 0)
      (md_enter (md_ss (md_ss (md_ss (md_ss (md_ss (md_ss (md_ss (md_ss (md_ss (md_begin_b (((md_ss (md_begin_a md_k129 r 0) 11 ((md_begin_a md_k129 r 0).2 0)).2 0).toInt.toNat + 2) (md_ss (md_begin_a md_k129 r 0) 11 ((md_begin_a md_k129 r 0).2 0)) 0) 0 0) 12 0) 4 1) 5 1) 6 0) 7 0) 8 0) 9 0) 10 0) (nI k) (nI b)) := by
  obtain ⟨hT, hD, -, -, -⟩ := hB
  obtain ⟨t1, t2, t3⟩ := hT
  rw [show md_begin_a md_k129 r 0 = md_begin_a md_k129 r (nI 0) from congrArg (md_begin_a md_k129 r) (show (0 : Int32) = nI 0 from rfl), show md_begin_a_ok md_k129 r 0 = md_begin_a_ok md_k129 r (nI 0) from congrArg (md_begin_a_ok md_k129 r) (show (0 : Int32) = nI 0 from rfl)]
  obtain ⟨oa, a1, a2, a3⟩ := rl_begin_a md_k129 r 0 (by decide) (by decide)
  generalize md_begin_a md_k129 r (nI 0) = r1 at a1 a2 a3 ⊢
  have hz : r1.2 0 = nI (s.1 0).length := by rw [a1]; exact t1
  generalize hr2 : md_ss r1 11 (r1.2 0) = r2
  have q0 : r2.2 0 = nI (s.1 0).length := by rw [← hr2]; exact hz
  have q11 : r2.2 11 = nI (s.1 0).length := by rw [← hr2]; exact hz
  have q1 : r2.1 = r1.1 := by rw [← hr2]; rfl
  rw [q0, nI_toInt (by omega)]
  obtain ⟨ob, b1, b2, b3⟩ := rl_begin_b (s.1 0).length t2 ((((s.1 0).length : Nat) : Int).toNat + 2) r2 0 q0 (Nat.zero_le _) (by omega)
  rw [show md_begin_b ((((s.1 0).length : Nat) : Int).toNat + 2) r2 0 = md_begin_b ((((s.1 0).length : Nat) : Int).toNat + 2) r2 (nI 0) from congrArg (md_begin_b _ r2) (show (0 : Int32) = nI 0 from rfl), show md_begin_b_ok ((((s.1 0).length : Nat) : Int).toNat + 2) r2 0 = md_begin_b_ok ((((s.1 0).length : Nat) : Int).toNat + 2) r2 (nI 0) from congrArg (md_begin_b_ok _ r2) (show (0 : Int32) = nI 0 from rfl)]
  generalize md_begin_b ((((s.1 0).length : Nat) : Int).toNat + 2) r2 (nI 0) = r3 at b1 b2 b3 ⊢
  generalize hr4 : md_ss (md_ss (md_ss (md_ss (md_ss (md_ss (md_ss (md_ss (md_ss r3 0 0) 12 0) 4 1) 5 1) 6 0) 7 0) 8 0) 9 0) 10 0 = r4
  have c0 : r4.1 = r3.1 := by rw [← hr4]; rfl
  have c10 : r4.2 10 = nI 0 := by rw [← hr4]; rfl
  obtain ⟨oe, e1, e2, e3, e4, e5, e6, e7, e8, e9⟩ := rl_enter r4 0 k b (by decide) hk (by omega) c10
  generalize md_enter r4 (nI k) (nI b) = r5 at e1 e2 e3 e4 e5 e6 e7 e8 e9 ⊢
  refine ⟨oa, ob, oe, ?_⟩
  -- the class's state
  obtain ⟨k1, k2, k3⟩ := rl_keepCells s
  generalize cy_Shelf_keepCells s = s1 at k1 k2 k3 ⊢
  generalize hs2 : cy_rcut (cy_rlike s1 4 0) 5 0 = s2
  have u4 : s2.1 4 = s.1 0 := by
    rw [← hs2]; show (s1.1 0).take 300 = _; rw [k2 0 (fun k hk => by omega), rl_take t2]
  have u5 : s2.1 5 = [] := by rw [← hs2]; rfl
  have ua : ∀ a, a ≠ 4 → a ≠ 5 → s2.1 a = s1.1 a := fun a h1 h2 => by rw [← hs2]; exact (rl_un h2).trans (rl_un h1)
  have u6 : ∀ k, k < 8 → s2.1 (6 + 4 * k) = s.1 (6 + 4 * k) := fun k _ => (ua _ (by omega) (by omega)).trans (k2 _ (fun _ _ => by omega))
  have u7 : ∀ k, k < 8 → s2.1 (7 + 4 * k) = s.1 (7 + 4 * k) := fun k _ => (ua _ (by omega) (by omega)).trans (k2 _ (fun _ _ => by omega))
  have u8 : ∀ k, k < 8 → s2.1 (8 + 4 * k) = s.1 (8 + 4 * k) := fun k _ => (ua _ (by omega) (by omega)).trans (k2 _ (fun _ _ => by omega))
  have u9 : ∀ k, k < 8 → s2.1 (9 + 4 * k) = (s.1 (8 + 4 * k)).take 16 := fun k hk => (ua _ (by omega) (by omega)).trans (k3 k hk)
  obtain ⟨f1, f2, f3, f4, f5⟩ := rl_enterC s2 0 k b (by omega)
  generalize cy_Frame_enter s2 0 k (nI b) = s3 at f1 f2 f3 f4 f5 ⊢
  generalize hs4 : cy_rcut (cy_s_done (cy_s_reason (cy_s_result (cy_s_status (cy_s_begun (cy_s_work s3 0) 1) 1) 0) 0) 0) 0 0 = s4
  have w0 : s4.1 0 = [] := by rw [← hs4]; rfl
  have wa : ∀ a, a ≠ 0 → s4.1 a = s3.1 a := fun a h => by rw [← hs4]; exact rl_un h
  have w1 : s4.2.1 = s3.2.1 := by rw [← hs4]; rfl
  have w2 : s4.2.2.1 = (0, 1, 1, 0, 0, 0) := by rw [← hs4]; rfl
  have v6 : ∀ k, k < 8 → s4.1 (6 + 4 * k) = s.1 (6 + 4 * k) := fun k hk => (wa _ (by omega)).trans ((f3 _ (by omega) (by omega)).trans (u6 k hk))
  have v7 : ∀ k, k < 8 → s4.1 (7 + 4 * k) = s.1 (7 + 4 * k) := fun k hk => (wa _ (by omega)).trans ((f3 _ (by omega) (by omega)).trans (u7 k hk))
  have v8 : ∀ k, k < 8 → s4.1 (8 + 4 * k) = s.1 (8 + 4 * k) := fun k hk => (wa _ (by omega)).trans ((f3 _ (by omega) (by omega)).trans (u8 k hk))
  have v9 : ∀ k, k < 8 → s4.1 (9 + 4 * k) = (s.1 (8 + 4 * k)).take 16 := fun k hk => (wa _ (by omega)).trans ((f3 _ (by omega) (by omega)).trans (u9 k hk))
  have v4 : s4.1 4 = s.1 0 := (wa _ (by omega)).trans ((f3 _ (by omega) (by omega)).trans u4)
  have v5 : s4.1 5 = [] := (wa _ (by omega)).trans ((f3 _ (by omega) (by omega)).trans u5)
  have v42 : s4.1 42 = [] := (wa 42 (by omega)).trans f4
  have v43 : s4.1 43 = List.replicate 8 0 := (wa 43 (by omega)).trans f5
  have vf : s4.2.1 0 = (k, (s.1 (6 + 4 * k)).getD b 0) := by rw [w1, f2, rl_us, u6 k hk]
  -- the reference's
  have ra : ∀ a, (a < 9 ∨ 13 < a) → a ≠ 5 → a ≠ 14 → r5.1 a = r.1 a := fun a h1 h2 h3 => by
    rw [e3 a h1, c0, b2 a h3, q1, a2 a h2]
  have r55 : ∀ j, j < 128 → r5.1 5 j = r.1 4 j := fun j hj => by
    rw [e3 5 (by decide), c0, b2 5 (by decide), q1, a3 j, if_pos ⟨Nat.zero_le _, hj⟩]
  have r14 : ∀ j, j < (s.1 0).length → r5.1 14 j = (r.1 0 j).toInt8.toInt32 := fun j hj => by
    rw [e3 14 (by decide), c0, b3 j, if_pos ⟨Nat.zero_le _, hj⟩, q1, a2 0 (by decide)]
  have r11 : r5.2 11 = nI (s.1 0).length := by
    rw [e1 11 (by decide), ← hr4]; show r3.2 11 = _; rw [b1, q11]
  have rq : ∀ a v, a ≠ 10 → r4.2 a = v → r5.2 a = v := fun a v h1 h2 => (e1 a h1).trans h2
  obtain ⟨s1', s2', s3'⟩ := hI k hk hl
  obtain ⟨p, hp, hp1, hp2⟩ := s2' b hb
  obtain ⟨d1, d2, d3, d4⟩ := hD k hk
  refine ⟨rl_I_c v6 v7 hI, Or.inr ⟨⟨⟨⟨?_, ?_, ?_⟩, fun j hj => rl_D_c (v6 j hj) (v7 j hj) (ra 1 (by decide) (by decide) (by decide)) (ra 2 (by decide) (by decide) (by decide)) (ra 3 (by decide) (by decide) (by decide)) (hD j hj), ⟨?_, ?_, ?_⟩, ⟨?_, ?_, ?_⟩, ?_⟩, rl_K_c v6 v8 (ra 4 (by decide) (by decide) (by decide)) hK, ?_, ?_, ?_, ?_, ?_, ?_, ?_, ?_⟩, ?_⟩⟩
  · rw [w0]; exact rq 0 0 (by decide) (by rw [← hr4]; rfl)
  · rw [w0]; decide
  · rw [w0]; intro j hj; exact absurd hj (Nat.not_lt_zero _)
  · rw [v4]; exact r11
  · rw [v4]; exact t2
  · rw [v4]; intro j hj; rw [r14 j hj, rl_and8]; exact t3 j hj
  · rw [v5]; exact rq 12 0 (by decide) (by rw [← hr4]; rfl)
  · rw [v5]; decide
  · rw [v5]; intro j hj; exact absurd hj (Nat.not_lt_zero _)
  · unfold rl_N; rw [w2]
    exact ⟨rq 4 1 (by decide) (by rw [← hr4]; rfl), rq 7 0 (by decide) (by rw [← hr4]; rfl), rq 8 0 (by decide) (by rw [← hr4]; rfl), 0, by decide, rq 9 0 (by decide) (by rw [← hr4]; rfl), rfl⟩
  · intro j hj; rw [v6 j hj, v9 j hj]; intro hl
    obtain ⟨g1, g2⟩ := hK j hj hl
    rw [rl_take (by omega)]
    exact ⟨g1, fun i hi => by rw [r55 _ (by omega)]; exact g2 i hi⟩
  · rw [w2]
  · rw [w2]
  · exact rq 5 1 (by decide) (by rw [← hr4]; rfl)
  · exact rq 6 0 (by decide) (by rw [← hr4]; rfl)
  · rw [w2]; decide
  · rw [w2]; exact e2
  · rw [w2]; intro j hj
    have : j = 0 := by omega
    subst this
    unfold rl_F
    rw [vf, show 42 + 2 * 0 = 42 from rfl, show 43 + 2 * 0 = 43 from rfl, v42, v43]
    refine ⟨hk, e4, ?_, e6, by decide, fun i hi => absurd hi (Nat.not_lt_zero _), List.length_replicate, fun i hi => ?_⟩
    · rw [e5, c0, b2 1 (by decide), q1, a2 1 (by decide)]; exact (d4 b (by omega)).2.1
    · rw [e8 13 i (by decide) hi]; exact rl_gR hi
  · intro j; rw [w2]; intro hj
    have : j = 0 := by omega
    subst this
    rw [vf, show 42 + 2 * 0 = 42 from rfl, v42, v6 k hk, v7 k hk]
    exact ⟨hl, p, hp, hp1, hp2⟩
theorem rl_K_back {s : cy_S} {g g4 : Nat → Int32} (hK : rl_K s 9 g) (h : ∀ j, j < 128 → g4 j = g j) : rl_K (cy_Shelf_bringCellsBack s) 8 g4 := by
  obtain ⟨b1, b2, b3⟩ := rl_bringCellsBack s
  intro k hk
  rw [b2 _ (fun _ _ => by omega), b3 k hk]
  intro hl
  obtain ⟨h1, h2⟩ := hK k hk hl
  rw [rl_take (by omega)]
  exact ⟨h1, fun i hi => by rw [h _ (by omega)]; exact h2 i hi⟩
theorem rl_B_back {s : cy_S} {r r' : md_S} (hB : rl_B s r) (hr : ∀ a, a ≠ 4 → r'.1 a = r.1 a) (h2 : r'.2 = r.2) : rl_B (cy_Shelf_bringCellsBack s) r' := by
  obtain ⟨b1, b2, b3⟩ := rl_bringCellsBack s
  obtain ⟨hT, hD, hi, ho, hN⟩ := hB
  refine ⟨?_, fun k hk => rl_D_c (b2 _ (fun _ _ => by omega)) (b2 _ (fun _ _ => by omega)) (hr _ (by decide)) (hr _ (by decide)) (hr _ (by decide)) (hD k hk), ?_, ?_, ?_⟩
  · rw [b2 0 (fun _ _ => by omega), hr 0 (by decide), h2]; exact hT
  · rw [b2 4 (fun _ _ => by omega), hr 14 (by decide), h2]; exact hi
  · rw [b2 5 (fun _ _ => by omega), hr 15 (by decide), h2]; exact ho
  · unfold rl_N; rw [b1, h2]; exact hN
theorem rl_I_back {s : cy_S} (h : rl_I s) : rl_I (cy_Shelf_bringCellsBack s) :=
  rl_I_c (fun k _ => (rl_bringCellsBack s).2.1 _ (fun _ _ => by omega)) (fun k _ => (rl_bringCellsBack s).2.1 _ (fun _ _ => by omega)) h
theorem rl_begin (s : cy_S) (r : md_S) (k b : Int32) (h : rl_Rel s r) : md_begin_ok r k b ∧ (cy_Yard_begin s k b).1 = (md_begin r k b).1 ∧ rl_Rel (cy_Yard_begin s k b).2 (md_begin r k b).2 := by
  have hB := rl_RelB h
  have hK := rl_RelK h
  obtain ⟨_, hD, _⟩ := hB
  unfold md_begin_ok cy_Yard_begin md_begin
  rcases rl_kc k with h0 | ⟨h0, h1⟩ | ⟨j, hj, rfl, h0, h1⟩
  · rw [if_pos h0, if_pos h0, if_pos (show cy_no s k from Or.inl (Or.inl h0))]; exact ⟨trivial, rfl, h⟩
  · rw [if_neg h0, if_neg h0, if_pos h1, if_pos h1, if_pos (show cy_no s k from Or.inl (Or.inr h1))]; exact ⟨trivial, rfl, h⟩
  · obtain ⟨d1, d2, d3, d4⟩ := hD j hj
    rw [if_neg h0, if_neg h0, if_neg h1, if_neg h1]
    by_cases g : (s.1 (6 + 4 * j)).length = 0
    · rw [if_pos ((rl_noN hj d1).2 g), nI_clamp (by omega), d3, g, if_pos (show nI 0 = 0 from rfl), if_pos (show nI 0 = 0 from rfl)]; exact ⟨⟨vp_in_nI hj (by decide), trivial⟩, rfl, h⟩
    · rw [if_neg (fun q => g ((rl_noN hj d1).1 q)), nI_clamp (by omega), d3, if_neg (nI_ne0 (by omega) (by omega)), if_neg (nI_ne0 (by omega) (by omega))]
      by_cases g0 : b < 0
      · rw [if_pos g0, if_pos g0, if_pos g0]; exact ⟨⟨vp_in_nI hj (by decide), trivial⟩, rfl, h⟩
      · rw [if_neg g0, if_neg g0, if_neg g0]
        obtain ⟨q, hq, rfl⟩ := nI_of g0
        by_cases g1 : q < 3
        · have h2 : nI q < 3 := nI_lt g1 (by decide)
          have h3 : nI q ≤ 2 := nI_le (show q ≤ 2 by omega) (by decide)
          rw [if_pos h2, if_pos h3, if_pos h3]
          rcases h.2 with hE | ⟨hM, hJ⟩
          · obtain ⟨c1, c2, c3, c4⟩ := rl_begin_core s r j q hE.1 h.1 hE.2.1 hj g1 (by omega)
            have eu : md_begin_u r = r := if_pos hE.2.2.1
            have ek : md_begin_u_ok r := by unfold md_begin_u_ok; rw [if_pos hE.2.2.1]; trivial
            rw [eu]
            unfold cy_Run_start
            rw [if_pos (rl_heldE hE)]
            exact ⟨⟨vp_in_nI hj (by decide), ek, c1, c2, c3, trivial⟩, rfl, c4⟩
          · obtain ⟨m1, m2, m3, m4, m5, m6, m7⟩ := hM
            obtain ⟨uo, u1, u2, u3⟩ := rl_undo r
            have n5 : ¬ r.2 5 = 0 := by rw [m6]; decide
            have eu : md_begin_u r = md_undo r := if_neg n5
            have ek : md_begin_u_ok r := by unfold md_begin_u_ok; rw [if_neg n5]; exact ⟨uo, trivial⟩
            obtain ⟨c1, c2, c3, c4⟩ := rl_begin_core (cy_Shelf_bringCellsBack s) (md_undo r) j q (rl_B_back m1 u2 u1) (rl_I_back h.1) (rl_K_back m3 u3) hj g1 (by rw [(rl_bringCellsBack s).2.1 _ (fun _ _ => by omega)]; omega)
            rw [eu]
            unfold cy_Run_start
            rw [if_neg (show ¬ cy_Run_isHeld s = 0 by rw [rl_heldM ⟨m1, m2, m3, m4, m5, m6, m7⟩]; decide)]
            exact ⟨⟨vp_in_nI hj (by decide), ek, c1, c2, c3, trivial⟩, rfl, c4⟩
        · have h2 : ¬ nI q < 3 := nI_nlt (show 3 ≤ q by omega) hq
          have h3 : ¬ nI q ≤ 2 := nI_ge (show 2 < q by omega) hq
          rw [if_neg h2, if_neg h3, if_neg h3]; exact ⟨⟨vp_in_nI hj (by decide), trivial⟩, rfl, h⟩
