theorem rl_D_c {s s' : cy_S} {r r' : md_S} {k : Nat} (h6 : s'.1 (6 + 4 * k) = s.1 (6 + 4 * k)) (h7 : s'.1 (7 + 4 * k) = s.1 (7 + 4 * k)) (e1 : r'.1 1 = r.1 1) (e2 : r'.1 2 = r.1 2) (e3 : r'.1 3 = r.1 3) (h : rl_D s r k) : rl_D s' r' k := by
  unfold rl_D; rw [h6, h7, e1, e2, e3]; exact h
theorem rl_K_c {s s' : cy_S} {o : Nat} {g g' : Nat → Int32} (h6 : ∀ k, k < 8 → s'.1 (6 + 4 * k) = s.1 (6 + 4 * k)) (ho : ∀ k, k < 8 → s'.1 (o + 4 * k) = s.1 (o + 4 * k)) (e : g' = g) (h : rl_K s o g) : rl_K s' o g' := by
  intro k hk; rw [h6 k hk, ho k hk, e]; exact h k hk
theorem rl_I_c {s s' : cy_S} (h6 : ∀ k, k < 8 → s'.1 (6 + 4 * k) = s.1 (6 + 4 * k)) (h7 : ∀ k, k < 8 → s'.1 (7 + 4 * k) = s.1 (7 + 4 * k)) (h : rl_I s) : rl_I s' := by
  intro k hk; rw [h6 k hk, h7 k hk]; exact h k hk
theorem rl_N_c {s s' : cy_S} {r r' : md_S} (h2 : s'.2.2.1 = s.2.2.1) (hq : ∀ a, 4 ≤ a → r'.2 a = r.2 a) (h : rl_N s r) : rl_N s' r' := by
  unfold rl_N; rw [h2, hq 4 (by decide), hq 7 (by decide), hq 8 (by decide), hq 9 (by decide)]; exact h
theorem rl_F_c {s s' : cy_S} {r r' : md_S} {j : Nat} (h1 : s'.2.1 j = s.2.1 j) (h42 : s'.1 (42 + 2 * j) = s.1 (42 + 2 * j)) (h43 : s'.1 (43 + 2 * j) = s.1 (43 + 2 * j)) (e9 : r'.1 9 j = r.1 9 j) (e10 : r'.1 10 j = r.1 10 j) (e11 : r'.1 11 j = r.1 11 j) (e12 : ∀ i, i < 8 → r'.1 12 (8 * j + i) = r.1 12 (8 * j + i)) (e13 : ∀ i, i < 8 → r'.1 13 (8 * j + i) = r.1 13 (8 * j + i)) (h : rl_F s r j) : rl_F s' r' j := by
  unfold rl_F; rw [h1, h42, h43, e9, e10, e11]
  obtain ⟨a1, a2, a3, a4, a5, a6, a7, a8⟩ := h
  exact ⟨a1, a2, a3, a4, a5, fun i hi => by rw [e12 i (by omega)]; exact a6 i hi, a7, fun i hi => by rw [e13 i hi]; exact a8 i hi⟩
theorem rl_keep {s s' : cy_S} {r r' : md_S} (h : rl_Rel s r) (hs : ∀ a, 4 ≤ a → s'.1 a = s.1 a) (h1 : s'.2.1 = s.2.1) (h2 : s'.2.2.1 = s.2.2.1) (hr : ∀ a, a ≠ 0 → a ≠ 6 → a ≠ 7 → a ≠ 8 → r'.1 a = r.1 a) (hq : ∀ a, 4 ≤ a → r'.2 a = r.2 a) (hT : rl_T (s'.1 0) (r'.1 0) (r'.2 0) 300) : rl_Rel s' r' := by
  have hB : rl_B s r → rl_B s' r' := fun ⟨_, hD, hi, ho, hN⟩ => by
    refine ⟨hT, fun k hk => rl_D_c (hs _ (by omega)) (hs _ (by omega)) (hr _ (by decide) (by decide) (by decide) (by decide)) (hr _ (by decide) (by decide) (by decide) (by decide)) (hr _ (by decide) (by decide) (by decide) (by decide)) (hD k hk), ?_, ?_, rl_N_c h2 hq hN⟩
    · rw [hs 4 (by decide), hr 14 (by decide) (by decide) (by decide) (by decide), hq 11 (by decide)]; exact hi
    · rw [hs 5 (by decide), hr 15 (by decide) (by decide) (by decide) (by decide), hq 12 (by decide)]; exact ho
  have hK : ∀ o, 4 ≤ o → ∀ a, a ≠ 0 → a ≠ 6 → a ≠ 7 → a ≠ 8 → rl_K s o (r.1 a) → rl_K s' o (r'.1 a) := fun o ho a g1 g2 g3 g4 hk => rl_K_c (fun k _ => hs _ (by omega)) (fun k _ => hs _ (by omega)) (hr a g1 g2 g3 g4) hk
  refine ⟨rl_I_c (fun k _ => hs _ (by omega)) (fun k _ => hs _ (by omega)) h.1, h.2.imp ?_ ?_⟩
  · intro ⟨b, k, c, d⟩
    refine ⟨hB b, hK 8 (by decide) 4 (by decide) (by decide) (by decide) (by decide) k, ?_, ?_⟩
    · rw [hq 5 (by decide)]; exact c
    · rw [h2, hq 6 (by decide)]; exact d
  · intro ⟨⟨b, k8, k9, c1, c2, c3, c4, c5, c6, c7⟩, J⟩
    refine ⟨⟨hB b, hK 8 (by decide) 4 (by decide) (by decide) (by decide) (by decide) k8, hK 9 (by decide) 5 (by decide) (by decide) (by decide) (by decide) k9, ?_, ?_, ?_, ?_, ?_, ?_, ?_⟩, ?_⟩
    · rw [h2]; exact c1
    · rw [h2]; exact c2
    · rw [hq 5 (by decide)]; exact c3
    · rw [hq 6 (by decide)]; exact c4
    · rw [h2]; exact c5
    · rw [h2, hq 10 (by decide)]; exact c6
    · intro j hj
      rw [h2] at hj
      exact rl_F_c (by rw [h1]) (hs _ (by omega)) (hs _ (by omega)) (by rw [hr 9 (by decide) (by decide) (by decide) (by decide)]) (by rw [hr 10 (by decide) (by decide) (by decide) (by decide)]) (by rw [hr 11 (by decide) (by decide) (by decide) (by decide)]) (fun i _ => by rw [hr 12 (by decide) (by decide) (by decide) (by decide)]) (fun i _ => by rw [hr 13 (by decide) (by decide) (by decide) (by decide)]) (c7 j hj)
    · intro j
      rw [h1, h2, hs (6 + 4 * _) (by omega), hs (7 + 4 * _) (by omega), hs (42 + 2 * j) (by omega)]
      exact J j
theorem rl_RelB {s : cy_S} {r : md_S} (h : rl_Rel s r) : rl_B s r := h.2.elim (fun e => e.1) (fun m => m.1.1)
theorem rl_RelK {s : cy_S} {r : md_S} (h : rl_Rel s r) : rl_K s 8 (r.1 4) := h.2.elim (fun e => e.2.1) (fun m => m.1.2.1)
theorem rl_RelT {s : cy_S} {r : md_S} (h : rl_Rel s r) : rl_T (s.1 0) (r.1 0) (r.2 0) 300 := (rl_RelB h).1
theorem rl_gA {xs : List Int32} {b : Int32} {j : Nat} (h : j < xs.length) : (xs ++ [b]).getD j 0 = xs.getD j 0 := by
  rw [List.getD_eq_getElem?_getD, List.getD_eq_getElem?_getD, List.getElem?_append_left h]
theorem rl_gE {xs : List Int32} {b : Int32} : (xs ++ [b]).getD xs.length 0 = b := by
  simp [List.getD_eq_getElem?_getD]
theorem rl_gS {xs : List Int32} {b : Int32} {j : Nat} (h : j < xs.length) : (xs.set j b).getD j 0 = b := by
  simp [List.getD_eq_getElem?_getD, h]
theorem rl_gN {xs : List Int32} {b : Int32} {j i : Nat} (h : i ≠ j) : (xs.set j b).getD i 0 = xs.getD i 0 := by
  simp [List.getD_eq_getElem?_getD, List.getElem?_set, Ne.symm h]
theorem rl_gO {xs : List Int32} {b : Int32} {j : Nat} (h : j < xs.length) : xs.getD j b = xs.getD j 0 := by
  simp [List.getD_eq_getElem?_getD, h]
theorem rl_gX {xs : List Int32} {b : Int32} {j : Nat} (h : xs.length ≤ j) : xs.getD j b = b := by
  simp [List.getD_eq_getElem?_getD, List.getElem?_eq_none h]
theorem rl_T_add {xs : List Int32} {f : Nat → Int32} {n b w : Int32} {cap : Nat} (h : rl_T xs f n cap) (hl : xs.length < cap) (hc : cap ≤ 300) (hb : b = w &&& 255) : vp_in n cap ∧ rl_T (cy_ladd cap xs b) (upd f n.toNatClampNeg w) (n + 1) cap ∧ (cy_ladd cap xs b).length = xs.length + 1 := by
  obtain ⟨hn, h1, h2⟩ := h
  have e : cy_ladd cap xs b = xs ++ [b] := if_pos hl
  have el : (cy_ladd cap xs b).length = xs.length + 1 := by rw [e]; simp
  refine ⟨by rw [hn]; exact vp_in_nI hl (by omega), ⟨by rw [hn, nI_1, el], by omega, fun j hj => ?_⟩, el⟩
  rw [hn, nI_clamp (by omega), e]
  rw [el] at hj
  by_cases hjj : j < xs.length
  · rw [pk_un (by omega), rl_gA hjj]; exact h2 j hjj
  · have : j = xs.length := by omega
    subst this
    rw [pk_us, ← hb, rl_gE]
theorem rl_four (s : cy_S) (r : md_S) (v : Int32) (h : rl_T (s.1 0) (r.1 0) (r.2 0) 300) (hl : (s.1 0).length + 4 ≤ 300) : md_putFour_ok r v ∧ rl_T ((cy_Yard_addBytes s v).1 0) ((md_putFour r v).1 0) ((md_putFour r v).2 0) 300 ∧ ((cy_Yard_addBytes s v).1 0).length = (s.1 0).length + 4 ∧ (∀ a, 4 ≤ a → (cy_Yard_addBytes s v).1 a = s.1 a) ∧ (cy_Yard_addBytes s v).2 = s.2 ∧ (∀ a, a ≠ 0 → (md_putFour r v).1 a = r.1 a) ∧ (∀ a, 4 ≤ a → (md_putFour r v).2 a = r.2 a) := by
  obtain ⟨i1, T1, l1⟩ := rl_T_add h (by omega) (by decide) (rl_sh v (24 &&& 31) 24 24 (by decide) (by decide) (by decide))
  obtain ⟨i2, T2, l2⟩ := rl_T_add T1 (by omega) (by decide) (rl_sh v (16 &&& 31) 16 16 (by decide) (by decide) (by decide))
  obtain ⟨i3, T3, l3⟩ := rl_T_add T2 (by omega) (by decide) (rl_sh v (8 &&& 31) 8 8 (by decide) (by decide) (by decide))
  obtain ⟨i4, T4, l4⟩ := rl_T_add T3 (by omega) (by decide) (rl_sh v (0 &&& 31) 0 0 (by decide) (by decide) (by decide))
  refine ⟨⟨i1, i2, i3, i4, trivial⟩, T4, ?_, fun a ha => ?_, rfl, fun a ha => ?_, fun a ha => ?_⟩
  · exact l4.trans (by rw [l3, l2, l1])
  · simp only [cy_Yard_addBytes, cy_radd, cy_sr, rl_uu]; exact rl_un (by omega)
  · simp only [md_putFour, md_sa, md_ss, rl_uu]; exact rl_un ha
  · simp only [md_putFour, md_sa, md_ss, rl_uu]; exact rl_un (by omega)
theorem rl_feed (s : cy_S) (r : md_S) (a b c d e : Int32) (h : rl_Rel s r) : md_feed_ok r a b c d e ∧ (cy_Yard_feed s a b c d e).1 = (md_feed r a b c d e).1 ∧ rl_Rel (cy_Yard_feed s a b c d e).2 (md_feed r a b c d e).2 := by
  have hT := rl_RelT h
  unfold md_feed_ok cy_Yard_feed md_feed
  rw [hT.1]
  have hl := hT.2.1
  by_cases hc : nI (s.1 0).length + 20 ≤ 300
  · rw [if_pos hc, if_pos hc, if_pos hc]
    have hc : (s.1 0).length + 20 ≤ 300 := by
      rw [show (20 : Int32) = nI 20 from rfl, nI_add] at hc
      exact (rl_leI rfl (show (300 : Int32) = nI 300 from rfl) (by omega) (by decide)).1 hc
    obtain ⟨o1, T1, l1, x1, y1, z1, w1⟩ := rl_four s r a hT (by omega)
    obtain ⟨o2, T2, l2, x2, y2, z2, w2⟩ := rl_four _ _ b T1 (by omega)
    obtain ⟨o3, T3, l3, x3, y3, z3, w3⟩ := rl_four _ _ c T2 (by omega)
    obtain ⟨o4, T4, l4, x4, y4, z4, w4⟩ := rl_four _ _ d T3 (by omega)
    obtain ⟨o5, T5, l5, x5, y5, z5, w5⟩ := rl_four _ _ e T4 (by omega)
    refine ⟨⟨o1, o2, o3, o4, o5, trivial⟩, T5.1.symm, rl_keep h (fun a ha => ?_) ?_ ?_ (fun a ha _ _ _ => ?_) (fun a ha => ?_) T5⟩
    · rw [x5 a ha, x4 a ha, x3 a ha, x2 a ha, x1 a ha]
    · rw [y5, y4, y3, y2, y1]
    · rw [y5, y4, y3, y2, y1]
    · rw [z5 a ha, z4 a ha, z3 a ha, z2 a ha, z1 a ha]
    · rw [w5 a ha, w4 a ha, w3 a ha, w2 a ha, w1 a ha]
  · rw [if_neg hc, if_neg hc, if_neg hc]
    exact ⟨trivial, rfl, h⟩
theorem rl_T_cut {xs : List Int32} {f : Nat → Int32} {n : Int32} {cap : Nat} (h : rl_T xs f n cap) {j : Nat} (hj : j ≤ xs.length) (hc : cap ≤ 300) : rl_T (cy_lcut xs (nI j)) f (nI j) cap := by
  obtain ⟨hn, h1, h2⟩ := h
  have e : cy_lcut xs (nI j) = xs.take j := by unfold cy_lcut; rw [nI_clamp (by omega)]
  have el : (xs.take j).length = j := by rw [List.length_take]; omega
  rw [e]
  refine ⟨by rw [el], by omega, fun i hi => ?_⟩
  rw [el] at hi
  rw [← h2 i (by omega)]
  simp [List.getD_eq_getElem?_getD, List.getElem?_take, hi]
theorem rl_end (s : cy_S) (r : md_S) (n : Int32) (h : rl_Rel s r) : (cy_Yard_end s n).1 = (md_end r n).1 ∧ rl_Rel (cy_Yard_end s n).2 (md_end r n).2 := by
  have hT := rl_RelT h
  unfold cy_Yard_end md_end
  rw [hT.1]
  by_cases h0 : n < 0
  · rw [if_pos h0, if_pos h0]; exact ⟨rfl, h⟩
  · rw [if_neg h0, if_neg h0]
    by_cases h1 : n ≤ nI (s.1 0).length
    · rw [if_pos h1, if_pos h1]
      obtain ⟨j, hj, rfl⟩ := nI_of2 (nI_toInt (by have := hT.2.1; omega)) h0 h1
      exact ⟨rfl, rl_keep h (fun a ha => rl_un (by omega)) rfl rfl (fun a ha _ _ _ => rfl) (fun a ha => rl_un (by omega)) (rl_T_cut hT hj (by decide))⟩
    · rw [if_neg h1, if_neg h1]; exact ⟨rfl, h⟩
theorem rl_poke (s : cy_S) (r : md_S) (i v : Int32) (h : rl_Rel s r) : md_poke_ok r i v ∧ (cy_Yard_poke s i v).1 = (md_poke r i v).1 ∧ rl_Rel (cy_Yard_poke s i v).2 (md_poke r i v).2 := by
  have hT := rl_RelT h
  have hl := hT.2.1
  unfold md_poke_ok cy_Yard_poke md_poke cy_rat cy_la cy_rput cy_lput
  rw [hT.1]
  by_cases h0 : i < 0
  · rw [if_pos h0, if_pos h0, if_pos h0, if_pos h0]
    refine ⟨trivial, rfl, rl_keep h (fun a ha => rl_un (by omega)) rfl rfl (fun a ha _ _ _ => rfl) (fun a ha => rfl) hT⟩
  · rw [if_neg h0, if_neg h0, if_neg h0, if_neg h0]
    obtain ⟨j, hj, rfl⟩ := nI_of h0
    rw [nI_clamp hj]
    by_cases h1 : j < (s.1 0).length
    · have h2 : nI j < nI (s.1 0).length := nI_lt h1 (by omega)
      rw [if_pos h2, if_pos h2]
      refine ⟨⟨vp_in_nI (by omega) (by decide), vp_in_nI (by omega) (by decide), trivial⟩, ?_, rl_keep h (fun a ha => rl_un (by omega)) rfl rfl (fun a ha _ _ _ => rl_un ha) (fun a ha => rfl) ⟨?_, ?_, fun q hq => ?_⟩⟩
      · rw [← hT.2.2 j h1]; simp [List.getD_eq_getElem?_getD, h1]
      · show r.2 0 = nI ((s.1 0).set j _).length; rw [List.length_set]; exact hT.1
      · show ((s.1 0).set j _).length ≤ 300; rw [List.length_set]; exact hl
      · show ((s.1 0).set j _).getD q 0 = upd (r.1 0) (nI j).toNatClampNeg _ q &&& 255
        rw [nI_clamp hj]
        have hq : q < ((s.1 0).set j (v &&& 255)).length := hq
        rw [List.length_set] at hq
        by_cases e : q = j
        · subst e; rw [pk_us, rl_88, rl_and8, rl_gS h1]
        · rw [pk_un e, ← hT.2.2 q hq, rl_gN e]
    · have h2 : ¬ nI j < nI (s.1 0).length := nI_nlt (by omega) hj
      rw [if_neg h2, if_neg h2]
      have es : (s.1 0).set j (v &&& 255) = s.1 0 := List.set_eq_of_length_le (by omega)
      refine ⟨trivial, ?_, rl_keep h (fun a ha => rl_un (by omega)) rfl rfl (fun a ha _ _ _ => rfl) (fun a ha => rfl) ?_⟩
      · simp [List.getD_eq_getElem?_getD, h1, List.getElem?_eq_none (show (s.1 0).length ≤ j by omega)]
      · show rl_T ((s.1 0).set j (v &&& 255)) _ _ _; rw [es]; exact hT
