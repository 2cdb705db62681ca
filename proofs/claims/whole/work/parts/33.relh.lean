theorem rl_pop2 {s : cy_S} {r : md_S} (h : rl_M s r) (hn : 2 ≤ rl_n s) : md_pop_ok r ∧ md_pop_ok (md_pop r).2 ∧ (md_pop r).1 = cy_rlast s (42 + 2 * s.2.2.1.1) ∧ (md_pop (md_pop r).2).1 = cy_rlast (cy_rdrop s (42 + 2 * s.2.2.1.1)) (42 + 2 * s.2.2.1.1) ∧ rl_G s (cy_rdrop (cy_rdrop s (42 + 2 * s.2.2.1.1)) (42 + 2 * s.2.2.1.1)) (md_pop (md_pop r).2).2 (rl_n s - 2) (rl_p s) := by
  obtain ⟨p1, p2, p3⟩ := rl_pop h (by omega)
  have e3 : rl_n (cy_rdrop s (42 + 2 * s.2.2.1.1)) = rl_n s - 1 := p3.2.2.1
  obtain ⟨q1, q2, q3⟩ := rl_pop p3.1 (by omega)
  have q4 := rl_G_t p3 q3
  rw [e3, show rl_n s - 1 - 1 = rl_n s - 2 by omega] at q4
  exact ⟨p1, q1, p2, q2, q4⟩
theorem rl_bin {s : cy_S} {r : md_S} (h : rl_M s r) (hn : 2 ≤ rl_n s) (h8 : rl_n s ≤ 8) (v : Int32) : md_push_ok (md_pop (md_pop r).2).2 v ∧ rl_G s (cy_radd (cy_rdrop (cy_rdrop s (42 + 2 * s.2.2.1.1)) (42 + 2 * s.2.2.1.1)) (42 + 2 * s.2.2.1.1) v) (md_push (md_pop (md_pop r).2).2 v) (rl_n s - 2 + 1) (rl_p s) := by
  obtain ⟨p1, q1, p2, q2, q3⟩ := rl_pop2 h hn
  have e3 : rl_n (cy_rdrop (cy_rdrop s (42 + 2 * s.2.2.1.1)) (42 + 2 * s.2.2.1.1)) = rl_n s - 2 := q3.2.2.1
  obtain ⟨u1, u2⟩ := rl_push q3.1 v (by omega)
  have u3 := rl_G_t q3 u2
  rw [e3] at u3
  exact ⟨u1, u3⟩
theorem rl_3131 (b : Int32) : b &&& 31 &&& 31 = b &&& 31 := by rw [Int32.and_assoc]; rfl
theorem rl_works {s : cy_S} {r : md_S} (h : rl_M s r) (o t g : Nat) (ho : 5 ≤ o) (ho2 : o < 16) (ht : cy_Yard_takes (nI o) = nI t) (hg : cy_Yard_gives (nI o) = nI g) (ht2 : t ≤ 2) (hg2 : g ≤ 2) (h1 : t ≤ rl_n s) (h2 : rl_n s - t + g ≤ 8) (hn8 : rl_n s ≤ 8) :
    md_works_ok r (nI o) ∧ rl_G s (if o < 13 then cy_Run_combine s (nI o) else cy_Run_rearrange s (nI o)) (md_works r (nI o)) (rl_n s - t + g) (rl_p s) := by
  have et : ∀ z, cy_Yard_takes (nI o) = nI z → z ≤ 2 → t = z := fun z hz hz2 => (nI_eq (by omega) (by omega)).1 (ht.symm.trans hz)
  have eg : ∀ z, cy_Yard_gives (nI o) = nI z → z ≤ 2 → g = z := fun z hz hz2 => (nI_eq (by omega) (by omega)).1 (hg.symm.trans hz)
  rcases o with _ | _ | _ | _ | _ | _ | _ | _ | _ | _ | _ | _ | _ | _ | _ | _ | o
  all_goals first | omega | skip
  · obtain rfl := et 2 (by decide) (by decide)
    obtain rfl := eg 1 (by decide) (by decide)
    obtain ⟨p1, q1, p2, q2, q3⟩ := rl_pop2 h h1
    obtain ⟨u1, u2⟩ := rl_bin h h1 hn8 ((md_pop (md_pop r).2).1 + (md_pop r).1)
    refine ⟨⟨p1, q1, u1, trivial⟩, ?_⟩
    rw [p2, q2] at u2
    show rl_G s _ (md_push (md_pop (md_pop r).2).2 ((md_pop (md_pop r).2).1 + (md_pop r).1)) _ _
    rw [p2, q2]; exact u2
  · obtain rfl := et 2 (by decide) (by decide)
    obtain rfl := eg 1 (by decide) (by decide)
    obtain ⟨p1, q1, p2, q2, q3⟩ := rl_pop2 h h1
    obtain ⟨u1, u2⟩ := rl_bin h h1 hn8 ((md_pop (md_pop r).2).1 - (md_pop r).1)
    refine ⟨⟨p1, q1, u1, trivial⟩, ?_⟩
    rw [p2, q2] at u2
    show rl_G s _ (md_push (md_pop (md_pop r).2).2 ((md_pop (md_pop r).2).1 - (md_pop r).1)) _ _
    rw [p2, q2]; exact u2
  · obtain rfl := et 2 (by decide) (by decide)
    obtain rfl := eg 1 (by decide) (by decide)
    obtain ⟨p1, q1, p2, q2, q3⟩ := rl_pop2 h h1
    obtain ⟨u1, u2⟩ := rl_bin h h1 hn8 ((md_pop (md_pop r).2).1 * (md_pop r).1)
    refine ⟨⟨p1, q1, u1, trivial⟩, ?_⟩
    rw [p2, q2] at u2
    show rl_G s _ (md_push (md_pop (md_pop r).2).2 ((md_pop (md_pop r).2).1 * (md_pop r).1)) _ _
    rw [p2, q2]; exact u2
  · obtain rfl := et 2 (by decide) (by decide)
    obtain rfl := eg 1 (by decide) (by decide)
    obtain ⟨p1, q1, p2, q2, q3⟩ := rl_pop2 h h1
    obtain ⟨u1, u2⟩ := rl_bin h h1 hn8 ((md_pop (md_pop r).2).1 &&& (md_pop r).1)
    refine ⟨⟨p1, q1, u1, trivial⟩, ?_⟩
    rw [p2, q2] at u2
    show rl_G s _ (md_push (md_pop (md_pop r).2).2 ((md_pop (md_pop r).2).1 &&& (md_pop r).1)) _ _
    rw [p2, q2]; exact u2
  · obtain rfl := et 2 (by decide) (by decide)
    obtain rfl := eg 1 (by decide) (by decide)
    obtain ⟨p1, q1, p2, q2, q3⟩ := rl_pop2 h h1
    obtain ⟨u1, u2⟩ := rl_bin h h1 hn8 ((md_pop (md_pop r).2).1 ||| (md_pop r).1)
    refine ⟨⟨p1, q1, u1, trivial⟩, ?_⟩
    rw [p2, q2] at u2
    show rl_G s _ (md_push (md_pop (md_pop r).2).2 ((md_pop (md_pop r).2).1 ||| (md_pop r).1)) _ _
    rw [p2, q2]; exact u2
  · obtain rfl := et 2 (by decide) (by decide)
    obtain rfl := eg 1 (by decide) (by decide)
    obtain ⟨p1, q1, p2, q2, q3⟩ := rl_pop2 h h1
    obtain ⟨u1, u2⟩ := rl_bin h h1 hn8 ((md_pop (md_pop r).2).1 ^^^ (md_pop r).1)
    refine ⟨⟨p1, q1, u1, trivial⟩, ?_⟩
    rw [p2, q2] at u2
    show rl_G s _ (md_push (md_pop (md_pop r).2).2 ((md_pop (md_pop r).2).1 ^^^ (md_pop r).1)) _ _
    rw [p2, q2]; exact u2
  · obtain rfl := et 2 (by decide) (by decide)
    obtain rfl := eg 1 (by decide) (by decide)
    obtain ⟨p1, q1, p2, q2, q3⟩ := rl_pop2 h h1
    obtain ⟨u1, u2⟩ := rl_bin h h1 hn8 ((md_pop (md_pop r).2).1 <<< ((md_pop r).1 &&& 31 &&& 31))
    refine ⟨⟨p1, q1, u1, trivial⟩, ?_⟩
    rw [p2, q2, rl_3131] at u2
    show rl_G s _ (md_push (md_pop (md_pop r).2).2 ((md_pop (md_pop r).2).1 <<< ((md_pop r).1 &&& 31 &&& 31))) _ _
    rw [p2, q2, rl_3131]; exact u2
  · obtain rfl := et 2 (by decide) (by decide)
    obtain rfl := eg 1 (by decide) (by decide)
    obtain ⟨p1, q1, p2, q2, q3⟩ := rl_pop2 h h1
    obtain ⟨u1, u2⟩ := rl_bin h h1 hn8 ((md_pop (md_pop r).2).1 >>> ((md_pop r).1 &&& 31 &&& 31))
    refine ⟨⟨p1, q1, u1, trivial⟩, ?_⟩
    rw [p2, q2, rl_3131] at u2
    show rl_G s _ (md_push (md_pop (md_pop r).2).2 ((md_pop (md_pop r).2).1 >>> ((md_pop r).1 &&& 31 &&& 31))) _ _
    rw [p2, q2, rl_3131]; exact u2
  · obtain rfl := et 1 (by decide) (by decide)
    obtain rfl := eg 2 (by decide) (by decide)
    obtain ⟨p1, p2, p3⟩ := rl_pop h (by omega)
    have e3 : rl_n (cy_rdrop s (42 + 2 * s.2.2.1.1)) = rl_n s - 1 := p3.2.2.1
    obtain ⟨u1, u2⟩ := rl_push p3.1 (md_pop r).1 (by omega)
    have u3 := rl_G_t p3 u2
    have e4 : rl_n (cy_radd (cy_rdrop s (42 + 2 * s.2.2.1.1)) (42 + 2 * s.2.2.1.1) (md_pop r).1) = rl_n s - 1 + 1 := by rw [e3] at u3; exact u3.2.2.1
    obtain ⟨w1, w2⟩ := rl_push u2.1 (md_pop r).1 (Nat.lt_of_le_of_lt (Nat.le_of_eq e4) (by omega))
    have w3 := rl_G_t u3 w2
    refine ⟨⟨p1, u1, w1, trivial⟩, ?_⟩
    show rl_G s (cy_radd (cy_radd (cy_rdrop s (42 + 2 * s.2.2.1.1)) (42 + 2 * s.2.2.1.1) (cy_rlast s (42 + 2 * s.2.2.1.1))) (42 + 2 * s.2.2.1.1) (cy_rlast s (42 + 2 * s.2.2.1.1))) (md_push (md_push (md_pop r).2 (md_pop r).1) (md_pop r).1) _ _
    rw [← p2]
    have e5 : rl_n s - 1 + 1 + 1 = rl_n s - 1 + 2 := rfl
    rw [← e5, ← e4]
    exact w3
  · obtain rfl := et 1 (by decide) (by decide)
    obtain rfl := eg 0 (by decide) (by decide)
    obtain ⟨p1, p2, p3⟩ := rl_pop h (by omega)
    exact ⟨⟨p1, trivial⟩, p3⟩
  · obtain rfl := et 2 (by decide) (by decide)
    obtain rfl := eg 2 (by decide) (by decide)
    obtain ⟨p1, q1, p2, q2, q3⟩ := rl_pop2 h h1
    have e3 : rl_n (cy_rdrop (cy_rdrop s (42 + 2 * s.2.2.1.1)) (42 + 2 * s.2.2.1.1)) = rl_n s - 2 := q3.2.2.1
    obtain ⟨u1, u2⟩ := rl_push q3.1 (md_pop r).1 (by omega)
    have u3 := rl_G_t q3 u2
    have e4 : rl_n (cy_radd (cy_rdrop (cy_rdrop s (42 + 2 * s.2.2.1.1)) (42 + 2 * s.2.2.1.1)) (42 + 2 * s.2.2.1.1) (md_pop r).1) = rl_n s - 2 + 1 := by rw [e3] at u3; exact u3.2.2.1
    obtain ⟨w1, w2⟩ := rl_push u2.1 (md_pop (md_pop r).2).1 (Nat.lt_of_le_of_lt (Nat.le_of_eq e4) (by omega))
    have w3 := rl_G_t u3 w2
    refine ⟨⟨p1, q1, u1, w1, trivial⟩, ?_⟩
    show rl_G s (cy_radd (cy_radd (cy_rdrop (cy_rdrop s (42 + 2 * s.2.2.1.1)) (42 + 2 * s.2.2.1.1)) (42 + 2 * s.2.2.1.1) (cy_rlast s (42 + 2 * s.2.2.1.1))) (42 + 2 * s.2.2.1.1) (cy_rlast (cy_rdrop s (42 + 2 * s.2.2.1.1)) (42 + 2 * s.2.2.1.1))) (md_push (md_push (md_pop (md_pop r).2).2 (md_pop r).1) (md_pop (md_pop r).2).1) _ _
    rw [← p2, ← q2]
    have e5 : rl_n s - 2 + 1 + 1 = rl_n s - 2 + 2 := rfl
    rw [← e5, ← e4]
    exact w3
theorem rl_saplace {r : md_S} {w : Nat} (hw : w < 8) : md_sa r 10 (nI w) (r.1 10 (nI w).toNatClampNeg) = r := by
  have : upd (r.1 10) (nI w).toNatClampNeg (r.1 10 (nI w).toNatClampNeg) = r.1 10 := by
    funext j
    by_cases e : j = (nI w).toNatClampNeg
    · rw [e, pk_us]
    · rw [pk_un e]
  unfold md_sa
  rw [this]
  have : cy_up r.1 10 (r.1 10) = r.1 := by
    funext j
    by_cases e : j = 10
    · rw [e, rl_us]
    · rw [rl_un e]
  rw [this]
theorem rl_jump {s : cy_S} {r : md_S} (h : rl_M s r) (o t g : Nat) (v : Int32) (ho : 16 ≤ o) (ho2 : o < 19) (ht : cy_Yard_takes (nI o) = nI t) (hg : cy_Yard_gives (nI o) = nI g) (ht2 : t ≤ 2) (hg2 : g ≤ 2) (h1 : t ≤ rl_n s) (h2 : rl_n s - t + g ≤ 8) :
    md_jumps_ok r (nI o) v (nI (rl_w s)) ∧ ∃ pl, rl_G s (cy_Run_jump s (nI o) v) (md_jumps r (nI o) v (nI (rl_w s))) (rl_n s - t + g) pl ∧ (pl = v ∨ (o ≠ 16 ∧ pl = rl_p s)) := by
  have et : ∀ z, cy_Yard_takes (nI o) = nI z → z ≤ 2 → t = z := fun z hz hz2 => (nI_eq (by omega) (by omega)).1 (ht.symm.trans hz)
  have eg : ∀ z, cy_Yard_gives (nI o) = nI z → z ≤ 2 → g = z := fun z hz hz2 => (nI_eq (by omega) (by omega)).1 (hg.symm.trans hz)
  have hw : rl_w s < 8 := h.2.2.2.2.2.2.2.1
  have v8 : vp_in (nI (rl_w s)) 8 := vp_in_nI hw (by decide)
  have : o = 16 ∨ o = 17 ∨ o = 18 := by omega
  rcases this with rfl | rfl | rfl
  · obtain rfl := et 0 (by decide) (by decide)
    obtain rfl := eg 0 (by decide) (by decide)
    exact ⟨⟨v8, trivial⟩, v, rl_place h v, Or.inl rfl⟩
  · obtain rfl := et 1 (by decide) (by decide)
    obtain rfl := eg 0 (by decide) (by decide)
    obtain ⟨p1, p2, p3⟩ := rl_pop h (by omega)
    have e3 : rl_n (cy_rdrop s (42 + 2 * s.2.2.1.1)) = rl_n s - 1 := p3.2.2.1
    by_cases hc : (md_pop r).1 = 0
    · have q := rl_G_t p3 (rl_place p3.1 v)
      rw [e3] at q
      refine ⟨⟨p1, ?_⟩, v, ?_, Or.inl rfl⟩
      · rw [if_pos hc]; exact ⟨v8, trivial⟩
      · have c1 : cy_Run_jump s (nI 17) v = cy_sf_place (cy_rdrop s (42 + 2 * s.2.2.1.1)) s.2.2.1.1 v := by
          unfold cy_Run_jump; rw [if_pos (by decide), ← p2, if_pos hc]
        have c2 : md_jumps r (nI 17) v (nI (rl_w s)) = md_sa (md_pop r).2 10 (nI (rl_w s)) v := by
          unfold md_jumps; rw [if_pos (by decide), if_pos hc]
        rw [c1, c2]; exact q
    · refine ⟨⟨p1, ?_⟩, rl_p s, ?_, Or.inr ⟨by decide, rfl⟩⟩
      · rw [if_neg hc]; exact ⟨v8, v8, trivial⟩
      · have c1 : cy_Run_jump s (nI 17) v = cy_rdrop s (42 + 2 * s.2.2.1.1) := by
          unfold cy_Run_jump; rw [if_pos (by decide), ← p2, if_neg hc]
        have c2 : md_jumps r (nI 17) v (nI (rl_w s)) = (md_pop r).2 := by
          unfold md_jumps; rw [if_pos (by decide), if_neg hc, rl_saplace hw]
        rw [c1, c2]; exact p3
  · obtain rfl := et 2 (by decide) (by decide)
    obtain rfl := eg 0 (by decide) (by decide)
    obtain ⟨p1, q1, p2, q2, q3⟩ := rl_pop2 h h1
    have e3 : rl_n (cy_rdrop (cy_rdrop s (42 + 2 * s.2.2.1.1)) (42 + 2 * s.2.2.1.1)) = rl_n s - 2 := q3.2.2.1
    by_cases hc : (md_pop r).1 ≤ (md_pop (md_pop r).2).1
    · refine ⟨⟨p1, q1, ?_⟩, rl_p s, ?_, Or.inr ⟨by decide, rfl⟩⟩
      · rw [if_pos hc]; exact ⟨v8, v8, trivial⟩
      · have c1 : cy_Run_jump s (nI 18) v = cy_rdrop (cy_rdrop s (42 + 2 * s.2.2.1.1)) (42 + 2 * s.2.2.1.1) := by
          unfold cy_Run_jump; rw [if_neg (by decide), if_pos (by decide), ← p2, ← q2, if_pos hc]
        have c2 : md_jumps r (nI 18) v (nI (rl_w s)) = (md_pop (md_pop r).2).2 := by
          unfold md_jumps; rw [if_neg (by decide), if_pos (by decide), if_pos hc, rl_saplace hw]
        rw [c1, c2]; exact q3
    · have q := rl_G_t q3 (rl_place q3.1 v)
      rw [e3] at q
      refine ⟨⟨p1, q1, ?_⟩, v, ?_, Or.inl rfl⟩
      · rw [if_neg hc]; exact ⟨v8, trivial⟩
      · have c1 : cy_Run_jump s (nI 18) v = cy_sf_place (cy_rdrop (cy_rdrop s (42 + 2 * s.2.2.1.1)) (42 + 2 * s.2.2.1.1)) s.2.2.1.1 v := by
          unfold cy_Run_jump; rw [if_neg (by decide), if_pos (by decide), ← p2, ← q2, if_neg hc]
        have c2 : md_jumps r (nI 18) v (nI (rl_w s)) = md_sa (md_pop (md_pop r).2).2 10 (nI (rl_w s)) v := by
          unfold md_jumps; rw [if_neg (by decide), if_pos (by decide), if_neg hc]
        rw [c1, c2]; exact q
