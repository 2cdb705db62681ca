def rl_Z (s s' : cy_S) (r' : md_S) (m : Nat) (pl : Int32) : Prop := rl_G s s' r' m pl ∨ (rl_X s' r' ∧ (∀ k, k < 8 → s'.1 (6 + 4 * k) = s.1 (6 + 4 * k)) ∧ ∀ k, k < 8 → s'.1 (7 + 4 * k) = s.1 (7 + 4 * k))
def rl_jt (s : cy_S) (j e : Nat) : Prop := 0 < (s.1 (6 + 4 * (s.2.1 j).1)).length ∧ ∃ p : Nat, p < (s.1 (6 + 4 * (s.2.1 j).1)).length ∧ (s.2.1 j).2 = nI p ∧ (s.1 (7 + 4 * (s.2.1 j).1)).getD p 0 = nI ((s.1 (42 + 2 * j)).length + e)
theorem rl_J_jt {s : cy_S} : rl_J s ↔ (∀ j, j < s.2.2.1.1 → rl_jt s j 1) ∧ rl_jt s s.2.2.1.1 0 := by
  constructor
  · intro h
    refine ⟨fun j hj => ?_, ?_⟩
    · have := h j (by omega); rw [if_neg (by omega)] at this; exact this
    · have := h _ (Nat.le_refl _); rw [if_pos rfl] at this; exact this
  · intro ⟨h1, h2⟩ j hj
    by_cases e : j = s.2.2.1.1
    · rw [if_pos e, e]; exact h2
    · rw [if_neg e]; exact h1 j (by omega)
theorem rl_jt_c {s s' : cy_S} {j e : Nat} (h1 : s'.2.1 j = s.2.1 j) (h6 : s'.1 (6 + 4 * (s.2.1 j).1) = s.1 (6 + 4 * (s.2.1 j).1)) (h7 : s'.1 (7 + 4 * (s.2.1 j).1) = s.1 (7 + 4 * (s.2.1 j).1)) (h42 : s'.1 (42 + 2 * j) = s.1 (42 + 2 * j)) (h : rl_jt s j e) : rl_jt s' j e := by
  unfold rl_jt; rw [h1, h6, h7, h42]; exact h
theorem rl_Mc {s : cy_S} {r : md_S} (h : rl_M s r) : ∀ j, j ≤ s.2.2.1.1 → (s.2.1 j).1 < 8 := fun j hj => (h.2.2.2.2.2.2.2.2.2 j hj).1
theorem rl_below {s s' : cy_S} {r : md_S} (h : rl_M s r) (hJ : rl_J s) (hk : rl_kp s s') : ∀ j, j < s'.2.2.1.1 → rl_jt s' j 1 := by
  obtain ⟨a1, a2, a3, a4, a5⟩ := hk
  rw [a4]
  intro j hj
  have hc := rl_Mc h j (by omega)
  exact rl_jt_c (a3 j hj).2 (a1 _ hc) (a2 _ hc) (a3 j hj).1 ((rl_J_jt.1 hJ).1 j hj)
theorem rl_O_Z {s s' : cy_S} {r r' : md_S} {m p : Nat} (hI : rl_I s) (h : rl_M s r) (hJ : rl_J s) (hZ : rl_Z s s' r' m (nI p)) (hp1 : p < (s.1 (6 + 4 * rl_c s)).length) (hp2 : (s.1 (7 + 4 * rl_c s)).getD p 0 = nI m) : rl_O s' r' := by
  rcases hZ with ⟨g1, g2, g3, g4⟩ | ⟨x1, x2, x3⟩
  · exact ⟨rl_I_c g2.1 g2.2.1 hI, Or.inl ⟨g1, rl_J_of hJ g2 (rl_Mc h _ (Nat.le_refl _)) (rl_Mc h) g3 g4 hp1 hp2⟩⟩
  · exact ⟨rl_I_c x2 x3 hI, Or.inr (Or.inr x1)⟩
theorem rl_Z_fail {s s1 : cy_S} {r1 : md_S} {m1 m : Nat} {p1 p : Int32} (g : rl_G s s1 r1 m1 p1) (w : Int32) : md_throwFor_ok r1 w ∧ rl_Z s (cy_Run_fail s1 w) (md_throwFor r1 w) m p :=
  ⟨(rl_fail g.1 w).1, Or.inr ⟨(rl_fail g.1 w).2, g.2.1.1, g.2.1.2.1⟩⟩
theorem rl_refl {s : cy_S} {r : md_S} (h : rl_M s r) : rl_G s s r (rl_n s) (rl_p s) := ⟨h, ⟨fun _ _ => rfl, fun _ _ => rfl, fun _ _ => ⟨rfl, rfl⟩, rfl, rfl⟩, rfl, rfl⟩
theorem rl_bytes {s : cy_S} {r : md_S} (h : rl_M s r) (o t g : Nat) (v : Int32) (ho : 19 ≤ o) (ho2 : o < 22) (ht : cy_Yard_takes (nI o) = nI t) (hg : cy_Yard_gives (nI o) = nI g) (ht2 : t ≤ 2) (hg2 : g ≤ 2) (h1 : t ≤ rl_n s) (h2 : rl_n s - t + g ≤ 8) :
    md_bytes_ok r (nI o) ∧ rl_Z s (cy_Run_doOther s (nI o) v) (md_bytes r (nI o)) (rl_n s - t + g) (rl_p s) := by
  have et : ∀ z, cy_Yard_takes (nI o) = nI z → z ≤ 2 → t = z := fun z hz hz2 => (nI_eq (by omega) (by omega)).1 (ht.symm.trans hz)
  have eg : ∀ z, cy_Yard_gives (nI o) = nI z → z ≤ 2 → g = z := fun z hz hz2 => (nI_eq (by omega) (by omega)).1 (hg.symm.trans hz)
  have : o = 19 ∨ o = 20 ∨ o = 21 := by omega
  rcases this with rfl | rfl | rfl
  · obtain rfl := et 1 (by decide) (by decide)
    obtain rfl := eg 1 (by decide) (by decide)
    obtain ⟨p1, p2, p3⟩ := rl_pop h (by omega)
    have e3 : rl_n (cy_rdrop s (42 + 2 * s.2.2.1.1)) = rl_n s - 1 := p3.2.2.1
    have c1 : cy_Run_doOther s (nI 19) v = cy_Run_readInput (cy_rdrop s (42 + 2 * s.2.2.1.1)) (md_pop r).1 := by
      unfold cy_Run_doOther; rw [if_pos (by decide), ← p2]
    have c2 : md_bytes_ok r (nI 19) = (md_pop_ok r ∧ (if (md_pop r).1 < 0 then md_throwFor_ok (md_pop r).2 2 ∧ True else if (md_pop r).1 < (md_pop r).2.2 11 then vp_in (md_pop r).1 300 ∧ md_push_ok (md_pop r).2 ((md_pop r).2.1 14 (md_pop r).1.toNatClampNeg &&& 255) ∧ True else md_throwFor_ok (md_pop r).2 2 ∧ True)) := rfl
    have c3 : md_bytes r (nI 19) = (if (md_pop r).1 < 0 then md_throwFor (md_pop r).2 2 else if (md_pop r).1 < (md_pop r).2.2 11 then md_push (md_pop r).2 ((md_pop r).2.1 14 (md_pop r).1.toNatClampNeg &&& 255) else md_throwFor (md_pop r).2 2) := rfl
    rw [c1, c2, c3]
    generalize (md_pop r).1 = a
    generalize (md_pop r).2 = r1 at p3
    have ep : rl_p (cy_rdrop s (42 + 2 * s.2.2.1.1)) = rl_p s := rfl
    generalize cy_rdrop s (42 + 2 * s.2.2.1.1) = s1 at p3 e3 ep
    obtain ⟨i1, i2, i3⟩ := p3.1.1.2.2.1
    unfold cy_Run_readInput cy_rhas
    by_cases ha : a < 0
    · rw [if_pos ha, if_pos ha, if_pos ha, if_pos rfl]
      obtain ⟨z1, z2⟩ := rl_Z_fail (m := rl_n s - 1 + 1) (p := rl_p s) p3 2
      exact ⟨⟨p1, z1, trivial⟩, z2⟩
    · rw [if_neg ha, if_neg ha, if_neg ha]
      obtain ⟨j, hj, rfl⟩ := nI_of ha
      rw [i1]
      by_cases hb : j < (s1.1 4).length
      · have g1 : nI j < nI (s1.1 4).length := nI_lt hb (by omega)
        have g2 : ¬ nI (s1.1 4).length ≤ nI j := nI_ge hb (by omega)
        rw [if_pos g1, if_pos g1, if_neg g2, if_neg (by decide), nI_clamp hj]
        have ev : cy_rat s1 4 (nI j) 0 = r1.1 14 j &&& 255 := by unfold cy_rat; rw [rl_la hj]; exact i3 j hb
        obtain ⟨u1, u2⟩ := rl_push p3.1 (r1.1 14 j &&& 255) (by omega)
        refine ⟨⟨p1, vp_in_nI (by omega) (by decide), u1, trivial⟩, Or.inl ?_⟩
        rw [ev]
        have u3 := rl_G_t p3 u2
        rw [e3, ep] at u3
        exact u3
      · have g1 : ¬ nI j < nI (s1.1 4).length := nI_nlt (by omega) hj
        have g2 : nI (s1.1 4).length ≤ nI j := nI_le (by omega) hj
        rw [if_neg g1, if_neg g1, if_pos g2, if_pos rfl]
        obtain ⟨z1, z2⟩ := rl_Z_fail (m := rl_n s - 1 + 1) (p := rl_p s) p3 2
        exact ⟨⟨p1, z1, trivial⟩, z2⟩
  · obtain rfl := et 0 (by decide) (by decide)
    obtain rfl := eg 1 (by decide) (by decide)
    have e11 := h.1.2.2.1.1
    obtain ⟨u1, u2⟩ := rl_push h (r.2 11) (by omega)
    refine ⟨⟨u1, trivial⟩, Or.inl ?_⟩
    have c1 : cy_Run_doOther s (nI 20) v = cy_radd s (42 + 2 * s.2.2.1.1) (r.2 11) := by
      unfold cy_Run_doOther; rw [if_neg (by decide), if_pos (by decide), e11]
    rw [c1]; exact u2
  · obtain rfl := et 1 (by decide) (by decide)
    obtain rfl := eg 0 (by decide) (by decide)
    obtain ⟨p1, p2, p3⟩ := rl_pop h (by omega)
    have e3 : rl_n (cy_rdrop s (42 + 2 * s.2.2.1.1)) = rl_n s - 1 := p3.2.2.1
    have c1 : cy_Run_doOther s (nI 21) v = cy_Run_putOut (cy_rdrop s (42 + 2 * s.2.2.1.1)) (md_pop r).1 := by
      unfold cy_Run_doOther; rw [if_neg (by decide), if_neg (by decide), if_pos (by decide), ← p2]
    have c2 : md_bytes_ok r (nI 21) = (md_pop_ok r ∧ (if (md_pop r).2.2 12 = 64 then md_throwFor_ok (md_pop r).2 3 ∧ True else vp_in ((md_pop r).2.2 12) 64 ∧ True)) := rfl
    have c3 : md_bytes r (nI 21) = (if (md_pop r).2.2 12 = 64 then md_throwFor (md_pop r).2 3 else md_ss (md_sa (md_pop r).2 15 ((md_pop r).2.2 12) ((md_pop r).1.toInt8.toInt32.toInt8.toInt32)) 12 ((md_pop r).2.2 12 + 1)) := rfl
    rw [c1, c2, c3]
    generalize (md_pop r).1 = a
    generalize (md_pop r).2 = r1 at p3
    have ep : rl_p (cy_rdrop s (42 + 2 * s.2.2.1.1)) = rl_p s := rfl
    generalize cy_rdrop s (42 + 2 * s.2.2.1.1) = s1 at p3 e3 ep
    obtain ⟨i1, i2, i3⟩ := p3.1.1.2.2.2.1
    unfold cy_Run_putOut
    by_cases hb : (s1.1 5).length < 64
    · have g1 : ¬ r1.2 12 = 64 := by rw [i1]; exact fun q => absurd ((nI_eq (by omega) (by decide)).1 (show nI _ = nI 64 from q)) (by omega)
      have g2 : ¬ (64 : Int32) ≤ nI (s1.1 5).length := nI_ge hb (by decide)
      rw [if_neg g1, if_neg g1, if_neg g2]
      obtain ⟨u1, u2⟩ := rl_output p3.1 (a &&& 255) a.toInt8.toInt32.toInt8.toInt32 (by rw [rl_88, rl_and8]) hb
      refine ⟨⟨p1, u1, trivial⟩, Or.inl ?_⟩
      have u3 := rl_G_t p3 u2
      rw [e3, ep] at u3
      exact u3
    · have e64 : (s1.1 5).length = 64 := by omega
      have g1 : r1.2 12 = 64 := by rw [i1, e64]; rfl
      have g2 : (64 : Int32) ≤ nI (s1.1 5).length := by rw [e64]; decide
      rw [if_pos g1, if_pos g1, if_pos g2]
      obtain ⟨z1, z2⟩ := rl_Z_fail (m := rl_n s - 1 + 0) (p := rl_p s) p3 3
      exact ⟨⟨p1, z1, trivial⟩, z2⟩
theorem rl_divm (a : Int32) : a / (-1) = -a := by
  apply Int32.toBitVec_inj.1
  rw [Int32.toBitVec_div, Int32.toBitVec_neg]
  show a.toBitVec.sdiv (-1#32) = -a.toBitVec
  unfold BitVec.sdiv
  cases a.toBitVec.msb
  · show -(a.toBitVec.udiv (-(-1#32))) = _
    rw [BitVec.neg_neg]; simp
  · show (-a.toBitVec).udiv (-(-1#32)) = _
    rw [BitVec.neg_neg]; simp
theorem rl_divide {s : cy_S} {r : md_S} (h : rl_M s r) (o t g : Nat) (v : Int32) (ho : 25 ≤ o) (ho2 : o < 27) (ht : cy_Yard_takes (nI o) = nI t) (hg : cy_Yard_gives (nI o) = nI g) (ht2 : t ≤ 2) (hg2 : g ≤ 2) (h1 : t ≤ rl_n s) (h2 : rl_n s - t + g ≤ 8) (hn8 : rl_n s ≤ 8) :
    md_divide_ok r (nI o) ∧ rl_Z s (cy_Run_doOther s (nI o) v) (md_divide r (nI o)) (rl_n s - t + g) (rl_p s) := by
  have et : ∀ z, cy_Yard_takes (nI o) = nI z → z ≤ 2 → t = z := fun z hz hz2 => (nI_eq (by omega) (by omega)).1 (ht.symm.trans hz)
  have eg : ∀ z, cy_Yard_gives (nI o) = nI z → z ≤ 2 → g = z := fun z hz hz2 => (nI_eq (by omega) (by omega)).1 (hg.symm.trans hz)
  have hdd : o = 25 ∨ o = 26 := by omega
  have c1 : cy_Run_doOther s (nI o) v = cy_Run_divide s (nI o) := by
    unfold cy_Run_doOther; rcases hdd with rfl | rfl <;> rfl
  have ht : t = 2 := by rcases hdd with rfl | rfl <;> exact et 2 (by decide) (by decide)
  have hg : g = 1 := by rcases hdd with rfl | rfl <;> exact eg 1 (by decide) (by decide)
  subst ht hg
  obtain ⟨p1, q1, p2, q2, q3⟩ := rl_pop2 h h1
  rw [c1]
  unfold md_divide_ok cy_Run_divide md_divide
  have B := fun v => rl_bin h h1 hn8 v
  rw [← p2, ← q2]
  generalize (md_pop r).1 = b at *
  generalize (md_pop (md_pop r).2).1 = a at *
  by_cases hb : b = 0
  · rw [if_pos hb, if_pos hb, if_pos hb]
    obtain ⟨z1, z2⟩ := rl_Z_fail (m := rl_n s - 2 + 1) (p := rl_p s) q3 1
    exact ⟨⟨p1, q1, z1, trivial⟩, z2⟩
  · rw [if_neg hb, if_neg hb, if_neg hb]
    by_cases hm : b = -1
    · rw [if_pos hm, if_pos hm]
      subst hm
      by_cases h25 : nI o = 25
      · rw [if_pos h25, if_pos h25, if_pos h25]
        exact ⟨⟨p1, q1, (B _).1, trivial⟩, Or.inl (by rw [rl_divm]; exact (B _).2)⟩
      · rw [if_neg h25, if_neg h25, if_neg h25]
        have ez : a - a / (-1) * (-1) = 0 := by
          rw [rl_divm]
          rw [Int32.neg_mul_neg, Int32.mul_one, Int32.sub_self]
        exact ⟨⟨p1, q1, (B _).1, trivial⟩, Or.inl (by rw [ez]; exact (B _).2)⟩
    · rw [if_neg hm, if_neg hm]
      by_cases h25 : nI o = 25
      · rw [if_pos h25, if_pos h25, if_pos h25]
        exact ⟨⟨p1, q1, (B _).1, trivial⟩, Or.inl (B _).2⟩
      · rw [if_neg h25, if_neg h25, if_neg h25]
        exact ⟨⟨p1, q1, (B _).1, trivial⟩, Or.inl (B _).2⟩
theorem rl_finish {s : cy_S} {r : md_S} (hI : rl_I s) (h : rl_M s r) (hb : ∀ j, j < s.2.2.1.1 → rl_jt s j 1) (v : Int32) : md_ends_ok r v ∧ rl_O (cy_Run_finish s v) (md_ends r v) := by
  obtain ⟨t1, t2, t3⟩ := rl_top h
  obtain ⟨hB, h8, h9, c1, c2, c3, c4, c5, c6, c7⟩ := h
  unfold md_ends_ok cy_Run_finish md_ends
  rw [t1]
  by_cases hw : s.2.2.1.1 = 0
  · have g : nI s.2.2.1.1 ≤ 0 := by rw [hw]; decide
    rw [if_pos g, if_pos g, if_pos hw]
    obtain ⟨hT, hD, hi, ho, n1, n2, n3, n4⟩ := hB
    exact ⟨trivial, rl_I_c (fun _ _ => rfl) (fun _ _ => rfl) hI, Or.inr (Or.inl ⟨⟨⟨hT, fun k hk => rl_D_c rfl rfl rfl rfl rfl (hD k hk), hi, ho, n1, rfl, n3, n4⟩, rl_K_c (fun _ _ => rfl) (fun _ _ => rfl) rfl h8, rfl, Or.inr (Or.inl ⟨rfl, c4⟩)⟩, rfl, c4⟩)⟩
  · have g : ¬ nI s.2.2.1.1 ≤ 0 := nI_nle (by omega) (by omega)
    rw [if_neg g, if_neg g, if_neg hw]
    generalize hj : s.2.2.1.1 - 1 = j
    have M' : rl_M (cy_s_work s j) (md_ss r 10 (nI s.2.2.1.1)) := by
      obtain ⟨hT, hD, hi, ho, n1, n2, n3, n4⟩ := hB
      refine ⟨⟨hT, fun k hk => rl_D_c rfl rfl rfl rfl rfl (hD k hk), hi, ho, n1, n2, n3, n4⟩, rl_K_c (fun _ _ => rfl) (fun _ _ => rfl) rfl h8, rl_K_c (fun _ _ => rfl) (fun _ _ => rfl) rfl h9, c1, c2, c3, c4, ?_, ?_, fun i hi => ?_⟩
      · show j < 8; omega
      · show nI s.2.2.1.1 = nI (j + 1); rw [show j + 1 = s.2.2.1.1 by omega]
      · have hi : i ≤ j := hi
        exact rl_F_c (s := s) (r := r) rfl rfl rfl rfl rfl rfl (fun _ _ => rfl) (fun _ _ => rfl) (c7 i (by omega))
    obtain ⟨k1, p, k2, k3, k4⟩ := hb j (by omega)
    have hcj : (s.2.1 j).1 < 8 := (c7 j (by omega)).1
    have hlen : (s.1 (42 + 2 * j)).length + 1 ≤ 8 := by
      rcases (hI _ hcj k1).2.2 p k2 with e | ⟨hh, e1, e2, e3⟩
      · rw [k4] at e
        have := (c7 j (by omega)).2.2.2.2.1
        exact absurd (nI_pos (n := (s.1 (42 + 2 * j)).length + 1) (by omega)) (by rw [e]; decide)
      · rw [k4] at e2
        have := (c7 j (by omega)).2.2.2.2.1
        have := (nI_eq (by omega) (by omega)).1 e2
        omega
    have hn : rl_n (cy_s_work s j) < 8 := hlen
    obtain ⟨u1, u2⟩ := rl_push M' v hn
    refine ⟨⟨u1, trivial⟩, rl_I_c (fun k _ => u2.2.1.1 k ‹_›) (fun k _ => u2.2.1.2.1 k ‹_›) (s := cy_s_work s j) (rl_I_c (fun _ _ => rfl) (fun _ _ => rfl) hI), Or.inl ⟨u2.1, rl_J_jt.2 ⟨fun i hi => ?_, ?_⟩⟩⟩
    · have hi : i < j := hi
      have hc := (c7 i (by omega)).1
      exact rl_jt_c (s := s) rfl (rl_un (by omega)) (rl_un (by omega)) (rl_un (by omega)) (hb i (by omega))
    · show rl_jt (cy_radd (cy_s_work s j) (42 + 2 * j) v) j 0
      have hl : ((cy_radd (cy_s_work s j) (42 + 2 * j) v).1 (42 + 2 * j)).length = (s.1 (42 + 2 * j)).length + 1 := u2.2.2.1
      have e6 : (cy_radd (cy_s_work s j) (42 + 2 * j) v).1 (6 + 4 * (s.2.1 j).1) = s.1 (6 + 4 * (s.2.1 j).1) := rl_un (by omega)
      have e7 : (cy_radd (cy_s_work s j) (42 + 2 * j) v).1 (7 + 4 * (s.2.1 j).1) = s.1 (7 + 4 * (s.2.1 j).1) := rl_un (by omega)
      have ef : (cy_radd (cy_s_work s j) (42 + 2 * j) v).2.1 = s.2.1 := rfl
      unfold rl_jt
      rw [ef, e6, e7, hl]
      exact ⟨k1, p, k2, k3, k4⟩
