def rl_Lk (s0 : cy_S) (r0 : md_S) (X : Int32 × cy_S) (Y : Int32 × md_S) : Prop := rl_Ft s0 r0 X Y.2 ∨ (4 ≤ (s0.1 0).length ∧ (s0.1 0).length ≤ 256 ∧ rl_Ok s0 r0 Y.1 X Y.2)
theorem rl_ft_ne {s0 : cy_S} {r0 : md_S} {X : Int32 × cy_S} {r' : md_S} (h : rl_Ft s0 r0 X r') : ¬ X.1 = 0 ∧ ¬ r'.2 2 = 0 ∧ ¬ r'.2 2 ≤ 0 ∧ X.1 = -1000 * r'.2 2 - r'.2 3 ∧ rl_fr s0 X.2 ∧ rl_fm r0 r' := by
  obtain ⟨f, P, g1, g2, g3, g4, g5, g6, g7, g8⟩ := h
  refine ⟨by rw [g4]; exact rl_fne f g2 P g3 g1, by rw [g5]; exact nI_ne0 g1 (by omega), by rw [g5]; exact nI_nle g1 (by omega), ?_, g7, g8⟩
  rw [g4, g5, g6]; rfl
theorem rl_clear (s : cy_S) {n : Nat} (hn : n ≤ 256) : (cy_Survey_clear s (nI n)).1 1 = List.replicate n 0 ∧ (cy_Survey_clear s (nI n)).1 2 = List.replicate n (-1) ∧ (cy_Survey_clear s (nI n)).1 3 = List.replicate n 0 ∧ rl_fr s (cy_Survey_clear s (nI n)) ∧ (cy_Survey_clear s (nI n)).2.2.2 = (0, 3, nI n) := by
  have e : ∀ (v : Int32), cy_lfill 256 (nI n) v = List.replicate n v := fun v => by
    unfold cy_lfill; rw [nI_clamp (by omega), Nat.min_eq_left hn]
  exact ⟨e 0, e (-1), e 0, ⟨fun a ha => (rl_un (by omega)).trans ((rl_un (by omega)).trans (rl_un (by omega))), rfl, rfl⟩, rfl⟩
theorem rl_lookT1 (r : md_S) (n : Nat) (hn : r.2 1 = nI n) (hn2 : n ≤ 256) : md_look_t1 r = (if ((md_look_b (n + 2) r (nI 3) (nI 3) (nI 0)).1.2 2) ≤ 0 then md_look_t2 (md_look_b (n + 2) r (nI 3) (nI 3) (nI 0)).1 (md_look_b (n + 2) r (nI 3) (nI 3) (nI 0)).2.1 (md_look_b (n + 2) r (nI 3) (nI 3) (nI 0)).2.2 else (0, (md_look_b (n + 2) r (nI 3) (nI 3) (nI 0)).1)) ∧ (md_look_t1_ok r = (md_look_b_ok (n + 2) r (nI 3) (nI 3) (nI 0) ∧ if ((md_look_b (n + 2) r (nI 3) (nI 3) (nI 0)).1.2 2) ≤ 0 then md_look_t2_ok (md_look_b (n + 2) r (nI 3) (nI 3) (nI 0)).1 (md_look_b (n + 2) r (nI 3) (nI 3) (nI 0)).2.1 (md_look_b (n + 2) r (nI 3) (nI 3) (nI 0)).2.2 else True)) := by
  unfold md_look_t1 md_look_t1_ok
  rw [hn, nI_toInt (by omega), show (((n : Nat) : Int).toNat + 2) = n + 2 by omega, show (3 : Int32) = nI 3 from rfl, show (md_look_b (n + 2) r (nI 3) (nI 3) 0) = md_look_b (n + 2) r (nI 3) (nI 3) (nI 0) from congrArg (md_look_b (n + 2) r (nI 3) (nI 3)) (show (0 : Int32) = nI 0 from rfl), show (md_look_b_ok (n + 2) r (nI 3) (nI 3) 0) = md_look_b_ok (n + 2) r (nI 3) (nI 3) (nI 0) from congrArg (md_look_b_ok (n + 2) r (nI 3) (nI 3)) (show (0 : Int32) = nI 0 from rfl)]
  exact ⟨rfl, rfl⟩
theorem rl_lookT3 {r R : md_S} {n : Nat} (hn : r.2 1 = nI n) (hn2 : n ≤ 256) (hR : md_look_e (n + 2) r 3 = R) (cnt : Int32) : md_look_t3 r cnt = (if R.2 2 = 0 then (cnt, md_walk R) else (cnt, R)) ∧ (md_look_e_ok (n + 2) r 3 → (R.2 2 = 0 → md_walk_ok R) → md_look_t3_ok r cnt) := by
  unfold md_look_t3 md_look_t3_ok
  rw [hn, nI_toInt (by omega), show (((n : Nat) : Int).toNat + 2) = n + 2 by omega, hR]
  refine ⟨rfl, fun a b => ⟨a, ?_⟩⟩
  by_cases g : R.2 2 = 0
  · rw [if_pos g]; exact ⟨b g, trivial⟩
  · rw [if_neg g]; trivial
theorem rl_look_cE {r : md_S} {b : Nat} (hb : b < 256) (l : Int32) : md_look_c r (nI b) l = if nI b = 16 then r else if cy_Yard_isEnding (nI b) = 0 then md_bad r 5 l else r := by
  unfold md_look_c cy_Yard_isEnding
  by_cases h1 : nI b = 16
  · rw [if_pos h1, if_pos h1]
  · rw [if_neg h1, if_neg h1]
    by_cases h2 : nI b = 22
    · rw [if_pos h2, if_pos h2, if_neg (by decide)]
    · rw [if_neg h2, if_neg h2]
      by_cases h3 : nI b = 23
      · rw [if_pos h3, if_pos h3, if_neg (by decide)]
      · rw [if_neg h3, if_neg h3]
        by_cases h4 : nI b = 24
        · rw [if_pos h4, if_pos h4, if_neg (by decide)]
        · rw [if_neg h4, if_neg h4, if_pos rfl]
theorem rl_look (s : cy_S) (r : md_S) (hT : rl_T (s.1 0) (r.1 0) (r.2 0) 300) : md_look_ok r ∧ rl_Lk s r (cy_Survey_lookOver s) (md_look r) := by
  have hn300 := hT.2.1
  generalize hnn : (s.1 0).length = n at hn300
  have hT1 : r.2 0 = nI n := by rw [← hnn]; exact hT.1
  unfold md_look_ok cy_Survey_lookOver md_look
  rw [hT1, hnn]
  generalize hr1 : md_ss (md_ss r 2 0) 1 (nI n) = r1
  have k1 : r1.1 = r.1 := by rw [← hr1]; rfl
  have k2 : r1.2 2 = 0 := by rw [← hr1]; rfl
  have k3 : r1.2 1 = nI n := by rw [← hr1]; rfl
  have km : rl_fm r r1 := by
    rw [← hr1]
    exact ⟨fun _ _ _ _ => rfl, fun a ha => (rl_un (by omega)).trans (rl_un (by omega))⟩
  have F1 : rl_Lk s r (cy_Survey_fault 1 (nI n), s) (0, md_bad r1 1 (nI n)) := Or.inl (rl_bad_ft (f := 1) (P := n) ⟨fun _ _ => rfl, rfl, rfl⟩ km k2 (by decide) (by decide) (by omega))
  by_cases c4 : n < 4
  · have d : nI n < 4 := nI_lt c4 (by decide)
    rw [if_pos d, if_pos d, if_pos d]
    exact ⟨trivial, F1⟩
  have d4 : ¬ nI n < 4 := nI_nlt (show 4 ≤ n by omega) (by omega)
  rw [if_neg d4, if_neg d4, if_neg d4]
  by_cases c256 : n ≤ 256
  rotate_left
  · have d : ¬ nI n ≤ 256 := nI_ge (show 256 < n by omega) (by omega)
    rw [if_neg d, if_neg d, if_neg d]
    exact ⟨trivial, F1⟩
  have d256 : nI n ≤ 256 := nI_le c256 (by decide)
  rw [if_pos d256, if_pos d256, if_pos d256, k3, nI_toInt (by omega), show (((n : Nat) : Int).toNat + 2) = n + 2 by omega]
  have hH : rl_H s r := ⟨hT, by omega, by omega⟩
  obtain ⟨oa, a1, a2, a6, a7, a8⟩ := rl_look_a n c256 (n + 2) r1 0 k3 (Nat.zero_le _) (by omega)
  rw [show md_look_a (n + 2) r1 0 = md_look_a (n + 2) r1 (nI 0) from congrArg (md_look_a (n + 2) r1) (show (0 : Int32) = nI 0 from rfl), show md_look_a_ok (n + 2) r1 0 = md_look_a_ok (n + 2) r1 (nI 0) from congrArg (md_look_a_ok (n + 2) r1) (show (0 : Int32) = nI 0 from rfl)]
  generalize md_look_a (n + 2) r1 (nI 0) = r2 at a1 a2 a6 a7 a8 ⊢
  obtain ⟨c1, c2, c3, cf, cq⟩ := rl_clear s c256
  generalize cy_Survey_clear s (nI n) = s1 at c1 c2 c3 cf cq ⊢
  have a6 : ∀ j, j < n → r2.1 6 j = 0 := fun j hj => by rw [a6 j, if_pos ⟨Nat.zero_le _, by omega⟩]
  have a7 : ∀ j, j < n → r2.1 7 j = -1 := fun j hj => by rw [a7 j, if_pos ⟨Nat.zero_le _, by omega⟩]
  have a8 : ∀ j, j < n → r2.1 8 j = 0 := fun j hj => by rw [a8 j, if_pos ⟨Nat.zero_le _, by omega⟩]
  have r21 : r2.2 1 = nI n := by rw [a1]; exact k3
  have r22 : r2.2 2 = 0 := by rw [a1]; exact k2
  have V1 : rl_V s r s1 r2 := by
    refine ⟨cf, ⟨fun a h6 h7 h8 => (a2 a h6 h7 h8).trans (km.1 a h6 h7 h8), fun a ha => by rw [a1]; exact km.2 a ha⟩, by rw [c1, hnn]; exact List.length_replicate, by rw [c2, hnn]; exact List.length_replicate, by rw [c3, hnn]; exact List.length_replicate, by rw [hnn]; exact r21, fun p hp => ?_⟩
    rw [hnn] at hp
    rw [c1, c2, rl_gR hp, rl_gR hp, a6 p hp, a7 p hp]; exact ⟨rfl, rfl⟩
  have St0 : rl_St (s.1 0) (s1.1 1) 3 3 := by
    refine ⟨fun j hj => Or.inl ?_, fun j hj hs => ?_, Or.inl ⟨rfl, rfl⟩⟩
    · rw [hnn] at hj; rw [c1, rl_gR hj]
    · rw [hnn] at hj; rw [c1, rl_gR hj] at hs; exact absurd hs (by decide)
  obtain ⟨ob, hb⟩ := rl_read hH (n - 3 + 1) (n + 2) s1 r2 3 3 0 V1 r22 St0 (by decide) (by omega) (by omega) (by omega) (by rw [cq]; rfl) (by rw [cq]; rfl)
  have eR : cy_Survey_readInstructions s1 = cy_Survey_readInstructions_l (n - 3 + 1) s1 (nI 3) := by
    unfold cy_Survey_readInstructions
    rw [cf.1 0 (by decide), hnn, nI_toInt (by omega), show (3 : Int32).toInt = 3 from rfl]
    congr 1; omega
  obtain ⟨T1, T1o⟩ := rl_lookT1 r2 n r21 c256
  rw [T1, T1o, eR]
  generalize cy_Survey_readInstructions_l (n - 3 + 1) s1 (nI 3) = X at hb ⊢
  generalize md_look_b (n + 2) r2 (nI 3) (nI 3) (nI 0) = Y at hb ⊢
  rcases hb with hF | ⟨l, c, b1, b2, b3, b4, b5, b6, b7, b8, b9, b10⟩
  · have hF : rl_Ft s r X Y.1 := hF
    obtain ⟨n1, n2, n3, n4, n5, n6⟩ := rl_ft_ne hF
    rw [if_neg n1, if_neg n3, if_neg n3]
    exact ⟨⟨oa, ob, trivial⟩, Or.inl hF⟩
  have y0 : Y.1.2 2 ≤ 0 := by rw [b1]; decide
  rw [if_pos y0, if_pos y0]
  obtain ⟨Y1, Y2⟩ := Y
  obtain ⟨X1, X2⟩ := X
  dsimp only at b1 b2 b3 b4 b5 b6 b7 b8 b9 b10 ⊢
  subst b4
  dsimp only
  have hln : l < (s.1 0).length := by
    rcases b3.2.2 with ⟨e, _⟩ | ⟨e, _⟩
    · omega
    · exact e
  obtain ⟨bl, hbl, ebl⟩ := rl_Hb hH hln
  obtain ⟨at1, at2⟩ := rl_Vat (s := s) hH b2.2.1 hln
  rw [ebl] at at1 b10
  have W1 : rl_W s r X2 Y1 := ⟨b2.2.1, b2.2.2.2.2.2.1, fun p hp => (b2.2.2.2.2.2.2 p hp).1⟩
  have T2 : ∀ z : Int32, md_look_t2 Y1 (nI l) z = md_look_t3 (md_look_d md_k4 (md_look_c Y1 (nI bl) (nI l)) 0) z := fun z => by
    unfold md_look_t2; rw [at1]
  have T2o : ∀ z : Int32, md_look_t2_ok Y1 (nI l) z = (md_at_ok Y1 (nI l) ∧ md_look_d_ok md_k4 (md_look_c Y1 (nI bl) (nI l)) 0 ∧ md_look_t3_ok (md_look_d md_k4 (md_look_c Y1 (nI bl) (nI l)) 0) z) := fun z => by
    unfold md_look_t2_ok; rw [at1]
  rw [T2, T2o, rl_look_cE hbl]
  by_cases good : nI bl = 16 ∨ ¬ cy_Yard_isEnding (nI bl) = 0
  · have ec : (if nI bl = 16 then Y1 else if cy_Yard_isEnding (nI bl) = 0 then md_bad Y1 5 (nI l) else Y1) = Y1 := by
      by_cases g1 : nI bl = 16
      · rw [if_pos g1]
      · rw [if_neg g1, if_neg (good.resolve_left g1)]
    have e10 : X1 = 0 := by
      rw [b10]
      by_cases g1 : nI bl = 16
      · rw [if_pos g1]
      · rw [if_neg g1, if_neg (good.resolve_left g1)]
    subst e10
    rw [ec, if_pos rfl]
    obtain ⟨od, oe, p1, pl⟩ := rl_places hH b2.1 b2.2.2.1 b3 W1
    rw [hnn] at oe p1 pl
    rcases pl with ⟨p, hp, q1, q2⟩ | ⟨q0, q1, q2⟩
    · obtain ⟨t1, t2⟩ := rl_lookT3 p1 c256 q2 (nI c)
      have Ft : rl_Ft s r (cy_Survey_fault 6 (nI p), X2) (md_bad Y1 6 (nI p)) := rl_bad_ft (f := 6) (P := p) b2.1 b2.2.1 b1 (by decide) (by decide) (by omega)
      obtain ⟨n1, n2, n3, n4, n5, n6⟩ := rl_ft_ne Ft
      rw [t1, if_neg n2, q1, if_neg (show ¬ cy_Survey_fault 6 (nI p) = 0 from n1)]
      exact ⟨⟨oa, ob, at2, od, t2 oe (fun q => absurd q n2)⟩, Or.inl Ft⟩
    · obtain ⟨t1, t2⟩ := rl_lookT3 p1 c256 q2 (nI c)
      rw [t1, if_pos b1, q1, if_pos rfl]
      obtain ⟨w1, w2⟩ := rl_all hH b2 b1 b3 (by rw [ebl]; exact good) (by rw [hnn]; exact q0) (c := nI c) (by rw [b5]) (by rw [b5, hnn, cq]) (fun p hp => by rw [b7, c3]; exact rl_gR (by omega)) (fun p hp => by rw [b8]; exact a7 p (by omega)) (fun p hp => by rw [b9]; exact a8 p (by omega))
      refine ⟨⟨oa, ob, at2, od, t2 oe (fun _ => w1)⟩, ?_⟩
      rcases w2 with w2 | w2
      · exact Or.inl w2
      · exact Or.inr ⟨by omega, by omega, w2⟩
  · have g1 : ¬ nI bl = 16 := fun q => good (Or.inl q)
    have g2 : cy_Yard_isEnding (nI bl) = 0 := Decidable.byContradiction (fun q => good (Or.inr q))
    rw [if_neg g1, if_pos g2] at b10
    rw [if_neg g1, if_pos g2]
    have Ft : rl_Ft s r (X1, X2) (md_bad Y1 5 (nI l)) := by
      rw [b10]
      exact rl_bad_ft (f := 5) (P := l) b2.1 b2.2.1 b1 (by decide) (by decide) (by omega)
    obtain ⟨n1, n2, n3, n4, n5, n6⟩ := rl_ft_ne Ft
    rw [if_neg (show ¬ X1 = 0 from n1)]
    obtain ⟨od, oe, p1, pl⟩ := rl_places hH b2.1 b2.2.2.1 b3 (rl_W_bad W1 5 (nI l))
    rw [hnn] at oe p1 pl
    have e5 : (md_bad Y1 5 (nI l)).2 2 = nI 5 := by rw [rl_bad0 b1]; rfl
    have eend : md_look_e (n + 2) (md_look_d md_k4 (md_bad Y1 5 (nI l)) 0) 3 = md_bad Y1 5 (nI l) := by
      rcases pl with ⟨p, hp, q1, q2⟩ | ⟨q0, q1, q2⟩
      · rw [q2, rl_badn e5 (by decide) (by decide)]
      · exact q2
    obtain ⟨t1, t2⟩ := rl_lookT3 p1 c256 eend (nI c)
    rw [t1, if_neg n2]
    exact ⟨⟨oa, ob, at2, od, t2 oe (fun q => absurd q n2)⟩, Or.inl Ft⟩
