def rl_X (s : cy_S) (r : md_S) : Prop := rl_B s r ∧ rl_K s 9 (r.1 4) ∧ s.2.2.1.2.2.1 = 2 ∧ r.2 5 = 0 ∧ r.2 6 = 1
def rl_O (s : cy_S) (r : md_S) : Prop := rl_I s ∧ ((rl_M s r ∧ rl_J s) ∨ (rl_E s r ∧ s.2.2.1.2.2.1 = 0 ∧ r.2 6 = 0) ∨ rl_X s r)
def rl_kp (s s' : cy_S) : Prop := (∀ k, k < 8 → s'.1 (6 + 4 * k) = s.1 (6 + 4 * k)) ∧ (∀ k, k < 8 → s'.1 (7 + 4 * k) = s.1 (7 + 4 * k)) ∧ (∀ j, j < s.2.2.1.1 → s'.1 (42 + 2 * j) = s.1 (42 + 2 * j) ∧ s'.2.1 j = s.2.1 j) ∧ s'.2.2.1.1 = s.2.2.1.1 ∧ (s'.2.1 s.2.2.1.1).1 = (s.2.1 s.2.2.1.1).1
def rl_G (s s' : cy_S) (r' : md_S) (m : Nat) (pl : Int32) : Prop := rl_M s' r' ∧ rl_kp s s' ∧ (s'.1 (42 + 2 * s.2.2.1.1)).length = m ∧ (s'.2.1 s.2.2.1.1).2 = pl
abbrev rl_w (s : cy_S) : Nat := s.2.2.1.1
abbrev rl_n (s : cy_S) : Nat := (s.1 (42 + 2 * s.2.2.1.1)).length
abbrev rl_p (s : cy_S) : Int32 := (s.2.1 s.2.2.1.1).2
abbrev rl_c (s : cy_S) : Nat := (s.2.1 s.2.2.1.1).1
theorem rl_kp_t {s s1 s2 : cy_S} (h : rl_kp s s1) (g : rl_kp s1 s2) : rl_kp s s2 := by
  obtain ⟨a1, a2, a3, a4, a5⟩ := h
  obtain ⟨b1, b2, b3, b4, b5⟩ := g
  rw [a4] at b3 b4 b5
  exact ⟨fun k hk => (b1 k hk).trans (a1 k hk), fun k hk => (b2 k hk).trans (a2 k hk), fun j hj => ⟨(b3 j hj).1.trans (a3 j hj).1, (b3 j hj).2.trans (a3 j hj).2⟩, b4, b5.trans a5⟩
theorem rl_G_t {s s1 s2 : cy_S} {r1 r2 : md_S} {m1 m2 : Nat} {p1 p2 : Int32} (h : rl_G s s1 r1 m1 p1) (g : rl_G s1 s2 r2 m2 p2) : rl_G s s2 r2 m2 p2 := by
  obtain ⟨h1, h2, h3, h4⟩ := h
  obtain ⟨g1, g2, g3, g4⟩ := g
  refine ⟨g1, rl_kp_t h2 g2, ?_, ?_⟩
  · rw [h2.2.2.2.1] at g3; exact g3
  · rw [h2.2.2.2.1] at g4; exact g4
theorem rl_J_of {s s' : cy_S} {p m : Nat} (hJ : rl_J s) (hk : rl_kp s s') (hc : rl_c s < 8) (hcs : ∀ j, j ≤ s.2.2.1.1 → (s.2.1 j).1 < 8) (hm : (s'.1 (42 + 2 * s.2.2.1.1)).length = m) (hp : (s'.2.1 s.2.2.1.1).2 = nI p) (hp1 : p < (s.1 (6 + 4 * rl_c s)).length) (hp2 : (s.1 (7 + 4 * rl_c s)).getD p 0 = nI m) : rl_J s' := by
  obtain ⟨a1, a2, a3, a4, a5⟩ := hk
  intro j
  rw [a4]
  intro hj
  by_cases e : j = s.2.2.1.1
  · subst e
    rw [a5, a1 _ hc, a2 _ hc, if_pos rfl, hm]
    exact ⟨(hJ _ hj).1, p, hp1, hp, hp2⟩
  · rw [(a3 j (by omega)).1, (a3 j (by omega)).2, a1 _ (hcs j hj), a2 _ (hcs j hj)]
    exact hJ j hj
theorem rl_kp_pile (s : cy_S) (xs : List Int32) (h : s.2.2.1.1 < 8) : rl_kp s (cy_sr s (42 + 2 * s.2.2.1.1) xs) :=
  ⟨fun k _ => rl_un (by omega), fun k _ => rl_un (by omega), fun j _ => ⟨rl_un (by omega), rfl⟩, rfl, rfl⟩
theorem rl_B_row {s : cy_S} {r r' : md_S} (a : Nat) (xs : List Int32) (ha : (8 ≤ a ∧ a < 42 ∧ (∀ k, a ≠ 6 + 4 * k) ∧ (∀ k, a ≠ 7 + 4 * k)) ∨ 42 ≤ a) (hB : rl_B s r) (e : ∀ a, a < 4 ∨ 13 < a → r'.1 a = r.1 a) (e2 : r'.2 = r.2) : rl_B (cy_sr s a xs) r' := by
  obtain ⟨hT, hD, hi, ho, hN⟩ := hB
  have u : ∀ c, c ≠ a → (cy_sr s a xs).1 c = s.1 c := fun c h => rl_un h
  refine ⟨?_, fun k hk => rl_D_c (u _ (by rcases ha with h | h; exact fun q => h.2.2.1 k q.symm; omega)) (u _ (by rcases ha with h | h; exact fun q => h.2.2.2 k q.symm; omega)) (e 1 (by decide)) (e 2 (by decide)) (e 3 (by decide)) (hD k hk), ?_, ?_, ?_⟩
  · rw [u 0 (by omega), e 0 (by decide), e2]; exact hT
  · rw [u 4 (by omega), e 14 (by decide), e2]; exact hi
  · rw [u 5 (by omega), e 15 (by decide), e2]; exact ho
  · unfold rl_N; rw [e2]; exact hN
theorem rl_M_pile {s : cy_S} {r r' : md_S} (h : rl_M s r) (xs : List Int32) (hx : xs.length ≤ 8) (e : ∀ a, a ≠ 11 → a ≠ 12 → r'.1 a = r.1 a) (e2 : r'.2 = r.2) (e11w : r'.1 11 s.2.2.1.1 = nI xs.length) (e11 : ∀ j, j ≠ s.2.2.1.1 → r'.1 11 j = r.1 11 j) (e12 : ∀ i, i < xs.length → xs.getD i 0 = r'.1 12 (8 * s.2.2.1.1 + i)) (e12' : ∀ j, j < 8 * s.2.2.1.1 → r'.1 12 j = r.1 12 j) : rl_M (cy_sr s (42 + 2 * s.2.2.1.1) xs) r' := by
  obtain ⟨hB, h8, h9, c1, c2, c3, c4, c5, c6, c7⟩ := h
  have u : ∀ a, a ≠ 42 + 2 * s.2.2.1.1 → (cy_sr s (42 + 2 * s.2.2.1.1) xs).1 a = s.1 a := fun a h => rl_un h
  refine ⟨rl_B_row _ xs (Or.inr (by omega)) hB (fun a ha => e a (by omega) (by omega)) e2, rl_K_c (fun k _ => u _ (by omega)) (fun k _ => u _ (by omega)) (e 4 (by decide) (by decide)) h8, rl_K_c (fun k _ => u _ (by omega)) (fun k _ => u _ (by omega)) (e 5 (by decide) (by decide)) h9, c1, c2, by rw [e2]; exact c3, by rw [e2]; exact c4, c5, by rw [e2]; exact c6, fun j hj => ?_⟩
  have hj : j ≤ s.2.2.1.1 := hj
  by_cases ej : j = s.2.2.1.1
  · obtain ⟨a1, a2, a3, a4, a5, a6, a7, a8⟩ := c7 j hj
    have ur : (cy_sr s (42 + 2 * s.2.2.1.1) xs).1 (42 + 2 * j) = xs := by rw [ej]; exact rl_us
    unfold rl_F
    rw [ur, u (43 + 2 * j) (by omega), e 9 (by decide) (by decide), e 10 (by decide) (by decide), e 13 (by decide) (by decide)]
    exact ⟨a1, a2, a3, by rw [ej]; exact e11w, hx, by rw [ej]; exact e12, a7, a8⟩
  · exact rl_F_c (s := s) rfl (u _ (by omega)) (u _ (by omega)) (by rw [e 9 (by decide) (by decide)]) (by rw [e 10 (by decide) (by decide)]) (e11 j ej) (fun i hi => e12' _ (by omega)) (fun i hi => by rw [e 13 (by decide) (by decide)]) (c7 j hj)
theorem rl_push {s : cy_S} {r : md_S} (h : rl_M s r) (v : Int32) (hn : rl_n s < 8) : md_push_ok r v ∧ rl_G s (cy_radd s (42 + 2 * s.2.2.1.1) v) (md_push r v) (rl_n s + 1) (rl_p s) := by
  obtain ⟨t1, t2, t3⟩ := rl_top h
  have hw := h.2.2.2.2.2.2.2.1
  obtain ⟨f1, f2, f3, f4, f5, f6, f7, f8⟩ := h.2.2.2.2.2.2.2.2.2 _ (Nat.le_refl _)
  have f5 : rl_n s ≤ 8 := f5
  have hcap : cy_cap (42 + 2 * s.2.2.1.1) = 8 := by
    unfold cy_cap; rw [if_neg (by omega), if_neg (by omega), if_neg (by omega), if_neg (by omega)]
  have er : cy_radd s (42 + 2 * s.2.2.1.1) v = cy_sr s (42 + 2 * s.2.2.1.1) (s.1 (42 + 2 * s.2.2.1.1) ++ [v]) := by
    unfold cy_radd cy_ladd; rw [hcap, if_pos hn]
  unfold md_push_ok md_push
  rw [t2, t1, f4, rl_8, er]
  have hcl : (nI (8 * s.2.2.1.1 + rl_n s)).toNatClampNeg = 8 * s.2.2.1.1 + rl_n s := nI_clamp (by omega)
  have hclw : (nI s.2.2.1.1).toNatClampNeg = s.2.2.1.1 := nI_clamp (by omega)
  have v8 : vp_in (nI s.2.2.1.1) 8 := vp_in_nI hw (by decide)
  refine ⟨⟨v8, vp_in_nI (show 8 * s.2.2.1.1 + rl_n s < 64 by omega) (by decide), v8, v8, trivial⟩, rl_M_pile h _ ?_ (fun a h1 h2 => (rl_un h1).trans (rl_un h2)) rfl ?_ (fun j hj => ?_) (fun i hi => ?_) (fun j hj => ?_), rl_kp_pile s _ hw, ?_, rfl⟩
  · rw [List.length_append]; exact hn
  · show upd (r.1 11) (nI s.2.2.1.1).toNatClampNeg (r.1 11 s.2.2.1.1 + 1) s.2.2.1.1 = _
    rw [hclw, pk_us, f4, nI_1, List.length_append]; rfl
  · show upd (r.1 11) (nI s.2.2.1.1).toNatClampNeg (r.1 11 s.2.2.1.1 + 1) j = _
    rw [hclw, pk_un hj]
  · show _ = upd (r.1 12) (nI (8 * s.2.2.1.1 + rl_n s)).toNatClampNeg v _
    rw [hcl]
    rw [List.length_append] at hi
    have hi : i < rl_n s + 1 := hi
    by_cases e : i < rl_n s
    · rw [rl_gA e, pk_un (by omega)]; exact f6 i e
    · have : i = rl_n s := by omega
      subst this
      rw [rl_gE, pk_us]
  · show upd (r.1 12) (nI (8 * s.2.2.1.1 + rl_n s)).toNatClampNeg v _ = _
    rw [hcl, pk_un (by omega)]
  · show (cy_up s.1 (42 + 2 * s.2.2.1.1) _ (42 + 2 * s.2.2.1.1)).length = _
    rw [rl_us, List.length_append]; rfl
theorem rl_pop {s : cy_S} {r : md_S} (h : rl_M s r) (hn : 0 < rl_n s) : md_pop_ok r ∧ (md_pop r).1 = cy_rlast s (42 + 2 * s.2.2.1.1) ∧ rl_G s (cy_rdrop s (42 + 2 * s.2.2.1.1)) (md_pop r).2 (rl_n s - 1) (rl_p s) := by
  obtain ⟨t1, t2, t3⟩ := rl_top h
  have hw := h.2.2.2.2.2.2.2.1
  obtain ⟨f1, f2, f3, f4, f5, f6, f7, f8⟩ := h.2.2.2.2.2.2.2.2.2 _ (Nat.le_refl _)
  have f5 : rl_n s ≤ 8 := f5
  have hclw : (nI s.2.2.1.1).toNatClampNeg = s.2.2.1.1 := nI_clamp (by omega)
  have hs : nI (rl_n s) - 1 = nI (rl_n s - 1) := by
    rw [show rl_n s = rl_n s - 1 + 1 by omega, nI_pred]; rfl
  have hpop : md_pop r = (r.1 12 (8 * s.2.2.1.1 + (rl_n s - 1)), md_sa (md_sa r 11 (nI s.2.2.1.1) (nI (rl_n s - 1))) 12 (nI (8 * s.2.2.1.1 + (rl_n s - 1))) 0) := by
    unfold md_pop
    have e1 : (md_sa r 11 (nI s.2.2.1.1) (nI (rl_n s - 1))).1 11 s.2.2.1.1 = nI (rl_n s - 1) := by
      show upd (r.1 11) (nI s.2.2.1.1).toNatClampNeg _ _ = _
      rw [hclw, pk_us]
    rw [t2, f4, hs, t1, e1, rl_8, nI_clamp (by omega)]
    rfl
  have v8 : vp_in (nI s.2.2.1.1) 8 := vp_in_nI hw (by decide)
  have ho : md_pop_ok r := by
    unfold md_pop_ok
    have e1 : (md_sa r 11 (nI s.2.2.1.1) (nI (rl_n s - 1))).1 11 s.2.2.1.1 = nI (rl_n s - 1) := by
      show upd (r.1 11) (nI s.2.2.1.1).toNatClampNeg _ _ = _
      rw [hclw, pk_us]
    rw [t2, f4, hs, t1, e1, rl_8]
    exact ⟨v8, v8, v8, vp_in_nI (by omega) (by decide), v8, vp_in_nI (by omega) (by decide), trivial⟩
  have hcl : (nI (8 * s.2.2.1.1 + (rl_n s - 1))).toNatClampNeg = 8 * s.2.2.1.1 + (rl_n s - 1) := nI_clamp (by omega)
  have hdl : (s.1 (42 + 2 * s.2.2.1.1)).dropLast.length = rl_n s - 1 := List.length_dropLast
  refine ⟨ho, ?_, ?_⟩
  · rw [hpop]
    show r.1 12 _ = (s.1 (42 + 2 * s.2.2.1.1)).getLastD 0
    rw [← f6 _ (show _ < rl_n s by omega), List.getLastD_eq_getLast?, List.getLast?_eq_getElem?, List.getD_eq_getElem?_getD]
  · rw [hpop]
    refine ⟨rl_M_pile h _ (by rw [hdl]; omega) (fun a h1 h2 => (rl_un h2).trans (rl_un h1)) rfl ?_ (fun j hj => ?_) (fun i hi => ?_) (fun j hj => ?_), rl_kp_pile s _ hw, ?_, rfl⟩
    · show upd (r.1 11) (nI s.2.2.1.1).toNatClampNeg _ _ = _
      rw [hclw, pk_us, hdl]
    · show upd (r.1 11) (nI s.2.2.1.1).toNatClampNeg _ _ = _
      rw [hclw, pk_un hj]
    · show _ = upd (r.1 12) (nI (8 * s.2.2.1.1 + (rl_n s - 1))).toNatClampNeg _ _
      rw [hdl] at hi
      rw [hcl, pk_un (by omega), ← f6 i (show _ < rl_n s by omega), List.getD_eq_getElem?_getD, List.getD_eq_getElem?_getD, List.getElem?_dropLast, if_pos hi]
    · show upd (r.1 12) (nI (8 * s.2.2.1.1 + (rl_n s - 1))).toNatClampNeg _ _ = _
      rw [hcl, pk_un (by omega)]
    · show (cy_up s.1 (42 + 2 * s.2.2.1.1) _ (42 + 2 * s.2.2.1.1)).length = _
      rw [rl_us, hdl]
theorem rl_place {s : cy_S} {r : md_S} (h : rl_M s r) (v : Int32) : rl_G s (cy_sf_place s s.2.2.1.1 v) (md_sa r 10 (nI s.2.2.1.1) v) (rl_n s) v := by
  obtain ⟨hB, h8, h9, c1, c2, c3, c4, c5, c6, c7⟩ := h
  have hclw : (nI s.2.2.1.1).toNatClampNeg = s.2.2.1.1 := nI_clamp (by omega)
  refine ⟨⟨?_, rl_K_c (fun k _ => rfl) (fun k _ => rfl) rfl h8, rl_K_c (fun k _ => rfl) (fun k _ => rfl) rfl h9, c1, c2, c3, c4, c5, c6, fun j hj => ?_⟩, ⟨fun k _ => rfl, fun k _ => rfl, fun j hj => ⟨rfl, rl_un (by omega)⟩, rfl, ?_⟩, rfl, ?_⟩
  · obtain ⟨hT, hD, hi, ho, hN⟩ := hB
    exact ⟨hT, fun k hk => rl_D_c rfl rfl rfl rfl rfl (hD k hk), hi, ho, hN⟩
  · have hj : j ≤ s.2.2.1.1 := hj
    by_cases ej : j = s.2.2.1.1
    · obtain ⟨a1, a2, a3, a4, a5, a6, a7, a8⟩ := c7 j hj
      have e1 : (cy_sf_place s s.2.2.1.1 v).2.1 j = ((s.2.1 j).1, v) := by rw [ej]; exact rl_us
      unfold rl_F
      rw [e1]
      refine ⟨a1, a2, ?_, a4, a5, a6, a7, a8⟩
      show upd (r.1 10) (nI s.2.2.1.1).toNatClampNeg v j = v
      rw [hclw, ej, pk_us]
    · refine rl_F_c (s := s) (r := r) (rl_un ej) rfl rfl rfl ?_ rfl (fun _ _ => rfl) (fun _ _ => rfl) (c7 j hj)
      show upd (r.1 10) (nI s.2.2.1.1).toNatClampNeg v j = _
      rw [hclw, pk_un ej]
  · show (cy_up s.2.1 s.2.2.1.1 _ s.2.2.1.1).1 = _; rw [rl_us]
  · show (cy_up s.2.1 s.2.2.1.1 _ s.2.2.1.1).2 = _; rw [rl_us]
theorem rl_done {s : cy_S} {r : md_S} (h : rl_M s r) (hd : s.2.2.1.2.2.2.2.2 < 2000) : rl_G s (cy_s_done s (s.2.2.1.2.2.2.2.2 + 1)) (md_ss r 9 (r.2 9 + 1)) (rl_n s) (rl_p s) := by
  obtain ⟨hB, h8, h9, c1, c2, c3, c4, c5, c6, c7⟩ := h
  refine ⟨⟨?_, rl_K_c (fun k _ => rfl) (fun k _ => rfl) rfl h8, rl_K_c (fun k _ => rfl) (fun k _ => rfl) rfl h9, c1, c2, c3, c4, c5, c6, fun j hj => rl_F_c rfl rfl rfl rfl rfl rfl (fun _ _ => rfl) (fun _ _ => rfl) (c7 j hj)⟩, ⟨fun k _ => rfl, fun k _ => rfl, fun j hj => ⟨rfl, rfl⟩, rfl, rfl⟩, rfl, rfl⟩
  obtain ⟨hT, hD, hi, ho, n1, n2, n3, d, hd', n4, n5⟩ := hB
  refine ⟨hT, fun k hk => rl_D_c rfl rfl rfl rfl rfl (hD k hk), hi, ho, n1, n2, n3, d + 1, ?_, ?_, ?_⟩
  · rw [n5] at hd
    exact (rl_ltI rfl (show (2000 : Int32) = nI 2000 from rfl) (by omega) (by decide)).1 hd
  · show r.2 9 + 1 = _; rw [n4, nI_1]
  · show s.2.2.1.2.2.2.2.2 + 1 = _; rw [n5, nI_1]
theorem rl_fail {s : cy_S} {r : md_S} (h : rl_M s r) (w : Int32) : md_throwFor_ok r w ∧ rl_X (cy_Run_fail s w) (md_throwFor r w) := by
  obtain ⟨⟨hT, hD, hi, ho, n1, n2, n3, n4⟩, h8, h9, c1, c2, c3, c4, c5, c6, c7⟩ := h
  obtain ⟨uo, u1, u2, u3⟩ := rl_undo r
  have e1 : ∀ a, (md_throwFor r w).1 a = (md_undo r).1 a := fun a => rfl
  have e2 : ∀ a, a ≠ 5 → a ≠ 6 → a ≠ 8 → (md_throwFor r w).2 a = r.2 a := fun a h1 h2 h3 => (rl_un h3).trans ((rl_un h2).trans ((rl_un h1).trans (by rw [u1])))
  refine ⟨⟨uo, trivial⟩, ⟨?_, fun k hk => rl_D_c rfl rfl ((e1 1).trans (u2 1 (by decide))) ((e1 2).trans (u2 2 (by decide))) ((e1 3).trans (u2 3 (by decide))) (hD k hk), ?_, ?_, ?_⟩, ?_, rfl, rfl, rfl⟩
  · rw [e1, u2 0 (by decide), e2 0 (by decide) (by decide) (by decide)]; exact hT
  · rw [e1, u2 14 (by decide), e2 11 (by decide) (by decide) (by decide)]; exact hi
  · rw [e1, u2 15 (by decide), e2 12 (by decide) (by decide) (by decide)]; exact ho
  · unfold rl_N
    rw [e2 4 (by decide) (by decide) (by decide), e2 7 (by decide) (by decide) (by decide), e2 9 (by decide) (by decide) (by decide)]
    exact ⟨n1, n2, rfl, n4⟩
  · intro k hk hl
    obtain ⟨g1, g2⟩ := h9 k hk hl
    refine ⟨g1, fun i hi => ?_⟩
    rw [e1, u3 _ (by omega)]; exact g2 i hi
theorem rl_O_fail {s : cy_S} {r : md_S} (hI : rl_I s) (h : rl_M s r) (w : Int32) : md_throwFor_ok r w ∧ rl_O (cy_Run_fail s w) (md_throwFor r w) :=
  ⟨(rl_fail h w).1, rl_I_c (fun _ _ => rfl) (fun _ _ => rfl) hI, Or.inr (Or.inr (rl_fail h w).2)⟩
