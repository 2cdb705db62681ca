theorem rl_lput {xs : List Int32} {b : Nat} {v : Int32} (hb : b < 2 ^ 31) : cy_lput xs (nI b) v = xs.set b v := by
  unfold cy_lput; rw [if_neg (nI_pos hb), nI_clamp hb]
theorem rl_la {xs : List Int32} {b : Nat} {d : Int32} (hb : b < 2 ^ 31) : cy_la xs (nI b) d = xs.getD b d := by
  unfold cy_la; rw [if_neg (nI_pos hb), nI_clamp hb]
theorem rl_cellput {s : cy_S} {r : md_S} (h : rl_M s r) (hl : 0 < (s.1 (6 + 4 * rl_c s)).length) (b : Nat) (hb : b < 16) (v : Int32) : rl_G s (cy_rput s (8 + 4 * rl_c s) (nI b) v) (md_sa r 4 (nI (16 * rl_c s + b)) v) (rl_n s) (rl_p s) := by
  obtain ⟨hB, h8, h9, c1, c2, c3, c4, c5, c6, c7⟩ := h
  have hc : rl_c s < 8 := (c7 _ (Nat.le_refl _)).1
  have hcl : (nI (16 * rl_c s + b)).toNatClampNeg = 16 * rl_c s + b := nI_clamp (by omega)
  unfold cy_rput
  rw [rl_lput (by omega)]
  generalize rl_c s = c at *
  have u : ∀ a, a ≠ 8 + 4 * c → (cy_sr s (8 + 4 * c) ((s.1 (8 + 4 * c)).set b v)).1 a = s.1 a := fun a h => rl_un h
  have ea : ∀ a, a ≠ 4 → (md_sa r 4 (nI (16 * c + b)) v).1 a = r.1 a := fun a h => rl_un h
  refine ⟨⟨rl_B_row _ _ (Or.inl ⟨by omega, by omega, fun k => by omega, fun k => by omega⟩) hB (fun a ha => ea a (by omega)) rfl, ?_, rl_K_c (fun k _ => u _ (by omega)) (fun k _ => u _ (by omega)) rfl h9, c1, c2, c3, c4, c5, c6, fun j hj => rl_F_c (s := s) (r := r) rfl (u _ (by omega)) (u _ (by omega)) rfl rfl rfl (fun _ _ => rfl) (fun _ _ => rfl) (c7 j hj)⟩, ⟨fun k _ => u _ (by omega), fun k _ => u _ (by omega), fun j _ => ⟨u _ (by omega), rfl⟩, rfl, rfl⟩, by rw [u _ (by omega)], rfl⟩
  intro k hk
  rw [u (6 + 4 * k) (by omega)]
  intro hlk
  obtain ⟨g1, g2⟩ := h8 k hk hlk
  by_cases e : k = c
  · subst e
    have er : (cy_sr s (8 + 4 * k) ((s.1 (8 + 4 * k)).set b v)).1 (8 + 4 * k) = (s.1 (8 + 4 * k)).set b v := rl_us
    rw [er]
    refine ⟨by rw [List.length_set]; exact g1, fun i hi => ?_⟩
    show _ = upd (r.1 4) (nI (16 * k + b)).toNatClampNeg v _
    rw [hcl]
    by_cases ei : i = b
    · subst ei; rw [pk_us, rl_gS (by omega)]
    · rw [pk_un (by omega), rl_gN ei]; exact g2 i hi
  · rw [u (8 + 4 * k) (by omega)]
    refine ⟨g1, fun i hi => ?_⟩
    show _ = upd (r.1 4) (nI (16 * c + b)).toNatClampNeg v _
    rw [hcl, pk_un (by omega)]; exact g2 i hi
theorem rl_localput {s : cy_S} {r : md_S} (h : rl_M s r) (b : Nat) (hb : b < 8) (v : Int32) : rl_G s (cy_rput s (43 + 2 * rl_w s) (nI b) v) (md_sa r 13 (nI (8 * rl_w s + b)) v) (rl_n s) (rl_p s) := by
  obtain ⟨hB, h8, h9, c1, c2, c3, c4, c5, c6, c7⟩ := h
  have hcl : (nI (8 * s.2.2.1.1 + b)).toNatClampNeg = 8 * s.2.2.1.1 + b := nI_clamp (by omega)
  unfold cy_rput rl_w
  rw [rl_lput (by omega)]
  have u : ∀ a, a ≠ 43 + 2 * s.2.2.1.1 → (cy_sr s (43 + 2 * s.2.2.1.1) ((s.1 (43 + 2 * s.2.2.1.1)).set b v)).1 a = s.1 a := fun a h => rl_un h
  have ea : ∀ a, a ≠ 13 → (md_sa r 13 (nI (8 * s.2.2.1.1 + b)) v).1 a = r.1 a := fun a h => rl_un h
  have e13 : (md_sa r 13 (nI (8 * s.2.2.1.1 + b)) v).1 13 = upd (r.1 13) (8 * s.2.2.1.1 + b) v := by
    show upd (r.1 13) (nI (8 * s.2.2.1.1 + b)).toNatClampNeg v = _; rw [hcl]
  refine ⟨⟨rl_B_row _ _ (Or.inr (by omega)) hB (fun a ha => ea a (by omega)) rfl, rl_K_c (fun k _ => u _ (by omega)) (fun k _ => u _ (by omega)) rfl h8, rl_K_c (fun k _ => u _ (by omega)) (fun k _ => u _ (by omega)) rfl h9, c1, c2, c3, c4, c5, c6, fun j hj => ?_⟩, ⟨fun k _ => u _ (by omega), fun k _ => u _ (by omega), fun j _ => ⟨u _ (by omega), rfl⟩, rfl, rfl⟩, by rw [u _ (by omega)], rfl⟩
  have hj : j ≤ s.2.2.1.1 := hj
  by_cases e : j = s.2.2.1.1
  · obtain ⟨a1, a2, a3, a4, a5, a6, a7, a8⟩ := c7 j hj
    have er : (cy_sr s (43 + 2 * s.2.2.1.1) ((s.1 (43 + 2 * s.2.2.1.1)).set b v)).1 (43 + 2 * j) = (s.1 (43 + 2 * j)).set b v := by rw [e]; exact rl_us
    unfold rl_F
    rw [er, u (42 + 2 * j) (by omega)]
    refine ⟨a1, a2, a3, a4, a5, a6, by rw [List.length_set]; exact a7, fun i hi => ?_⟩
    rw [e13]
    by_cases ei : i = b
    · subst ei; rw [rl_gS (by omega), e, pk_us]
    · rw [pk_un (by omega), rl_gN ei]; exact a8 i hi
  · refine rl_F_c (s := s) (r := r) rfl (u _ (by omega)) (u _ (by omega)) rfl rfl rfl (fun _ _ => rfl) (fun i hi => ?_) (c7 j hj)
    rw [e13, pk_un (by omega)]
theorem rl_output {s : cy_S} {r : md_S} (h : rl_M s r) (v w : Int32) (hv : v = w &&& 255) (hl : (s.1 5).length < 64) : vp_in (r.2 12) 64 ∧ rl_G s (cy_radd s 5 v) (md_ss (md_sa r 15 (r.2 12) w) 12 (r.2 12 + 1)) (rl_n s) (rl_p s) := by
  obtain ⟨⟨hT, hD, hi, ho, hN⟩, h8, h9, c1, c2, c3, c4, c5, c6, c7⟩ := h
  obtain ⟨o1, o2, o3⟩ := rl_T_add ho hl (by decide) hv
  have u : ∀ a, a ≠ 5 → (cy_radd s 5 v).1 a = s.1 a := fun a h => rl_un h
  refine ⟨o1, ⟨⟨?_, fun k hk => rl_D_c (u _ (by omega)) (u _ (by omega)) rfl rfl rfl (hD k hk), ?_, o2, ?_⟩, rl_K_c (fun k _ => u _ (by omega)) (fun k _ => u _ (by omega)) rfl h8, rl_K_c (fun k _ => u _ (by omega)) (fun k _ => u _ (by omega)) rfl h9, c1, c2, c3, c4, c5, c6, fun j hj => rl_F_c (s := s) (r := r) rfl (u _ (by omega)) (u _ (by omega)) rfl rfl rfl (fun _ _ => rfl) (fun _ _ => rfl) (c7 j hj)⟩, ⟨fun k _ => u _ (by omega), fun k _ => u _ (by omega), fun j _ => ⟨u _ (by omega), rfl⟩, rfl, rfl⟩, by rw [u _ (by omega)], rfl⟩
  · rw [u 0 (by decide)]; exact hT
  · rw [u 4 (by decide)]; exact hi
  · exact hN
theorem rl_move {s : cy_S} {r : md_S} (h : rl_M s r) (hl : 0 < (s.1 (6 + 4 * rl_c s)).length) (o b t g : Nat) (ho : o < 5) (ht : cy_Yard_takes (nI o) = nI t) (hg : cy_Yard_gives (nI o) = nI g) (ht2 : t ≤ 2) (hg2 : g ≤ 2) (h1 : t ≤ rl_n s) (h2 : rl_n s - t + g ≤ 8) (hb : b < 256) (hbm : nI b ≤ cy_Yard_operandMost (nI o)) :
    md_simple_ok r (nI o) (nI b).toInt8.toInt32 (nI (rl_w s)) (nI (rl_c s)) ∧ rl_G s (cy_Run_move s (nI o) (nI b)) (md_simple r (nI o) (nI b).toInt8.toInt32 (nI (rl_w s)) (nI (rl_c s))) (rl_n s - t + g) (rl_p s) := by
  obtain ⟨f1, f2, f3, f4, f5, f6, f7, f8⟩ := h.2.2.2.2.2.2.2.2.2 _ (Nat.le_refl _)
  have f1 : rl_c s < 8 := f1
  have hw : rl_w s < 8 := h.2.2.2.2.2.2.2.1
  have et : ∀ z, cy_Yard_takes (nI o) = nI z → z ≤ 2 → t = z := fun z hz hz2 => (nI_eq (by omega) (by omega)).1 (ht.symm.trans hz)
  have eg : ∀ z, cy_Yard_gives (nI o) = nI z → z ≤ 2 → g = z := fun z hz hz2 => (nI_eq (by omega) (by omega)).1 (hg.symm.trans hz)
  have em : ∀ z, cy_Yard_operandMost (nI o) = nI z → z < 256 → b ≤ z := fun z hz hz2 => (nI_leI (by omega) (by omega)).1 (hz ▸ hbm)
  obtain ⟨kl, kc⟩ := h.2.1 (rl_c s) f1 hl
  rcases o with _ | _ | _ | _ | _ | o
  · obtain rfl := et 0 (by decide) (by decide)
    obtain rfl := eg 1 (by decide) (by decide)
    obtain ⟨p1, p2⟩ := rl_push h (nI b).toInt8.toInt32 (by omega)
    exact ⟨⟨p1, trivial⟩, p2⟩
  · obtain rfl := et 0 (by decide) (by decide)
    obtain rfl := eg 1 (by decide) (by decide)
    have hb16 := em 15 (by decide) (by decide)
    have e : (nI (rl_c s) * 16 + (nI b).toInt8.toInt32) = nI (16 * rl_c s + b) := by rw [rl_8s (by omega), rl_16]
    have ev : r.1 4 (nI (rl_c s) * 16 + (nI b).toInt8.toInt32).toNatClampNeg = cy_rat s (8 + 4 * rl_c s) (nI b) 0 := by
      rw [e, nI_clamp (by omega)]; unfold cy_rat; rw [rl_la (by omega)]; exact (kc b (by omega)).symm
    obtain ⟨p1, p2⟩ := rl_push h (cy_rat s (8 + 4 * rl_c s) (nI b) 0) (by omega)
    rw [← ev] at p1
    refine ⟨⟨by rw [e]; exact vp_in_nI (by omega) (by decide), p1, trivial⟩, ?_⟩
    show rl_G s (cy_radd s _ (cy_rat s (8 + 4 * rl_c s) (nI b) 0)) (md_push r (r.1 4 (nI (rl_c s) * 16 + (nI b).toInt8.toInt32).toNatClampNeg)) _ _
    rw [ev]; exact p2
  · obtain rfl := et 1 (by decide) (by decide)
    obtain rfl := eg 0 (by decide) (by decide)
    have hb16 := em 15 (by decide) (by decide)
    have e : (nI (rl_c s) * 16 + (nI b).toInt8.toInt32) = nI (16 * rl_c s + b) := by rw [rl_8s (by omega), rl_16]
    obtain ⟨p1, p2, p3⟩ := rl_pop h (by omega)
    have hl' : 0 < ((cy_rdrop s (42 + 2 * s.2.2.1.1)).1 (6 + 4 * rl_c s)).length := by rw [p3.2.1.1 _ f1]; exact hl
    have q := rl_G_t p3 (rl_cellput p3.1 hl' b (by omega) (md_pop r).1)
    refine ⟨⟨p1, by rw [e]; exact vp_in_nI (by omega) (by decide), trivial⟩, ?_⟩
    show rl_G s (cy_rput (cy_rdrop s (42 + 2 * s.2.2.1.1)) (8 + 4 * rl_c s) (nI b) (cy_rlast s (42 + 2 * s.2.2.1.1))) (md_sa (md_pop r).2 4 (nI (rl_c s) * 16 + (nI b).toInt8.toInt32) (md_pop r).1) _ _
    rw [e, ← p2, show rl_n s - 1 + 0 = rl_n s - 1 from rfl]
    have e3 : rl_n (cy_rdrop s (42 + 2 * s.2.2.1.1)) = rl_n s - 1 := p3.2.2.1
    rw [e3] at q
    exact q
  · obtain rfl := et 0 (by decide) (by decide)
    obtain rfl := eg 1 (by decide) (by decide)
    have hb16 := em 7 (by decide) (by decide)
    have e : (8 * nI (rl_w s) + (nI b).toInt8.toInt32) = nI (8 * rl_w s + b) := by rw [rl_8s (by omega), rl_8]
    have ev : r.1 13 (8 * nI (rl_w s) + (nI b).toInt8.toInt32).toNatClampNeg = cy_rat s (43 + 2 * rl_w s) (nI b) 0 := by
      rw [e, nI_clamp (by omega)]; unfold cy_rat; rw [rl_la (by omega)]; exact (f8 b (by omega)).symm
    obtain ⟨p1, p2⟩ := rl_push h (cy_rat s (43 + 2 * rl_w s) (nI b) 0) (by omega)
    rw [← ev] at p1
    refine ⟨⟨by rw [e]; exact vp_in_nI (by omega) (by decide), p1, trivial⟩, ?_⟩
    show rl_G s (cy_radd s _ (cy_rat s (43 + 2 * rl_w s) (nI b) 0)) (md_push r (r.1 13 (8 * nI (rl_w s) + (nI b).toInt8.toInt32).toNatClampNeg)) _ _
    rw [ev]; exact p2
  · obtain rfl := et 1 (by decide) (by decide)
    obtain rfl := eg 0 (by decide) (by decide)
    have hb16 := em 7 (by decide) (by decide)
    have e : (8 * nI (rl_w s) + (nI b).toInt8.toInt32) = nI (8 * rl_w s + b) := by rw [rl_8s (by omega), rl_8]
    obtain ⟨p1, p2, p3⟩ := rl_pop h (by omega)
    have q := rl_G_t p3 (rl_localput p3.1 b (by omega) (md_pop r).1)
    refine ⟨⟨p1, by rw [e]; exact vp_in_nI (by omega) (by decide), trivial⟩, ?_⟩
    show rl_G s (cy_rput (cy_rdrop s (42 + 2 * s.2.2.1.1)) (43 + 2 * rl_w s) (nI b) (cy_rlast s (42 + 2 * s.2.2.1.1))) (md_sa (md_pop r).2 13 (8 * nI (rl_w s) + (nI b).toInt8.toInt32) (md_pop r).1) _ _
    rw [e, ← p2, show rl_n s - 1 + 0 = rl_n s - 1 from rfl]
    have e3 : rl_n (cy_rdrop s (42 + 2 * s.2.2.1.1)) = rl_n s - 1 := p3.2.2.1
    rw [e3] at q
    exact q
  · omega
