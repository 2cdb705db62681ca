theorem rl_hop : ∀ o : Nat, o < 28 → md_hasOperand (nI o) = cy_Yard_hasOperand (nI o) := by decide +kernel
theorem rl_mtk : ∀ o : Nat, o < 28 → md_takes (nI o) = cy_Yard_takes (nI o) := by decide +kernel
theorem rl_mgv : ∀ o : Nat, o < 28 → md_gives (nI o) = cy_Yard_gives (nI o) := by decide +kernel
theorem rl_callT {s : cy_S} {r : md_S} (hI : rl_I s) (h : rl_M s r) (hb : ∀ j, j < s.2.2.1.1 → rl_jt s j 1) (ht : rl_jt s s.2.2.1.1 1) (b : Nat) (hb24 : b < 24) : md_call_ok r (nI b) ∧ rl_O (cy_Run_doOther s (nI 27) (nI b)) (md_call r (nI b)) := by
  have e1 : nI b - nI b / 8 * 8 = nI (b % 8) := pk_rem (by omega) (by decide) (by decide)
  have e2 : nI b / 8 = nI (b / 8) := pk_div (by omega) (by decide) (by decide)
  have c1 : cy_Run_doOther s (nI 27) (nI b) = if cy_no s (nI (b % 8)) then cy_Run_callNull s (nI (b / 8)) else cy_Run_callCode s (b % 8) (nI (b / 8)) := by
    unfold cy_Run_doOther
    rw [if_neg (by decide), if_neg (by decide), if_neg (by decide), if_neg (by decide), if_neg (by decide), if_neg (by decide), if_neg (by decide), if_neg (by decide), if_pos (by decide)]
    by_cases hn : cy_no s (nI b - nI b / 8 * 8)
    · rw [if_pos hn, if_pos (e1 ▸ hn), e2]
    · rw [if_neg hn, if_neg (e1 ▸ hn), e1, nI_clamp (by omega), e2]
  have hk : b % 8 < 8 := by omega
  have hq : b / 8 < 3 := by omega
  rw [c1]
  unfold md_call_ok md_call
  rw [e1, e2]
  generalize b % 8 = k at hk
  generalize b / 8 = q at hq
  obtain ⟨d1, d2, d3, d4⟩ := h.1.2.1 k hk
  have vk : vp_in (nI k) 8 := vp_in_nI hk (by decide)
  by_cases g : (s.1 (6 + 4 * k)).length = 0
  · rw [if_pos ((rl_noN hk d1).2 g), nI_clamp (by omega), d3, g, if_pos (show nI 0 = 0 from rfl), if_pos (show nI 0 = 0 from rfl)]
    have e : cy_Run_callNull s (nI q) = cy_Run_fail s 4 := by unfold cy_Run_callNull; split <;> rfl
    rw [e]
    obtain ⟨z1, z2⟩ := rl_O_fail hI h 4
    exact ⟨⟨vk, z1, trivial⟩, z2⟩
  · rw [if_neg (fun q => g ((rl_noN hk d1).1 q)), nI_clamp (by omega), d3, if_neg (nI_ne0 (by omega) (by omega)), if_neg (nI_ne0 (by omega) (by omega))]
    have hM := h
    obtain ⟨hB, h8, h9, c1, c2, c3, c4, c5, c6, c7⟩ := h
    unfold cy_Run_callCode
    by_cases hw : s.2.2.1.1 = 7
    · have g1 : r.2 10 = 8 := by rw [c6, hw]; rfl
      rw [if_pos g1, if_pos g1, if_pos hw]
      obtain ⟨z1, z2⟩ := rl_O_fail hI hM 5
      exact ⟨⟨vk, z1, trivial⟩, z2⟩
    · have g1 : ¬ r.2 10 = 8 := by rw [c6]; exact fun e => hw (by have := (nI_eq (by omega) (by decide)).1 (show nI (s.2.2.1.1 + 1) = nI 8 from e); omega)
      rw [if_neg g1, if_neg g1, if_neg hw]
      obtain ⟨oe, m1, m2, m3, m4, m5, m6, m7, m8, m9⟩ := rl_enter r (s.2.2.1.1 + 1) k q (by omega) hk (by omega) c6
      obtain ⟨f1, f2, f3, f4, f5⟩ := rl_enterC s (s.2.2.1.1 + 1) k q (by omega)
      have hcap : min 8 (cy_cap (43 + 2 * (s.2.2.1.1 + 1))) = 8 := by
        unfold cy_cap; rw [if_neg (by omega), if_neg (by omega), if_neg (by omega), if_neg (by omega)]; rfl
      rw [hcap] at f5
      generalize md_enter r (nI k) (nI q) = r' at m1 m2 m3 m4 m5 m6 m7 m8 m9 ⊢
      generalize hs2 : cy_Frame_enter s (s.2.2.1.1 + 1) k (nI q) = s2 at f1 f2 f3 f4 f5 ⊢
      have w2 : (cy_s_work s2 (s.2.2.1.1 + 1)).2.2.1 = (s.2.2.1.1 + 1, s.2.2.1.2) := by
        show (s.2.2.1.1 + 1, s2.2.2.1.2) = _; rw [f1]
      have u6 : ∀ j, j < 8 → s2.1 (6 + 4 * j) = s.1 (6 + 4 * j) := fun j _ => f3 _ (by omega) (by omega)
      have u7 : ∀ j, j < 8 → s2.1 (7 + 4 * j) = s.1 (7 + 4 * j) := fun j _ => f3 _ (by omega) (by omega)
      have u8 : ∀ j, j < 8 → s2.1 (8 + 4 * j) = s.1 (8 + 4 * j) := fun j _ => f3 _ (by omega) (by omega)
      have u9 : ∀ j, j < 8 → s2.1 (9 + 4 * j) = s.1 (9 + 4 * j) := fun j _ => f3 _ (by omega) (by omega)
      have uf : ∀ j, j ≤ s.2.2.1.1 → s2.2.1 j = s.2.1 j := fun j hj => by rw [f2]; exact rl_un (by omega)
      have uw : s2.2.1 (s.2.2.1.1 + 1) = (k, (s.1 (6 + 4 * k)).getD q 0) := by rw [f2]; exact rl_us
      obtain ⟨n1, n2, n3⟩ := hI k hk (by omega)
      obtain ⟨p, hp, hp1, hp2⟩ := n2 q hq
      refine ⟨⟨vk, oe, trivial⟩, rl_I_c u6 u7 hI, Or.inl ⟨⟨?_, rl_K_c u6 u8 (m3 4 (by decide)) h8, rl_K_c u6 u9 (m3 5 (by decide)) h9, ?_, ?_, ?_, ?_, ?_, ?_, ?_⟩, rl_J_jt.2 ⟨?_, ?_⟩⟩⟩
      · obtain ⟨hT, hD, hi, ho, hN⟩ := hB
        refine ⟨?_, fun j hj => rl_D_c (u6 j hj) (u7 j hj) (m3 1 (by decide)) (m3 2 (by decide)) (m3 3 (by decide)) (hD j hj), ?_, ?_, ?_⟩
        · show rl_T (s2.1 0) _ _ _; rw [f3 0 (by omega) (by omega), m3 0 (by decide), m1 0 (by decide)]; exact hT
        · show rl_T (s2.1 4) _ _ _; rw [f3 4 (by omega) (by omega), m3 14 (by decide), m1 11 (by decide)]; exact hi
        · show rl_T (s2.1 5) _ _ _; rw [f3 5 (by omega) (by omega), m3 15 (by decide), m1 12 (by decide)]; exact ho
        · unfold rl_N; rw [w2, m1 4 (by decide), m1 7 (by decide), m1 8 (by decide), m1 9 (by decide)]; exact hN
      · rw [w2]; exact c1
      · rw [w2]; exact c2
      · rw [m1 5 (by decide)]; exact c3
      · rw [m1 6 (by decide)]; exact c4
      · rw [w2]; show s.2.2.1.1 + 1 < 8; omega
      · rw [w2]; exact m2
      · intro j; rw [w2]; intro hj
        have hj : j ≤ s.2.2.1.1 + 1 := hj
        by_cases ej : j = s.2.2.1.1 + 1
        · subst ej
          unfold rl_F
          show (s2.2.1 (s.2.2.1.1 + 1)).1 < 8 ∧ _ = nI (s2.2.1 (s.2.2.1.1 + 1)).1 ∧ _ = (s2.2.1 (s.2.2.1.1 + 1)).2 ∧ _ = nI (s2.1 (42 + 2 * (s.2.2.1.1 + 1))).length ∧ (s2.1 (42 + 2 * (s.2.2.1.1 + 1))).length ≤ 8 ∧ (∀ i, i < (s2.1 (42 + 2 * (s.2.2.1.1 + 1))).length → (s2.1 (42 + 2 * (s.2.2.1.1 + 1))).getD i 0 = _) ∧ (s2.1 (43 + 2 * (s.2.2.1.1 + 1))).length = 8 ∧ ∀ i, i < 8 → (s2.1 (43 + 2 * (s.2.2.1.1 + 1))).getD i 0 = _
          rw [uw, f4, f5]
          refine ⟨hk, m4, m5.trans (d4 q (by omega)).2.1, m6, by decide, fun i hi => absurd hi (Nat.not_lt_zero _), List.length_replicate, fun i hi => ?_⟩
          rw [m8 13 i (by decide) hi]; exact rl_gR hi
        · refine rl_F_c (s := s) (r := r) (uf j (by omega)) (f3 _ (by omega) (by omega)) (f3 _ (by omega) (by omega)) (m7 9 j (by decide) ej) (m7 10 j (by decide) ej) (m7 11 j (by decide) ej) (fun i hi => m9 12 _ (by decide) (by omega)) (fun i hi => m9 13 _ (by decide) (by omega)) (c7 j (by omega))
      · intro j hj
        rw [w2] at hj
        have hj : j < s.2.2.1.1 + 1 := hj
        have hc := (c7 j (by omega)).1
        have : rl_jt s j 1 := by
          by_cases e : j = s.2.2.1.1
          · rw [e]; exact ht
          · exact hb j (by omega)
        exact rl_jt_c (s := s) (uf j (by omega)) (u6 _ hc) (u7 _ hc) (f3 _ (by omega) (by omega)) this
      · rw [w2]
        show rl_jt s2 (s.2.2.1.1 + 1) 0
        unfold rl_jt
        rw [uw, f4, u6 k hk, u7 k hk]
        exact ⟨by omega, p, hp, hp1, hp2⟩
theorem rl_pp (s : cy_S) (j : Nat) (a b : Int32) : cy_sf_place (cy_sf_place s j a) j b = cy_sf_place s j b := by
  show (s.1, cy_up (cy_up s.2.1 j ((s.2.1 j).1, a)) j ((cy_up s.2.1 j ((s.2.1 j).1, a) j).1, b), s.2.2) = _
  rw [rl_uu, rl_us]; rfl
def rl_cdisp (s : cy_S) (o : Nat) (v : Int32) : cy_S := if o < 5 then cy_Run_move s (nI o) v else if o < 13 then cy_Run_combine s (nI o) else if o < 16 then cy_Run_rearrange s (nI o) else if o < 19 then cy_Run_jump s (nI o) v else cy_Run_doOther s (nI o) v
theorem rl_cl4 {o : Nat} (ho : o < 28) (z : Nat) (hz : z < 30) : (nI z < nI o) = ¬ (o < z + 1) := by
  rw [eq_iff_iff, nI_ltI (by omega) (by omega)]; omega
theorem rl_cg4 {o : Nat} (ho : o < 28) (z : Nat) (hz : z < 30) : (nI z ≤ nI o) = ¬ (o < z) := by
  rw [eq_iff_iff, nI_leI (by omega) (by omega)]; omega
theorem rl_cstep (s : cy_S) (p o : Nat) (hp : p < 1000) (ho : o < 28) (hd : s.2.2.1.2.2.2.2.2 < 2000) (ep : rl_p s = nI p) (eo : (s.1 (6 + 4 * rl_c s)).getD p 0 = nI o) : cy_Run_step s = rl_cdisp (cy_sf_place (cy_s_done s (s.2.2.1.2.2.2.2.2 + 1)) s.2.2.1.1 (nI (p + rl_len (nI o)))) o (if cy_Yard_hasOperand (nI o) = 0 then 0 else (s.1 (6 + 4 * rl_c s)).getD (p + 1) 0) := by
  unfold cy_Run_step
  rw [if_pos hd]
  have e1 : cy_Frame_nextByte (cy_s_done s (s.2.2.1.2.2.2.2.2 + 1)) s.2.2.1.1 = (nI o, cy_sf_place (cy_s_done s (s.2.2.1.2.2.2.2.2 + 1)) s.2.2.1.1 (nI (p + 1))) := by
    show (cy_la (s.1 (6 + 4 * rl_c s)) (rl_p s) 0, cy_sf_place (cy_s_done s (s.2.2.1.2.2.2.2.2 + 1)) s.2.2.1.1 (rl_p s + 1)) = _
    rw [ep, rl_la (by omega), eo, nI_1]
  rw [e1]
  have e2 : cy_Frame_nextByte (cy_sf_place (cy_s_done s (s.2.2.1.2.2.2.2.2 + 1)) s.2.2.1.1 (nI (p + 1))) s.2.2.1.1 = ((s.1 (6 + 4 * rl_c s)).getD (p + 1) 0, cy_sf_place (cy_s_done s (s.2.2.1.2.2.2.2.2 + 1)) s.2.2.1.1 (nI (p + 2))) := by
    unfold cy_Frame_nextByte cy_rat
    have u : (cy_sf_place (cy_s_done s (s.2.2.1.2.2.2.2.2 + 1)) s.2.2.1.1 (nI (p + 1))).2.1 s.2.2.1.1 = (rl_c s, nI (p + 1)) := rl_us
    rw [u]
    show (cy_la (s.1 (6 + 4 * rl_c s)) (nI (p + 1)) 0, cy_sf_place (cy_sf_place (cy_s_done s (s.2.2.1.2.2.2.2.2 + 1)) s.2.2.1.1 (nI (p + 1))) s.2.2.1.1 (nI (p + 1) + 1)) = _
    rw [rl_la (by omega), nI_1, rl_pp]
  show (if cy_Yard_hasOperand (nI o) = 0 then if (4 : Int32) < nI o then if (12 : Int32) < nI o then if (15 : Int32) < nI o then if (18 : Int32) < nI o then cy_Run_doOther (cy_sf_place (cy_s_done s (s.2.2.1.2.2.2.2.2 + 1)) s.2.2.1.1 (nI (p + 1))) (nI o) 0 else cy_Run_jump (cy_sf_place (cy_s_done s (s.2.2.1.2.2.2.2.2 + 1)) s.2.2.1.1 (nI (p + 1))) (nI o) 0 else cy_Run_rearrange (cy_sf_place (cy_s_done s (s.2.2.1.2.2.2.2.2 + 1)) s.2.2.1.1 (nI (p + 1))) (nI o) else cy_Run_combine (cy_sf_place (cy_s_done s (s.2.2.1.2.2.2.2.2 + 1)) s.2.2.1.1 (nI (p + 1))) (nI o) else cy_Run_move (cy_sf_place (cy_s_done s (s.2.2.1.2.2.2.2.2 + 1)) s.2.2.1.1 (nI (p + 1))) (nI o) 0
    else if (4 : Int32) < nI o then if (12 : Int32) < nI o then if (15 : Int32) < nI o then if (18 : Int32) < nI o then cy_Run_doOther (cy_Frame_nextByte (cy_sf_place (cy_s_done s (s.2.2.1.2.2.2.2.2 + 1)) s.2.2.1.1 (nI (p + 1))) s.2.2.1.1).2 (nI o) (cy_Frame_nextByte (cy_sf_place (cy_s_done s (s.2.2.1.2.2.2.2.2 + 1)) s.2.2.1.1 (nI (p + 1))) s.2.2.1.1).1 else cy_Run_jump (cy_Frame_nextByte (cy_sf_place (cy_s_done s (s.2.2.1.2.2.2.2.2 + 1)) s.2.2.1.1 (nI (p + 1))) s.2.2.1.1).2 (nI o) (cy_Frame_nextByte (cy_sf_place (cy_s_done s (s.2.2.1.2.2.2.2.2 + 1)) s.2.2.1.1 (nI (p + 1))) s.2.2.1.1).1 else cy_Run_rearrange (cy_Frame_nextByte (cy_sf_place (cy_s_done s (s.2.2.1.2.2.2.2.2 + 1)) s.2.2.1.1 (nI (p + 1))) s.2.2.1.1).2 (nI o) else cy_Run_combine (cy_Frame_nextByte (cy_sf_place (cy_s_done s (s.2.2.1.2.2.2.2.2 + 1)) s.2.2.1.1 (nI (p + 1))) s.2.2.1.1).2 (nI o) else cy_Run_move (cy_Frame_nextByte (cy_sf_place (cy_s_done s (s.2.2.1.2.2.2.2.2 + 1)) s.2.2.1.1 (nI (p + 1))) s.2.2.1.1).2 (nI o) (cy_Frame_nextByte (cy_sf_place (cy_s_done s (s.2.2.1.2.2.2.2.2 + 1)) s.2.2.1.1 (nI (p + 1))) s.2.2.1.1).1) = _
  rw [e2]
  simp only [show ((4 : Int32) < nI o) = ¬ (o < 5) from rl_cl4 ho 4 (by decide), show ((12 : Int32) < nI o) = ¬ (o < 13) from rl_cl4 ho 12 (by decide), show ((15 : Int32) < nI o) = ¬ (o < 16) from rl_cl4 ho 15 (by decide), show ((18 : Int32) < nI o) = ¬ (o < 19) from rl_cl4 ho 18 (by decide), ite_not]
  unfold rl_cdisp rl_len
  by_cases hop : cy_Yard_hasOperand (nI o) = 0
  · simp only [if_pos hop]
  · simp only [if_neg hop]
