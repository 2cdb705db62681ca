theorem rl_V_start {s0 s : cy_S} {r0 r : md_S} (hH : rl_H s0 r0) (hV : rl_V s0 r0 s r) (p : Nat) (hp : p < (s0.1 0).length) (a b : Int32) : rl_V s0 r0 (cy_s_lastStart (cy_s_instructions (cy_rput s 1 (nI p) 1) a) b) (md_sa r 6 (nI p) 1) ∧ (cy_rput s 1 (nI p) 1).1 1 = (s.1 1).set p 1 := by
  obtain ⟨⟨v1, v2, v3⟩, ⟨w1, w2⟩, l1, l2, l3, n1, vr⟩ := hV
  have hn := hH.2.2
  have er : (cy_rput s 1 (nI p) 1).1 1 = (s.1 1).set p 1 := by
    show cy_lput (s.1 1) (nI p) 1 = _; exact rl_lput (by omega)
  have eo : ∀ c, c ≠ 1 → (cy_rput s 1 (nI p) 1).1 c = s.1 c := fun c h => rl_un h
  have e6 : (md_sa r 6 (nI p) 1).1 6 = upd (r.1 6) p 1 := by
    show upd (r.1 6) (nI p).toNatClampNeg 1 = _; rw [nI_clamp (by omega)]
  refine ⟨⟨⟨fun a ha => (eo a (by omega)).trans (v1 a ha), v2, v3⟩, ⟨fun a h6 h7 h8 => (rl_un h6).trans (w1 a h6 h7 h8), w2⟩, ?_, ?_, ?_, n1, fun j hj => ?_⟩, er⟩
  · show ((cy_rput s 1 (nI p) 1).1 1).length = _; rw [er, List.length_set]; exact l1
  · show ((cy_rput s 1 (nI p) 1).1 2).length = _; rw [eo 2 (by decide)]; exact l2
  · show ((cy_rput s 1 (nI p) 1).1 3).length = _; rw [eo 3 (by decide)]; exact l3
  · show ((cy_rput s 1 (nI p) 1).1 1).getD j 0 = _ ∧ ((cy_rput s 1 (nI p) 1).1 2).getD j 0 = r.1 7 j
    rw [er, eo 2 (by decide), e6]
    refine ⟨?_, (vr j hj).2⟩
    by_cases e : j = p
    · subst e; rw [rl_gS (by omega), pk_us]
    · rw [rl_gN e, pk_un e]; exact (vr j hj).1
def rl_Rd (s0 : cy_S) (r0 : md_S) (s : cy_S) (r : md_S) (X : Int32 × cy_S) (Y : md_S × Int32 × Int32) : Prop :=
  (∃ f P : Nat, 0 < f ∧ f < 9 ∧ P < 301 ∧ X.1 = cy_Survey_fault (nI f) (nI P) ∧ Y.1.2 2 = nI f ∧ Y.1.2 3 = nI P ∧ rl_fr s0 X.2 ∧ rl_fm r0 Y.1) ∨
  (∃ l' c' : Nat, Y.1.2 2 = 0 ∧ rl_V s0 r0 X.2 Y.1 ∧ rl_St (s0.1 0) (X.2.1 1) (s0.1 0).length l' ∧ Y.2 = (nI l', nI c') ∧ X.2.2.2.2 = (nI c', nI l', s.2.2.2.2.2) ∧ X.2.1 2 = s.1 2 ∧ X.2.1 3 = s.1 3 ∧ Y.1.1 7 = r.1 7 ∧ Y.1.1 8 = r.1 8 ∧
    X.1 = if (s0.1 0).getD l' 0 = 16 then 0 else if cy_Yard_isEnding ((s0.1 0).getD l' 0) = 0 then cy_Survey_fault 5 (nI l') else 0)
theorem rl_Rd_t {s0 s s1 : cy_S} {r0 r r1 : md_S} {X : Int32 × cy_S} {Y : md_S × Int32 × Int32} (h2 : s1.1 2 = s.1 2) (h3 : s1.1 3 = s.1 3) (hf : s1.2.2.2.2.2 = s.2.2.2.2.2) (h7 : r1.1 7 = r.1 7) (h8 : r1.1 8 = r.1 8) (h : rl_Rd s0 r0 s1 r1 X Y) : rl_Rd s0 r0 s r X Y := by
  unfold rl_Rd at h ⊢
  rw [← h2, ← h3, ← hf, ← h7, ← h8]; exact h
theorem rl_read {s0 : cy_S} {r0 : md_S} (hH : rl_H s0 r0) : ∀ (q q' : Nat) (s : cy_S) (r : md_S) (p l c : Nat), rl_V s0 r0 s r → r.2 2 = 0 → rl_St (s0.1 0) (s.1 1) p l → 3 ≤ p → p ≤ (s0.1 0).length → (s0.1 0).length < p + q → (s0.1 0).length + 1 < p + q' → s.2.2.2.2.1 = nI l → s.2.2.2.1 = nI c →
    md_look_b_ok q' r (nI p) (nI l) (nI c) ∧ rl_Rd s0 r0 s r (cy_Survey_readInstructions_l q s (nI p)) (md_look_b q' r (nI p) (nI l) (nI c)) := by
  have hn := hH.2.2
  have hn4 := hH.2.1
  intro q
  induction q with
  | zero => intro q' s r p l c _ _ _ _ h1 h2; omega
  | succ q ih =>
    intro q' s r p l c hV h0 hSt h3 hp hq hq' hl hcn
    obtain ⟨q', rfl⟩ : ∃ z, q' = z + 1 := ⟨q' - 1, by omega⟩
    unfold md_look_b_ok cy_Survey_readInstructions_l md_look_b
    rw [hV.1.1 0 (by decide), hV.2.2.2.2.2.1]
    by_cases hpn : p = (s0.1 0).length
    · have hc : nI (s0.1 0).length ≤ nI p := by rw [hpn]; exact nI_le (Nat.le_refl _) (by omega)
      rw [if_pos hc, if_pos hc, if_pos hc]
      have hln : l < (s0.1 0).length := by
        rcases hSt.2.2 with ⟨e, _⟩ | ⟨e, _⟩
        · omega
        · exact e
      rw [hl, rl_Vrat hH hV.1 hln]
      refine ⟨trivial, ?_⟩
      have K : ∀ z : Int32, (z = if (s0.1 0).getD l 0 = 16 then 0 else if cy_Yard_isEnding ((s0.1 0).getD l 0) = 0 then cy_Survey_fault 5 (nI l) else 0) → rl_Rd s0 r0 s r (z, s) (r, nI l, nI c) := fun z hz => Or.inr ⟨l, c, h0, hV, hpn ▸ hSt, rfl, by rw [← hl, ← hcn], rfl, rfl, rfl, rfl, hz⟩
      by_cases g1 : (s0.1 0).getD l 0 = 16
      · rw [if_pos g1]; exact K 0 (by rw [if_pos g1])
      · rw [if_neg g1]
        by_cases g2 : cy_Yard_isEnding ((s0.1 0).getD l 0) = 0
        · rw [if_pos g2]; exact K _ (by rw [if_neg g1, if_pos g2])
        · rw [if_neg g2]; exact K _ (by rw [if_neg g1, if_neg g2])
    · have hpl : p < (s0.1 0).length := by omega
      have hc : ¬ nI (s0.1 0).length ≤ nI p := nI_ge hpl (by omega)
      rw [if_neg hc, if_neg hc, if_neg hc, if_pos h0, if_pos h0]
      obtain ⟨b, hb, eb⟩ := rl_Hb hH hpl
      obtain ⟨at1, at2⟩ := rl_Vat (s := s) hH hV.2.1 hpl
      have v301 : vp_in (nI p) 301 := vp_in_nI (by omega) (by decide)
      obtain ⟨V', er⟩ := rl_V_start hH hV p hpl (s.2.2.2.1 + 1) (nI p)
      rw [rl_Vrat hH V'.1 hpl]
      unfold cy_Survey_readingFault
      rw [rl_Vrat hH hV.1 hpl, at1, eb]
      have stop : ∀ (f : Nat) (z x y : Int32), 0 < f → f < 9 → md_look_b_ok q' (md_sa (md_bad r (nI f) (nI p)) 6 (nI p) 1) z x y ∧ (md_look_b q' (md_sa (md_bad r (nI f) (nI p)) 6 (nI p) 1) z x y).1.2 2 = nI f ∧ (md_look_b q' (md_sa (md_bad r (nI f) (nI p)) 6 (nI p) 1) z x y).1.2 3 = nI p ∧ rl_fm r0 (md_look_b q' (md_sa (md_bad r (nI f) (nI p)) 6 (nI p) 1) z x y).1 := by
        intro f z x y hf hf9
        obtain ⟨q'', rfl⟩ : ∃ z, q' = z + 1 := ⟨q' - 1, by omega⟩
        have e2 : (md_sa (md_bad r (nI f) (nI p)) 6 (nI p) 1).2 2 = nI f := by rw [rl_bad0 h0]; rfl
        have e3 : (md_sa (md_bad r (nI f) (nI p)) 6 (nI p) 1).2 3 = nI p := by rw [rl_bad0 h0]; rfl
        obtain ⟨s1, s2⟩ := rl_look_b_stop (q := q'') (p := z) (l := x) (c := y) (show (md_sa (md_bad r (nI f) (nI p)) 6 (nI p) 1).2 2 ≠ 0 by rw [e2]; exact nI_ne0 hf (by omega))
        rw [s2]
        have fm := rl_bad_fm hV.2.1 (nI f) (nI p)
        exact ⟨s1, e2, e3, fun a h6 h7 h8 => (rl_un h6).trans (fm.1 a h6 h7 h8), fm.2⟩
      by_cases hb28 : 28 ≤ b
      · have c1 : cy_Yard_isInstruction (nI b) = 0 := (rl_isins b hb).2 hb28
        have c2 : ¬ nI b ≤ 27 := nI_ge (show 27 < b by omega) (by omega)
        rw [if_pos c1, if_neg c2, if_neg c2, if_neg (show ¬ cy_Survey_fault 2 (nI p) = 0 from rl_fne 2 (by decide) p (by omega) (by decide))]
        by_cases hop : md_hasOperand (nI b) = 0
        · rw [if_pos hop, if_pos hop]
          obtain ⟨s1, s2, s3, s4⟩ := stop 2 (nI p + 1) (nI p) (nI c + 1) (by decide) (by decide)
          exact ⟨⟨at2, v301, s1⟩, Or.inl ⟨2, p, by decide, by decide, by omega, rfl, s2, s3, hV.1, s4⟩⟩
        · rw [if_neg hop, if_neg hop]
          obtain ⟨s1, s2, s3, s4⟩ := stop 2 (nI p + 2) (nI p) (nI c + 1) (by decide) (by decide)
          exact ⟨⟨at2, v301, s1⟩, Or.inl ⟨2, p, by decide, by decide, by omega, rfl, s2, s3, hV.1, s4⟩⟩
      have hb28 : b < 28 := by omega
      have c1 : ¬ cy_Yard_isInstruction (nI b) = 0 := fun q => by have := (rl_isins b hb).1 q; omega
      have c2 : nI b ≤ 27 := nI_le (show b ≤ 27 by omega) (by decide)
      rw [if_neg c1, if_pos c2, if_pos c2, rl_hop b hb28]
      rcases rl_hop01 b hb28 with hop | hop
      · rw [if_pos hop, if_pos hop, if_pos hop, if_pos rfl]
        have gd : rl_gd (s0.1 0) p := ⟨b, hb28, eb, fun q => absurd (hop.symm.trans q) (by decide)⟩
        have st' := rl_St_add hSt hV.2.2.1 hpl h3 gd
        have hlen : rl_len ((s0.1 0).getD p 0) = 1 := by rw [eb]; exact if_pos hop
        rw [hlen] at st'
        rw [← er] at st'
        obtain ⟨i1, i2⟩ := ih q' _ _ (p + 1) p (c + 1) V' h0 st' (by omega) (by omega) (by omega) (by omega) rfl (by rw [← nI_1, ← hcn]; rfl)
        rw [if_pos hop, nI_1, nI_1]
        exact ⟨⟨at2, v301, i1⟩, rl_Rd_t rfl rfl rfl rfl rfl i2⟩
      · have hopn : ¬ cy_Yard_hasOperand (nI b) = 0 := by rw [hop]; decide
        rw [if_neg hopn, if_neg hopn, if_neg hopn, if_neg hopn, nI_1]
        have ehas : cy_rhas s 0 (nI (p + 1)) = if p + 1 < (s0.1 0).length then 1 else 0 := by
          unfold cy_rhas
          rw [if_neg (nI_pos (by omega)), hV.1.1 0 (by decide)]
          by_cases g : p + 1 < (s0.1 0).length
          · rw [if_pos g, if_neg (nI_ge g (by omega))]
          · rw [if_neg g, if_pos (nI_le (by omega) (by omega))]
        rw [ehas]
        by_cases g : p + 1 < (s0.1 0).length
        · have g' : nI (p + 1) < nI (s0.1 0).length := nI_lt g (by omega)
          rw [if_pos g, if_neg (show ¬ (1 : Int32) = 0 by decide), if_pos g', if_pos g']
          obtain ⟨w, hw, ew⟩ := rl_Hb hH g
          obtain ⟨bt1, bt2⟩ := rl_Vat (s := s) hH hV.2.1 g
          rw [rl_Vrat hH hV.1 g, bt1, ew]
          by_cases hm : nI w ≤ cy_Yard_operandMost (nI b)
          · have hio : ¬ md_isOperand (nI b) (nI w) = 0 := fun q => ((rl_isop b hb28 w hw hop).1 q) hm
            rw [if_pos hm, if_neg hio, if_neg hio, if_pos rfl]
            have gd : rl_gd (s0.1 0) p := ⟨b, hb28, eb, fun _ => ⟨g, by rw [ew]; exact hm⟩⟩
            have st' := rl_St_add hSt hV.2.2.1 hpl h3 gd
            have hlen : rl_len ((s0.1 0).getD p 0) = 2 := by rw [eb]; exact if_neg hopn
            rw [hlen] at st'
            rw [← er] at st'
            obtain ⟨i1, i2⟩ := ih q' _ _ (p + 2) p (c + 1) V' h0 st' (by omega) (by omega) (by omega) (by omega) rfl (by rw [← nI_1, ← hcn]; rfl)
            rw [nI_1, show nI p + 2 = nI (p + 2) from nI_add p 2, nI_1]
            exact ⟨⟨at2, bt2, v301, i1⟩, rl_Rd_t rfl rfl rfl rfl rfl i2⟩
          · have hio : md_isOperand (nI b) (nI w) = 0 := (rl_isop b hb28 w hw hop).2 hm
            rw [if_neg hm, if_pos hio, if_pos hio, if_neg (show ¬ cy_Survey_fault 4 (nI p) = 0 from rl_fne 4 (by decide) p (by omega) (by decide))]
            obtain ⟨s1, s2, s3, s4⟩ := stop 4 (nI p + 2) (nI p) (nI c + 1) (by decide) (by decide)
            exact ⟨⟨at2, bt2, v301, s1⟩, Or.inl ⟨4, p, by decide, by decide, by omega, rfl, s2, s3, hV.1, s4⟩⟩
        · have g' : ¬ nI (p + 1) < nI (s0.1 0).length := nI_nlt (by omega) (by omega)
          rw [if_neg g, if_pos rfl, if_neg g', if_neg g', if_neg (show ¬ cy_Survey_fault 3 (nI p) = 0 from rl_fne 3 (by decide) p (by omega) (by decide))]
          obtain ⟨s1, s2, s3, s4⟩ := stop 3 (nI p + 2) (nI p) (nI c + 1) (by decide) (by decide)
          exact ⟨⟨at2, v301, s1⟩, Or.inl ⟨3, p, by decide, by decide, by omega, rfl, s2, s3, hV.1, s4⟩⟩
