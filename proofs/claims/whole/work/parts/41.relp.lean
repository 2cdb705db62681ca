def rl_wt (r : md_S) (p : Nat) : Prop := ¬ r.1 7 p = -1 ∧ r.1 8 p = 0
def rl_Y (s0 : cy_S) (r0 : md_S) (S : List Int32) (c : Int32) (s : cy_S) (r : md_S) : Prop := rl_V s0 r0 s r ∧ s.1 1 = S ∧ s.2.2.2.1 = c ∧ r.2 2 = 0 ∧ (∀ p, p < (s0.1 0).length → (rl_wt r p ∧ (s.1 3).getD p 0 = 1) ∨ (¬ rl_wt r p ∧ (s.1 3).getD p 0 = 0)) ∧ (∃ sf : Nat, s.2.2.2.2.2 = nI sf ∧ sf ≤ (s0.1 0).length ∧ ∀ p, p < sf → ¬ rl_wt r p) ∧ (∀ p, p < (s0.1 0).length → r.1 7 p = -1 ∨ (S.getD p 0 = 1 ∧ ∃ h : Nat, h ≤ 8 ∧ r.1 7 p = nI h)) ∧ (∀ p, p < (s0.1 0).length → ¬ r.1 8 p = 0 → ¬ r.1 7 p = -1)
def rl_mo (n : Nat) (r r' : md_S) : Prop := r'.1 8 = r.1 8 ∧ ∀ q, q < n → ¬ r.1 7 q = -1 → r'.1 7 q = r.1 7 q
theorem rl_nm1 {h : Nat} (hh : h ≤ 8) : ¬ nI h = -1 := fun e => absurd (nI_pos (n := h) (by omega)) (by rw [e]; decide)
theorem rl_come {s0 s : cy_S} {r0 r : md_S} {S : List Int32} {c : Int32} (hH : rl_H s0 r0) (hY : rl_Y s0 r0 S c s r) {p hh : Nat} (hp : p < (s0.1 0).length) (hS : S.getD p 0 = 1) (hh8 : hh ≤ 8) :
    md_come_ok r (nI p) (nI hh) ∧
    ((¬ r.1 7 p = -1 ∧ ¬ r.1 7 p = nI hh ∧ cy_Survey_comeTo s (nI p) (nI hh) = (cy_Survey_fault 8 (nI p), s) ∧ md_come r (nI p) (nI hh) = md_bad r 8 (nI p)) ∨
     ((cy_Survey_comeTo s (nI p) (nI hh)).1 = 0 ∧ rl_Y s0 r0 S c (cy_Survey_comeTo s (nI p) (nI hh)).2 (md_come r (nI p) (nI hh)) ∧ rl_mo (s0.1 0).length r (md_come r (nI p) (nI hh)) ∧ (md_come r (nI p) (nI hh)).1 7 p = nI hh)) := by
  have hn := hH.2.2
  have v : vp_in (nI p) 301 := vp_in_nI (by omega) (by decide)
  have hcl : (nI p).toNatClampNeg = p := nI_clamp (by omega)
  have hY0 := hY
  obtain ⟨hV, y1, y2, y3, y4, ⟨sf, y5, y6, y7⟩, y8, y9⟩ := hY
  have ev : cy_rat s 2 (nI p) (-1) = r.1 7 p := by
    rw [rl_ro _ _ _ _ (by omega), rl_gO (by rw [hV.2.2.2.1]; exact hp)]; exact (hV.2.2.2.2.2.2 p hp).2
  unfold md_come_ok cy_Survey_comeTo md_come
  rw [hcl, ev]
  by_cases g1 : r.1 7 p = -1
  · rw [if_pos g1, if_pos g1, if_pos g1]
    refine ⟨⟨v, v, trivial⟩, Or.inr ⟨rfl, ?_, ⟨rfl, fun q hq h => ?_⟩, ?_⟩⟩
    · have e7 : (md_sa r 7 (nI p) (nI hh)).1 7 = upd (r.1 7) p (nI hh) := by
        show upd (r.1 7) (nI p).toNatClampNeg _ = _; rw [hcl]
      have h8p : r.1 8 p = 0 := Decidable.byContradiction (fun h => y9 p hp h g1)
      have wtn : ∀ j, j ≠ p → (rl_wt (md_sa r 7 (nI p) (nI hh)) j ↔ rl_wt r j) := fun j hj => by
        unfold rl_wt; rw [e7, pk_un hj]; rfl
      have wtp : rl_wt (md_sa r 7 (nI p) (nI hh)) p := by
        unfold rl_wt; rw [e7, pk_us]; exact ⟨rl_nm1 hh8, h8p⟩
      obtain ⟨⟨f1, f2, f3⟩, ⟨m1, m2⟩, l1, l2, l3, n1, vr⟩ := hV
      generalize hs' : (cy_s_searchFrom (cy_rput (cy_rput s 2 (nI p) (nI hh)) 3 (nI p) 1) (if nI p < s.2.2.2.2.2 then nI p else s.2.2.2.2.2)) = s'
      have r2 : s'.1 2 = (s.1 2).set p (nI hh) := by
        rw [← hs']; show cy_lput (s.1 2) (nI p) _ = _; exact rl_lput (by omega)
      have r3 : s'.1 3 = (s.1 3).set p 1 := by
        rw [← hs']; show cy_lput (s.1 3) (nI p) _ = _; exact rl_lput (by omega)
      have ro : ∀ a, a ≠ 2 → a ≠ 3 → s'.1 a = s.1 a := fun a h2 h3 => by
        rw [← hs']; exact (rl_un h3).trans (rl_un h2)
      have rs : s'.2.2.2.2.2 = if nI p < s.2.2.2.2.2 then nI p else s.2.2.2.2.2 := by rw [← hs']; rfl
      have rq : s'.2.1 = s.2.1 ∧ s'.2.2.1 = s.2.2.1 ∧ s'.2.2.2.1 = s.2.2.2.1 := by rw [← hs']; exact ⟨rfl, rfl, rfl⟩
      refine ⟨⟨⟨fun a ha => (ro a (by omega) (by omega)).trans (f1 a ha), rq.1.trans f2, rq.2.1.trans f3⟩, ⟨fun a h6 h7 h8 => (rl_un h7).trans (m1 a h6 h7 h8), m2⟩, by rw [ro 1 (by decide) (by decide)]; exact l1, by rw [r2, List.length_set]; exact l2, by rw [r3, List.length_set]; exact l3, n1, fun j hj => ?_⟩, (ro 1 (by decide) (by decide)).trans y1, rq.2.2.trans y2, y3, fun j hj => ?_, ?_, fun j hj => ?_, fun j hj h => ?_⟩
      · rw [ro 1 (by decide) (by decide), r2, e7]
        refine ⟨(vr j hj).1, ?_⟩
        by_cases e : j = p
        · subst e; rw [rl_gS (by omega), pk_us]
        · rw [rl_gN e, pk_un e]; exact (vr j hj).2
      · rw [r3]
        by_cases e : j = p
        · subst e; exact Or.inl ⟨wtp, rl_gS (by omega)⟩
        · rw [rl_gN e, wtn j e]; exact y4 j hj
      · rw [rs, y5]
        by_cases g : p < sf
        · rw [if_pos (nI_lt g (by omega))]
          refine ⟨p, rfl, by omega, fun j hj => ?_⟩
          rw [wtn j (by omega)]; exact y7 j (by omega)
        · rw [if_neg (nI_nlt (by omega) (by omega))]
          refine ⟨sf, rfl, y6, fun j hj => ?_⟩
          rw [wtn j (by omega)]; exact y7 j hj
      · rw [e7]
        by_cases e : j = p
        · subst e; right; exact ⟨hS, hh, hh8, pk_us⟩
        · rw [pk_un e]; exact y8 j hj
      · rw [e7]
        by_cases e : j = p
        · subst e; rw [pk_us]; exact rl_nm1 hh8
        · rw [pk_un e]; exact y9 j hj h
    · show upd (r.1 7) (nI p).toNatClampNeg (nI hh) q = _
      rw [hcl]
      by_cases e : q = p
      · rw [e] at h; exact absurd g1 h
      · exact pk_un e
    · show upd (r.1 7) (nI p).toNatClampNeg (nI hh) p = _
      rw [hcl, pk_us]
  · rw [if_neg g1, if_neg g1, if_neg g1]
    by_cases g2 : r.1 7 p = nI hh
    · rw [if_pos g2, if_pos g2, if_pos g2]
      exact ⟨⟨v, v, trivial⟩, Or.inr ⟨rfl, hY0, ⟨rfl, fun _ _ _ => rfl⟩, g2⟩⟩
    · rw [if_neg g2, if_neg g2, if_neg g2]
      exact ⟨⟨v, v, trivial⟩, Or.inl ⟨g1, g2, rfl, rfl⟩⟩
theorem rl_cl_mono {T H H' : List Int32} {p h : Nat} (hm : ∀ q, q < T.length → ¬ H.getD q 0 = -1 → H'.getD q 0 = H.getD q 0) (hc : rl_cl T H p h) : rl_cl T H' p h := by
  obtain ⟨o, t, g, b1, b2, b3, b4, b5, b6, b7, b8, b9, b10⟩ := hc
  refine ⟨o, t, g, b1, b2, b3, b4, b5, b6, b7, b8, fun ho => ?_, fun he h16 => ?_⟩
  · obtain ⟨c1, v, c2, c3, c4, c5⟩ := b9 ho
    refine ⟨c1, v, c2, c3, c4, fun hj => ?_⟩
    obtain ⟨d1, d2⟩ := c5 hj
    exact ⟨d1, (hm v d1 (by rw [d2]; exact rl_nm1 b8)).trans d2⟩
  · obtain ⟨c1, c2⟩ := b10 he h16
    exact ⟨c1, (hm _ c1 (by rw [c2]; exact rl_nm1 b8)).trans c2⟩
def rl_Cl (s0 s : cy_S) (r : md_S) (x : Nat) : Prop := ∀ p, p < (s0.1 0).length → p ≠ x → ¬ r.1 8 p = 0 → ∀ h : Nat, h ≤ 8 → r.1 7 p = nI h → rl_cl (s0.1 0) (s.1 2) p h
theorem rl_Cl_mo {s0 s s' : cy_S} {r0 r r' : md_S} {x : Nat} (hV : rl_V s0 r0 s r) (hV' : rl_V s0 r0 s' r') (hm : rl_mo (s0.1 0).length r r') (hY : ∀ p, p < (s0.1 0).length → ¬ r.1 8 p = 0 → ¬ r.1 7 p = -1) (hC : rl_Cl s0 s r x) : rl_Cl s0 s' r' x := by
  intro p hp hx h8 h hh e
  rw [hm.1] at h8
  rw [hm.2 p hp (hY p hp h8)] at e
  refine rl_cl_mono (fun q hq hne => ?_) (hC p hp hx h8 h hh e)
  rw [(hV'.2.2.2.2.2.2 q hq).2, (hV.2.2.2.2.2.2 q hq).2]
  rw [(hV.2.2.2.2.2.2 q hq).2] at hne
  exact hm.2 q hq hne
theorem rl_mo_t {n : Nat} {r r1 r2 : md_S} (h : rl_mo n r r1) (g : rl_mo n r1 r2) : rl_mo n r r2 :=
  ⟨g.1.trans h.1, fun q hq hne => (g.2 q hq (by rw [h.2 q hq hne]; exact hne)).trans (h.2 q hq hne)⟩
