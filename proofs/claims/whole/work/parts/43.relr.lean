def rl_Ft (s0 : cy_S) (r0 : md_S) (X : Int32 × cy_S) (r' : md_S) : Prop := ∃ f P : Nat, 0 < f ∧ f < 9 ∧ P < 301 ∧ X.1 = cy_Survey_fault (nI f) (nI P) ∧ r'.2 2 = nI f ∧ r'.2 3 = nI P ∧ rl_fr s0 X.2 ∧ rl_fm r0 r'
def rl_Th (s0 : cy_S) (r0 : md_S) (S : List Int32) (c : Int32) (r : md_S) (p : Nat) (X : Int32 × cy_S) (r' : md_S) : Prop := rl_Ft s0 r0 X r' ∨ (X.1 = 0 ∧ rl_Y s0 r0 S c X.2 r' ∧ rl_Cl s0 X.2 r' (s0.1 0).length ∧ r'.1 8 = upd (r.1 8) p 1 ∧ ∀ q, q < (s0.1 0).length → ¬ r.1 7 q = -1 → r'.1 7 q = r.1 7 q)
theorem rl_bad_ft {s0 s : cy_S} {r0 r : md_S} {f P : Nat} (hf : rl_fr s0 s) (hm : rl_fm r0 r) (h0 : r.2 2 = 0) (f0 : 0 < f) (f9 : f < 9) (hP : P < 301) : rl_Ft s0 r0 (cy_Survey_fault (nI f) (nI P), s) (md_bad r (nI f) (nI P)) := by
  refine ⟨f, P, f0, f9, hP, rfl, ?_, ?_, hf, rl_bad_fm hm _ _⟩
  · rw [rl_bad0 h0]; rfl
  · rw [rl_bad0 h0]; rfl
theorem rl_come_sc (r : md_S) {p : Nat} {f : Nat} {h : Int32} (h2 : r.2 2 = nI f) (f0 : 0 < f) (f9 : f < 9) : (md_come r (nI p) h).2 = r.2 := by
  unfold md_come
  split
  · rfl
  · split
    · rfl
    · rw [rl_badn h2 f0 f9]
theorem rl_come_fm {r0 r : md_S} (h : rl_fm r0 r) (p h' : Int32) : rl_fm r0 (md_come r p h') := by
  unfold md_come
  split
  · exact ⟨fun a h6 h7 h8 => (rl_un h7).trans (h.1 a h6 h7 h8), h.2⟩
  · split
    · exact h
    · exact rl_bad_fm h _ _
theorem rl_mkcl {T S H : List Int32} {p o h t g : Nat} (hx : rl_nx T S p o) (et : cy_Yard_takes (nI o) = nI t) (eg : cy_Yard_gives (nI o) = nI g) (ht : t ≤ 2) (hg : g ≤ 2) (c1 : t ≤ h) (c2 : h - t + g ≤ 8) (k1 : cy_Yard_isEnding (nI o) = 0 → o ≠ 16 → H.getD (p + rl_len (nI o)) 0 = nI (h - t + g)) (k2 : cy_Yard_isJump (nI o) = 1 → ∀ v : Nat, v < 256 → T.getD (p + 1) 0 = nI v → H.getD v 0 = nI (h - t + g)) : rl_cl T H p h := by
  obtain ⟨ho, eo, x1, x2⟩ := hx
  refine ⟨o, t, g, eo, ho, et, eg, ht, hg, c1, c2, fun hop => ?_, fun he h16 => ⟨(x1 he h16).1, k1 he h16⟩⟩
  obtain ⟨y1, v, y2, y3, y4, y5⟩ := x2 hop
  exact ⟨y1, v, y3, y2, y4, fun hj => ⟨(y5 hj).1, k2 hj v y2 y3⟩⟩
theorem rl_thr {s0 s : cy_S} {r0 r : md_S} {S : List Int32} {c : Int32} (hH : rl_H s0 r0) (hY : rl_Y s0 r0 S c s r) (hC : rl_Cl s0 s r (s0.1 0).length) {p o : Nat} (hp : p < (s0.1 0).length) (hw : rl_wt r p) (hx : rl_nx (s0.1 0) S p o) :
    md_goThrough_ok r (nI p) ∧ rl_Th s0 r0 S c r p (cy_Survey_goThrough s (nI p)) (md_goThrough r (nI p)) := by
  have hn := hH.2.2
  have hcl : (nI p).toNatClampNeg = p := nI_clamp (by omega)
  obtain ⟨hV, y1, y2, y3, y4, ⟨sf, y5, y6, y7⟩, y8, y9⟩ := hY
  obtain ⟨h, hh, eh⟩ : ∃ h : Nat, h ≤ 8 ∧ r.1 7 p = nI h := ((y8 p hp).resolve_left hw.1).2
  have ho := hx.1
  have eo := hx.2.1
  obtain ⟨z1, z2, ⟨t, ht, et⟩, ⟨g, hg, eg⟩⟩ := rl_ops3 o ho
  -- after the mark
  have e8 : (md_sa r 8 (nI p) 1).1 8 = upd (r.1 8) p 1 := by
    show upd (r.1 8) (nI p).toNatClampNeg _ = _; rw [hcl]
  have m7 : (md_sa r 8 (nI p) 1).1 7 = r.1 7 := rfl
  have r3 : (cy_rput s 3 (nI p) 0).1 3 = (s.1 3).set p 0 := by
    show cy_lput (s.1 3) (nI p) _ = _; exact rl_lput (by omega)
  have ro : ∀ a, a ≠ 3 → (cy_rput s 3 (nI p) 0).1 a = s.1 a := fun a h => rl_un h
  have wtn : ∀ j, j ≠ p → (rl_wt (md_sa r 8 (nI p) 1) j ↔ rl_wt r j) := fun j hj => by
    unfold rl_wt; rw [e8, pk_un hj, m7]
  have wtp : ¬ rl_wt (md_sa r 8 (nI p) 1) p := by
    unfold rl_wt; rw [e8, pk_us]; exact fun q => absurd q.2 (by decide)
  have Y1 : rl_Y s0 r0 S c (cy_rput s 3 (nI p) 0) (md_sa r 8 (nI p) 1) := by
    obtain ⟨⟨f1, f2, f3⟩, ⟨m1, m2⟩, l1, l2, l3, n1, vr⟩ := hV
    refine ⟨⟨⟨fun a ha => (ro a (by omega)).trans (f1 a ha), f2, f3⟩, ⟨fun a h6 h7 h8 => (rl_un h8).trans (m1 a h6 h7 h8), m2⟩, by rw [ro 1 (by decide)]; exact l1, by rw [ro 2 (by decide)]; exact l2, by rw [r3, List.length_set]; exact l3, n1, fun j hj => ?_⟩, (ro 1 (by decide)).trans y1, y2, y3, fun j hj => ?_, ⟨sf, y5, y6, fun j hj => ?_⟩, fun j hj => ?_, fun j hj hne => ?_⟩
    · rw [ro 1 (by decide), ro 2 (by decide)]; exact vr j hj
    · rw [r3]
      by_cases e : j = p
      · subst e; exact Or.inr ⟨wtp, rl_gS (by omega)⟩
      · rw [rl_gN e, wtn j e]; exact y4 j hj
    · by_cases e : j = p
      · rw [e]; exact wtp
      · rw [wtn j e]; exact y7 j hj
    · rw [m7]; exact y8 j hj
    · rw [m7]
      by_cases e : j = p
      · rw [e]; exact hw.1
      · rw [e8, pk_un e] at hne; exact y9 j hj hne
  have C1 : rl_Cl s0 (cy_rput s 3 (nI p) 0) (md_sa r 8 (nI p) 1) p := by
    intro q hq hqp h8 hh' hh8 e7
    rw [e8, pk_un hqp] at h8
    rw [ro 2 (by decide)]
    exact hC q hq (by omega) h8 hh' hh8 e7
  obtain ⟨at1, at2⟩ := rl_Vat (s := s) hH Y1.1.2.1 hp
  obtain ⟨E1, E2⟩ := rl_mthE r p o h t g (by omega) ho hw.2 y3 eh hh (at1.trans eo) at2 et eg (by omega) (by omega)
  have E3 := rl_cthE s p o h t g (by omega) ho hh (by
    rw [rl_ro _ _ _ _ (by omega), ro 2 (by decide)]; exact ((hV.2.2.2.2.2.2 p hp).2).trans eh) ((rl_Vrat hH Y1.1.1 hp _).trans eo) et eg (by omega) (by omega)
  rw [E1, E3]
  generalize md_sa r 8 (nI p) 1 = r1 at *
  generalize cy_rput s 3 (nI p) 0 = s1 at *
  by_cases cc : t ≤ h ∧ h - t + g ≤ 8
  rotate_left
  · rw [if_neg cc, if_neg cc]
    exact ⟨E2 (fun q => absurd q cc), Or.inl (rl_bad_ft (f := 7) (P := p) Y1.1.1 Y1.1.2.1 Y1.2.2.2.1 (by decide) (by decide) (by omega))⟩
  rw [if_pos cc, if_pos cc]
  have mono1 : ∀ q, q < (s0.1 0).length → ¬ r.1 7 q = -1 → r1.1 7 q = r.1 7 q := fun q _ _ => by rw [m7]
  -- what a good end gives
  have fin : ∀ (X : Int32 × cy_S) (r' : md_S), X.1 = 0 → rl_Y s0 r0 S c X.2 r' → rl_mo (s0.1 0).length r1 r' → (cy_Yard_isEnding (nI o) = 0 → o ≠ 16 → r'.1 7 (p + rl_len (nI o)) = nI (h - t + g)) → (cy_Yard_isJump (nI o) = 1 → ∀ v : Nat, v < (s0.1 0).length → (s0.1 0).getD (p + 1) 0 = nI v → r'.1 7 v = nI (h - t + g)) → rl_Th s0 r0 S c r p X r' := by
    intro X r' hX hY' hm k1 k2
    refine Or.inr ⟨hX, hY', ?_, by rw [hm.1, e8], fun q hq hne => ?_⟩
    · intro q hq hqn h8 h' hh' e7
      by_cases e : q = p
      · subst e
        have : h' = h := by
          rw [hm.2 q hq (by rw [m7]; exact hw.1), m7, eh] at e7
          exact ((nI_eq (by omega) (by omega)).1 e7).symm
        subst this
        refine rl_mkcl hx et eg (by omega) (by omega) cc.1 cc.2 (fun he h16 => ?_) (fun hj v hv ev => ?_)
        · rw [(hY'.1.2.2.2.2.2.2 _ (hx.2.2.1 he h16).1).2]; exact k1 he h16
        · obtain ⟨_, v', hv', ev', _, hv2⟩ := hx.2.2.2 (z2 hj).1
          have : v = v' := (nI_eq (by omega) (by omega)).1 (ev.symm.trans ev')
          subst this
          rw [(hY'.1.2.2.2.2.2.2 _ (hv2 hj).1).2]; exact k2 hj v (hv2 hj).1 ev
      · exact rl_Cl_mo Y1.1 hY'.1 hm Y1.2.2.2.2.2.2.2 C1 q hq e h8 h' hh' e7
    · rw [hm.2 q hq (by rw [m7]; exact hne), m7]
  unfold rl_cth rl_mth
  unfold rl_mth_ok at E2
  by_cases ce : 22 ≤ o ∧ o ≤ 24
  · have he : ¬ cy_Yard_isEnding (nI o) = 0 := fun q => (rl_ise o (by omega)).1 q (by omega)
    rw [if_neg he, if_neg (show ¬ o < 22 by omega), if_neg (show ¬ 24 < o by omega)]
    rw [if_neg (show ¬ o < 22 by omega), if_neg (show ¬ 24 < o by omega)] at E2
    exact ⟨E2 (fun _ => trivial), fin (0, s1) r1 rfl Y1 ⟨rfl, fun _ _ _ => rfl⟩ (fun q => absurd q he) (fun q => absurd (z2 q).2 he)⟩
  have he : cy_Yard_isEnding (nI o) = 0 := (rl_ise o (by omega)).2 (by omega)
  rw [if_pos he]
  by_cases cj : 16 ≤ o ∧ o ≤ 18
  rotate_left
  · have hj : cy_Yard_isJump (nI o) = 0 := (rl_isj o (by omega)).2 (by omega)
    have hj1 : ¬ cy_Yard_isJump (nI o) = 1 := by rw [hj]; decide
    rw [if_pos hj]
    obtain ⟨n1, n2⟩ := hx.2.2.1 he (by omega)
    obtain ⟨k1, k2⟩ := rl_come hH Y1 n1 n2 cc.2
    have em : (if o < 22 then if o < 16 then md_come r1 (nI (p + rl_len (nI o))) (nI (h - t + g)) else if o ≤ 18 then if o = 16 then md_come r1 (md_at r1 (nI (p + 1))) (nI (h - t + g)) else if nI (p + rl_len (nI o)) ≤ md_at r1 (nI (p + 1)) then md_come (md_come r1 (nI (p + rl_len (nI o))) (nI (h - t + g))) (md_at r1 (nI (p + 1))) (nI (h - t + g)) else md_come (md_come r1 (md_at r1 (nI (p + 1))) (nI (h - t + g))) (nI (p + rl_len (nI o))) (nI (h - t + g)) else md_come r1 (nI (p + rl_len (nI o))) (nI (h - t + g)) else if 24 < o then if o < 16 then md_come r1 (nI (p + rl_len (nI o))) (nI (h - t + g)) else if o ≤ 18 then if o = 16 then md_come r1 (md_at r1 (nI (p + 1))) (nI (h - t + g)) else if nI (p + rl_len (nI o)) ≤ md_at r1 (nI (p + 1)) then md_come (md_come r1 (nI (p + rl_len (nI o))) (nI (h - t + g))) (md_at r1 (nI (p + 1))) (nI (h - t + g)) else md_come (md_come r1 (md_at r1 (nI (p + 1))) (nI (h - t + g))) (nI (p + rl_len (nI o))) (nI (h - t + g)) else md_come r1 (nI (p + rl_len (nI o))) (nI (h - t + g)) else r1) = md_come r1 (nI (p + rl_len (nI o))) (nI (h - t + g)) := by
      by_cases q1 : o < 16
      · rw [if_pos (show o < 22 by omega), if_pos q1]
      · by_cases q2 : o < 22
        · rw [if_pos q2, if_neg q1, if_neg (show ¬ o ≤ 18 by omega)]
        · rw [if_neg q2, if_pos (show 24 < o by omega), if_neg q1, if_neg (show ¬ o ≤ 18 by omega)]
    rw [em]
    refine ⟨E2 (fun _ => ?_), ?_⟩
    · by_cases q1 : o < 16
      · rw [if_pos (show o < 22 by omega), if_pos q1]; exact ⟨k1, trivial⟩
      · by_cases q2 : o < 22
        · rw [if_pos q2, if_neg q1, if_neg (show ¬ o ≤ 18 by omega)]; exact ⟨k1, trivial⟩
        · rw [if_neg q2, if_pos (show 24 < o by omega), if_neg q1, if_neg (show ¬ o ≤ 18 by omega)]; exact ⟨k1, trivial⟩
    · rcases k2 with ⟨a1, a2, a3, a4⟩ | ⟨a1, a2, a3, a4⟩
      · rw [a3, a4]
        exact Or.inl (rl_bad_ft (f := 8) Y1.1.1 Y1.1.2.1 Y1.2.2.2.1 (by decide) (by decide) (by omega))
      · exact fin _ _ a1 a2 a3 (fun _ _ => a4) (fun q => absurd q hj1)
  have hj : cy_Yard_isJump (nI o) = 1 := z1.resolve_left (fun q => by have := (rl_isj o (by omega)).1 q; omega)
  have hj0 : ¬ cy_Yard_isJump (nI o) = 0 := by rw [hj]; decide
  obtain ⟨p1, v, hv, ev, hm, hv2⟩ := hx.2.2.2 (z2 hj).1
  obtain ⟨vn, vS⟩ := hv2 hj
  obtain ⟨bt1, bt2⟩ := rl_Vat (s := s) hH Y1.1.2.1 p1
  have evc : cy_rat s1 0 (nI (p + 1)) (-1) = nI v := (rl_Vrat hH Y1.1.1 p1 _).trans ev
  rw [bt1, ev] at E2
  rw [if_neg hj0, evc, bt1, ev, if_pos (show o < 22 by omega), if_neg (show ¬ o < 16 by omega), if_pos (show o ≤ 18 by omega)]
  rw [if_pos (show o < 22 by omega), if_neg (show ¬ o < 16 by omega), if_pos (show o ≤ 18 by omega)] at E2
  by_cases c16 : o = 16
  · have c16' : nI o = 16 := by rw [c16]; rfl
    rw [if_pos c16', if_pos c16]
    rw [if_pos c16] at E2
    obtain ⟨k1, k2⟩ := rl_come hH Y1 vn vS cc.2
    refine ⟨E2 (fun _ => ⟨bt2, k1, trivial⟩), ?_⟩
    rcases k2 with ⟨a1, a2, a3, a4⟩ | ⟨a1, a2, a3, a4⟩
    · rw [a3, a4]
      exact Or.inl (rl_bad_ft (f := 8) Y1.1.1 Y1.1.2.1 Y1.2.2.2.1 (by decide) (by decide) (by omega))
    · refine fin _ _ a1 a2 a3 (fun _ q => absurd c16 q) (fun _ v' hv' ev' => ?_)
      have : v' = v := (nI_eq (by omega) (by omega)).1 (ev'.symm.trans ev)
      rw [this]; exact a4
  have c16' : ¬ nI o = 16 := fun q => c16 ((rl_c4 ho (z := 16) (by decide)).mp q)
  rw [if_neg c16', if_neg c16]
  rw [if_neg c16] at E2
  obtain ⟨n1, n2⟩ := hx.2.2.1 he c16
  -- two comings, the smaller place first
  have two : ∀ a b : Nat, a < (s0.1 0).length → b < (s0.1 0).length → S.getD a 0 = 1 → S.getD b 0 = 1 → ((a = p + rl_len (nI o) ∧ b = v) ∨ (a = v ∧ b = p + rl_len (nI o))) → rl_Th s0 r0 S c r p (if (cy_Survey_comeTo s1 (nI a) (nI (h - t + g))).1 = 0 then cy_Survey_comeTo (cy_Survey_comeTo s1 (nI a) (nI (h - t + g))).2 (nI b) (nI (h - t + g)) else cy_Survey_comeTo s1 (nI a) (nI (h - t + g))) (md_come (md_come r1 (nI a) (nI (h - t + g))) (nI b) (nI (h - t + g))) := by
    intro a b ha hb hSa hSb hab
    obtain ⟨_, k2⟩ := rl_come hH Y1 ha hSa cc.2
    rcases k2 with ⟨a1, a2, a3, a4⟩ | ⟨a1, a2, a3, a4⟩
    · rw [a3, if_neg (show ¬ (cy_Survey_fault 8 (nI a), s1).1 = 0 from rl_fne 8 (by decide) a (by omega) (by decide)), a4]
      obtain ⟨f, P, g1, g2, g3, g4, g5, g6, g7, g8⟩ := rl_bad_ft (f := 8) (P := a) Y1.1.1 Y1.1.2.1 Y1.2.2.2.1 (by decide) (by decide) (by omega)
      have g5 : (md_bad r1 8 (nI a)).2 2 = nI f := g5
      have g6 : (md_bad r1 8 (nI a)).2 3 = nI P := g6
      have sc := rl_come_sc (md_bad r1 8 (nI a)) (p := b) (h := nI (h - t + g)) g5 g1 g2
      exact Or.inl ⟨f, P, g1, g2, g3, g4, by rw [sc]; exact g5, by rw [sc]; exact g6, g7, rl_come_fm g8 _ _⟩
    · rw [if_pos a1]
      obtain ⟨_, k3⟩ := rl_come hH a2 hb hSb cc.2
      rcases k3 with ⟨b1, b2, b3, b4⟩ | ⟨b1, b2, b3, b4⟩
      · rw [b3, b4]
        exact Or.inl (rl_bad_ft (f := 8) a2.1.1 a2.1.2.1 a2.2.2.2.1 (by decide) (by decide) (by omega))
      · have ea : (md_come (md_come r1 (nI a) (nI (h - t + g))) (nI b) (nI (h - t + g))).1 7 a = nI (h - t + g) := (b3.2 a ha (by rw [a4]; exact rl_nm1 cc.2)).trans a4
        refine fin _ _ b1 b2 (rl_mo_t a3 b3) (fun _ _ => ?_) (fun _ v' hv' ev' => ?_)
        · rcases hab with ⟨rfl, rfl⟩ | ⟨rfl, rfl⟩
          · exact ea
          · exact b4
        · have : v' = v := (nI_eq (by omega) (by omega)).1 (ev'.symm.trans ev)
          rw [this]
          rcases hab with ⟨rfl, rfl⟩ | ⟨rfl, rfl⟩
          · exact b4
          · exact ea
  by_cases cle : p + rl_len (nI o) ≤ v
  · have d1 : nI (p + rl_len (nI o)) ≤ nI v := nI_le cle (by omega)
    have d2 : ¬ nI v < nI (p + rl_len (nI o)) := nI_nlt cle (by omega)
    have d3 : (if nI (p + rl_len (nI o)) < nI v then nI v else nI (p + rl_len (nI o))) = nI v := by
      by_cases q : p + rl_len (nI o) < v
      · rw [if_pos (nI_lt q (by omega))]
      · rw [if_neg (nI_nlt (by omega) (by omega)), show p + rl_len (nI o) = v by omega]
    rw [if_pos d1, if_neg d2, d3]
    rw [if_pos d1] at E2
    exact ⟨E2 (fun _ => ⟨bt2, rl_come_ok _ (by omega) _, rl_come_ok _ (by omega) _, trivial⟩), two _ _ n1 vn n2 vS (Or.inl ⟨rfl, rfl⟩)⟩
  · have d1 : ¬ nI (p + rl_len (nI o)) ≤ nI v := nI_ge (by omega) (by omega)
    have d2 : nI v < nI (p + rl_len (nI o)) := nI_lt (by omega) (by omega)
    have d3 : ¬ nI (p + rl_len (nI o)) < nI v := nI_nlt (by omega) (by omega)
    rw [if_neg d1, if_pos d2, if_neg d3]
    rw [if_neg d1] at E2
    exact ⟨E2 (fun _ => ⟨bt2, rl_come_ok _ (by omega) _, rl_come_ok _ (by omega) _, trivial⟩), two _ _ vn n1 vS n2 (Or.inr ⟨rfl, rfl⟩)⟩
