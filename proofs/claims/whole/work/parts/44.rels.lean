theorem rl_walk_i {n : Nat} (hn : n ≤ 256) (r : md_S) (h1 : r.2 1 = nI n) : ∀ (q i : Nat), i ≤ n → n < i + q → md_walk_i_ok q r (nI i) ∧ ∃ p, i ≤ p ∧ p ≤ n ∧ (∀ j, i ≤ j → j < p → ¬ rl_wt r j) ∧ (p < n → rl_wt r p) ∧ md_walk_i q r (nI i) = (r, nI p) := by
  intro q
  induction q with
  | zero => intro i a b; omega
  | succ q ih =>
    intro i a b
    unfold md_walk_i_ok md_walk_i
    rw [h1]
    by_cases hi : i = n
    · have hc : nI n ≤ nI i := by rw [hi]; exact nI_le (Nat.le_refl _) (by omega)
      rw [if_pos hc, if_pos hc]
      exact ⟨trivial, i, Nat.le_refl _, a, fun j x y => by omega, fun x => by omega, rfl⟩
    · have hc : ¬ nI n ≤ nI i := nI_ge (by omega) (by omega)
      rw [if_neg hc, if_neg hc, nI_clamp (by omega), nI_1]
      have v : vp_in (nI i) 301 := vp_in_nI (by omega) (by decide)
      obtain ⟨o, p, b1, b2, b3, b4, b5⟩ := ih (i + 1) (by omega) (by omega)
      have next : ¬ rl_wt r i → ∃ p, i ≤ p ∧ p ≤ n ∧ (∀ j, i ≤ j → j < p → ¬ rl_wt r j) ∧ (p < n → rl_wt r p) ∧ md_walk_i q r (nI (i + 1)) = (r, nI p) := fun hw => by
        refine ⟨p, by omega, b2, fun j x y => ?_, b4, b5⟩
        by_cases e : j = i
        · rw [e]; exact hw
        · exact b3 j (by omega) y
      by_cases g7 : r.1 7 i = -1
      · rw [if_pos g7, if_pos g7]
        exact ⟨⟨v, o⟩, next (fun h => h.1 g7)⟩
      · rw [if_neg g7, if_neg g7]
        by_cases g8 : r.1 8 i = 0
        · rw [if_pos g8, if_pos g8]
          exact ⟨⟨v, v, trivial⟩, i, Nat.le_refl _, a, fun j x y => by omega, fun _ => ⟨g7, g8⟩, rfl⟩
        · rw [if_neg g8, if_neg g8]
          exact ⟨⟨v, v, o⟩, next (fun h => g8 h.2)⟩
theorem rl_least {n : Nat} (hn : n ≤ 256) (s : cy_S) (r : md_S) (hl : (s.1 3).length = n) (hw : ∀ p, p < n → (rl_wt r p ∧ (s.1 3).getD p 0 = 1) ∨ (¬ rl_wt r p ∧ (s.1 3).getD p 0 = 0)) : ∀ (q i : Nat), i ≤ n → n < i + q → (∃ p, i ≤ p ∧ p < n ∧ (∀ j, i ≤ j → j < p → ¬ rl_wt r j) ∧ rl_wt r p ∧ cy_Survey_leastWaiting_l q s (nI i) = (nI p, cy_s_searchFrom s (nI p))) ∨ ((∀ j, i ≤ j → j < n → ¬ rl_wt r j) ∧ cy_Survey_leastWaiting_l q s (nI i) = (-1, s)) := by
  intro q
  induction q with
  | zero => intro i a b; omega
  | succ q ih =>
    intro i a b
    unfold cy_Survey_leastWaiting_l
    rw [hl]
    by_cases hi : i = n
    · have hc : nI n ≤ nI i := by rw [hi]; exact nI_le (Nat.le_refl _) (by omega)
      rw [if_pos hc]
      exact Or.inr ⟨fun j x y => by omega, rfl⟩
    · have hc : ¬ nI n ≤ nI i := nI_ge (by omega) (by omega)
      rw [if_neg hc, nI_1, rl_ro _ _ _ _ (by omega)]
      rcases hw i (by omega) with ⟨w1, w2⟩ | ⟨w1, w2⟩
      · rw [if_pos w2]
        exact Or.inl ⟨i, Nat.le_refl _, by omega, fun j x y => by omega, w1, rfl⟩
      · rw [if_neg (by rw [w2]; decide)]
        rcases ih (i + 1) (by omega) (by omega) with ⟨p, b1, b2, b3, b4, b5⟩ | ⟨b1, b2⟩
        · refine Or.inl ⟨p, by omega, b2, fun j x y => ?_, b4, b5⟩
          by_cases e : j = i
          · rw [e]; exact w1
          · exact b3 j (by omega) y
        · refine Or.inr ⟨fun j x y => ?_, b2⟩
          by_cases e : j = i
          · rw [e]; exact w1
          · exact b1 j (by omega) y
def rl_cnt (f : Nat → Int32) : Nat → Nat
  | 0 => 0
  | n + 1 => rl_cnt f n + if f n = 0 then 1 else 0
theorem rl_cnt_le (f : Nat → Int32) : ∀ n, rl_cnt f n ≤ n
  | 0 => Nat.le_refl _
  | n + 1 => by
    have := rl_cnt_le f n
    unfold rl_cnt; split <;> omega
theorem rl_cnt_up (f : Nat → Int32) {p : Nat} (h : f p = 0) : ∀ n, (n ≤ p → rl_cnt (upd f p 1) n = rl_cnt f n) ∧ (p < n → rl_cnt (upd f p 1) n + 1 = rl_cnt f n)
  | 0 => ⟨fun _ => rfl, fun q => absurd q (Nat.not_lt_zero _)⟩
  | n + 1 => by
    obtain ⟨i1, i2⟩ := rl_cnt_up f h n
    unfold rl_cnt
    refine ⟨fun hq => ?_, fun hq => ?_⟩
    · rw [i1 (by omega), pk_un (by omega)]
    · by_cases e : n = p
      · subst e
        rw [i1 (Nat.le_refl _), pk_us, h, if_neg (by decide), if_pos rfl]
      · rw [pk_un e]
        have := i2 (by omega)
        omega
def rl_En (s0 : cy_S) (r0 : md_S) (S : List Int32) (c : Int32) (r : md_S) (X : Int32 × cy_S) (r' : md_S) : Prop := rl_Ft s0 r0 X r' ∨ (X.1 = 0 ∧ rl_Y s0 r0 S c X.2 r' ∧ rl_Cl s0 X.2 r' (s0.1 0).length ∧ (∀ p, p < (s0.1 0).length → ¬ rl_wt r' p) ∧ ∀ q, q < (s0.1 0).length → ¬ r.1 7 q = -1 → r'.1 7 q = r.1 7 q)
theorem rl_Y_sf {s0 s : cy_S} {r0 r : md_S} {S : List Int32} {c : Int32} (hY : rl_Y s0 r0 S c s r) {p : Nat} (hp : p ≤ (s0.1 0).length) (hw : ∀ j, j < p → ¬ rl_wt r j) : rl_Y s0 r0 S c (cy_s_searchFrom s (nI p)) r := by
  obtain ⟨hV, y1, y2, y3, y4, y5, y8, y9⟩ := hY
  exact ⟨hV, y1, y2, y3, y4, ⟨p, rfl, hp, hw⟩, y8, y9⟩
theorem rl_wloop {s0 : cy_S} {r0 : md_S} {S : List Int32} {c : Int32} (hH : rl_H s0 r0) (hNx : ∀ p, p < (s0.1 0).length → S.getD p 0 = 1 → 3 ≤ p ∧ ∃ o, rl_nx (s0.1 0) S p o) :
    ∀ (q q' : Nat) (s : cy_S) (r : md_S) (k : Nat), rl_Y s0 r0 S c s r → rl_Cl s0 s r (s0.1 0).length → k + rl_cnt (r.1 8) (s0.1 0).length ≤ (s0.1 0).length → k + q = 257 → rl_cnt (r.1 8) (s0.1 0).length + 2 ≤ q' →
    md_walk_l_ok q' r 1 ∧ rl_En s0 r0 S c r (cy_Survey_goThroughAll_l q s (nI k)) (md_walk_l q' r 1) := by
  have hn := hH.2.2
  have hn4 := hH.2.1
  intro q
  induction q with
  | zero => intro q' s r k _ _ h1 h2; omega
  | succ q ih =>
    intro q' s r k hY hC h1 h2 h3
    obtain ⟨q', rfl⟩ : ∃ z, q' = z + 1 := ⟨q' - 1, by omega⟩
    have hY0 := hY
    obtain ⟨hV, y1, y2, y3, y4, ⟨sf, y5, y6, y7⟩, y8, y9⟩ := hY
    unfold md_walk_l_ok md_walk_l cy_Survey_goThroughAll_l
    rw [if_neg (show ¬ (1 : Int32) = 0 by decide), if_neg (show ¬ (1 : Int32) = 0 by decide), if_pos y3, if_pos y3, hV.2.2.2.2.2.1, nI_toInt (by omega), show ((((s0.1 0).length : Nat) : Int).toNat + 2) = (s0.1 0).length + 2 by omega]
    obtain ⟨iw, p, b1, b2, b3, b4, b5⟩ := rl_walk_i hn r hV.2.2.2.2.2.1 ((s0.1 0).length + 2) 3 (by omega) (by omega)
    rw [show (3 : Int32) = nI 3 from rfl, b5]
    have nolow : ∀ j, j < 3 → ¬ rl_wt r j := fun j hj hw => by
      have hj' : j < (s0.1 0).length := by omega
      have := (hNx j hj' ((y8 j hj').resolve_left hw.1).1).1
      omega
    have low : ∀ j, j < p → ¬ rl_wt r j := fun j hj => by
      by_cases e : j < 3
      · exact nolow j e
      · exact b3 j (by omega) hj
    have el : cy_Survey_leastWaiting s = cy_Survey_leastWaiting_l ((s0.1 0).length - sf + 1) s (nI sf) := by
      unfold cy_Survey_leastWaiting
      rw [y5, hV.2.2.2.2.1, nI_toInt (by omega), nI_toInt (by omega)]
      congr 1; omega
    rw [el]
    have hl := rl_least hn s r hV.2.2.2.2.1 y4 ((s0.1 0).length - sf + 1) sf y6 (by omega)
    show (md_walk_i_ok ((s0.1 0).length + 2) r (nI 3) ∧ if r.2 1 ≤ nI p then md_walk_l_ok q' r 0 else md_goThrough_ok r (nI p) ∧ md_walk_l_ok q' (md_goThrough r (nI p)) 1) ∧ rl_En s0 r0 S c r _ (if r.2 1 ≤ nI p then md_walk_l q' r 0 else md_walk_l q' (md_goThrough r (nI p)) 1)
    rw [hV.2.2.2.2.2.1]
    by_cases hpn : p = (s0.1 0).length
    · have hc : nI (s0.1 0).length ≤ nI p := by rw [hpn]; exact nI_le (Nat.le_refl _) (by omega)
      rw [if_pos hc, if_pos hc]
      obtain ⟨q'', rfl⟩ : ∃ z, q' = z + 1 := ⟨q' - 1, by omega⟩
      have e1 : md_walk_l_ok (q'' + 1) r 0 := by unfold md_walk_l_ok; rw [if_pos rfl]; trivial
      have e2 : md_walk_l (q'' + 1) r 0 = r := by unfold md_walk_l; rw [if_pos rfl]
      rw [e2]
      refine ⟨⟨iw, e1⟩, ?_⟩
      have nw : ∀ j, j < (s0.1 0).length → ¬ rl_wt r j := fun j hj => low j (by omega)
      rcases hl with ⟨p', c1, c2, c3, c4, c5⟩ | ⟨c1, c2⟩
      · exact absurd c4 (nw p' c2)
      · rw [c2]
        have G : rl_En s0 r0 S c r (0, s) r := Or.inr ⟨rfl, hY0, hC, nw, fun _ _ _ => rfl⟩
        by_cases h256 : (256 : Int32) ≤ nI k
        · rw [if_pos h256]; exact G
        · rw [if_neg h256, if_pos rfl]; exact G
    · have hpl : p < (s0.1 0).length := by omega
      have hc : ¬ nI (s0.1 0).length ≤ nI p := nI_ge hpl (by omega)
      rw [if_neg hc, if_neg hc]
      have hwp := b4 hpl
      have hcn := (rl_cnt_up (r.1 8) hwp.2 (s0.1 0).length).2 hpl
      have h256 : ¬ (256 : Int32) ≤ nI k := nI_ge (show k < 256 by omega) (by decide)
      rw [if_neg h256]
      rcases hl with ⟨p', c1, c2, c3, c4, c5⟩ | ⟨c1, c2⟩
      rotate_left
      · exact absurd hwp (c1 p (by
          rcases Nat.lt_or_ge p sf with h | h
          · exact absurd hwp (y7 p h)
          · exact h) hpl)
      have : p' = p := by
        rcases Nat.lt_trichotomy p p' with h | h | h
        · exfalso
          rcases Nat.lt_or_ge p sf with h' | h'
          · exact y7 p h' hwp
          · exact c3 p h' h hwp
        · exact h.symm
        · exact absurd c4 (low p' h)
      subst this
      rw [c5]
      have Y' := rl_Y_sf hY0 (p := p') (by omega) low
      have C' : rl_Cl s0 (cy_s_searchFrom s (nI p')) r (s0.1 0).length := hC
      have hs1 := ((y8 p' hpl).resolve_left hwp.1).1
      obtain ⟨_, o, hx⟩ := hNx p' hpl hs1
      obtain ⟨t1, t2⟩ := rl_thr hH Y' C' hpl hwp hx
      have np : ¬ nI p' = -1 := fun e => absurd (nI_pos (n := p') (by omega)) (by rw [e]; decide)
      show (md_walk_i_ok ((s0.1 0).length + 2) r (nI 3) ∧ md_goThrough_ok r (nI p') ∧ md_walk_l_ok q' (md_goThrough r (nI p')) 1) ∧ rl_En s0 r0 S c r (if nI p' = -1 then (0, cy_s_searchFrom s (nI p')) else if (cy_Survey_goThrough (cy_s_searchFrom s (nI p')) (nI p')).1 = 0 then cy_Survey_goThroughAll_l q (cy_Survey_goThrough (cy_s_searchFrom s (nI p')) (nI p')).2 (nI k + 1) else cy_Survey_goThrough (cy_s_searchFrom s (nI p')) (nI p')) (md_walk_l q' (md_goThrough r (nI p')) 1)
      rw [if_neg np, nI_1]
      rcases t2 with hF | ⟨u1, u2, u3, u4, u5⟩
      · have hF0 := hF
        obtain ⟨f, P, g1, g2, g3, g4, g5, g6, g7, g8⟩ := hF
        obtain ⟨q'', rfl⟩ : ∃ z, q' = z + 1 := ⟨q' - 1, by omega⟩
        have nf : ¬ (md_goThrough r (nI p')).2 2 = 0 := by rw [g5]; exact nI_ne0 g1 (by omega)
        have e1 : md_walk_l_ok (q'' + 1) (md_goThrough r (nI p')) 1 := by unfold md_walk_l_ok; rw [if_neg (by decide), if_neg nf]; trivial
        have e2 : md_walk_l (q'' + 1) (md_goThrough r (nI p')) 1 = md_goThrough r (nI p') := by unfold md_walk_l; rw [if_neg (by decide), if_neg nf]
        rw [e2, if_neg (show ¬ (cy_Survey_goThrough (cy_s_searchFrom s (nI p')) (nI p')).1 = 0 by rw [g4]; exact rl_fne f g2 P g3 g1)]
        exact ⟨⟨iw, t1, e1⟩, Or.inl hF0⟩
      · rw [if_pos u1]
        obtain ⟨w1, w2⟩ := ih q' _ _ (k + 1) u2 u3 (by rw [u4]; omega) (by omega) (by rw [u4]; omega)
        refine ⟨⟨iw, t1, w1⟩, ?_⟩
        rcases w2 with w2 | ⟨x1, x2, x3, x4, x5⟩
        · exact Or.inl w2
        · exact Or.inr ⟨x1, x2, x3, x4, fun j hj hne => (x5 j hj (by rw [u5 j hj hne]; exact hne)).trans (u5 j hj hne)⟩
