def rl_bd (s : cy_S) (p : Nat) : Prop := ¬ cy_Survey_tellsPlace s (nI p) = 0 ∧ cy_rat s 1 (cy_rat s 0 (nI p) (-1)) 0 = 0
theorem rl_bd_lo {s0 s : cy_S} {r0 : md_S} (hH : rl_H s0 r0) (hf : rl_fr s0 s) {p : Nat} (hp : p < 3) : rl_bd s p ↔ cy_rat s 1 ((s0.1 0).getD p 0) 0 = 0 := by
  have hn := hH.2.1
  unfold rl_bd cy_Survey_tellsPlace
  rw [rl_Vrat hH hf (show p < _ by omega), if_pos (show nI p < 3 from nI_lt hp (by decide))]
  exact ⟨fun h => h.2, fun h => ⟨by decide, h⟩⟩
theorem rl_bd_hi {s0 s : cy_S} {r0 : md_S} (hH : rl_H s0 r0) (hf : rl_fr s0 s) {i : Nat} (hi : 2 ≤ i) (hi2 : i + 1 < (s0.1 0).length) : rl_bd s (i + 1) ↔ ((s.1 1).getD i 0 = 1 ∧ ¬ cy_Yard_isJump ((s0.1 0).getD i 0) = 0 ∧ cy_rat s 1 ((s0.1 0).getD (i + 1) 0) 0 = 0) := by
  have hn := hH.2.2
  unfold rl_bd cy_Survey_tellsPlace
  rw [rl_Vrat hH hf hi2, if_neg (show ¬ nI (i + 1) < 3 from nI_nlt (show 3 ≤ i + 1 by omega) (by omega)), nI_pred, rl_ro _ _ _ _ (by omega), rl_Vrat hH hf (show i < _ by omega)]
  by_cases g : (s.1 1).getD i 0 = 1
  · rw [if_pos g]
    by_cases g2 : cy_Yard_isJump ((s0.1 0).getD i 0) = 0
    · rw [if_pos g2]; exact ⟨fun h => absurd rfl h.1, fun h => absurd g2 h.2.1⟩
    · rw [if_neg g2]; exact ⟨fun h => ⟨g, g2, h.2⟩, fun h => ⟨by decide, h.2.2⟩⟩
  · rw [if_neg g]; exact ⟨fun h => absurd rfl h.1, fun h => absurd h.1 g⟩
theorem rl_okp {s : cy_S} {f : Nat → Int32} {n v : Nat} (hl : (s.1 1).length = n) (hr : ∀ p, p < n → (s.1 1).getD p 0 = f p) (hv : v < 256) : cy_rat s 1 (nI v) 0 = 0 ↔ (n ≤ v ∨ f v = 0) := by
  rw [rl_ro _ _ _ _ (by omega)]
  by_cases h : v < n
  · rw [hr v h]; exact ⟨fun q => Or.inr q, fun q => q.resolve_left (by omega)⟩
  · rw [rl_gX (by omega)]; exact ⟨fun _ => Or.inl (by omega), fun _ => rfl⟩
theorem rl_places_c {s0 s : cy_S} {r0 : md_S} (hH : rl_H s0 r0) (hf : rl_fr s0 s) : ∀ (q i : Nat), i ≤ (s0.1 0).length → (s0.1 0).length < i + q → (∃ p, i ≤ p ∧ p < (s0.1 0).length ∧ rl_bd s p ∧ (∀ j, i ≤ j → j < p → ¬ rl_bd s j) ∧ cy_Survey_lookAtPlaces_l q s (nI i) = cy_Survey_fault 6 (nI p)) ∨ ((∀ j, i ≤ j → j < (s0.1 0).length → ¬ rl_bd s j) ∧ cy_Survey_lookAtPlaces_l q s (nI i) = 0) := by
  have hn := hH.2.2
  intro q
  induction q with
  | zero => intro i h1 h2; omega
  | succ q ih =>
    intro i h1 h2
    unfold cy_Survey_lookAtPlaces_l
    rw [hf.1 0 (by decide)]
    by_cases hi : i = (s0.1 0).length
    · rw [if_pos (by rw [hi]; exact nI_le (Nat.le_refl _) (by omega))]
      exact Or.inr ⟨fun j h3 h4 => by omega, rfl⟩
    · rw [if_neg (nI_ge (show i < _ by omega) (by omega)), nI_1]
      have step : ¬ rl_bd s i → (∃ p, i ≤ p ∧ p < (s0.1 0).length ∧ rl_bd s p ∧ (∀ j, i ≤ j → j < p → ¬ rl_bd s j) ∧ cy_Survey_lookAtPlaces_l q s (nI (i + 1)) = cy_Survey_fault 6 (nI p)) ∨ ((∀ j, i ≤ j → j < (s0.1 0).length → ¬ rl_bd s j) ∧ cy_Survey_lookAtPlaces_l q s (nI (i + 1)) = 0) := by
        intro hb
        rcases ih (i + 1) (by omega) (by omega) with ⟨p, a1, a2, a3, a4, a5⟩ | ⟨a1, a2⟩
        · refine Or.inl ⟨p, by omega, a2, a3, fun j h3 h4 => ?_, a5⟩
          by_cases e : j = i
          · rw [e]; exact hb
          · exact a4 j (by omega) h4
        · refine Or.inr ⟨fun j h3 h4 => ?_, a2⟩
          by_cases e : j = i
          · rw [e]; exact hb
          · exact a1 j (by omega) h4
      by_cases g1 : cy_Survey_tellsPlace s (nI i) = 0
      · rw [if_pos g1]; exact step (fun h => h.1 g1)
      · rw [if_neg g1]
        by_cases g2 : cy_rat s 1 (cy_rat s 0 (nI i) (-1)) 0 = 0
        · rw [if_pos g2]; exact Or.inl ⟨i, Nat.le_refl _, by omega, ⟨g1, g2⟩, fun j h3 h4 => by omega, rfl⟩
        · rw [if_neg g2]; exact step (fun h => g2 h.2)
theorem rl_bad2 (r : md_S) (x y : Int32) : md_bad (md_bad r 6 x) 6 y = md_bad r 6 x := by
  by_cases h : r.2 2 ≤ 0
  · have e : md_bad r 6 x = md_ss (md_ss r 2 6) 3 x := if_pos h
    rw [e]
    exact if_neg (show ¬ (6 : Int32) ≤ 0 by decide)
  · have e : ∀ z, md_bad r 6 z = r := fun z => if_neg h
    rw [e, e]
def rl_W (s0 : cy_S) (r0 : md_S) (s : cy_S) (r : md_S) : Prop := rl_fm r0 r ∧ r.2 1 = nI (s0.1 0).length ∧ ∀ p, p < (s0.1 0).length → (s.1 1).getD p 0 = r.1 6 p
theorem rl_W_bad {s0 s : cy_S} {r0 r : md_S} (h : rl_W s0 r0 s r) (f p : Int32) : rl_W s0 r0 s (md_bad r f p) := by
  obtain ⟨e1, e2⟩ := rl_bad_1 r f p
  exact ⟨rl_bad_fm h.1 f p, by rw [e2]; exact h.2.1, by rw [e1]; exact h.2.2⟩
theorem rl_look_d {s0 s : cy_S} {r0 : md_S} (hH : rl_H s0 r0) (hf : rl_fr s0 s) (hl : (s.1 1).length = (s0.1 0).length) : ∀ (q : Nat) (r : md_S) (i : Nat), rl_W s0 r0 s r → i ≤ 3 → 3 < i + q → md_look_d_ok q r (nI i) ∧ ((∃ p, i ≤ p ∧ p < 3 ∧ rl_bd s p ∧ (∀ j, i ≤ j → j < p → ¬ rl_bd s j) ∧ md_look_d q r (nI i) = md_bad r 6 (nI p)) ∨ ((∀ j, i ≤ j → j < 3 → ¬ rl_bd s j) ∧ md_look_d q r (nI i) = r)) := by
  have hn := hH.2.2
  have hn4 := hH.2.1
  intro q
  induction q with
  | zero => intro r i _ h1 h2; omega
  | succ q ih =>
    intro r i hW h1 h2
    unfold md_look_d_ok md_look_d
    by_cases hi : i = 3
    · have hc : (3 : Int32) ≤ nI i := by rw [hi]; decide
      rw [if_pos hc, if_pos hc]
      exact ⟨trivial, Or.inr ⟨fun j h3 h4 => by omega, rfl⟩⟩
    · have hc : ¬ (3 : Int32) ≤ nI i := nI_ge (show i < 3 by omega) (by decide)
      rw [if_neg hc, if_neg hc, hW.2.1, nI_1]
      obtain ⟨b, hb, eb⟩ := rl_Hb hH (show i < (s0.1 0).length by omega)
      obtain ⟨at1, at2⟩ := rl_Vat (s := s) hH hW.1 (show i < (s0.1 0).length by omega)
      have hbd := rl_bd_lo hH hf (show i < 3 by omega)
      rw [eb, rl_okp hl hW.2.2 hb] at hbd
      rw [at1, eb, nI_clamp (by omega)]
      have stay : ¬ rl_bd s i → md_look_d_ok q r (nI (i + 1)) ∧ ((∃ p, i ≤ p ∧ p < 3 ∧ rl_bd s p ∧ (∀ j, i ≤ j → j < p → ¬ rl_bd s j) ∧ md_look_d q r (nI (i + 1)) = md_bad r 6 (nI p)) ∨ ((∀ j, i ≤ j → j < 3 → ¬ rl_bd s j) ∧ md_look_d q r (nI (i + 1)) = r)) := by
        intro hb
        obtain ⟨o, h⟩ := ih r (i + 1) hW (by omega) (by omega)
        refine ⟨o, ?_⟩
        rcases h with ⟨p, a1, a2, a3, a4, a5⟩ | ⟨a1, a2⟩
        · refine Or.inl ⟨p, by omega, a2, a3, fun j h3 h4 => ?_, a5⟩
          by_cases e : j = i
          · rw [e]; exact hb
          · exact a4 j (by omega) h4
        · refine Or.inr ⟨fun j h3 h4 => ?_, a2⟩
          by_cases e : j = i
          · rw [e]; exact hb
          · exact a1 j (by omega) h4
      have fall : rl_bd s i → md_look_d_ok q (md_bad r 6 (nI i)) (nI (i + 1)) ∧ ((∃ p, i ≤ p ∧ p < 3 ∧ rl_bd s p ∧ (∀ j, i ≤ j → j < p → ¬ rl_bd s j) ∧ md_look_d q (md_bad r 6 (nI i)) (nI (i + 1)) = md_bad r 6 (nI p)) ∨ ((∀ j, i ≤ j → j < 3 → ¬ rl_bd s j) ∧ md_look_d q (md_bad r 6 (nI i)) (nI (i + 1)) = r)) := by
        intro hb
        obtain ⟨o, h⟩ := ih (md_bad r 6 (nI i)) (i + 1) (rl_W_bad hW _ _) (by omega) (by omega)
        refine ⟨o, Or.inl ⟨i, Nat.le_refl _, by omega, hb, fun j h3 h4 => by omega, ?_⟩⟩
        rcases h with ⟨p, a1, a2, a3, a4, a5⟩ | ⟨a1, a2⟩
        · rw [a5, rl_bad2]
        · exact a2
      by_cases g1 : (s0.1 0).length ≤ b
      · have c1 : nI (s0.1 0).length ≤ nI b := nI_le g1 (by omega)
        rw [if_pos c1, if_pos c1]
        obtain ⟨o, h⟩ := fall (hbd.2 (Or.inl g1))
        exact ⟨⟨at2, o⟩, h⟩
      · have c1 : ¬ nI (s0.1 0).length ≤ nI b := nI_ge (by omega) (by omega)
        have v : vp_in (nI b) 301 := vp_in_nI (by omega) (by decide)
        rw [if_neg c1, if_neg c1]
        by_cases g2 : r.1 6 b = 0
        · rw [if_pos g2, if_pos g2]
          obtain ⟨o, h⟩ := fall (hbd.2 (Or.inr g2))
          exact ⟨⟨at2, at2, v, o⟩, h⟩
        · rw [if_neg g2, if_neg g2]
          obtain ⟨o, h⟩ := stay (fun h => (hbd.1 h).elim g1 g2)
          exact ⟨⟨at2, at2, v, o⟩, h⟩
theorem rl_look_e {s0 s : cy_S} {r0 : md_S} {l : Nat} (hH : rl_H s0 r0) (hf : rl_fr s0 s) (hl : (s.1 1).length = (s0.1 0).length) (hSt : rl_St (s0.1 0) (s.1 1) (s0.1 0).length l) : ∀ (q : Nat) (r : md_S) (i : Nat), rl_W s0 r0 s r → 3 ≤ i → i ≤ (s0.1 0).length → (s0.1 0).length < i + q → md_look_e_ok q r (nI i) ∧ ((∃ p, i < p ∧ p < (s0.1 0).length ∧ rl_bd s p ∧ (∀ j, i < j → j < p → ¬ rl_bd s j) ∧ md_look_e q r (nI i) = md_bad r 6 (nI p)) ∨ ((∀ j, i < j → j < (s0.1 0).length → ¬ rl_bd s j) ∧ md_look_e q r (nI i) = r)) := by
  have hn := hH.2.2
  have hn4 := hH.2.1
  intro q
  induction q with
  | zero => intro r i _ h0 h1 h2; omega
  | succ q ih =>
    intro r i hW h0 h1 h2
    unfold md_look_e_ok md_look_e
    rw [hW.2.1]
    by_cases hi : i = (s0.1 0).length
    · have hc : nI (s0.1 0).length ≤ nI i := by rw [hi]; exact nI_le (Nat.le_refl _) (by omega)
      rw [if_pos hc, if_pos hc]
      exact ⟨trivial, Or.inr ⟨fun j h3 h4 => by omega, rfl⟩⟩
    · have hil : i < (s0.1 0).length := by omega
      have hc : ¬ nI (s0.1 0).length ≤ nI i := nI_ge hil (by omega)
      rw [if_neg hc, if_neg hc, nI_1, nI_clamp (show i < 2 ^ 31 by omega)]
      have v301 : vp_in (nI i) 301 := vp_in_nI (by omega) (by decide)
      obtain ⟨b, hb, eb⟩ := rl_Hb hH hil
      obtain ⟨at1, at2⟩ := rl_Vat (s := s) hH hW.1 hil
      rw [at1, eb]
      have hst := hW.2.2 i hil
      have stay : (i + 1 < (s0.1 0).length → ¬ rl_bd s (i + 1)) → md_look_e_ok q r (nI (i + 1)) ∧ ((∃ p, i < p ∧ p < (s0.1 0).length ∧ rl_bd s p ∧ (∀ j, i < j → j < p → ¬ rl_bd s j) ∧ md_look_e q r (nI (i + 1)) = md_bad r 6 (nI p)) ∨ ((∀ j, i < j → j < (s0.1 0).length → ¬ rl_bd s j) ∧ md_look_e q r (nI (i + 1)) = r)) := by
        intro hb
        obtain ⟨o, h⟩ := ih r (i + 1) hW (by omega) (by omega) (by omega)
        refine ⟨o, ?_⟩
        rcases h with ⟨p, a1, a2, a3, a4, a5⟩ | ⟨a1, a2⟩
        · refine Or.inl ⟨p, by omega, a2, a3, fun j h3 h4 => ?_, a5⟩
          by_cases e : j = i + 1
          · rw [e]; exact hb (by omega)
          · exact a4 j (by omega) h4
        · refine Or.inr ⟨fun j h3 h4 => ?_, a2⟩
          by_cases e : j = i + 1
          · rw [e]; exact hb (by omega)
          · exact a1 j (by omega) h4
      have fall : i + 1 < (s0.1 0).length → rl_bd s (i + 1) → md_look_e_ok q (md_bad r 6 (nI (i + 1))) (nI (i + 1)) ∧ ((∃ p, i < p ∧ p < (s0.1 0).length ∧ rl_bd s p ∧ (∀ j, i < j → j < p → ¬ rl_bd s j) ∧ md_look_e q (md_bad r 6 (nI (i + 1))) (nI (i + 1)) = md_bad r 6 (nI p)) ∨ ((∀ j, i < j → j < (s0.1 0).length → ¬ rl_bd s j) ∧ md_look_e q (md_bad r 6 (nI (i + 1))) (nI (i + 1)) = r)) := by
        intro hi1 hb
        obtain ⟨o, h⟩ := ih (md_bad r 6 (nI (i + 1))) (i + 1) (rl_W_bad hW _ _) (by omega) (by omega) (by omega)
        refine ⟨o, Or.inl ⟨i + 1, by omega, hi1, hb, fun j h3 h4 => by omega, ?_⟩⟩
        rcases h with ⟨p, a1, a2, a3, a4, a5⟩ | ⟨a1, a2⟩
        · rw [a5, rl_bad2]
        · exact a2
      by_cases g0 : r.1 6 i = 0
      · rw [if_pos g0, if_pos g0]
        obtain ⟨o, h⟩ := stay (fun hi1 h => absurd ((rl_bd_hi hH hf (by omega) hi1).1 h).1 (by rw [hst, g0]; decide))
        exact ⟨⟨v301, o⟩, h⟩
      rw [if_neg g0, if_neg g0]
      have s1 : (s.1 1).getD i 0 = 1 := (hSt.1 i hil).resolve_left (by rw [hst]; exact g0)
      by_cases g16 : b < 16
      · have c1 : nI b < 16 := nI_lt g16 (by decide)
        rw [if_pos c1, if_pos c1]
        obtain ⟨o, h⟩ := stay (fun hi1 h => ((rl_bd_hi hH hf (by omega) hi1).1 h).2.1 (by rw [eb]; exact (rl_isj b hb).2 (Or.inl g16)))
        exact ⟨⟨v301, at2, o⟩, h⟩
      have c1 : ¬ nI b < 16 := nI_nlt (show 16 ≤ b by omega) (by omega)
      rw [if_neg c1, if_neg c1]
      by_cases g18 : b ≤ 18
      · have c2 : nI b ≤ 18 := nI_le g18 (by decide)
        rw [if_pos c2, if_pos c2]
        have hi1 : i + 1 < (s0.1 0).length := by
          obtain ⟨_, ⟨o, ho, eo, hop⟩, _⟩ := hSt.2.1 i hil s1
          have : o = b := (nI_eq (by omega) (by omega)).1 (eo.symm.trans eb)
          subst this
          exact (hop ((rl_ops1 o ho).2.1 (by omega) (by omega)).1).1
        obtain ⟨b', hb', eb'⟩ := rl_Hb hH hi1
        obtain ⟨bt1, bt2⟩ := rl_Vat (s := s) hH hW.1 hi1
        rw [bt1, eb', nI_clamp (show b' < 2 ^ 31 by omega)]
        have hbd := rl_bd_hi hH hf (show 2 ≤ i by omega) hi1
        rw [eb', eb, rl_okp hl hW.2.2 hb'] at hbd
        have jn : ¬ cy_Yard_isJump (nI b) = 0 := fun q => by have := (rl_isj b hb).1 q; omega
        by_cases g1 : (s0.1 0).length ≤ b'
        · have c3 : nI (s0.1 0).length ≤ nI b' := nI_le g1 (by omega)
          rw [if_pos c3, if_pos c3]
          obtain ⟨o, h⟩ := fall hi1 (hbd.2 ⟨s1, jn, Or.inl g1⟩)
          exact ⟨⟨v301, at2, at2, bt2, o⟩, h⟩
        · have c3 : ¬ nI (s0.1 0).length ≤ nI b' := nI_ge (by omega) (by omega)
          have v : vp_in (nI b') 301 := vp_in_nI (by omega) (by decide)
          rw [if_neg c3, if_neg c3]
          by_cases g2 : r.1 6 b' = 0
          · rw [if_pos g2, if_pos g2]
            obtain ⟨o, h⟩ := fall hi1 (hbd.2 ⟨s1, jn, Or.inr g2⟩)
            exact ⟨⟨v301, at2, at2, bt2, bt2, v, o⟩, h⟩
          · rw [if_neg g2, if_neg g2]
            obtain ⟨o, h⟩ := stay (fun _ h => (hbd.1 h).2.2.elim g1 g2)
            exact ⟨⟨v301, at2, at2, bt2, bt2, v, o⟩, h⟩
      · have c2 : ¬ nI b ≤ 18 := nI_ge (show 18 < b by omega) (by omega)
        rw [if_neg c2, if_neg c2]
        obtain ⟨o, h⟩ := stay (fun hi1 h => ((rl_bd_hi hH hf (by omega) hi1).1 h).2.1 (by rw [eb]; exact (rl_isj b hb).2 (Or.inr (by omega))))
        exact ⟨⟨v301, at2, at2, o⟩, h⟩
theorem rl_places {s0 s : cy_S} {r0 r : md_S} {l : Nat} (hH : rl_H s0 r0) (hf : rl_fr s0 s) (hl : (s.1 1).length = (s0.1 0).length) (hSt : rl_St (s0.1 0) (s.1 1) (s0.1 0).length l) (hW : rl_W s0 r0 s r) :
    md_look_d_ok md_k4 r 0 ∧ md_look_e_ok ((s0.1 0).length + 2) (md_look_d md_k4 r 0) 3 ∧ (md_look_d md_k4 r 0).2 1 = nI (s0.1 0).length ∧
    ((∃ p, p < (s0.1 0).length ∧ cy_Survey_lookAtPlaces s = cy_Survey_fault 6 (nI p) ∧ md_look_e ((s0.1 0).length + 2) (md_look_d md_k4 r 0) 3 = md_bad r 6 (nI p)) ∨ ((∀ j, j < (s0.1 0).length → ¬ rl_bd s j) ∧ cy_Survey_lookAtPlaces s = 0 ∧ md_look_e ((s0.1 0).length + 2) (md_look_d md_k4 r 0) 3 = r)) := by
  have hn := hH.2.2
  have hn4 := hH.2.1
  rw [show md_look_d md_k4 r 0 = md_look_d md_k4 r (nI 0) from congrArg (md_look_d md_k4 r) (show (0 : Int32) = nI 0 from rfl), show md_look_d_ok md_k4 r 0 = md_look_d_ok md_k4 r (nI 0) from congrArg (md_look_d_ok md_k4 r) (show (0 : Int32) = nI 0 from rfl)]
  obtain ⟨od, hd⟩ := rl_look_d hH hf hl md_k4 r 0 hW (by decide) (by decide)
  have b3 : ¬ rl_bd s 3 := fun h => by
    have h1 := ((rl_bd_hi hH hf (i := 2) (by decide) (by omega)).1 h).1
    have := (hSt.2.1 2 (by omega) h1).1
    omega
  have hq : cy_Survey_lookAtPlaces s = cy_Survey_lookAtPlaces_l ((s0.1 0).length + 1) s (nI 0) := by
    unfold cy_Survey_lookAtPlaces
    rw [hf.1 0 (by decide), nI_toInt (by omega), show (0 : Int32).toInt = 0 from rfl]
    congr 1
  rw [hq]
  have hc := rl_places_c hH hf ((s0.1 0).length + 1) 0 (Nat.zero_le _) (by omega)
  generalize md_look_d md_k4 r (nI 0) = r1 at hd ⊢
  have hW1 : rl_W s0 r0 s r1 := by
    rcases hd with ⟨p, _, _, _, _, e⟩ | ⟨_, e⟩
    · rw [e]; exact rl_W_bad hW _ _
    · rw [e]; exact hW
  obtain ⟨oe, he⟩ := rl_look_e hH hf hl hSt ((s0.1 0).length + 2) r1 3 hW1 (by decide) (by omega) (by omega)
  rw [show (3 : Int32) = nI 3 from rfl]
  refine ⟨od, oe, hW1.2.1, ?_⟩
  rcases hd with ⟨p, a1, a2, a3, a4, e⟩ | ⟨a1, e⟩
  · have eend : md_look_e ((s0.1 0).length + 2) r1 (nI 3) = md_bad r 6 (nI p) := by
      rcases he with ⟨p', _, _, _, _, e'⟩ | ⟨_, e'⟩
      · rw [e', e, rl_bad2]
      · rw [e', e]
    rcases hc with ⟨p', c1, c2, c3, c4, c5⟩ | ⟨c1, c2⟩
    · have : p' = p := by
        rcases Nat.lt_trichotomy p p' with h | h | h
        · exact absurd a3 (c4 p (by omega) h)
        · exact h.symm
        · exact absurd c3 (a4 p' (by omega) h)
      subst this
      exact Or.inl ⟨p', c2, c5, eend⟩
    · exact absurd a3 (c1 p (by omega) (by omega))
  · subst e
    rcases he with ⟨p, d1, d2, d3, d4, e'⟩ | ⟨d1, e'⟩
    · rcases hc with ⟨p', c1, c2, c3, c4, c5⟩ | ⟨c1, c2⟩
      · have : p' = p := by
          rcases Nat.lt_trichotomy p p' with h | h | h
          · exact absurd d3 (c4 p (by omega) h)
          · exact h.symm
          · exfalso
            by_cases h3 : p' < 3
            · exact a1 p' (by omega) h3 c3
            · by_cases e3 : p' = 3
              · rw [e3] at c3; exact b3 c3
              · exact d4 p' (by omega) h c3
        subst this
        exact Or.inl ⟨p', c2, c5, e'⟩
      · exact absurd d3 (c1 p (by omega) d2)
    · have none : ∀ j, j < (s0.1 0).length → ¬ rl_bd s j := fun j hj h => by
        by_cases h3 : j < 3
        · exact a1 j (by omega) h3 h
        · by_cases e3 : j = 3
          · rw [e3] at h; exact b3 h
          · exact d1 j (by omega) hj h
      rcases hc with ⟨p', c1, c2, c3, c4, c5⟩ | ⟨c1, c2⟩
      · exact absurd c3 (none p' c2)
      · exact Or.inr ⟨none, c2, e'⟩
