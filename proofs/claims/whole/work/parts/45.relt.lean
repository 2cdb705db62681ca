theorem rl_come7 (r : md_S) {p : Nat} (hp : p < 2 ^ 31) (h : Int32) (q : Nat) : (md_come r (nI p) h).1 7 q = r.1 7 q ∨ (md_come r (nI p) h).1 7 q = h := by
  unfold md_come
  split
  · show upd (r.1 7) (nI p).toNatClampNeg h q = _ ∨ upd (r.1 7) (nI p).toNatClampNeg h q = _
    by_cases e : q = (nI p).toNatClampNeg
    · right; rw [e, pk_us]
    · left; exact pk_un e
  · split
    · exact Or.inl rfl
    · left; rw [(rl_bad_1 r 8 (nI p)).1]
theorem rl_bgn {s0 s : cy_S} {r0 r : md_S} {S : List Int32} {c : Int32} (hH : rl_H s0 r0) (hY : rl_Y s0 r0 S c s r) (h0 : ∀ q, q < (s0.1 0).length → r.1 7 q = -1 ∨ r.1 7 q = nI 0) {v : Nat} (hv : v < (s0.1 0).length) (hS : S.getD v 0 = 1) : md_come_ok r (nI v) (nI 0) ∧ rl_Y s0 r0 S c (cy_Survey_comeTo s (nI v) (nI 0)).2 (md_come r (nI v) (nI 0)) ∧ (∀ q, q < (s0.1 0).length → (md_come r (nI v) (nI 0)).1 7 q = -1 ∨ (md_come r (nI v) (nI 0)).1 7 q = nI 0) ∧ rl_mo (s0.1 0).length r (md_come r (nI v) (nI 0)) ∧ (md_come r (nI v) (nI 0)).1 7 v = nI 0 := by
  have hn := hH.2.2
  obtain ⟨k1, k2⟩ := rl_come hH hY hv hS (hh := 0) (by decide)
  rcases k2 with ⟨a1, a2, _⟩ | ⟨a1, a2, a3, a4⟩
  · exact absurd ((h0 v hv).resolve_left a1) a2
  · refine ⟨k1, a2, fun q hq => ?_, a3, a4⟩
    rcases rl_come7 r (p := v) (by omega) (nI 0) q with e | e
    · rw [e]; exact h0 q hq
    · exact Or.inr e
theorem rl_257 : (((256 : Int32).toInt - (0 : Int32).toInt).toNat + 1) = 257 := by decide
def rl_Ok (s0 : cy_S) (r0 : md_S) (c : Int32) (X : Int32 × cy_S) (r' : md_S) : Prop := X.1 = 0 ∧ rl_V s0 r0 X.2 r' ∧ X.2.2.2.2.1 = c ∧ r'.2 2 = 0 ∧ rl_snd (s0.1 0) (X.2.1 2)
theorem rl_all {s0 s : cy_S} {r0 r : md_S} {l : Nat} {c : Int32} (hH : rl_H s0 r0) (hV : rl_V s0 r0 s r) (h2 : r.2 2 = 0) (hSt : rl_St (s0.1 0) (s.1 1) (s0.1 0).length l) (hl : (s0.1 0).getD l 0 = 16 ∨ ¬ cy_Yard_isEnding ((s0.1 0).getD l 0) = 0) (hb : ∀ j, j < (s0.1 0).length → ¬ rl_bd s j) (hc : s.2.2.2.1 = c) (hsf : s.2.2.2.2.2 = nI (s0.1 0).length) (h3 : ∀ p, p < (s0.1 0).length → (s.1 3).getD p 0 = 0) (h7 : ∀ p, p < (s0.1 0).length → r.1 7 p = -1) (h8 : ∀ p, p < (s0.1 0).length → r.1 8 p = 0) :
    md_walk_ok r ∧ (rl_Ft s0 r0 (cy_Survey_goThroughAll s) (md_walk r) ∨ rl_Ok s0 r0 c (cy_Survey_goThroughAll s) (md_walk r)) := by
  have hn := hH.2.2
  have hn4 := hH.2.1
  have hNx : ∀ p, p < (s0.1 0).length → (s.1 1).getD p 0 = 1 → 3 ≤ p ∧ ∃ o, rl_nx (s0.1 0) (s.1 1) p o := fun p hp hs => ⟨(hSt.2.1 p hp hs).1, rl_nxt hH hV.1 hV.2.2.1 hSt hl hb hp hs⟩
  have nw : ∀ p, p < (s0.1 0).length → ¬ rl_wt r p := fun p hp h => h.1 (h7 p hp)
  have Y0 : rl_Y s0 r0 (s.1 1) c s r := ⟨hV, rfl, hc, h2, fun p hp => Or.inr ⟨nw p hp, h3 p hp⟩, ⟨_, hsf, Nat.le_refl _, nw⟩, fun p hp => Or.inl (h7 p hp), fun p hp h => absurd (h8 p hp) h⟩
  have bg : ∀ b, b < 3 → ∃ v : Nat, v < (s0.1 0).length ∧ (s0.1 0).getD b 0 = nI v ∧ (s.1 1).getD v 0 = 1 := fun b hb3 => by
    have hbn : b < (s0.1 0).length := by omega
    obtain ⟨v, hv, ev⟩ := rl_Hb hH hbn
    have hbd := hb b hbn
    rw [rl_bd_lo hH hV.1 hb3, ev, rl_ro _ _ _ _ (by omega)] at hbd
    have hvn : v < (s0.1 0).length := by
      rcases Nat.lt_or_ge v (s0.1 0).length with h | h
      · exact h
      · exact absurd (rl_gX (by rw [hV.2.2.1]; exact h)) hbd
    exact ⟨v, hvn, ev, (hSt.1 v hvn).resolve_left hbd⟩
  obtain ⟨v0, p0, e0, t0⟩ := bg 0 (by decide)
  obtain ⟨v1, p1, e1, t1⟩ := bg 1 (by decide)
  obtain ⟨v2, p2, e2, t2⟩ := bg 2 (by decide)
  obtain ⟨o0, Y1, z1, m1, w1⟩ := rl_bgn hH Y0 (fun q hq => Or.inl (h7 q hq)) p0 t0
  obtain ⟨o1, Y2, z2, m2, w2⟩ := rl_bgn hH Y1 z1 p1 t1
  obtain ⟨o2, Y3, z3, m3, w3⟩ := rl_bgn hH Y2 z2 p2 t2
  have x0 : cy_rat s 0 0 (-1) = nI v0 := (rl_Vrat hH hV.1 (p := 0) (by omega) (-1)).trans e0
  have x1 : cy_rat (cy_Survey_comeTo s (nI v0) (nI 0)).2 0 1 (-1) = nI v1 := (rl_Vrat hH Y1.1.1 (p := 1) (by omega) (-1)).trans e1
  have x2 : cy_rat (cy_Survey_comeTo (cy_Survey_comeTo s (nI v0) (nI 0)).2 (nI v1) (nI 0)).2 0 2 (-1) = nI v2 := (rl_Vrat hH Y2.1.1 (p := 2) (by omega) (-1)).trans e2
  obtain ⟨a0, b0⟩ := rl_Vat (s := s) hH hV.2.1 (p := 0) (by omega)
  obtain ⟨a1, b1⟩ := rl_Vat (s := s) hH Y1.1.2.1 (p := 1) (by omega)
  obtain ⟨a2, b2⟩ := rl_Vat (s := s) hH Y2.1.2.1 (p := 2) (by omega)
  have a0 : md_at r 0 = nI v0 := a0.trans e0
  have a1 : md_at (md_come r (nI v0) (nI 0)) 1 = nI v1 := a1.trans e1
  have a2 : md_at (md_come (md_come r (nI v0) (nI 0)) (nI v1) (nI 0)) 2 = nI v2 := a2.trans e2
  have E : cy_Survey_goThroughAll s = cy_Survey_goThroughAll_l 257 (cy_Survey_comeTo (cy_Survey_comeTo (cy_Survey_comeTo s (nI v0) (nI 0)).2 (nI v1) (nI 0)).2 (nI v2) (nI 0)).2 (nI 0) := by
    unfold cy_Survey_goThroughAll
    rw [rl_257, x0]
    rw [show (cy_Survey_comeTo s (nI v0) 0) = cy_Survey_comeTo s (nI v0) (nI 0) from rfl, x1]
    rw [show (cy_Survey_comeTo (cy_Survey_comeTo s (nI v0) (nI 0)).2 (nI v1) 0) = cy_Survey_comeTo (cy_Survey_comeTo s (nI v0) (nI 0)).2 (nI v1) (nI 0) from rfl, x2]
    rfl
  have r1n : (md_come (md_come (md_come r (nI v0) (nI 0)) (nI v1) (nI 0)) (nI v2) (nI 0)).2 1 = nI (s0.1 0).length := Y3.1.2.2.2.2.2.1
  have E' : md_walk r = md_walk_l ((s0.1 0).length + 2) (md_come (md_come (md_come r (nI v0) (nI 0)) (nI v1) (nI 0)) (nI v2) (nI 0)) 1 := by
    unfold md_walk
    rw [a0, show (md_come r (nI v0) 0) = md_come r (nI v0) (nI 0) from rfl, a1, show (md_come (md_come r (nI v0) (nI 0)) (nI v1) 0) = md_come (md_come r (nI v0) (nI 0)) (nI v1) (nI 0) from rfl, a2, show (md_come (md_come (md_come r (nI v0) (nI 0)) (nI v1) (nI 0)) (nI v2) 0) = md_come (md_come (md_come r (nI v0) (nI 0)) (nI v1) (nI 0)) (nI v2) (nI 0) from rfl, r1n, nI_toInt (by omega), show ((((s0.1 0).length : Nat) : Int).toNat + 2) = (s0.1 0).length + 2 by omega]
  have e8 : (md_come (md_come (md_come r (nI v0) (nI 0)) (nI v1) (nI 0)) (nI v2) (nI 0)).1 8 = r.1 8 := m3.1.trans (m2.1.trans m1.1)
  obtain ⟨wo, we⟩ := rl_wloop hH hNx 257 ((s0.1 0).length + 2) _ _ 0 Y3 (fun p hp _ q => absurd (by rw [e8]; exact h8 p hp) q) (by have := rl_cnt_le ((md_come (md_come (md_come r (nI v0) (nI 0)) (nI v1) (nI 0)) (nI v2) (nI 0)).1 8) (s0.1 0).length; omega) rfl (by have := rl_cnt_le ((md_come (md_come (md_come r (nI v0) (nI 0)) (nI v1) (nI 0)) (nI v2) (nI 0)).1 8) (s0.1 0).length; omega)
  rw [E, E']
  refine ⟨?_, ?_⟩
  · unfold md_walk_ok
    rw [a0, show (md_come r (nI v0) 0) = md_come r (nI v0) (nI 0) from rfl, a1, show (md_come (md_come r (nI v0) (nI 0)) (nI v1) 0) = md_come (md_come r (nI v0) (nI 0)) (nI v1) (nI 0) from rfl, a2, show (md_come (md_come (md_come r (nI v0) (nI 0)) (nI v1) (nI 0)) (nI v2) 0) = md_come (md_come (md_come r (nI v0) (nI 0)) (nI v1) (nI 0)) (nI v2) (nI 0) from rfl, r1n, nI_toInt (by omega), show ((((s0.1 0).length : Nat) : Int).toNat + 2) = (s0.1 0).length + 2 by omega]
    exact ⟨b0, o0, b1, o1, b2, o2, wo, trivial⟩
  · rcases we with we | ⟨g1, g2, g3, g4, g5⟩
    · exact Or.inl we
    · refine Or.inr ⟨g1, g2.1, g2.2.2.1, g2.2.2.2.1, by omega, fun b hb3 => ?_, fun p hp => ?_⟩
      · have k : ∀ v : Nat, v < (s0.1 0).length → (md_come (md_come (md_come r (nI v0) (nI 0)) (nI v1) (nI 0)) (nI v2) (nI 0)).1 7 v = nI 0 → ((cy_Survey_goThroughAll_l 257 (cy_Survey_comeTo (cy_Survey_comeTo (cy_Survey_comeTo s (nI v0) (nI 0)).2 (nI v1) (nI 0)).2 (nI v2) (nI 0)).2 (nI 0)).2.1 2).getD v 0 = nI 0 := fun v hv e => by
          rw [(g2.1.2.2.2.2.2.2 v hv).2, g5 v hv (by rw [e]; exact rl_nm1 (by decide)), e]
        have b3 : b = 0 ∨ b = 1 ∨ b = 2 := by omega
        rcases b3 with rfl | rfl | rfl
        · refine ⟨v0, p0, e0, k v0 p0 ?_⟩
          have q2 := (m2.2 v0 p0 (by rw [w1]; exact rl_nm1 (by decide))).trans w1
          exact (m3.2 v0 p0 (by rw [q2]; exact rl_nm1 (by decide))).trans q2
        · refine ⟨v1, p1, e1, k v1 p1 ?_⟩
          exact (m3.2 v1 p1 (by rw [w2]; exact rl_nm1 (by decide))).trans w2
        · exact ⟨v2, p2, e2, k v2 p2 w3⟩
      · rw [(g2.1.2.2.2.2.2.2 p hp).2]
        rcases g2.2.2.2.2.2.2.1 p hp with e | ⟨_, h, hh, e⟩
        · exact Or.inl e
        · refine Or.inr ⟨h, hh, e, g3 p hp (by omega) (fun z => g4 p hp ⟨by rw [e]; exact rl_nm1 hh, z⟩) h hh e⟩
