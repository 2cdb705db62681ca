theorem rl_come_ok (r : md_S) {p : Nat} (hp : p < 301) (h : Int32) : md_come_ok r (nI p) h := by
  have v : vp_in (nI p) 301 := vp_in_nI hp (by decide)
  unfold md_come_ok
  refine ⟨v, ?_⟩
  split
  · exact ⟨v, trivial⟩
  · refine ⟨v, ?_⟩
    split <;> trivial
def rl_mth (r1 : md_S) (o : Nat) (nx V hh : Int32) : md_S := if o < 22 then if o < 16 then md_come r1 nx hh else if o ≤ 18 then if o = 16 then md_come r1 V hh else if nx ≤ V then md_come (md_come r1 nx hh) V hh else md_come (md_come r1 V hh) nx hh else md_come r1 nx hh else if 24 < o then if o < 16 then md_come r1 nx hh else if o ≤ 18 then if o = 16 then md_come r1 V hh else if nx ≤ V then md_come (md_come r1 nx hh) V hh else md_come (md_come r1 V hh) nx hh else md_come r1 nx hh else r1
def rl_mth_ok (r1 : md_S) (o : Nat) (p1 nx V hh : Int32) : Prop := if o < 22 then if o < 16 then md_come_ok r1 nx hh ∧ True else if o ≤ 18 then md_at_ok r1 p1 ∧ (if o = 16 then md_come_ok r1 V hh ∧ True else if nx ≤ V then md_come_ok r1 nx hh ∧ md_come_ok (md_come r1 nx hh) V hh ∧ True else md_come_ok r1 V hh ∧ md_come_ok (md_come r1 V hh) nx hh ∧ True) else md_come_ok r1 nx hh ∧ True else if 24 < o then if o < 16 then md_come_ok r1 nx hh ∧ True else if o ≤ 18 then md_at_ok r1 p1 ∧ (if o = 16 then md_come_ok r1 V hh ∧ True else if nx ≤ V then md_come_ok r1 nx hh ∧ md_come_ok (md_come r1 nx hh) V hh ∧ True else md_come_ok r1 V hh ∧ md_come_ok (md_come r1 V hh) nx hh ∧ True) else md_come_ok r1 nx hh ∧ True else True
theorem rl_c1 {o z : Nat} (ho : o < 28) (hz : z < 30) : (nI o < nI z) = (o < z) := by rw [eq_iff_iff, nI_ltI (by omega) (by omega)]
theorem rl_c2 {o z : Nat} (ho : o < 28) (hz : z < 30) : (nI z < nI o) = (z < o) := by rw [eq_iff_iff, nI_ltI (by omega) (by omega)]
theorem rl_c3 {o z : Nat} (ho : o < 28) (hz : z < 30) : (nI o ≤ nI z) = (o ≤ z) := by rw [eq_iff_iff, nI_leI (by omega) (by omega)]
theorem rl_c4 {o z : Nat} (ho : o < 28) (hz : z < 30) : (nI o = nI z) = (o = z) := by rw [eq_iff_iff, nI_eq (by omega) (by omega)]
theorem rl_mthE (r : md_S) (p o h t g : Nat) (hp : p < 256) (ho : o < 28) (h8 : r.1 8 p = 0) (hf : r.2 2 = 0) (h7 : r.1 7 p = nI h) (hh : h ≤ 8) (eo : md_at (md_sa r 8 (nI p) 1) (nI p) = nI o) (ek : md_at_ok (md_sa r 8 (nI p) 1) (nI p)) (et : cy_Yard_takes (nI o) = nI t) (eg : cy_Yard_gives (nI o) = nI g) (ht : t ≤ 2) (hg : g ≤ 2) :
    (md_goThrough r (nI p) = if t ≤ h ∧ h - t + g ≤ 8 then rl_mth (md_sa r 8 (nI p) 1) o (nI (p + rl_len (nI o))) (md_at (md_sa r 8 (nI p) 1) (nI (p + 1))) (nI (h - t + g)) else md_bad (md_sa r 8 (nI p) 1) 7 (nI p)) ∧
    ((t ≤ h ∧ h - t + g ≤ 8 → rl_mth_ok (md_sa r 8 (nI p) 1) o (nI (p + 1)) (nI (p + rl_len (nI o))) (md_at (md_sa r 8 (nI p) 1) (nI (p + 1))) (nI (h - t + g))) → md_goThrough_ok r (nI p)) := by
  have hcl : (nI p).toNatClampNeg = p := nI_clamp (by omega)
  have v : vp_in (nI p) 301 := vp_in_nI (by omega) (by decide)
  have e7 : (md_sa r 8 (nI p) 1).1 7 p = nI h := h7
  have hf0 : r.2 2 ≤ 0 := by rw [hf]; decide
  unfold md_goThrough md_goThrough_ok
  rw [hcl, e7, eo, rl_mtk o ho, rl_mgv o ho, et, eg, rl_hop o ho, if_pos h8, if_pos h8, if_pos hf0, if_pos hf0, nI_1, show nI p + 2 = nI (p + 2) from nI_add p 2]
  by_cases c1 : t ≤ h
  · rw [pk_sub c1, if_neg (nI_pos (by omega)), if_neg (nI_pos (by omega)), nI_add]
    by_cases c2 : h - t + g ≤ 8
    · have d : nI (h - t + g) ≤ 8 := nI_le c2 (by decide)
      rw [if_pos d, if_pos d, if_pos (show t ≤ h ∧ h - t + g ≤ 8 from ⟨c1, c2⟩)]
      simp only [show (nI o < (22 : Int32)) = (o < 22) from rl_c1 ho (by decide), show (nI o < (16 : Int32)) = (o < 16) from rl_c1 ho (by decide), show ((24 : Int32) < nI o) = (24 < o) from rl_c2 ho (by decide), show (nI o ≤ (18 : Int32)) = (o ≤ 18) from rl_c3 ho (by decide), show (nI o = (16 : Int32)) = (o = 16) from rl_c4 ho (by decide)]
      unfold rl_mth rl_mth_ok rl_len
      by_cases hop : cy_Yard_hasOperand (nI o) = 0
      · simp only [if_pos hop]
        exact ⟨trivial, fun q => ⟨v, v, ek, v, q ⟨c1, c2⟩⟩⟩
      · simp only [if_neg hop]
        exact ⟨trivial, fun q => ⟨v, v, ek, v, q ⟨c1, c2⟩⟩⟩
    · have d : ¬ nI (h - t + g) ≤ 8 := nI_ge (show 8 < h - t + g by omega) (by omega)
      rw [if_neg d, if_neg d, if_neg (show ¬ (t ≤ h ∧ h - t + g ≤ 8) from fun q => c2 q.2)]
      exact ⟨rfl, fun _ => ⟨v, v, ek, v, trivial⟩⟩
  · have d : nI h - nI t < 0 := pk_sneg (by omega) (by omega)
    rw [if_pos d, if_pos d, if_neg (show ¬ (t ≤ h ∧ h - t + g ≤ 8) from fun q => c1 q.1)]
    exact ⟨rfl, fun _ => ⟨v, v, ek, v, trivial⟩⟩
def rl_cth (s1 : cy_S) (o : Nat) (nx V hh : Int32) : Int32 × cy_S := if cy_Yard_isEnding (nI o) = 0 then if cy_Yard_isJump (nI o) = 0 then cy_Survey_comeTo s1 nx hh else if nI o = 16 then cy_Survey_comeTo s1 V hh else if (cy_Survey_comeTo s1 (if V < nx then V else nx) hh).1 = 0 then cy_Survey_comeTo (cy_Survey_comeTo s1 (if V < nx then V else nx) hh).2 (if nx < V then V else nx) hh else cy_Survey_comeTo s1 (if V < nx then V else nx) hh else (0, s1)
theorem rl_cthE (s : cy_S) (p o h t g : Nat) (hp : p < 256) (ho : o < 28) (hh : h ≤ 8) (eh : cy_rat (cy_rput s 3 (nI p) 0) 2 (nI p) 0 = nI h) (eo : cy_rat (cy_rput s 3 (nI p) 0) 0 (nI p) (-1) = nI o) (et : cy_Yard_takes (nI o) = nI t) (eg : cy_Yard_gives (nI o) = nI g) (ht : t ≤ 2) (hg : g ≤ 2) :
    cy_Survey_goThrough s (nI p) = if t ≤ h ∧ h - t + g ≤ 8 then rl_cth (cy_rput s 3 (nI p) 0) o (nI (p + rl_len (nI o))) (cy_rat (cy_rput s 3 (nI p) 0) 0 (nI (p + 1)) (-1)) (nI (h - t + g)) else (cy_Survey_fault 7 (nI p), cy_rput s 3 (nI p) 0) := by
  unfold cy_Survey_goThrough
  rw [eh, eo, et, eg, nI_1, show nI p + 2 = nI (p + 2) from nI_add p 2]
  by_cases c1 : t ≤ h
  · rw [pk_sub c1, if_neg (nI_pos (by omega)), nI_add]
    by_cases c2 : h - t + g ≤ 8
    · have d : nI (h - t + g) ≤ 8 := nI_le c2 (by decide)
      rw [if_pos d, if_pos (show t ≤ h ∧ h - t + g ≤ 8 from ⟨c1, c2⟩)]
      unfold rl_cth rl_len
      by_cases hop : cy_Yard_hasOperand (nI o) = 0
      · simp only [if_pos hop]
      · simp only [if_neg hop]
    · have d : ¬ nI (h - t + g) ≤ 8 := nI_ge (show 8 < h - t + g by omega) (by omega)
      rw [if_neg d, if_neg (show ¬ (t ≤ h ∧ h - t + g ≤ 8) from fun q => c2 q.2)]
  · have d : nI h - nI t < 0 := pk_sneg (by omega) (by omega)
    rw [if_pos d, if_neg (show ¬ (t ≤ h ∧ h - t + g ≤ 8) from fun q => c1 q.1)]
def rl_nx (T S : List Int32) (p o : Nat) : Prop := o < 28 ∧ T.getD p 0 = nI o ∧ (cy_Yard_isEnding (nI o) = 0 → o ≠ 16 → p + rl_len (nI o) < T.length ∧ S.getD (p + rl_len (nI o)) 0 = 1) ∧ (cy_Yard_hasOperand (nI o) = 1 → p + 1 < T.length ∧ ∃ v : Nat, v < 256 ∧ T.getD (p + 1) 0 = nI v ∧ nI v ≤ cy_Yard_operandMost (nI o) ∧ (cy_Yard_isJump (nI o) = 1 → v < T.length ∧ S.getD v 0 = 1))
theorem rl_ops3 : ∀ o : Nat, o < 28 → (cy_Yard_isJump (nI o) = 0 ∨ cy_Yard_isJump (nI o) = 1) ∧ (cy_Yard_isJump (nI o) = 1 → cy_Yard_hasOperand (nI o) = 1 ∧ cy_Yard_isEnding (nI o) = 0) ∧ (∃ t, t < 3 ∧ cy_Yard_takes (nI o) = nI t) ∧ (∃ g, g < 3 ∧ cy_Yard_gives (nI o) = nI g) := by decide +kernel
theorem rl_nxt {s0 s : cy_S} {r0 : md_S} {l : Nat} (hH : rl_H s0 r0) (hf : rl_fr s0 s) (hSl : (s.1 1).length = (s0.1 0).length) (hSt : rl_St (s0.1 0) (s.1 1) (s0.1 0).length l) (hl : (s0.1 0).getD l 0 = 16 ∨ ¬ cy_Yard_isEnding ((s0.1 0).getD l 0) = 0) (hb : ∀ j, j < (s0.1 0).length → ¬ rl_bd s j) {p : Nat} (hp : p < (s0.1 0).length) (hs : (s.1 1).getD p 0 = 1) : ∃ o, rl_nx (s0.1 0) (s.1 1) p o := by
  obtain ⟨a1, ⟨o, ho, eo, hop⟩, a3⟩ := hSt.2.1 p hp hs
  refine ⟨o, ho, eo, fun he h16 => ?_, fun ho1 => ?_⟩
  · rw [eo] at a3
    rcases a3 with ⟨rfl, _⟩ | ⟨b1, b2⟩
    · rw [eo] at hl
      rcases hl with hl | hl
      · exact absurd ((rl_c4 ho (z := 16) (by decide)).mp hl) h16
      · exact absurd he hl
    · exact ⟨b1, b2⟩
  · obtain ⟨c1, c2⟩ := hop ho1
    obtain ⟨v, hv, ev⟩ := rl_Hb hH c1
    rw [ev] at c2
    refine ⟨c1, v, hv, ev, c2, fun hj => ?_⟩
    have hbd := hb (p + 1) c1
    rw [rl_bd_hi hH hf (by omega) c1, eo, ev, rl_ro _ _ _ _ (by omega)] at hbd
    have hne : ¬ (s.1 1).getD v 0 = 0 := fun q => hbd ⟨hs, by rw [hj]; decide, q⟩
    have hvn : v < (s0.1 0).length := by
      rcases Nat.lt_or_ge v (s0.1 0).length with h | h
      · exact h
      · exact absurd (rl_gX (by omega)) hne
    exact ⟨hvn, (hSt.1 v hvn).resolve_left hne⟩
