def rl_fr (s0 s : cy_S) : Prop := (∀ a, a = 0 ∨ 4 ≤ a → s.1 a = s0.1 a) ∧ s.2.1 = s0.2.1 ∧ s.2.2.1 = s0.2.2.1
def rl_fm (r0 r : md_S) : Prop := (∀ a, a ≠ 6 → a ≠ 7 → a ≠ 8 → r.1 a = r0.1 a) ∧ ∀ a, a = 0 ∨ 4 ≤ a → r.2 a = r0.2 a
def rl_V (s0 : cy_S) (r0 : md_S) (s : cy_S) (r : md_S) : Prop := rl_fr s0 s ∧ rl_fm r0 r ∧ (s.1 1).length = (s0.1 0).length ∧ (s.1 2).length = (s0.1 0).length ∧ (s.1 3).length = (s0.1 0).length ∧ r.2 1 = nI (s0.1 0).length ∧ ∀ p, p < (s0.1 0).length → (s.1 1).getD p 0 = r.1 6 p ∧ (s.1 2).getD p 0 = r.1 7 p
def rl_H (s0 : cy_S) (r0 : md_S) : Prop := rl_T (s0.1 0) (r0.1 0) (r0.2 0) 300 ∧ 4 ≤ (s0.1 0).length ∧ (s0.1 0).length ≤ 256
theorem rl_Hb {s0 : cy_S} {r0 : md_S} (h : rl_H s0 r0) {p : Nat} (hp : p < (s0.1 0).length) : ∃ b : Nat, b < 256 ∧ (s0.1 0).getD p 0 = nI b := by
  obtain ⟨b, h1, h2⟩ := rl_andE (r0.1 0 p)
  exact ⟨b, h1, (h.1.2.2 p hp).trans h2⟩
theorem rl_Vat {s0 s : cy_S} {r0 r : md_S} (h : rl_H s0 r0) (hV : rl_fm r0 r) {p : Nat} (hp : p < (s0.1 0).length) : md_at r (nI p) = (s0.1 0).getD p 0 ∧ md_at_ok r (nI p) := by
  have := h.2.2
  unfold md_at md_at_ok
  rw [nI_clamp (by omega), hV.1 0 (by decide) (by decide) (by decide), h.1.2.2 p hp]
  exact ⟨rfl, vp_in_nI (by omega) (by decide), trivial⟩
theorem rl_Vrat {s0 s : cy_S} {r0 : md_S} (h : rl_H s0 r0) (hV : rl_fr s0 s) {p : Nat} (hp : p < (s0.1 0).length) (d : Int32) : cy_rat s 0 (nI p) d = (s0.1 0).getD p 0 := by
  have := h.2.2
  unfold cy_rat
  rw [rl_la (by omega), hV.1 0 (by decide), rl_gO hp]
theorem rl_ro (s : cy_S) (a p : Nat) (d : Int32) (hp : p < 2 ^ 31) : cy_rat s a (nI p) d = (s.1 a).getD p d := rl_la hp
theorem rl_look_a (n : Nat) (hn : n ≤ 256) : ∀ (q : Nat) (r : md_S) (i : Nat), r.2 1 = nI n → i ≤ n + 1 → n + 1 < i + q → md_look_a_ok q r (nI i) ∧ (md_look_a q r (nI i)).2 = r.2 ∧ (∀ a, a ≠ 6 → a ≠ 7 → a ≠ 8 → (md_look_a q r (nI i)).1 a = r.1 a) ∧ (∀ j, (md_look_a q r (nI i)).1 6 j = if i ≤ j ∧ j ≤ n then 0 else r.1 6 j) ∧ (∀ j, (md_look_a q r (nI i)).1 7 j = if i ≤ j ∧ j ≤ n then -1 else r.1 7 j) ∧ (∀ j, (md_look_a q r (nI i)).1 8 j = if i ≤ j ∧ j ≤ n then 0 else r.1 8 j) := by
  intro q
  induction q with
  | zero => intro r i h0 h1 h2; omega
  | succ q ih =>
    intro r i h0 h1 h2
    unfold md_look_a_ok md_look_a
    rw [h0]
    by_cases h : i = n + 1
    · have hc : nI n < nI i := nI_lt (by omega) (by omega)
      rw [if_pos hc, if_pos hc]
      exact ⟨trivial, rfl, fun _ _ _ _ => rfl, fun j => by rw [if_neg (by omega)], fun j => by rw [if_neg (by omega)], fun j => by rw [if_neg (by omega)]⟩
    · have hc : ¬ nI n < nI i := nI_nlt (show i ≤ n by omega) (by omega)
      rw [if_neg hc, if_neg hc, nI_1]
      obtain ⟨o, e1, e2, e6, e7, e8⟩ := ih (md_sa (md_sa (md_sa r 6 (nI i) 0) 7 (nI i) (-1)) 8 (nI i) 0) (i + 1) h0 (by omega) (by omega)
      have v : vp_in (nI i) 301 := vp_in_nI (by omega) (by decide)
      have hcl : (nI i).toNatClampNeg = i := nI_clamp (by omega)
      refine ⟨⟨v, v, v, o⟩, e1, fun a h6 h7 h8 => (e2 a h6 h7 h8).trans ((rl_un h8).trans ((rl_un h7).trans (rl_un h6))), fun j => ?_, fun j => ?_, fun j => ?_⟩
      · rw [e6 j]
        show (if i + 1 ≤ j ∧ j ≤ n then 0 else upd (r.1 6) (nI i).toNatClampNeg 0 j) = _
        rw [hcl]
        by_cases hj : j = i
        · subst hj; rw [if_neg (by omega), pk_us, if_pos (by omega)]
        · rw [pk_un hj]
          by_cases g : i + 1 ≤ j ∧ j ≤ n
          · rw [if_pos g, if_pos (by omega)]
          · rw [if_neg g, if_neg (by omega)]
      · rw [e7 j]
        show (if i + 1 ≤ j ∧ j ≤ n then -1 else upd (r.1 7) (nI i).toNatClampNeg (-1) j) = _
        rw [hcl]
        by_cases hj : j = i
        · subst hj; rw [if_neg (by omega), pk_us, if_pos (by omega)]
        · rw [pk_un hj]
          by_cases g : i + 1 ≤ j ∧ j ≤ n
          · rw [if_pos g, if_pos (by omega)]
          · rw [if_neg g, if_neg (by omega)]
      · rw [e8 j]
        show (if i + 1 ≤ j ∧ j ≤ n then 0 else upd (r.1 8) (nI i).toNatClampNeg 0 j) = _
        rw [hcl]
        by_cases hj : j = i
        · subst hj; rw [if_neg (by omega), pk_us, if_pos (by omega)]
        · rw [pk_un hj]
          by_cases g : i + 1 ≤ j ∧ j ≤ n
          · rw [if_pos g, if_pos (by omega)]
          · rw [if_neg g, if_neg (by omega)]
theorem rl_fne : ∀ f : Nat, f < 9 → ∀ p : Nat, p < 301 → 0 < f → cy_Survey_fault (nI f) (nI p) ≠ 0 := by decide +kernel
theorem rl_isop : ∀ o : Nat, o < 28 → ∀ v : Nat, v < 256 → cy_Yard_hasOperand (nI o) = 1 → (md_isOperand (nI o) (nI v) = 0 ↔ ¬ nI v ≤ cy_Yard_operandMost (nI o)) := by decide +kernel
theorem rl_hop01 : ∀ o : Nat, o < 28 → cy_Yard_hasOperand (nI o) = 0 ∨ cy_Yard_hasOperand (nI o) = 1 := by decide +kernel
theorem rl_isins : ∀ b : Nat, b < 256 → (cy_Yard_isInstruction (nI b) = 0 ↔ 28 ≤ b) := by decide +kernel
theorem rl_isj : ∀ b : Nat, b < 256 → (cy_Yard_isJump (nI b) = 0 ↔ (b < 16 ∨ 18 < b)) := by decide +kernel
theorem rl_ise : ∀ b : Nat, b < 256 → (cy_Yard_isEnding (nI b) = 0 ↔ ¬ (b = 22 ∨ b = 23 ∨ b = 24)) := by decide +kernel
theorem rl_bad0 {r : md_S} (h : r.2 2 = 0) (f p : Int32) : md_bad r f p = md_ss (md_ss r 2 f) 3 p := by
  unfold md_bad; rw [h, if_pos (by decide)]
theorem rl_badn {r : md_S} {f : Nat} (h : r.2 2 = nI f) (h0 : 0 < f) (hf : f < 9) (g p : Int32) : md_bad r g p = r := by
  unfold md_bad; rw [h, if_neg (nI_nle h0 (by omega))]
theorem rl_bad_fm {r0 r : md_S} (h : rl_fm r0 r) (f p : Int32) : rl_fm r0 (md_bad r f p) := by
  unfold md_bad
  split
  · exact ⟨h.1, fun a ha => (rl_un (by omega)).trans ((rl_un (by omega)).trans (h.2 a ha))⟩
  · exact h
theorem rl_bad_1 (r : md_S) (f p : Int32) : (md_bad r f p).1 = r.1 ∧ (md_bad r f p).2 1 = r.2 1 := by
  unfold md_bad
  split
  · exact ⟨rfl, rfl⟩
  · exact ⟨rfl, rfl⟩
theorem rl_look_b_stop {q : Nat} {r : md_S} {p l c : Int32} (h : r.2 2 ≠ 0) : md_look_b_ok (q + 1) r p l c ∧ md_look_b (q + 1) r p l c = (r, (l, c)) := by
  unfold md_look_b_ok md_look_b
  by_cases g : r.2 1 ≤ p
  · rw [if_pos g, if_pos g]; exact ⟨trivial, rfl⟩
  · rw [if_neg g, if_neg g, if_neg h, if_neg h]; exact ⟨trivial, rfl⟩
def rl_gd (T : List Int32) (j : Nat) : Prop := ∃ o : Nat, o < 28 ∧ T.getD j 0 = nI o ∧ (cy_Yard_hasOperand (nI o) = 1 → j + 1 < T.length ∧ T.getD (j + 1) 0 ≤ cy_Yard_operandMost (nI o))
def rl_St (T S : List Int32) (p l : Nat) : Prop := (∀ j, j < T.length → S.getD j 0 = 0 ∨ S.getD j 0 = 1) ∧ (∀ j, j < T.length → S.getD j 0 = 1 → 3 ≤ j ∧ rl_gd T j ∧ ((j = l ∧ j + rl_len (T.getD j 0) = p) ∨ (j + rl_len (T.getD j 0) < p ∧ S.getD (j + rl_len (T.getD j 0)) 0 = 1))) ∧ ((p = 3 ∧ l = 3) ∨ (l < T.length ∧ S.getD l 0 = 1))
theorem rl_len12 (x : Int32) : rl_len x = 1 ∨ rl_len x = 2 := by
  unfold rl_len; split
  · exact Or.inl rfl
  · exact Or.inr rfl
theorem rl_St_add {T S : List Int32} {p l : Nat} (h : rl_St T S p l) (hS : S.length = T.length) (hp : p < T.length) (h3 : 3 ≤ p) (hg : rl_gd T p) : rl_St T (S.set p 1) (p + rl_len (T.getD p 0)) p := by
  obtain ⟨h1, h2, h4⟩ := h
  refine ⟨fun j hj => ?_, fun j hj hs => ?_, Or.inr ⟨hp, rl_gS (by omega)⟩⟩
  · by_cases e : j = p
    · subst e; right; exact rl_gS (by omega)
    · rw [rl_gN e]; exact h1 j hj
  · by_cases e : j = p
    · subst e; exact ⟨h3, hg, Or.inl ⟨rfl, rfl⟩⟩
    · rw [rl_gN e] at hs
      obtain ⟨a1, a2, a3⟩ := h2 j hj hs
      refine ⟨a1, a2, Or.inr ?_⟩
      have hl := rl_len12 (T.getD p 0)
      rcases a3 with ⟨_, a4⟩ | ⟨a4, a5⟩
      · rw [a4]; exact ⟨by omega, rl_gS (by omega)⟩
      · refine ⟨by omega, ?_⟩
        rw [rl_gN (by omega)]; exact a5
