/-! THE CLASS'S STATE: rows of ints as lists, frames, the run's and the survey's numbers; and the cells that hold it -/
/-- rows; frames (number of the code, place); run (frame at work, begun, status, result, reason, done); survey (instructions, lastStart, searchFrom) -/
abbrev cy_S : Type := (Nat → List Int32) × (Nat → Nat × Int32) × (Nat × Int32 × Int32 × Int32 × Int32 × Int32) × (Int32 × Int32 × Int32)
/-- class of int arrays, class of arrays of codes, addresses by key, what else the heap holds -/
abbrev cy_E : Type := ClassId × ClassId × (Nat → Nat) × cy_Hp
def cy_cap (r : Nat) : Nat := if r = 0 ∨ r = 4 then 300 else if r ≤ 3 then 256 else if r = 5 then 64 else if r < 42 then (if (r - 6) % 4 < 2 then 256 else 16) else 8
def cy_up {α : Type} (f : Nat → α) (k : Nat) (v : α) : Nat → α := fun j => if j = k then v else f j
theorem cy_up_self {α : Type} (f : Nat → α) (k : Nat) (v : α) : cy_up f k v k = v := by simp [cy_up]
theorem cy_up_ne {α : Type} (f : Nat → α) {k j : Nat} (v : α) (h : j ≠ k) : cy_up f k v j = f j := by simp [cy_up, h]
theorem cy_cap_lt (r : Nat) : cy_cap r < 2 ^ 31 := by
  unfold cy_cap
  repeat' split
  all_goals omega
def cy_rw (E : cy_E) (M : cy_Hp) (r : Nat) (xs : List Int32) : Prop := ∃ f : Nat → Int32, M (E.2.2.1 (2 * r)) = some (.inr (0, [.ref (E.2.2.1 (2 * r + 1)), .int (nI xs.length)])) ∧ M (E.2.2.1 (2 * r + 1)) = some (.inl (E.1, cy_cap r, .inl f)) ∧ xs.length ≤ cy_cap r ∧ ∀ j, j < xs.length → f j = xs.getD j 0
def cy_num (k : Nat) : Int32 := if k = 8 then -1 else nI k
def cy_code (E : cy_E) (k : Nat) : va_E := .inr (1, [.int (cy_num k), .ref (E.2.2.1 (2 * (6 + 4 * k))), .ref (E.2.2.1 (2 * (7 + 4 * k))), .ref (E.2.2.1 (2 * (8 + 4 * k))), .ref (E.2.2.1 (2 * (9 + 4 * k)))])
def cy_frame (E : cy_E) (j : Nat) (q : Nat × Int32) : va_E := .inr (4, [.int (nI (j + 1)), va_rf (if j = 0 then none else some (E.2.2.1 (125 + (j - 1)))), va_rf (if j = 7 then none else some (E.2.2.1 (125 + (j + 1)))), .ref (E.2.2.1 (2 * (42 + 2 * j))), .ref (E.2.2.1 (2 * (43 + 2 * j))), .ref (E.2.2.1 (116 + q.1)), .int q.2])
def cy_yard (E : cy_E) : va_E := .inr (6, [.ref (E.2.2.1 (2 * 0)), .ref (E.2.2.1 134), .ref (E.2.2.1 135), .ref (E.2.2.1 136)])
def cy_shelf (E : cy_E) : va_E := .inr (2, [.ref (E.2.2.1 137)])
def cy_codes (E : cy_E) : va_E := .inl (E.2.1, 8, .inr (.inr (.inr (.inr (fun k => if k < 8 then some (E.2.2.1 (116 + k)) else none)))))
def cy_survey (E : cy_E) (q : Int32 × Int32 × Int32) : va_E := .inr (3, [.ref (E.2.2.1 (2 * 1)), .ref (E.2.2.1 (2 * 2)), .ref (E.2.2.1 (2 * 3)), .int q.1, .int q.2.1, .int q.2.2])
def cy_run_ (E : cy_E) (q : Nat × Int32 × Int32 × Int32 × Int32 × Int32) : va_E := .inr (5, [.ref (E.2.2.1 134), .ref (E.2.2.1 125), .ref (E.2.2.1 (2 * 4)), .ref (E.2.2.1 (2 * 5)), .ref (E.2.2.1 (125 + q.1)), .int q.2.1, .int q.2.2.1, .int q.2.2.2.1, .int q.2.2.2.2.1, .int q.2.2.2.2.2])
/-- the heap holds the state s; the rest is as it was -/
def cy_R (E : cy_E) (s : cy_S) (M : cy_Hp) : Prop :=
  (∀ r, r < 58 → cy_rw E M r (s.1 r)) ∧ (∀ k, k < 9 → M (E.2.2.1 (116 + k)) = some (cy_code E k)) ∧ (∀ j, j < 8 → M (E.2.2.1 (125 + j)) = some (cy_frame E j (s.2.1 j)) ∧ (s.2.1 j).1 < 9) ∧
  M (E.2.2.1 133) = some (cy_yard E) ∧ M (E.2.2.1 134) = some (cy_shelf E) ∧ M (E.2.2.1 135) = some (cy_survey E s.2.2.2) ∧ (M (E.2.2.1 136) = some (cy_run_ E s.2.2.1) ∧ s.2.2.1.1 < 8) ∧ M (E.2.2.1 137) = some (cy_codes E) ∧
  ∀ a, (∀ k, k < 138 → a ≠ E.2.2.1 k) → M a = E.2.2.2 a
def cy_inj (E : cy_E) : Prop := ∀ i j, i < 138 → j < 138 → i ≠ j → E.2.2.1 i ≠ E.2.2.1 j
def cy_Eo (G : cy_G) (E : cy_E) : Prop := G.2.2.1[0]? = some (E.1, .int) ∧ G.2.2.1[1]? = some (E.2.1, .object "CodeYard$Code") ∧ cy_inj E
theorem cy_rw_kept {E : cy_E} {M M' : cy_Hp} {r : Nat} {xs : List Int32} (h : cy_rw E M r xs) (h1 : M' (E.2.2.1 (2 * r)) = M (E.2.2.1 (2 * r))) (h2 : M' (E.2.2.1 (2 * r + 1)) = M (E.2.2.1 (2 * r + 1))) : cy_rw E M' r xs := by
  obtain ⟨f, a, b, c⟩ := h
  exact ⟨f, h1.trans a, h2.trans b, c⟩
def cy_sr (s : cy_S) (r : Nat) (xs : List Int32) : cy_S := (cy_up s.1 r xs, s.2)
/-- one row has changed -/
theorem cy_R_row {E : cy_E} {s : cy_S} {M M' : cy_Hp} (hi : cy_inj E) (h : cy_R E s M) {r : Nat} (hr : r < 58) {xs : List Int32} (hM : ∀ a, a ≠ E.2.2.1 (2 * r) → a ≠ E.2.2.1 (2 * r + 1) → M' a = M a) (hx : cy_rw E M' r xs) : cy_R E (cy_sr s r xs) M' := by
  obtain ⟨h1, h2, h3, h4, h5, h6, h7, h8, h9⟩ := h
  have key : ∀ k, k < 138 → k ≠ 2 * r → k ≠ 2 * r + 1 → M' (E.2.2.1 k) = M (E.2.2.1 k) := fun k hk a b => hM _ (hi k (2 * r) hk (by omega) a) (hi k (2 * r + 1) hk (by omega) b)
  refine ⟨fun q hq => ?_, fun k hk => (key _ (by omega) (by omega) (by omega)).trans (h2 k hk), fun j hj => ⟨(key _ (by omega) (by omega) (by omega)).trans (h3 j hj).1, (h3 j hj).2⟩, (key _ (by omega) (by omega) (by omega)).trans h4, (key _ (by omega) (by omega) (by omega)).trans h5, (key _ (by omega) (by omega) (by omega)).trans h6, ⟨(key _ (by omega) (by omega) (by omega)).trans h7.1, h7.2⟩, (key _ (by omega) (by omega) (by omega)).trans h8, fun a ha => (hM a (ha _ (by omega)) (ha _ (by omega))).trans (h9 a ha)⟩
  by_cases hqr : q = r
  · subst hqr
    show cy_rw E M' q (cy_up s.1 q xs q)
    rw [cy_up_self]; exact hx
  · show cy_rw E M' q (cy_up s.1 r xs q)
    rw [cy_up_ne _ _ hqr]
    exact cy_rw_kept (h1 q hq) (key _ (by omega) (by omega) (by omega)) (key _ (by omega) (by omega) (by omega))
theorem cy_getD_append {xs : List Int32} {v : Int32} {j : Nat} : (xs ++ [v]).getD j 0 = if j < xs.length then xs.getD j 0 else if j = xs.length then v else 0 := by
  by_cases h : j < xs.length
  · simp [List.getD_eq_getElem?_getD, List.getElem?_append_left h, h]
  · rw [if_neg h]
    by_cases h2 : j = xs.length
    · subst h2; simp [List.getD_eq_getElem?_getD]
    · rw [if_neg h2]
      have : xs.length < j := by omega
      simp [List.getD_eq_getElem?_getD, List.getElem?_append_right (Nat.le_of_lt this)]
      rw [List.getElem?_eq_none (by simp; omega)]
      rfl
theorem rp_row {E : cy_E} {s : cy_S} {M : cy_Hp} (h : cy_R E s M) {r : Nat} (hr : r < 58) : M (E.2.2.1 (2 * r)) = some (.inr (0, [.ref (E.2.2.1 (2 * r + 1)), .int (nI (s.1 r).length)])) := by
  obtain ⟨f, h1, -⟩ := h.1 r hr
  exact h1
theorem rp_code {E : cy_E} {s : cy_S} {M : cy_Hp} (h : cy_R E s M) {k : Nat} (hk : k < 9) : M (E.2.2.1 (116 + k)) = some (cy_code E k) := h.2.1 k hk
theorem rp_frame {E : cy_E} {s : cy_S} {M : cy_Hp} (h : cy_R E s M) {j : Nat} (hj : j < 8) : M (E.2.2.1 (125 + j)) = some (cy_frame E j (s.2.1 j)) := (h.2.2.1 j hj).1
theorem rp_fc {E : cy_E} {s : cy_S} {M : cy_Hp} (h : cy_R E s M) {j : Nat} (hj : j < 8) : (s.2.1 j).1 < 9 := (h.2.2.1 j hj).2
theorem rp_yard {E : cy_E} {s : cy_S} {M : cy_Hp} (h : cy_R E s M) : M (E.2.2.1 133) = some (cy_yard E) := h.2.2.2.1
theorem rp_shelf {E : cy_E} {s : cy_S} {M : cy_Hp} (h : cy_R E s M) : M (E.2.2.1 134) = some (cy_shelf E) := h.2.2.2.2.1
theorem rp_survey {E : cy_E} {s : cy_S} {M : cy_Hp} (h : cy_R E s M) : M (E.2.2.1 135) = some (cy_survey E s.2.2.2) := h.2.2.2.2.2.1
theorem rp_run {E : cy_E} {s : cy_S} {M : cy_Hp} (h : cy_R E s M) : M (E.2.2.1 136) = some (cy_run_ E s.2.2.1) := h.2.2.2.2.2.2.1.1
theorem rp_work {E : cy_E} {s : cy_S} {M : cy_Hp} (h : cy_R E s M) : s.2.2.1.1 < 8 := h.2.2.2.2.2.2.1.2
theorem rp_codes {E : cy_E} {s : cy_S} {M : cy_Hp} (h : cy_R E s M) : M (E.2.2.1 137) = some (cy_codes E) := h.2.2.2.2.2.2.2.1
theorem rp_rest {E : cy_E} {s : cy_S} {M : cy_Hp} (h : cy_R E s M) : ∀ a, (∀ k, k < 138 → a ≠ E.2.2.1 k) → M a = E.2.2.2 a := h.2.2.2.2.2.2.2.2
theorem cy_R_run {E : cy_E} {s : cy_S} {M : cy_Hp} (hi : cy_inj E) (h : cy_R E s M) (q : Nat × Int32 × Int32 × Int32 × Int32 × Int32) (hq : q.1 < 8) : cy_R E (s.1, s.2.1, q, s.2.2.2) (cy_set M (E.2.2.1 136) (cy_run_ E q)) := by
  have key : ∀ k, k < 138 → k ≠ 136 → cy_set M (E.2.2.1 136) (cy_run_ E q) (E.2.2.1 k) = M (E.2.2.1 k) := fun k hk a => cy_set_ne _ _ (hi k 136 hk (by omega) a)
  exact ⟨fun r hr => cy_rw_kept (h.1 r hr) (key _ (by omega) (by omega)) (key _ (by omega) (by omega)), fun k hk => (key _ (by omega) (by omega)).trans (rp_code h hk), fun j hj => ⟨(key _ (by omega) (by omega)).trans (rp_frame h hj), rp_fc h hj⟩, (key _ (by omega) (by omega)).trans (rp_yard (s := s) h), (key _ (by omega) (by omega)).trans (rp_shelf (s := s) h), (key _ (by omega) (by omega)).trans (rp_survey (s := s) h), ⟨cy_set_self _ _ _, hq⟩, (key _ (by omega) (by omega)).trans (rp_codes (s := s) h), fun a ha => (cy_set_ne _ _ (ha 136 (by omega))).trans (rp_rest h a ha)⟩
theorem cy_R_sv {E : cy_E} {s : cy_S} {M : cy_Hp} (hi : cy_inj E) (h : cy_R E s M) (q : Int32 × Int32 × Int32) : cy_R E (s.1, s.2.1, s.2.2.1, q) (cy_set M (E.2.2.1 135) (cy_survey E q)) := by
  have key : ∀ k, k < 138 → k ≠ 135 → cy_set M (E.2.2.1 135) (cy_survey E q) (E.2.2.1 k) = M (E.2.2.1 k) := fun k hk a => cy_set_ne _ _ (hi k 135 hk (by omega) a)
  exact ⟨fun r hr => cy_rw_kept (h.1 r hr) (key _ (by omega) (by omega)) (key _ (by omega) (by omega)), fun k hk => (key _ (by omega) (by omega)).trans (rp_code h hk), fun j hj => ⟨(key _ (by omega) (by omega)).trans (rp_frame h hj), rp_fc h hj⟩, (key _ (by omega) (by omega)).trans (rp_yard (s := s) h), (key _ (by omega) (by omega)).trans (rp_shelf (s := s) h), cy_set_self _ _ _, ⟨(key _ (by omega) (by omega)).trans (rp_run (s := s) h), rp_work (s := s) h⟩, (key _ (by omega) (by omega)).trans (rp_codes (s := s) h), fun a ha => (cy_set_ne _ _ (ha 135 (by omega))).trans (rp_rest h a ha)⟩
theorem cy_R_fr {E : cy_E} {s : cy_S} {M : cy_Hp} (hi : cy_inj E) (h : cy_R E s M) {j : Nat} (hj : j < 8) (q : Nat × Int32) (hq : q.1 < 9) : cy_R E (s.1, cy_up s.2.1 j q, s.2.2) (cy_set M (E.2.2.1 (125 + j)) (cy_frame E j q)) := by
  have key : ∀ k, k < 138 → k ≠ 125 + j → cy_set M (E.2.2.1 (125 + j)) (cy_frame E j q) (E.2.2.1 k) = M (E.2.2.1 k) := fun k hk a => cy_set_ne _ _ (hi k (125 + j) hk (by omega) a)
  refine ⟨fun r hr => cy_rw_kept (h.1 r hr) (key _ (by omega) (by omega)) (key _ (by omega) (by omega)), fun k hk => (key _ (by omega) (by omega)).trans (rp_code h hk), fun j2 hj2 => ?_, (key _ (by omega) (by omega)).trans (rp_yard (s := s) h), (key _ (by omega) (by omega)).trans (rp_shelf (s := s) h), (key _ (by omega) (by omega)).trans (rp_survey (s := s) h), ⟨(key _ (by omega) (by omega)).trans (rp_run (s := s) h), rp_work (s := s) h⟩, (key _ (by omega) (by omega)).trans (rp_codes (s := s) h), fun a ha => (cy_set_ne _ _ (ha (125 + j) (by omega))).trans (rp_rest h a ha)⟩
  by_cases e : j2 = j
  · subst e
    refine ⟨?_, ?_⟩
    · rw [cy_set_self]; show some (cy_frame E j2 q) = some (cy_frame E j2 (cy_up s.2.1 j2 q j2)); rw [cy_up_self]
    · show (cy_up s.2.1 j2 q j2).1 < 9; rw [cy_up_self]; exact hq
  · refine ⟨(key _ (by omega) (by omega)).trans ?_, ?_⟩
    · show M (E.2.2.1 (125 + j2)) = some (cy_frame E j2 (cy_up s.2.1 j q j2)); rw [cy_up_ne _ _ e]; exact rp_frame h hj2
    · show (cy_up s.2.1 j q j2).1 < 9; rw [cy_up_ne _ _ e]; exact rp_fc h hj2
def cy_s_work (s : cy_S) (v : Nat) : cy_S := (s.1, s.2.1, (v, s.2.2.1.2), s.2.2.2)
def cy_s_begun (s : cy_S) (v : Int32) : cy_S := (s.1, s.2.1, (s.2.2.1.1, v, s.2.2.1.2.2), s.2.2.2)
def cy_s_status (s : cy_S) (v : Int32) : cy_S := (s.1, s.2.1, (s.2.2.1.1, s.2.2.1.2.1, v, s.2.2.1.2.2.2), s.2.2.2)
def cy_s_result (s : cy_S) (v : Int32) : cy_S := (s.1, s.2.1, (s.2.2.1.1, s.2.2.1.2.1, s.2.2.1.2.2.1, v, s.2.2.1.2.2.2.2), s.2.2.2)
def cy_s_reason (s : cy_S) (v : Int32) : cy_S := (s.1, s.2.1, (s.2.2.1.1, s.2.2.1.2.1, s.2.2.1.2.2.1, s.2.2.1.2.2.2.1, v, s.2.2.1.2.2.2.2.2), s.2.2.2)
def cy_s_done (s : cy_S) (v : Int32) : cy_S := (s.1, s.2.1, (s.2.2.1.1, s.2.2.1.2.1, s.2.2.1.2.2.1, s.2.2.1.2.2.2.1, s.2.2.1.2.2.2.2.1, v), s.2.2.2)
def cy_s_instructions (s : cy_S) (v : Int32) : cy_S := (s.1, s.2.1, s.2.2.1, (v, s.2.2.2.2))
def cy_s_lastStart (s : cy_S) (v : Int32) : cy_S := (s.1, s.2.1, s.2.2.1, (s.2.2.2.1, v, s.2.2.2.2.2))
def cy_s_searchFrom (s : cy_S) (v : Int32) : cy_S := (s.1, s.2.1, s.2.2.1, (s.2.2.2.1, s.2.2.2.2.1, v))
def cy_sf_code (s : cy_S) (j k : Nat) : cy_S := (s.1, cy_up s.2.1 j (k, (s.2.1 j).2), s.2.2)
def cy_sf_place (s : cy_S) (j : Nat) (v : Int32) : cy_S := (s.1, cy_up s.2.1 j ((s.2.1 j).1, v), s.2.2)
section CYP
variable {G : cy_G} {E : cy_E} {s : cy_S} {M : cy_Hp}
theorem rp_p_work (hE : cy_Eo G E) (h : cy_R E s M) {v : Nat} (hv : v < 8) : cy_R E (cy_s_work s v) (cy_set M (E.2.2.1 136) (cy_run_ E (cy_s_work s v).2.2.1)) := cy_R_run hE.2.2 h _ hv
theorem rp_p_begun (hE : cy_Eo G E) (h : cy_R E s M) (v : Int32) : cy_R E (cy_s_begun s v) (cy_set M (E.2.2.1 136) (cy_run_ E (cy_s_begun s v).2.2.1)) := cy_R_run hE.2.2 h _ (rp_work h)
theorem rp_p_status (hE : cy_Eo G E) (h : cy_R E s M) (v : Int32) : cy_R E (cy_s_status s v) (cy_set M (E.2.2.1 136) (cy_run_ E (cy_s_status s v).2.2.1)) := cy_R_run hE.2.2 h _ (rp_work h)
theorem rp_p_result (hE : cy_Eo G E) (h : cy_R E s M) (v : Int32) : cy_R E (cy_s_result s v) (cy_set M (E.2.2.1 136) (cy_run_ E (cy_s_result s v).2.2.1)) := cy_R_run hE.2.2 h _ (rp_work h)
theorem rp_p_reason (hE : cy_Eo G E) (h : cy_R E s M) (v : Int32) : cy_R E (cy_s_reason s v) (cy_set M (E.2.2.1 136) (cy_run_ E (cy_s_reason s v).2.2.1)) := cy_R_run hE.2.2 h _ (rp_work h)
theorem rp_p_done (hE : cy_Eo G E) (h : cy_R E s M) (v : Int32) : cy_R E (cy_s_done s v) (cy_set M (E.2.2.1 136) (cy_run_ E (cy_s_done s v).2.2.1)) := cy_R_run hE.2.2 h _ (rp_work h)
theorem rp_p_instructions (hE : cy_Eo G E) (h : cy_R E s M) (v : Int32) : cy_R E (cy_s_instructions s v) (cy_set M (E.2.2.1 135) (cy_survey E (cy_s_instructions s v).2.2.2)) := cy_R_sv hE.2.2 h _
theorem rp_p_lastStart (hE : cy_Eo G E) (h : cy_R E s M) (v : Int32) : cy_R E (cy_s_lastStart s v) (cy_set M (E.2.2.1 135) (cy_survey E (cy_s_lastStart s v).2.2.2)) := cy_R_sv hE.2.2 h _
theorem rp_p_searchFrom (hE : cy_Eo G E) (h : cy_R E s M) (v : Int32) : cy_R E (cy_s_searchFrom s v) (cy_set M (E.2.2.1 135) (cy_survey E (cy_s_searchFrom s v).2.2.2)) := cy_R_sv hE.2.2 h _
theorem rp_p_code (hE : cy_Eo G E) (h : cy_R E s M) {j k : Nat} (hj : j < 8) (hk : k < 9) : cy_R E (cy_sf_code s j k) (cy_set M (E.2.2.1 (125 + j)) (cy_frame E j (k, (s.2.1 j).2))) := cy_R_fr hE.2.2 h hj _ hk
theorem rp_p_place (hE : cy_Eo G E) (h : cy_R E s M) {j : Nat} (hj : j < 8) (v : Int32) : cy_R E (cy_sf_place s j v) (cy_set M (E.2.2.1 (125 + j)) (cy_frame E j ((s.2.1 j).1, v))) := cy_R_fr hE.2.2 h hj _ (rp_fc h hj)
theorem rp_p_count0 (hE : cy_Eo G E) (h : cy_R E s M) {r : Nat} (hr : r < 58) : cy_R E (cy_sr s r []) (cy_set M (E.2.2.1 (2 * r)) (.inr (0, [.ref (E.2.2.1 (2 * r + 1)), .int 0]))) := by
  obtain ⟨f, h1, h2, h3, h4⟩ := h.1 r hr
  have hne := hE.2.2 (2 * r) (2 * r + 1) (by omega) (by omega) (by omega)
  refine cy_R_row hE.2.2 h hr (fun a ha hb => cy_set_ne _ _ ha) ⟨f, ?_, ?_, Nat.zero_le _, fun j hj => absurd hj (Nat.not_lt_zero _)⟩
  · rw [cy_set_self]; rfl
  · rw [cy_set_ne _ _ (Ne.symm hne)]; exact h2
end CYP
theorem wm_gen {G : cy_G} {F : cy_F} {nL kc ks pc : Nat} {lv : List (Nat × Value)} {st : List Value} {E : cy_E} {s : cy_S} {M : cy_Hp} (h : cy_R E s M) (k : ∀ M1, cy_R E s M1 → WM G F nL kc ks pc lv st M1) : WM G F nL kc ks pc lv st M := k M h
theorem cy_ki {G : cy_G} {F : cy_F} {nL kc ks pc d mc ms : Nat} {i : cy_I} {av : List Value} {lv : List (Nat × Value)} {rest : List Value} {M : cy_Hp} (h : cy_Ct G d i av M mc ms (fun r M' => ∃ v, r = some v ∧ WM G F nL kc ks pc lv (v :: rest) M')) : cy_Ct G d i av M mc ms (fun r M' => WM G F nL kc ks pc lv (r.toList ++ rest) M') := h.mono (fun r M' q => by obtain ⟨v, rfl, q⟩ := q; exact q)
theorem cy_kv {G : cy_G} {F : cy_F} {nL kc ks pc d mc ms : Nat} {i : cy_I} {av : List Value} {lv : List (Nat × Value)} {rest : List Value} {M : cy_Hp} (h : cy_Ct G d i av M mc ms (fun r M' => r = none ∧ WM G F nL kc ks pc lv rest M')) : cy_Ct G d i av M mc ms (fun r M' => WM G F nL kc ks pc lv (r.toList ++ rest) M') := h.mono (fun r M' q => by obtain ⟨rfl, q⟩ := q; exact q)
theorem rb6 {k : Nat} (h : k < 9) : 6 + 4 * k < 58 := by omega
theorem rb7 {k : Nat} (h : k < 9) : 7 + 4 * k < 58 := by omega
theorem rb8 {k : Nat} (h : k < 9) : 8 + 4 * k < 58 := by omega
theorem rb9 {k : Nat} (h : k < 9) : 9 + 4 * k < 58 := by omega
theorem rb42 {j : Nat} (h : j < 8) : 42 + 2 * j < 58 := by omega
theorem rb43 {j : Nat} (h : j < 8) : 43 + 2 * j < 58 := by omega
