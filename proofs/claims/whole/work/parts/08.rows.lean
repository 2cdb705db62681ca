def cy_la (xs : List Int32) (i o : Int32) : Int32 := if i < 0 then o else xs.getD i.toNatClampNeg o
def cy_ladd (cap : Nat) (xs : List Int32) (v : Int32) : List Int32 := if xs.length < cap then xs ++ [v] else xs
def cy_lput (xs : List Int32) (i v : Int32) : List Int32 := if i < 0 then xs else xs.set i.toNatClampNeg v
def cy_lcut (xs : List Int32) (i : Int32) : List Int32 := xs.take i.toNatClampNeg
def cy_lfill (cap : Nat) (i v : Int32) : List Int32 := List.replicate (min i.toNatClampNeg cap) v
theorem cy_rwo {E : cy_E} {M : cy_Hp} {r : Nat} {xs : List Int32} (h : cy_rw E M r xs) : M (E.2.2.1 (2 * r)) = some (.inr (0, [.ref (E.2.2.1 (2 * r + 1)), .int (nI xs.length)])) := by
  obtain ⟨f, h1, -⟩ := h
  exact h1
theorem cy_at_la {f : Nat → Int32} {xs : List Int32} (hx : xs.length < 2 ^ 31) (hf : ∀ j, j < xs.length → f j = xs.getD j 0) (i o : Int32) : cy_at f xs.length i o = cy_la xs i o := by
  unfold cy_at cy_la
  by_cases h : i < 0
  · rw [if_pos h, if_pos h]
  · rw [if_neg h, if_neg h]
    obtain ⟨j, hj, rfl⟩ := nI_of h
    rw [nI_clamp hj]
    by_cases h2 : xs.length ≤ j
    · rw [if_pos (nI_le h2 hj), List.getD_eq_getElem?_getD, List.getElem?_eq_none h2]
      rfl
    · have h3 : j < xs.length := Nat.lt_of_not_le h2
      rw [if_neg (nI_ge h3 hx), hf j h3, List.getD_eq_getElem?_getD, List.getD_eq_getElem?_getD, List.getElem?_eq_getElem h3]
      rfl
section CYW
variable {G : cy_G} {E : cy_E} {s : cy_S} {M : cy_Hp} {post : Option Value → cy_Hp → Prop}
theorem c_at (hE : cy_Eo G E) (hR : cy_R E s M) {r : Nat} (hr : r < 58) (i o : Int32) (h : post (some (.int (cy_la (s.1 r) i o))) M) : cy_Ct G 0 m_Row_at [.ref (E.2.2.1 (2 * r)), .int i, .int o] M 0 0 post := by
  obtain ⟨f, h1, h2, h3, h4⟩ := hR.1 r hr
  refine t_Row_at hE.1 h1 h2 (hE.2.2 _ _ (by omega) (by omega) (by omega)) h3 (cy_cap_lt r) i o ?_
  rw [cy_at_la (Nat.lt_of_le_of_lt h3 (cy_cap_lt r)) h4]
  exact h
theorem c_has (hE : cy_Eo G E) (hR : cy_R E s M) {r : Nat} (hr : r < 58) (i : Int32) (h : post (some (.int (if i < 0 then 0 else if nI (s.1 r).length ≤ i then 0 else 1))) M) : cy_Ct G 0 m_Row_has [.ref (E.2.2.1 (2 * r)), .int i] M 0 0 post := by
  obtain ⟨f, h1, h2, h3, h4⟩ := hR.1 r hr
  exact t_Row_has hE.1 h1 h2 (hE.2.2 _ _ (by omega) (by omega) (by omega)) h3 (cy_cap_lt r) i h
theorem c_add (hE : cy_Eo G E) (hR : cy_R E s M) {r : Nat} (hr : r < 58) (v : Int32) (h : ∀ M', cy_R E (cy_sr s r (cy_ladd (cy_cap r) (s.1 r) v)) M' → post none M') : cy_Ct G 0 m_Row_add [.ref (E.2.2.1 (2 * r)), .int v] M 0 0 post := by
  obtain ⟨f, h1, h2, h3, h4⟩ := hR.1 r hr
  have hne := hE.2.2 (2 * r) (2 * r + 1) (by omega) (by omega) (by omega)
  refine t_Row_add hE.1 h1 h2 hne h3 (cy_cap_lt r) v (fun hx => h _ ?_) (fun hx => h _ ?_)
  · rw [cy_ladd, if_neg (Nat.not_lt.mpr hx)]
    exact cy_R_row hE.2.2 hR hr (fun _ _ _ => rfl) (hR.1 r hr)
  · rw [cy_ladd, if_pos hx]
    refine cy_R_row hE.2.2 hR hr (fun a ha hb => by rw [cy_set_ne _ _ ha, cy_set_ne _ _ hb]) ⟨upd f (s.1 r).length v, ?_, ?_, by simp; omega, fun j hj => ?_⟩
    · rw [cy_set_self]; simp
    · rw [cy_set_ne _ _ (Ne.symm hne), cy_set_self]
    · rw [cy_getD_append]
      simp at hj
      by_cases hjl : j < (s.1 r).length
      · rw [if_pos hjl, pk_un (by omega), h4 j hjl]
      · rw [if_neg hjl, if_pos (by omega), show j = (s.1 r).length by omega, pk_us]
theorem c_put (hE : cy_Eo G E) (hR : cy_R E s M) {r : Nat} (hr : r < 58) (i v : Int32) (h : ∀ M', cy_R E (cy_sr s r (cy_lput (s.1 r) i v)) M' → post none M') : cy_Ct G 0 m_Row_put [.ref (E.2.2.1 (2 * r)), .int i, .int v] M 0 0 post := by
  obtain ⟨f, h1, h2, h3, h4⟩ := hR.1 r hr
  have hne := hE.2.2 (2 * r) (2 * r + 1) (by omega) (by omega) (by omega)
  have hl31 : (s.1 r).length < 2 ^ 31 := Nat.lt_of_le_of_lt h3 (cy_cap_lt r)
  refine t_Row_put hE.1 h1 h2 hne h3 (cy_cap_lt r) i v (fun hx => h _ ?_) (fun hx hy => h _ ?_)
  · have e : cy_lput (s.1 r) i v = s.1 r := by
      unfold cy_lput
      by_cases h0 : i < 0
      · rw [if_pos h0]
      · rw [if_neg h0]
        obtain ⟨j, hj, rfl⟩ := nI_of h0
        rw [nI_clamp hj]
        rcases hx with hx | hx
        · exact absurd hx h0
        · refine List.set_eq_of_length_le ?_
          exact (nI_leI hl31 hj).mp hx
    rw [e]
    exact cy_R_row hE.2.2 hR hr (fun _ _ _ => rfl) (hR.1 r hr)
  · obtain ⟨j, hj, rfl⟩ := nI_of hx
    rw [cy_lput, if_neg hx]
    rw [nI_clamp hj]
    have hjl : j < (s.1 r).length := Nat.lt_of_not_le fun q => hy (nI_le q hj)
    refine cy_R_row hE.2.2 hR hr (fun a ha hb => by rw [cy_set_ne _ _ hb]) ⟨upd f j v, ?_, ?_, by simp; exact h3, fun t ht => ?_⟩
    · rw [cy_set_ne _ _ hne, h1]; simp
    · rw [cy_set_self]
    · rw [set_getD v hjl]
      simp at ht
      by_cases htj : t = j
      · rw [if_pos htj, htj, pk_us]
      · rw [if_neg htj, pk_un htj, h4 t ht]
theorem c_take (hE : cy_Eo G E) (hR : cy_R E s M) {r : Nat} (hr : r < 58) (h : ∀ M', cy_R E (cy_sr s r (s.1 r).dropLast) M' → post (some (.int ((s.1 r).getLastD 0))) M') : cy_Ct G 0 m_Row_takeLast [.ref (E.2.2.1 (2 * r))] M 0 0 post := by
  obtain ⟨f, h1, h2, h3, h4⟩ := hR.1 r hr
  have hne := hE.2.2 (2 * r) (2 * r + 1) (by omega) (by omega) (by omega)
  rcases List.eq_nil_or_concat (s.1 r) with e | ⟨xs, v, e⟩
  · rw [e] at h1 h3
    refine t_Row_take0 hE.1 h1 h2 hne h3 (cy_cap_lt r) ?_
    have h := h M (by rw [e]; exact cy_R_row hE.2.2 hR hr (fun _ _ _ => rfl) (by have := hR.1 r hr; rw [e] at this; exact this))
    rw [e] at h
    exact h
  · rw [List.concat_eq_append] at e
    rw [e, List.length_append] at h1 h3
    refine t_Row_take1 (k := xs.length) hE.1 h1 h2 hne h3 (cy_cap_lt r) ?_
    have hv : f xs.length = v := by
      rw [h4 xs.length (by rw [e]; simp), e, cy_getD_append, if_neg (Nat.lt_irrefl _), if_pos rfl]
    rw [hv]
    have h := h (cy_set M (E.2.2.1 (2 * r)) (.inr (0, [.ref (E.2.2.1 (2 * r + 1)), .int (nI xs.length)]))) (by
      rw [e, List.dropLast_concat]
      refine cy_R_row hE.2.2 hR hr (fun a ha hb => by rw [cy_set_ne _ _ ha]) ⟨f, ?_, ?_, by simp at h3; omega, fun t ht => ?_⟩
      · rw [cy_set_self]
      · rw [cy_set_ne _ _ (Ne.symm hne)]; exact h2
      · rw [h4 t (by rw [e]; simp; omega), e, cy_getD_append, if_pos ht])
    rw [e] at h
    simpa using h
theorem cy_clip_eq (i : Int32) {n : Nat} (hn : n < 2 ^ 31) : cy_clip i (nI n) = nI (min i.toNatClampNeg n) := by
  unfold cy_clip
  by_cases h : i < 0
  · have e1 : ¬ nI n < i := fun q => absurd (Int32.lt_trans q h) (nI_pos hn)
    have e2 : i.toNatClampNeg = 0 := by
      rw [Int32.lt_iff_toInt_lt, Int32.toInt_zero] at h
      show i.toInt.toNat = 0
      omega
    rw [if_neg e1, if_neg (fun q => Int32.lt_irrefl (Int32.lt_trans q h)), e2, Nat.zero_min, nI_0]
  · obtain ⟨j, hj, rfl⟩ := nI_of h
    rw [nI_clamp hj]
    by_cases h2 : n < j
    · rw [if_pos (nI_lt h2 hj), Nat.min_eq_right (Nat.le_of_lt h2)]
      by_cases h3 : 0 < n
      · rw [if_pos (by rw [← nI_0]; exact nI_lt h3 hn)]
      · rw [show n = 0 by omega, nI_0]; rfl
    · rw [if_neg (nI_nlt (Nat.le_of_not_lt h2) hn), Nat.min_eq_left (Nat.le_of_not_lt h2)]
      by_cases h3 : 0 < j
      · rw [if_pos (by rw [← nI_0]; exact nI_lt h3 hj)]
      · rw [show j = 0 by omega, nI_0]; rfl
theorem c_cut (hE : cy_Eo G E) (hR : cy_R E s M) {r : Nat} (hr : r < 58) (i : Int32) (h : ∀ M', cy_R E (cy_sr s r (cy_lcut (s.1 r) i)) M' → post none M') : cy_Ct G 1 m_Row_shorten [.ref (E.2.2.1 (2 * r)), .int i] M 0 0 post := by
  obtain ⟨f, h1, h2, h3, h4⟩ := hR.1 r hr
  have hne := hE.2.2 (2 * r) (2 * r + 1) (by omega) (by omega) (by omega)
  refine t_Row_shorten hE.1 h1 h2 hne h3 (cy_cap_lt r) i (h _ ?_)
  rw [cy_clip_eq i (Nat.lt_of_le_of_lt h3 (cy_cap_lt r))]
  refine cy_R_row hE.2.2 hR hr (fun a ha hb => by rw [cy_set_ne _ _ ha]) ⟨f, ?_, ?_, by simp [cy_lcut]; omega, fun t ht => ?_⟩
  · rw [cy_set_self, cy_lcut, List.length_take]
  · rw [cy_set_ne _ _ (Ne.symm hne)]; exact h2
  · have ht2 : t < i.toNatClampNeg ∧ t < (s.1 r).length := by
      rw [cy_lcut, List.length_take] at ht
      omega
    rw [h4 t ht2.2, cy_lcut, List.getD_eq_getElem?_getD, List.getD_eq_getElem?_getD, List.getElem?_take, if_pos ht2.1]
theorem c_fill (hE : cy_Eo G E) (hR : cy_R E s M) {r : Nat} (hr : r < 58) (i v : Int32) (h : ∀ M', cy_R E (cy_sr s r (cy_lfill (cy_cap r) i v)) M' → post none M') : cy_Ct G 1 m_Row_become [.ref (E.2.2.1 (2 * r)), .int i, .int v] M 0 0 post := by
  obtain ⟨f, h1, h2, h3, h4⟩ := hR.1 r hr
  have hne := hE.2.2 (2 * r) (2 * r + 1) (by omega) (by omega) (by omega)
  refine t_Row_become hE.1 h1 h2 hne h3 (cy_cap_lt r) i v (min i.toNatClampNeg (cy_cap r)) (cy_clip_eq i (cy_cap_lt r)) (Nat.min_le_right _ _) (h _ ?_)
  refine cy_R_row hE.2.2 hR hr (fun a ha hb => by rw [cy_set_ne _ _ hb, cy_set_ne _ _ ha]) ⟨_, ?_, cy_set_self _ _ _, by simp [cy_lfill]; omega, fun t ht => ?_⟩
  · rw [cy_set_ne _ _ hne, cy_set_self, cy_lfill, List.length_replicate]
  · simp [cy_lfill] at ht
    show (if t < min i.toNatClampNeg (cy_cap r) then v else f t) = _
    rw [if_pos (by omega), cy_lfill, List.getD_eq_getElem?_getD, List.getElem?_replicate, if_pos (by omega)]
    rfl
end CYW
def cy_rat (s : cy_S) (r : Nat) (i o : Int32) : Int32 := cy_la (s.1 r) i o
def cy_rlast (s : cy_S) (r : Nat) : Int32 := (s.1 r).getLastD 0
def cy_radd (s : cy_S) (r : Nat) (v : Int32) : cy_S := cy_sr s r (cy_ladd (cy_cap r) (s.1 r) v)
def cy_rput (s : cy_S) (r : Nat) (i v : Int32) : cy_S := cy_sr s r (cy_lput (s.1 r) i v)
def cy_rdrop (s : cy_S) (r : Nat) : cy_S := cy_sr s r (s.1 r).dropLast
def cy_rcut (s : cy_S) (r : Nat) (i : Int32) : cy_S := cy_sr s r (cy_lcut (s.1 r) i)
def cy_rfill (s : cy_S) (r : Nat) (i v : Int32) : cy_S := cy_sr s r (cy_lfill (cy_cap r) i v)
