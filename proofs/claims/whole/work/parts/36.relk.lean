def rl_mdisp (r : md_S) (o : Nat) (v : Int32) (w c : Nat) : md_S := if o < 5 then md_simple r (nI o) v (nI w) (nI c) else if o < 16 then md_works r (nI o) else if o < 19 then md_jumps r (nI o) (v &&& 255) (nI w) else if o < 22 then md_bytes r (nI o) else if o < 25 then md_finish r (nI o) else if o < 27 then md_divide r (nI o) else md_call r (v &&& 255)
def rl_mdisp_ok (r : md_S) (o : Nat) (v : Int32) (w c : Nat) : Prop := if o < 5 then md_simple_ok r (nI o) v (nI w) (nI c) ∧ True else if o < 16 then md_works_ok r (nI o) ∧ True else if o < 19 then md_jumps_ok r (nI o) (v &&& 255) (nI w) ∧ True else if o < 22 then md_bytes_ok r (nI o) ∧ True else if o < 25 then md_finish_ok r (nI o) ∧ True else if o < 27 then md_divide_ok r (nI o) ∧ True else md_call_ok r (v &&& 255) ∧ True
theorem rl_mstep (s : cy_S) (r : md_S) (h : rl_M s r) (p o : Nat) (ho : o < 28) (hp : p < 256) (ep : rl_p s = nI p) (eo : r.1 1 (256 * rl_c s + p) &&& 255 = nI o) :
    md_oneStep r = rl_mdisp (md_sa (md_ss r 9 (r.2 9 + 1)) 10 (nI (rl_w s)) (nI (p + rl_len (nI o)))) o (if p + 1 < 256 then r.1 1 (256 * rl_c s + p + 1) else 0) (rl_w s) (rl_c s) ∧
    (rl_mdisp_ok (md_sa (md_ss r 9 (r.2 9 + 1)) 10 (nI (rl_w s)) (nI (p + rl_len (nI o)))) o (if p + 1 < 256 then r.1 1 (256 * rl_c s + p + 1) else 0) (rl_w s) (rl_c s) → md_oneStep_ok r) := by
  obtain ⟨t1, t2, t3⟩ := rl_top h
  obtain ⟨f1, f2, f3, f4, f5, f6, f7, f8⟩ := h.2.2.2.2.2.2.2.2.2 _ (Nat.le_refl _)
  have f1 : rl_c s < 8 := f1
  have f3 : r.1 10 (rl_w s) = nI p := f3.trans ep
  have t1 : r.2 10 - 1 = nI (rl_w s) := t1
  have t2 : (nI (rl_w s)).toNatClampNeg = rl_w s := by rw [← t1]; exact t2
  have f2 : r.1 9 (rl_w s) = nI (rl_c s) := f2
  have hcl : (nI (256 * rl_c s + p)).toNatClampNeg = 256 * rl_c s + p := nI_clamp (by omega)
  have hcl1 : (nI (256 * rl_c s + p + 1)).toNatClampNeg = 256 * rl_c s + p + 1 := nI_clamp (by omega)
  have v8 : vp_in (nI (rl_w s)) 8 := t1 ▸ t3
  have va : vp_in (nI (256 * rl_c s + p)) 2048 := vp_in_nI (by omega) (by decide)
  have va1 : p + 1 < 256 → vp_in (nI (256 * rl_c s + p + 1)) 2048 := fun _ => vp_in_nI (by omega) (by decide)
  have c256 : ((256 : Int32) ≤ nI (p + 1)) = ¬ (p + 1 < 256) := by
    rw [eq_iff_iff]; rw [show (256 : Int32) = nI 256 from rfl, nI_leI (by decide) (by omega)]; omega
  have e2 : nI p + 2 = nI (p + 2) := nI_add p 2
  unfold md_oneStep md_oneStep_ok
  rw [t1, t2, f2, f3, rl_256, nI_1, e2, nI_1, hcl, hcl1, eo, rl_hop o ho]
  simp only [c256, show ((5 : Int32) ≤ nI o) = ¬ (o < 5) from rl_cg4 ho 5 (by decide), show ((16 : Int32) ≤ nI o) = ¬ (o < 16) from rl_cg4 ho 16 (by decide), show ((19 : Int32) ≤ nI o) = ¬ (o < 19) from rl_cg4 ho 19 (by decide), show ((22 : Int32) ≤ nI o) = ¬ (o < 22) from rl_cg4 ho 22 (by decide), show ((25 : Int32) ≤ nI o) = ¬ (o < 25) from rl_cg4 ho 25 (by decide), show ((27 : Int32) ≤ nI o) = ¬ (o < 27) from rl_cg4 ho 27 (by decide), ite_not]
  unfold rl_mdisp rl_mdisp_ok rl_len
  by_cases hop : cy_Yard_hasOperand (nI o) = 0
  · simp only [if_pos hop]
    by_cases h256 : p + 1 < 256
    · simp only [if_pos h256]
      exact ⟨trivial, fun q => ⟨v8, v8, va, va1 h256, v8, q⟩⟩
    · simp only [if_neg h256]
      exact ⟨trivial, fun q => ⟨v8, v8, va, v8, q⟩⟩
  · simp only [if_neg hop]
    by_cases h256 : p + 1 < 256
    · simp only [if_pos h256]
      exact ⟨trivial, fun q => ⟨v8, v8, va, va1 h256, v8, q⟩⟩
    · simp only [if_neg h256]
      exact ⟨trivial, fun q => ⟨v8, v8, va, v8, q⟩⟩
