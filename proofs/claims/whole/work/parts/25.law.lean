def cy_X (G : cy_G) (F : cy_F) (b L : Nat) (xs : Nat → Int32) : Prop := match F with
  | (_, _, _, _, s, _, _, _, _, _, _) => va_X b L xs s s.heap ∧ b < s.heap.size ∧ ¬ cy_A G b
section LWR
variable {G : cy_G} {F : cy_F} {own : String} {cc : ByteArray} {nL d rc rs kc ks pc : Nat} {lv : List (Nat × Value)} {st : List Value} {M : cy_Hp} {b L : Nat} {xs : Nat → Int32}
theorem wm_sld (C : cy_C G F own cc nL d rc rs) (hX : cy_X G F b L xs) {i : Int32} (hin : vp_in i L) (hd : decode cc pc = .ok (.iaload, 1))
    (kk : WM G F nL kc ks (pc + 1) lv (.int (xs i.toNatClampNeg) :: st) M) : WM G F nL kc ks pc lv (.int i :: .ref b :: st) M := by
  obtain ⟨p, l, e, R, s, m, args, below, meth, c, Q⟩ := F
  obtain ⟨hl0, hx, hb, hml, hown, hts, hK, -⟩ := C
  exact fun H ls locs hl hM hS => va_sld hx hb hX.1 hX.2.1 hX.2.2 hS hin hd (kk H ls locs hl hM hS)
theorem wm_slen (C : cy_C G F own cc nL d rc rs) (hX : cy_X G F b L xs) (hd : decode cc pc = .ok (.arraylength, 1))
    (kk : WM G F nL kc ks (pc + 1) lv (.int (nI L) :: st) M) : WM G F nL kc ks pc lv (.ref b :: st) M := by
  obtain ⟨p, l, e, R, s, m, args, below, meth, c, Q⟩ := F
  obtain ⟨hl0, hx, hb, hml, hown, hts, hK, -⟩ := C
  exact fun H ls locs hl hM hS => va_slen hx hb hX.1 hX.2.1 hX.2.2 hS hd (kk H ls locs hl hM hS)
end LWR
def cy_LF (F : cy_F) (b base : Nat) : Prop := match F with
  | (_, _, _, R, s, _, args, below, meth, _, Q) => R = room_1 ∧ args = #[Value.ref b] ∧ meth.sig.returnType = ret ∧ base = s.heap.size ∧ Q = lw_Z below #[Value.ref b] s
theorem wm_lret {G : cy_G} {F : cy_F} {d rc rs kc ks pc b : Nat} {lv : List (Nat × Value)} {M : cy_Hp} (C : cy_C G F R_Law code 4 d rc rs) (hF : cy_LF F b G.2.2.2.1) (hk : kc ≤ 600000) (hs : ks ≤ 7302250) (hd : decode code pc = .ok (.ireturn, 1)) : WM G F 4 kc ks pc lv [.int 1] M := by
  obtain ⟨p, l, e, R, s, m, args, below, meth, c, Q⟩ := F
  obtain ⟨hl0, hx, hb, hml, hown, hts, hK, hlk, -⟩ := C
  obtain ⟨rfl, rfl, hr, hbase, rfl⟩ := hF
  intro H ls locs hl hM hS
  refine va_forget (fun q hq => ?_) (W.widen hk hs (lw_ret hx hb hr hlk hd))
  have := hS.2.2 q hq
  unfold cy_A at this
  rw [hbase] at this
  exact this
theorem cy_self {cI cC : ClassId} {L : Nat → Nat} {M0 M : cy_Hp} {s : cy_S} (h : cy_R (cI, cC, L, M0) s M) : cy_R (cI, cC, L, M) s M := by
  obtain ⟨h1, h2, h3, h4, h5, h6, h7, h8, h9⟩ := h
  exact ⟨h1, h2, h3, h4, h5, h6, h7, h8, fun _ _ => rfl⟩
theorem md_self {cI cB cZ : ClassId} {m : Nat} {M0 M : cy_Hp} {r : md_S} (h : md_R (cI, cB, cZ, m, M0) r M) : md_R (cI, cB, cZ, m, M) r M := ⟨h.1, h.2.1, fun _ _ => rfl⟩
theorem md_mv {cI cB cZ : ClassId} {m : Nat} {M0 M M1 : cy_Hp} {r : md_S} (h : md_R (cI, cB, cZ, m, M0) r M) (hM : ∀ x, m ≤ x → x < m + 17 → M1 x = M x) : md_R (cI, cB, cZ, m, M1) r M1 :=
  ⟨(hM _ (Nat.le_refl _) (by show m < m + 17; omega)).trans h.1, fun a ha => (hM _ (by show m ≤ m + (a + 1); omega) (by show m + (a + 1) < m + 17; omega)).trans (h.2.1 a ha), fun _ _ => rfl⟩
theorem cy_mv {cI cC : ClassId} {L : Nat → Nat} {M0 M M1 : cy_Hp} {s : cy_S} (h : cy_R (cI, cC, L, M0) s M) (hM : ∀ k, k < 138 → M1 (L k) = M (L k)) : cy_R (cI, cC, L, M1) s M1 := by
  refine ⟨fun r hr => cy_rw_kept (h.1 r hr) (hM _ (by omega)) (hM _ (by omega)), fun k hk => (hM _ (by omega)).trans (rp_code h hk), fun j hj => ⟨(hM _ (by omega)).trans (rp_frame h hj), rp_fc h hj⟩, (hM _ (by omega)).trans (rp_yard h), (hM _ (by omega)).trans (rp_shelf h), (hM _ (by omega)).trans (rp_survey h), ⟨(hM _ (by omega)).trans (rp_run h), rp_work h⟩, (hM _ (by omega)).trans (rp_codes h), fun _ _ => rfl⟩
theorem cy_lw1 {L n : Nat} (hL : L ≤ 3072) (hn : n ≤ 4000) (h : ¬ nI L - 6 < nI n) : n + 6 ≤ L := by
  rw [Int32.lt_iff_toInt_lt, nI_toInt (by omega), show (6 : Int32) = nI 6 from rfl, pk_sub_toInt (by omega) (by omega)] at h
  omega
theorem cy_lw2 {L n k : Nat} (hL : L ≤ 3072) (hn : n + 6 ≤ L) (hk : k < 6) : vp_in (nI n + nI k) L := by
  rw [nI_add]; exact vp_in_nI (by omega) (by omega)
def cy_Sim (Rel : cy_S → md_S → Prop) : Prop :=
  Rel cy_s0 md_s0 ∧
  (∀ (s : cy_S) (r : md_S) (a0 a1 a2 a3 a4 : Int32), Rel s r → md_feed_ok r a0 a1 a2 a3 a4 ∧ (cy_Yard_feed s a0 a1 a2 a3 a4).1 = (md_feed r a0 a1 a2 a3 a4).1 ∧ Rel (cy_Yard_feed s a0 a1 a2 a3 a4).2 (md_feed r a0 a1 a2 a3 a4).2) ∧
  (∀ (s : cy_S) (r : md_S) (a0 : Int32), Rel s r → (cy_Yard_end s a0).1 = (md_end r a0).1 ∧ Rel (cy_Yard_end s a0).2 (md_end r a0).2) ∧
  (∀ (s : cy_S) (r : md_S) (a0 a1 : Int32), Rel s r → md_poke_ok r a0 a1 ∧ (cy_Yard_poke s a0 a1).1 = (md_poke r a0 a1).1 ∧ Rel (cy_Yard_poke s a0 a1).2 (md_poke r a0 a1).2) ∧
  (∀ (s : cy_S) (r : md_S) (a0 : Int32), Rel s r → md_load_ok r a0 ∧ (cy_Yard_load s a0).1 = (md_load r a0).1 ∧ Rel (cy_Yard_load s a0).2 (md_load r a0).2) ∧
  (∀ (s : cy_S) (r : md_S) (a0 a1 : Int32), Rel s r → md_begin_ok r a0 a1 ∧ (cy_Yard_begin s a0 a1).1 = (md_begin r a0 a1).1 ∧ Rel (cy_Yard_begin s a0 a1).2 (md_begin r a0 a1).2) ∧
  (∀ (s : cy_S) (r : md_S) (a0 : Int32), Rel s r → md_go_ok r a0 ∧ (cy_Yard_go s a0).1 = (md_go r a0).1 ∧ Rel (cy_Yard_go s a0).2 (md_go r a0).2) ∧
  (∀ (s : cy_S) (r : md_S) (a0 : Int32), Rel s r → md_state_ok r a0 ∧ cy_Yard_state s a0 = md_state r a0) ∧
  (∀ (s : cy_S) (r : md_S) (a0 : Int32), Rel s r → md_stack_ok r a0 ∧ cy_Yard_stack s a0 = md_stack r a0) ∧
  (∀ (s : cy_S) (r : md_S) (a0 : Int32), Rel s r → md_local_ok r a0 ∧ cy_Yard_local s a0 = md_local r a0) ∧
  (∀ (s : cy_S) (r : md_S) (a0 a1 : Int32), Rel s r → md_cell_ok r a0 a1 ∧ cy_Yard_cell s a0 a1 = md_cell r a0 a1) ∧
  (∀ (s : cy_S) (r : md_S) (a0 : Int32), Rel s r → md_out_ok r a0 ∧ cy_Yard_out s a0 = md_out r a0) ∧
  (∀ (s : cy_S) (r : md_S) (a0 a1 : Int32), Rel s r → md_height_ok r a0 a1 ∧ cy_Yard_height s a0 a1 = md_height r a0 a1) ∧
  (∀ (s : cy_S) (r : md_S) (a0 : Int32), Rel s r → md_size_ok r a0 ∧ cy_Yard_size s a0 = md_size r a0)
set_option maxHeartbeats 8000000 in
set_option maxRecDepth 4000 in
theorem law_loop {Rel : cy_S → md_S → Prop} (hSim : cy_Sim Rel) {G : cy_G} {F : cy_F} {cI cC cB cZ : ClassId} {y mo b L : Nat} {xs : Nat → Int32} (hL : L ≤ 3072) (hG0 : G.2.2.1[0]? = some (cI, .int)) (hG1 : G.2.2.1[1]? = some (cC, .object "CodeYard$Code")) (hG2 : G.2.2.1[2]? = some (cB, .byte)) (hG3 : G.2.2.1[3]? = some (cZ, .boolean)) (hmo : y + 138 ≤ mo) (C : cy_C G F R_Law code 4 8 155 12810) (hX : cy_X G F b L xs) (hF : cy_LF F b G.2.2.2.1) :
    ∀ (q n : Nat) (s : cy_S) (r : md_S) (M : cy_Hp), L ≤ n + 6 * q → n ≤ 4000 → Rel s r → cy_R (cI, cC, fun k => y + cy_off k, M) s M → md_R (cI, cB, cZ, mo, M) r M → WM G F 4 155 12810 18 [(3, .int (nI n)), (2, .ref mo), (1, .ref (y + cy_off 133)), (0, .ref b)] [] M := by
  have hE : ∀ M : cy_Hp, cy_Eo G (cI, cC, fun k => y + cy_off k, M) := fun M => ⟨hG0, hG1, fun i j hi hj hij => by have := cy_off_inj i hi j hj hij; show y + cy_off i ≠ y + cy_off j; omega⟩
  have hD : ∀ M : cy_Hp, md_Eo G (cI, cB, cZ, mo, M) := fun M => ⟨hG0, hG2, hG3⟩
  intro q
  induction q with
  | zero =>
    intro n s r M hq hn hrel hc hm
    have hE := hE M
    refine wm_iload_n C d_Law_law_18 rfl (j := 0) rfl ?_
    refine wm_aload_n C d_Law_law_19 rfl (j := 3) rfl ?_
    refine wm_slen C hX d_Law_law_20 ?_
    refine wm_bipush (v := 6) C d_Law_law_21 (by decide) ?_
    refine wm_isub C d_Law_law_23 ?_
    refine wm_icmp_gt (tgt := 485) C d_Law_law_24 (by decide) (fun (h_24 : ((nI L) - 6) < (nI n)) => ?_) (fun (h_24 : ¬ ((nI L) - 6) < (nI n)) => ?_)
    · refine wm_iconst (v := 1) C d_Law_law_485 (by decide) ?_
      exact wm_lret C hF (by decide) (by decide) d_Law_law_486
    · exact absurd (cy_lw1 hL hn h_24) (by omega)
  | succ q ih =>
    intro n s r M hq hn hrel hc hm
    have hE := hE M
    refine wm_iload_n C d_Law_law_18 rfl (j := 0) rfl ?_
    refine wm_aload_n C d_Law_law_19 rfl (j := 3) rfl ?_
    refine wm_slen C hX d_Law_law_20 ?_
    refine wm_bipush (v := 6) C d_Law_law_21 (by decide) ?_
    refine wm_isub C d_Law_law_23 ?_
    refine wm_icmp_gt (tgt := 485) C d_Law_law_24 (by decide) (fun (h_24 : ((nI L) - 6) < (nI n)) => ?_) (fun (h_24 : ¬ ((nI L) - 6) < (nI n)) => ?_)
    · refine wm_iconst (v := 1) C d_Law_law_485 (by decide) ?_
      exact wm_lret C hF (by decide) (by decide) d_Law_law_486
    · have hn6 := cy_lw1 hL hn h_24
      refine wm_aload_n C d_Law_law_27 rfl (j := 3) rfl ?_
      refine wm_iload_n C d_Law_law_28 rfl (j := 0) rfl ?_
      refine wm_sld C hX (vp_in_nI (show n < L by omega) (by omega)) d_Law_law_29 ?_
      refine wm_bipush (v := 15) C d_Law_law_30 (by decide) ?_
      refine wm_iand C d_Law_law_32 ?_
      by_cases e_33_0 : (xs (nI n).toNatClampNeg) &&& 15 = 0
      · refine wm_tableIn (tgt := 100) C d_Law_law_33 (by rw [e_33_0]; decide) (by rw [e_33_0]; decide) (by rw [e_33_0]; rfl) (by decide) ?_
        refine wm_aload_n C d_Law_law_100 rfl (j := 2) rfl ?_
        refine wm_aload_n C d_Law_law_101 rfl (j := 3) rfl ?_
        refine wm_iload_n C d_Law_law_102 rfl (j := 0) rfl ?_
        refine wm_iconst (v := 1) C d_Law_law_103 (by decide) ?_
        refine wm_iadd C d_Law_law_104 ?_
        refine wm_sld C hX (show vp_in (nI n + 1) L from cy_lw2 (k := 1) hL hn6 (by decide)) d_Law_law_105 ?_
        refine wm_aload_n C d_Law_law_106 rfl (j := 3) rfl ?_
        refine wm_iload_n C d_Law_law_107 rfl (j := 0) rfl ?_
        refine wm_iconst (v := 2) C d_Law_law_108 (by decide) ?_
        refine wm_iadd C d_Law_law_109 ?_
        refine wm_sld C hX (show vp_in (nI n + 2) L from cy_lw2 (k := 2) hL hn6 (by decide)) d_Law_law_110 ?_
        refine wm_aload_n C d_Law_law_111 rfl (j := 3) rfl ?_
        refine wm_iload_n C d_Law_law_112 rfl (j := 0) rfl ?_
        refine wm_iconst (v := 3) C d_Law_law_113 (by decide) ?_
        refine wm_iadd C d_Law_law_114 ?_
        refine wm_sld C hX (show vp_in (nI n + 3) L from cy_lw2 (k := 3) hL hn6 (by decide)) d_Law_law_115 ?_
        refine wm_aload_n C d_Law_law_116 rfl (j := 3) rfl ?_
        refine wm_iload_n C d_Law_law_117 rfl (j := 0) rfl ?_
        refine wm_iconst (v := 4) C d_Law_law_118 (by decide) ?_
        refine wm_iadd C d_Law_law_119 ?_
        refine wm_sld C hX (show vp_in (nI n + 4) L from cy_lw2 (k := 4) hL hn6 (by decide)) d_Law_law_120 ?_
        refine wm_aload_n C d_Law_law_121 rfl (j := 3) rfl ?_
        refine wm_iload_n C d_Law_law_122 rfl (j := 0) rfl ?_
        refine wm_iconst (v := 5) C d_Law_law_123 (by decide) ?_
        refine wm_iadd C d_Law_law_124 ?_
        refine wm_sld C hX (show vp_in (nI n + 5) L from cy_lw2 (k := 5) hL hn6 (by decide)) d_Law_law_125 ?_
        obtain ⟨ok, heq, hrel2⟩ := hSim.2.1 s r (xs ((nI n) + 1).toNatClampNeg) (xs ((nI n) + 2).toNatClampNeg) (xs ((nI n) + 3).toNatClampNeg) (xs ((nI n) + 4).toNatClampNeg) (xs ((nI n) + 5).toNatClampNeg) hrel
        refine wm_callV (d2 := 2) (mc := 0) (ms := 0) C mo_Yard_feed co_Yard ml_Law_13 [.int (xs ((nI n) + 1).toNatClampNeg), .int (xs ((nI n) + 2).toNatClampNeg), .int (xs ((nI n) + 3).toNatClampNeg), .int (xs ((nI n) + 4).toNatClampNeg), .int (xs ((nI n) + 5).toNatClampNeg)] [] rfl (rp_yard hc) rfl (by decide) (Nat.le_of_ble_eq_true rfl) (by decide) (by decide) d_Law_law_126 (cy_ki ?_)
        refine c_Yard_feed hE hc _ _ _ _ _ (fun M1 hc1 => ⟨_, rfl, ?_⟩)
        have hm1 := md_mv hm (fun x h1 h2 => rp_rest hc1 x (fun k hk => by have := cy_off_lt k hk; show x ≠ y + cy_off k; omega))
        have hc1 := cy_self hc1
        refine wm_aload_n C d_Law_law_129 rfl (j := 1) rfl ?_
        refine wm_aload_n C d_Law_law_130 rfl (j := 3) rfl ?_
        refine wm_iload_n C d_Law_law_131 rfl (j := 0) rfl ?_
        refine wm_iconst (v := 1) C d_Law_law_132 (by decide) ?_
        refine wm_iadd C d_Law_law_133 ?_
        refine wm_sld C hX (show vp_in (nI n + 1) L from cy_lw2 (k := 1) hL hn6 (by decide)) d_Law_law_134 ?_
        refine wm_aload_n C d_Law_law_135 rfl (j := 3) rfl ?_
        refine wm_iload_n C d_Law_law_136 rfl (j := 0) rfl ?_
        refine wm_iconst (v := 2) C d_Law_law_137 (by decide) ?_
        refine wm_iadd C d_Law_law_138 ?_
        refine wm_sld C hX (show vp_in (nI n + 2) L from cy_lw2 (k := 2) hL hn6 (by decide)) d_Law_law_139 ?_
        refine wm_aload_n C d_Law_law_140 rfl (j := 3) rfl ?_
        refine wm_iload_n C d_Law_law_141 rfl (j := 0) rfl ?_
        refine wm_iconst (v := 3) C d_Law_law_142 (by decide) ?_
        refine wm_iadd C d_Law_law_143 ?_
        refine wm_sld C hX (show vp_in (nI n + 3) L from cy_lw2 (k := 3) hL hn6 (by decide)) d_Law_law_144 ?_
        refine wm_aload_n C d_Law_law_145 rfl (j := 3) rfl ?_
        refine wm_iload_n C d_Law_law_146 rfl (j := 0) rfl ?_
        refine wm_iconst (v := 4) C d_Law_law_147 (by decide) ?_
        refine wm_iadd C d_Law_law_148 ?_
        refine wm_sld C hX (show vp_in (nI n + 4) L from cy_lw2 (k := 4) hL hn6 (by decide)) d_Law_law_149 ?_
        refine wm_aload_n C d_Law_law_150 rfl (j := 3) rfl ?_
        refine wm_iload_n C d_Law_law_151 rfl (j := 0) rfl ?_
        refine wm_iconst (v := 5) C d_Law_law_152 (by decide) ?_
        refine wm_iadd C d_Law_law_153 ?_
        refine wm_sld C hX (show vp_in (nI n + 5) L from cy_lw2 (k := 5) hL hn6 (by decide)) d_Law_law_154 ?_
        refine wm_callV (d2 := 1) (mc := 0) (ms := 0) C mo_Model_feed co_Model ml_Law_17 [.int (xs ((nI n) + 1).toNatClampNeg), .int (xs ((nI n) + 2).toNatClampNeg), .int (xs ((nI n) + 3).toNatClampNeg), .int (xs ((nI n) + 4).toNatClampNeg), .int (xs ((nI n) + 5).toNatClampNeg)] [.int ((cy_Yard_feed s (xs ((nI n) + 1).toNatClampNeg) (xs ((nI n) + 2).toNatClampNeg) (xs ((nI n) + 3).toNatClampNeg) (xs ((nI n) + 4).toNatClampNeg) (xs ((nI n) + 5).toNatClampNeg)).1)] rfl hm1.1 rfl (by decide) (Nat.le_of_ble_eq_true rfl) (by decide) (by decide) d_Law_law_155 (cy_ki ?_)
        refine k_feed (D := (cI, cB, cZ, mo, M1)) (hD _) hm1 _ _ _ _ _ ok (fun M2 hm2 => ⟨_, rfl, ?_⟩)
        have hc2 := cy_mv hc1 (fun k hk => hm2.2.2 _ (Or.inl (by have := cy_off_lt k hk; show y + cy_off k < mo; omega)))
        have hm2 := md_self hm2
        refine wm_icmp_eq (tgt := 479) C d_Law_law_158 (by decide) (fun (h_158 : ((cy_Yard_feed s (xs ((nI n) + 1).toNatClampNeg) (xs ((nI n) + 2).toNatClampNeg) (xs ((nI n) + 3).toNatClampNeg) (xs ((nI n) + 4).toNatClampNeg) (xs ((nI n) + 5).toNatClampNeg)).1) = ((md_feed r (xs ((nI n) + 1).toNatClampNeg) (xs ((nI n) + 2).toNatClampNeg) (xs ((nI n) + 3).toNatClampNeg) (xs ((nI n) + 4).toNatClampNeg) (xs ((nI n) + 5).toNatClampNeg)).1)) => ?_) (fun (h_158 : ¬ ((cy_Yard_feed s (xs ((nI n) + 1).toNatClampNeg) (xs ((nI n) + 2).toNatClampNeg) (xs ((nI n) + 3).toNatClampNeg) (xs ((nI n) + 4).toNatClampNeg) (xs ((nI n) + 5).toNatClampNeg)).1) = ((md_feed r (xs ((nI n) + 1).toNatClampNeg) (xs ((nI n) + 2).toNatClampNeg) (xs ((nI n) + 3).toNatClampNeg) (xs ((nI n) + 4).toNatClampNeg) (xs ((nI n) + 5).toNatClampNeg)).1)) => ?_)
        · refine wm_iinc (v := (nI n) + 6) (lv' := [(3, .int ((nI n) + 6)), (2, .ref mo), (1, .ref (y + cy_off 133)), (0, .ref b)]) C d_Law_law_479 (k := 0) rfl rfl (by decide) rfl ?_
          refine wm_goto (tgt := 18) C d_Law_law_482 (by decide) ?_
          rw [show (6 : Int32) = nI 6 from rfl, nI_add]
          exact ih (n + 6) _ _ _ (by omega) (by omega) hrel2 hc2 hm2
        · exact absurd heq h_158
      by_cases e_33_1 : (xs (nI n).toNatClampNeg) &&& 15 = 1
      · refine wm_tableIn (tgt := 163) C d_Law_law_33 (by rw [e_33_1]; decide) (by rw [e_33_1]; decide) (by rw [e_33_1]; rfl) (by decide) ?_
        refine wm_aload_n C d_Law_law_163 rfl (j := 2) rfl ?_
        refine wm_aload_n C d_Law_law_164 rfl (j := 3) rfl ?_
        refine wm_iload_n C d_Law_law_165 rfl (j := 0) rfl ?_
        refine wm_iconst (v := 1) C d_Law_law_166 (by decide) ?_
        refine wm_iadd C d_Law_law_167 ?_
        refine wm_sld C hX (show vp_in (nI n + 1) L from cy_lw2 (k := 1) hL hn6 (by decide)) d_Law_law_168 ?_
        obtain ⟨heq, hrel2⟩ := hSim.2.2.1 s r (xs ((nI n) + 1).toNatClampNeg) hrel
        refine wm_callV (d2 := 2) (mc := 0) (ms := 0) C mo_Yard_end co_Yard ml_Law_18 [.int (xs ((nI n) + 1).toNatClampNeg)] [] rfl (rp_yard hc) rfl (by decide) (Nat.le_of_ble_eq_true rfl) (by decide) (by decide) d_Law_law_169 (cy_ki ?_)
        refine c_Yard_end hE hc _ (fun M1 hc1 => ⟨_, rfl, ?_⟩)
        have hm1 := md_mv hm (fun x h1 h2 => rp_rest hc1 x (fun k hk => by have := cy_off_lt k hk; show x ≠ y + cy_off k; omega))
        have hc1 := cy_self hc1
        refine wm_aload_n C d_Law_law_172 rfl (j := 1) rfl ?_
        refine wm_aload_n C d_Law_law_173 rfl (j := 3) rfl ?_
        refine wm_iload_n C d_Law_law_174 rfl (j := 0) rfl ?_
        refine wm_iconst (v := 1) C d_Law_law_175 (by decide) ?_
        refine wm_iadd C d_Law_law_176 ?_
        refine wm_sld C hX (show vp_in (nI n + 1) L from cy_lw2 (k := 1) hL hn6 (by decide)) d_Law_law_177 ?_
        refine wm_callV (d2 := 0) (mc := 0) (ms := 0) C mo_Model_end co_Model ml_Law_22 [.int (xs ((nI n) + 1).toNatClampNeg)] [.int ((cy_Yard_end s (xs ((nI n) + 1).toNatClampNeg)).1)] rfl hm1.1 rfl (by decide) (Nat.le_of_ble_eq_true rfl) (by decide) (by decide) d_Law_law_178 (cy_ki ?_)
        refine k_end (D := (cI, cB, cZ, mo, M1)) (hD _) hm1 _  (fun M2 hm2 => ⟨_, rfl, ?_⟩)
        have hc2 := cy_mv hc1 (fun k hk => hm2.2.2 _ (Or.inl (by have := cy_off_lt k hk; show y + cy_off k < mo; omega)))
        have hm2 := md_self hm2
        refine wm_icmp_eq (tgt := 479) C d_Law_law_181 (by decide) (fun (h_181 : ((cy_Yard_end s (xs ((nI n) + 1).toNatClampNeg)).1) = ((md_end r (xs ((nI n) + 1).toNatClampNeg)).1)) => ?_) (fun (h_181 : ¬ ((cy_Yard_end s (xs ((nI n) + 1).toNatClampNeg)).1) = ((md_end r (xs ((nI n) + 1).toNatClampNeg)).1)) => ?_)
        · refine wm_iinc (v := (nI n) + 6) (lv' := [(3, .int ((nI n) + 6)), (2, .ref mo), (1, .ref (y + cy_off 133)), (0, .ref b)]) C d_Law_law_479 (k := 0) rfl rfl (by decide) rfl ?_
          refine wm_goto (tgt := 18) C d_Law_law_482 (by decide) ?_
          rw [show (6 : Int32) = nI 6 from rfl, nI_add]
          exact ih (n + 6) _ _ _ (by omega) (by omega) hrel2 hc2 hm2
        · exact absurd heq h_181
      by_cases e_33_2 : (xs (nI n).toNatClampNeg) &&& 15 = 2
      · refine wm_tableIn (tgt := 186) C d_Law_law_33 (by rw [e_33_2]; decide) (by rw [e_33_2]; decide) (by rw [e_33_2]; rfl) (by decide) ?_
        refine wm_aload_n C d_Law_law_186 rfl (j := 2) rfl ?_
        refine wm_aload_n C d_Law_law_187 rfl (j := 3) rfl ?_
        refine wm_iload_n C d_Law_law_188 rfl (j := 0) rfl ?_
        refine wm_iconst (v := 1) C d_Law_law_189 (by decide) ?_
        refine wm_iadd C d_Law_law_190 ?_
        refine wm_sld C hX (show vp_in (nI n + 1) L from cy_lw2 (k := 1) hL hn6 (by decide)) d_Law_law_191 ?_
        refine wm_aload_n C d_Law_law_192 rfl (j := 3) rfl ?_
        refine wm_iload_n C d_Law_law_193 rfl (j := 0) rfl ?_
        refine wm_iconst (v := 2) C d_Law_law_194 (by decide) ?_
        refine wm_iadd C d_Law_law_195 ?_
        refine wm_sld C hX (show vp_in (nI n + 2) L from cy_lw2 (k := 2) hL hn6 (by decide)) d_Law_law_196 ?_
        obtain ⟨ok, heq, hrel2⟩ := hSim.2.2.2.1 s r (xs ((nI n) + 1).toNatClampNeg) (xs ((nI n) + 2).toNatClampNeg) hrel
        refine wm_callV (d2 := 1) (mc := 0) (ms := 0) C mo_Yard_poke co_Yard ml_Law_23 [.int (xs ((nI n) + 1).toNatClampNeg), .int (xs ((nI n) + 2).toNatClampNeg)] [] rfl (rp_yard hc) rfl (by decide) (Nat.le_of_ble_eq_true rfl) (by decide) (by decide) d_Law_law_197 (cy_ki ?_)
        refine c_Yard_poke hE hc _ _ (fun M1 hc1 => ⟨_, rfl, ?_⟩)
        have hm1 := md_mv hm (fun x h1 h2 => rp_rest hc1 x (fun k hk => by have := cy_off_lt k hk; show x ≠ y + cy_off k; omega))
        have hc1 := cy_self hc1
        refine wm_aload_n C d_Law_law_200 rfl (j := 1) rfl ?_
        refine wm_aload_n C d_Law_law_201 rfl (j := 3) rfl ?_
        refine wm_iload_n C d_Law_law_202 rfl (j := 0) rfl ?_
        refine wm_iconst (v := 1) C d_Law_law_203 (by decide) ?_
        refine wm_iadd C d_Law_law_204 ?_
        refine wm_sld C hX (show vp_in (nI n + 1) L from cy_lw2 (k := 1) hL hn6 (by decide)) d_Law_law_205 ?_
        refine wm_aload_n C d_Law_law_206 rfl (j := 3) rfl ?_
        refine wm_iload_n C d_Law_law_207 rfl (j := 0) rfl ?_
        refine wm_iconst (v := 2) C d_Law_law_208 (by decide) ?_
        refine wm_iadd C d_Law_law_209 ?_
        refine wm_sld C hX (show vp_in (nI n + 2) L from cy_lw2 (k := 2) hL hn6 (by decide)) d_Law_law_210 ?_
        refine wm_callV (d2 := 0) (mc := 0) (ms := 0) C mo_Model_poke co_Model ml_Law_27 [.int (xs ((nI n) + 1).toNatClampNeg), .int (xs ((nI n) + 2).toNatClampNeg)] [.int ((cy_Yard_poke s (xs ((nI n) + 1).toNatClampNeg) (xs ((nI n) + 2).toNatClampNeg)).1)] rfl hm1.1 rfl (by decide) (Nat.le_of_ble_eq_true rfl) (by decide) (by decide) d_Law_law_211 (cy_ki ?_)
        refine k_poke (D := (cI, cB, cZ, mo, M1)) (hD _) hm1 _ _ ok (fun M2 hm2 => ⟨_, rfl, ?_⟩)
        have hc2 := cy_mv hc1 (fun k hk => hm2.2.2 _ (Or.inl (by have := cy_off_lt k hk; show y + cy_off k < mo; omega)))
        have hm2 := md_self hm2
        refine wm_icmp_eq (tgt := 479) C d_Law_law_214 (by decide) (fun (h_214 : ((cy_Yard_poke s (xs ((nI n) + 1).toNatClampNeg) (xs ((nI n) + 2).toNatClampNeg)).1) = ((md_poke r (xs ((nI n) + 1).toNatClampNeg) (xs ((nI n) + 2).toNatClampNeg)).1)) => ?_) (fun (h_214 : ¬ ((cy_Yard_poke s (xs ((nI n) + 1).toNatClampNeg) (xs ((nI n) + 2).toNatClampNeg)).1) = ((md_poke r (xs ((nI n) + 1).toNatClampNeg) (xs ((nI n) + 2).toNatClampNeg)).1)) => ?_)
        · refine wm_iinc (v := (nI n) + 6) (lv' := [(3, .int ((nI n) + 6)), (2, .ref mo), (1, .ref (y + cy_off 133)), (0, .ref b)]) C d_Law_law_479 (k := 0) rfl rfl (by decide) rfl ?_
          refine wm_goto (tgt := 18) C d_Law_law_482 (by decide) ?_
          rw [show (6 : Int32) = nI 6 from rfl, nI_add]
          exact ih (n + 6) _ _ _ (by omega) (by omega) hrel2 hc2 hm2
        · exact absurd heq h_214
      by_cases e_33_3 : (xs (nI n).toNatClampNeg) &&& 15 = 3
      · refine wm_tableIn (tgt := 219) C d_Law_law_33 (by rw [e_33_3]; decide) (by rw [e_33_3]; decide) (by rw [e_33_3]; rfl) (by decide) ?_
        refine wm_aload_n C d_Law_law_219 rfl (j := 2) rfl ?_
        refine wm_aload_n C d_Law_law_220 rfl (j := 3) rfl ?_
        refine wm_iload_n C d_Law_law_221 rfl (j := 0) rfl ?_
        refine wm_iconst (v := 1) C d_Law_law_222 (by decide) ?_
        refine wm_iadd C d_Law_law_223 ?_
        refine wm_sld C hX (show vp_in (nI n + 1) L from cy_lw2 (k := 1) hL hn6 (by decide)) d_Law_law_224 ?_
        obtain ⟨ok, heq, hrel2⟩ := hSim.2.2.2.2.1 s r (xs ((nI n) + 1).toNatClampNeg) hrel
        refine wm_callV (d2 := 6) (mc := 0) (ms := 0) C mo_Yard_load co_Yard ml_Law_28 [.int (xs ((nI n) + 1).toNatClampNeg)] [] rfl (rp_yard hc) rfl (by decide) (Nat.le_of_ble_eq_true rfl) (by decide) (by decide) d_Law_law_225 (cy_ki ?_)
        refine c_Yard_load hE hc _ (fun M1 hc1 => ⟨_, rfl, ?_⟩)
        have hm1 := md_mv hm (fun x h1 h2 => rp_rest hc1 x (fun k hk => by have := cy_off_lt k hk; show x ≠ y + cy_off k; omega))
        have hc1 := cy_self hc1
        refine wm_aload_n C d_Law_law_228 rfl (j := 1) rfl ?_
        refine wm_aload_n C d_Law_law_229 rfl (j := 3) rfl ?_
        refine wm_iload_n C d_Law_law_230 rfl (j := 0) rfl ?_
        refine wm_iconst (v := 1) C d_Law_law_231 (by decide) ?_
        refine wm_iadd C d_Law_law_232 ?_
        refine wm_sld C hX (show vp_in (nI n + 1) L from cy_lw2 (k := 1) hL hn6 (by decide)) d_Law_law_233 ?_
        refine wm_callV (d2 := 5) (mc := 0) (ms := 0) C mo_Model_load co_Model ml_Law_31 [.int (xs ((nI n) + 1).toNatClampNeg)] [.int ((cy_Yard_load s (xs ((nI n) + 1).toNatClampNeg)).1)] rfl hm1.1 rfl (by decide) (Nat.le_of_ble_eq_true rfl) (by decide) (by decide) d_Law_law_234 (cy_ki ?_)
        refine k_load (D := (cI, cB, cZ, mo, M1)) (hD _) hm1 _ ok (fun M2 hm2 => ⟨_, rfl, ?_⟩)
        have hc2 := cy_mv hc1 (fun k hk => hm2.2.2 _ (Or.inl (by have := cy_off_lt k hk; show y + cy_off k < mo; omega)))
        have hm2 := md_self hm2
        refine wm_icmp_eq (tgt := 479) C d_Law_law_237 (by decide) (fun (h_237 : ((cy_Yard_load s (xs ((nI n) + 1).toNatClampNeg)).1) = ((md_load r (xs ((nI n) + 1).toNatClampNeg)).1)) => ?_) (fun (h_237 : ¬ ((cy_Yard_load s (xs ((nI n) + 1).toNatClampNeg)).1) = ((md_load r (xs ((nI n) + 1).toNatClampNeg)).1)) => ?_)
        · refine wm_iinc (v := (nI n) + 6) (lv' := [(3, .int ((nI n) + 6)), (2, .ref mo), (1, .ref (y + cy_off 133)), (0, .ref b)]) C d_Law_law_479 (k := 0) rfl rfl (by decide) rfl ?_
          refine wm_goto (tgt := 18) C d_Law_law_482 (by decide) ?_
          rw [show (6 : Int32) = nI 6 from rfl, nI_add]
          exact ih (n + 6) _ _ _ (by omega) (by omega) hrel2 hc2 hm2
        · exact absurd heq h_237
      by_cases e_33_4 : (xs (nI n).toNatClampNeg) &&& 15 = 4
      · refine wm_tableIn (tgt := 242) C d_Law_law_33 (by rw [e_33_4]; decide) (by rw [e_33_4]; decide) (by rw [e_33_4]; rfl) (by decide) ?_
        refine wm_aload_n C d_Law_law_242 rfl (j := 2) rfl ?_
        refine wm_aload_n C d_Law_law_243 rfl (j := 3) rfl ?_
        refine wm_iload_n C d_Law_law_244 rfl (j := 0) rfl ?_
        refine wm_iconst (v := 1) C d_Law_law_245 (by decide) ?_
        refine wm_iadd C d_Law_law_246 ?_
        refine wm_sld C hX (show vp_in (nI n + 1) L from cy_lw2 (k := 1) hL hn6 (by decide)) d_Law_law_247 ?_
        refine wm_aload_n C d_Law_law_248 rfl (j := 3) rfl ?_
        refine wm_iload_n C d_Law_law_249 rfl (j := 0) rfl ?_
        refine wm_iconst (v := 2) C d_Law_law_250 (by decide) ?_
        refine wm_iadd C d_Law_law_251 ?_
        refine wm_sld C hX (show vp_in (nI n + 2) L from cy_lw2 (k := 2) hL hn6 (by decide)) d_Law_law_252 ?_
        obtain ⟨ok, heq, hrel2⟩ := hSim.2.2.2.2.2.1 s r (xs ((nI n) + 1).toNatClampNeg) (xs ((nI n) + 2).toNatClampNeg) hrel
        refine wm_callV (d2 := 4) (mc := 0) (ms := 0) C mo_Yard_begin co_Yard ml_Law_32 [.int (xs ((nI n) + 1).toNatClampNeg), .int (xs ((nI n) + 2).toNatClampNeg)] [] rfl (rp_yard hc) rfl (by decide) (Nat.le_of_ble_eq_true rfl) (by decide) (by decide) d_Law_law_253 (cy_ki ?_)
        refine c_Yard_begin hE hc _ _ (fun M1 hc1 => ⟨_, rfl, ?_⟩)
        have hm1 := md_mv hm (fun x h1 h2 => rp_rest hc1 x (fun k hk => by have := cy_off_lt k hk; show x ≠ y + cy_off k; omega))
        have hc1 := cy_self hc1
        refine wm_aload_n C d_Law_law_256 rfl (j := 1) rfl ?_
        refine wm_aload_n C d_Law_law_257 rfl (j := 3) rfl ?_
        refine wm_iload_n C d_Law_law_258 rfl (j := 0) rfl ?_
        refine wm_iconst (v := 1) C d_Law_law_259 (by decide) ?_
        refine wm_iadd C d_Law_law_260 ?_
        refine wm_sld C hX (show vp_in (nI n + 1) L from cy_lw2 (k := 1) hL hn6 (by decide)) d_Law_law_261 ?_
        refine wm_aload_n C d_Law_law_262 rfl (j := 3) rfl ?_
        refine wm_iload_n C d_Law_law_263 rfl (j := 0) rfl ?_
        refine wm_iconst (v := 2) C d_Law_law_264 (by decide) ?_
        refine wm_iadd C d_Law_law_265 ?_
        refine wm_sld C hX (show vp_in (nI n + 2) L from cy_lw2 (k := 2) hL hn6 (by decide)) d_Law_law_266 ?_
        refine wm_callV (d2 := 1) (mc := 0) (ms := 0) C mo_Model_begin co_Model ml_Law_35 [.int (xs ((nI n) + 1).toNatClampNeg), .int (xs ((nI n) + 2).toNatClampNeg)] [.int ((cy_Yard_begin s (xs ((nI n) + 1).toNatClampNeg) (xs ((nI n) + 2).toNatClampNeg)).1)] rfl hm1.1 rfl (by decide) (Nat.le_of_ble_eq_true rfl) (by decide) (by decide) d_Law_law_267 (cy_ki ?_)
        refine k_begin (D := (cI, cB, cZ, mo, M1)) (hD _) hm1 _ _ ok (fun M2 hm2 => ⟨_, rfl, ?_⟩)
        have hc2 := cy_mv hc1 (fun k hk => hm2.2.2 _ (Or.inl (by have := cy_off_lt k hk; show y + cy_off k < mo; omega)))
        have hm2 := md_self hm2
        refine wm_icmp_eq (tgt := 479) C d_Law_law_270 (by decide) (fun (h_270 : ((cy_Yard_begin s (xs ((nI n) + 1).toNatClampNeg) (xs ((nI n) + 2).toNatClampNeg)).1) = ((md_begin r (xs ((nI n) + 1).toNatClampNeg) (xs ((nI n) + 2).toNatClampNeg)).1)) => ?_) (fun (h_270 : ¬ ((cy_Yard_begin s (xs ((nI n) + 1).toNatClampNeg) (xs ((nI n) + 2).toNatClampNeg)).1) = ((md_begin r (xs ((nI n) + 1).toNatClampNeg) (xs ((nI n) + 2).toNatClampNeg)).1)) => ?_)
        · refine wm_iinc (v := (nI n) + 6) (lv' := [(3, .int ((nI n) + 6)), (2, .ref mo), (1, .ref (y + cy_off 133)), (0, .ref b)]) C d_Law_law_479 (k := 0) rfl rfl (by decide) rfl ?_
          refine wm_goto (tgt := 18) C d_Law_law_482 (by decide) ?_
          rw [show (6 : Int32) = nI 6 from rfl, nI_add]
          exact ih (n + 6) _ _ _ (by omega) (by omega) hrel2 hc2 hm2
        · exact absurd heq h_270
      by_cases e_33_5 : (xs (nI n).toNatClampNeg) &&& 15 = 5
      · refine wm_tableIn (tgt := 275) C d_Law_law_33 (by rw [e_33_5]; decide) (by rw [e_33_5]; decide) (by rw [e_33_5]; rfl) (by decide) ?_
        refine wm_aload_n C d_Law_law_275 rfl (j := 2) rfl ?_
        refine wm_aload_n C d_Law_law_276 rfl (j := 3) rfl ?_
        refine wm_iload_n C d_Law_law_277 rfl (j := 0) rfl ?_
        refine wm_iconst (v := 1) C d_Law_law_278 (by decide) ?_
        refine wm_iadd C d_Law_law_279 ?_
        refine wm_sld C hX (show vp_in (nI n + 1) L from cy_lw2 (k := 1) hL hn6 (by decide)) d_Law_law_280 ?_
        obtain ⟨ok, heq, hrel2⟩ := hSim.2.2.2.2.2.2.1 s r (xs ((nI n) + 1).toNatClampNeg) hrel
        refine wm_callV (d2 := 7) (mc := 0) (ms := 0) C mo_Yard_go co_Yard ml_Law_36 [.int (xs ((nI n) + 1).toNatClampNeg)] [] rfl (rp_yard hc) rfl (by decide) (Nat.le_of_ble_eq_true rfl) (by decide) (by decide) d_Law_law_281 (cy_ki ?_)
        refine c_Yard_go hE hc _ (fun M1 hc1 => ⟨_, rfl, ?_⟩)
        have hm1 := md_mv hm (fun x h1 h2 => rp_rest hc1 x (fun k hk => by have := cy_off_lt k hk; show x ≠ y + cy_off k; omega))
        have hc1 := cy_self hc1
        refine wm_aload_n C d_Law_law_284 rfl (j := 1) rfl ?_
        refine wm_aload_n C d_Law_law_285 rfl (j := 3) rfl ?_
        refine wm_iload_n C d_Law_law_286 rfl (j := 0) rfl ?_
        refine wm_iconst (v := 1) C d_Law_law_287 (by decide) ?_
        refine wm_iadd C d_Law_law_288 ?_
        refine wm_sld C hX (show vp_in (nI n + 1) L from cy_lw2 (k := 1) hL hn6 (by decide)) d_Law_law_289 ?_
        refine wm_callV (d2 := 4) (mc := 0) (ms := 0) C mo_Model_go co_Model ml_Law_39 [.int (xs ((nI n) + 1).toNatClampNeg)] [.int ((cy_Yard_go s (xs ((nI n) + 1).toNatClampNeg)).1)] rfl hm1.1 rfl (by decide) (Nat.le_of_ble_eq_true rfl) (by decide) (by decide) d_Law_law_290 (cy_ki ?_)
        refine k_go (D := (cI, cB, cZ, mo, M1)) (hD _) hm1 _ ok (fun M2 hm2 => ⟨_, rfl, ?_⟩)
        have hc2 := cy_mv hc1 (fun k hk => hm2.2.2 _ (Or.inl (by have := cy_off_lt k hk; show y + cy_off k < mo; omega)))
        have hm2 := md_self hm2
        refine wm_icmp_eq (tgt := 479) C d_Law_law_293 (by decide) (fun (h_293 : ((cy_Yard_go s (xs ((nI n) + 1).toNatClampNeg)).1) = ((md_go r (xs ((nI n) + 1).toNatClampNeg)).1)) => ?_) (fun (h_293 : ¬ ((cy_Yard_go s (xs ((nI n) + 1).toNatClampNeg)).1) = ((md_go r (xs ((nI n) + 1).toNatClampNeg)).1)) => ?_)
        · refine wm_iinc (v := (nI n) + 6) (lv' := [(3, .int ((nI n) + 6)), (2, .ref mo), (1, .ref (y + cy_off 133)), (0, .ref b)]) C d_Law_law_479 (k := 0) rfl rfl (by decide) rfl ?_
          refine wm_goto (tgt := 18) C d_Law_law_482 (by decide) ?_
          rw [show (6 : Int32) = nI 6 from rfl, nI_add]
          exact ih (n + 6) _ _ _ (by omega) (by omega) hrel2 hc2 hm2
        · exact absurd heq h_293
      by_cases e_33_6 : (xs (nI n).toNatClampNeg) &&& 15 = 6
      · refine wm_tableIn (tgt := 298) C d_Law_law_33 (by rw [e_33_6]; decide) (by rw [e_33_6]; decide) (by rw [e_33_6]; rfl) (by decide) ?_
        refine wm_aload_n C d_Law_law_298 rfl (j := 2) rfl ?_
        refine wm_aload_n C d_Law_law_299 rfl (j := 3) rfl ?_
        refine wm_iload_n C d_Law_law_300 rfl (j := 0) rfl ?_
        refine wm_iconst (v := 1) C d_Law_law_301 (by decide) ?_
        refine wm_iadd C d_Law_law_302 ?_
        refine wm_sld C hX (show vp_in (nI n + 1) L from cy_lw2 (k := 1) hL hn6 (by decide)) d_Law_law_303 ?_
        obtain ⟨ok, heq⟩ := hSim.2.2.2.2.2.2.2.1 s r (xs ((nI n) + 1).toNatClampNeg) hrel
        refine wm_callV (d2 := 1) (mc := 0) (ms := 0) C mo_Yard_state co_Yard ml_Law_40 [.int (xs ((nI n) + 1).toNatClampNeg)] [] rfl (rp_yard hc) rfl (by decide) (Nat.le_of_ble_eq_true rfl) (by decide) (by decide) d_Law_law_304 (cy_ki ?_)
        refine c_Yard_state hE hc _ ⟨_, rfl, ?_⟩
        refine wm_aload_n C d_Law_law_307 rfl (j := 1) rfl ?_
        refine wm_aload_n C d_Law_law_308 rfl (j := 3) rfl ?_
        refine wm_iload_n C d_Law_law_309 rfl (j := 0) rfl ?_
        refine wm_iconst (v := 1) C d_Law_law_310 (by decide) ?_
        refine wm_iadd C d_Law_law_311 ?_
        refine wm_sld C hX (show vp_in (nI n + 1) L from cy_lw2 (k := 1) hL hn6 (by decide)) d_Law_law_312 ?_
        refine wm_callV (d2 := 0) (mc := 0) (ms := 0) C mo_Model_state co_Model ml_Law_43 [.int (xs ((nI n) + 1).toNatClampNeg)] [.int (cy_Yard_state s (xs ((nI n) + 1).toNatClampNeg))] rfl hm.1 rfl (by decide) (Nat.le_of_ble_eq_true rfl) (by decide) (by decide) d_Law_law_313 (cy_ki ?_)
        refine k_state (D := (cI, cB, cZ, mo, M)) (hD _) hm _ ok ⟨_, rfl, ?_⟩
        refine wm_icmp_eq (tgt := 479) C d_Law_law_316 (by decide) (fun (h_316 : (cy_Yard_state s (xs ((nI n) + 1).toNatClampNeg)) = (md_state r (xs ((nI n) + 1).toNatClampNeg))) => ?_) (fun (h_316 : ¬ (cy_Yard_state s (xs ((nI n) + 1).toNatClampNeg)) = (md_state r (xs ((nI n) + 1).toNatClampNeg))) => ?_)
        · refine wm_iinc (v := (nI n) + 6) (lv' := [(3, .int ((nI n) + 6)), (2, .ref mo), (1, .ref (y + cy_off 133)), (0, .ref b)]) C d_Law_law_479 (k := 0) rfl rfl (by decide) rfl ?_
          refine wm_goto (tgt := 18) C d_Law_law_482 (by decide) ?_
          rw [show (6 : Int32) = nI 6 from rfl, nI_add]
          exact ih (n + 6) s r M (by omega) (by omega) hrel hc hm
        · exact absurd heq h_316
      by_cases e_33_7 : (xs (nI n).toNatClampNeg) &&& 15 = 7
      · refine wm_tableIn (tgt := 321) C d_Law_law_33 (by rw [e_33_7]; decide) (by rw [e_33_7]; decide) (by rw [e_33_7]; rfl) (by decide) ?_
        refine wm_aload_n C d_Law_law_321 rfl (j := 2) rfl ?_
        refine wm_aload_n C d_Law_law_322 rfl (j := 3) rfl ?_
        refine wm_iload_n C d_Law_law_323 rfl (j := 0) rfl ?_
        refine wm_iconst (v := 1) C d_Law_law_324 (by decide) ?_
        refine wm_iadd C d_Law_law_325 ?_
        refine wm_sld C hX (show vp_in (nI n + 1) L from cy_lw2 (k := 1) hL hn6 (by decide)) d_Law_law_326 ?_
        obtain ⟨ok, heq⟩ := hSim.2.2.2.2.2.2.2.2.1 s r (xs ((nI n) + 1).toNatClampNeg) hrel
        refine wm_callV (d2 := 1) (mc := 0) (ms := 0) C mo_Yard_stack co_Yard ml_Law_44 [.int (xs ((nI n) + 1).toNatClampNeg)] [] rfl (rp_yard hc) rfl (by decide) (Nat.le_of_ble_eq_true rfl) (by decide) (by decide) d_Law_law_327 (cy_ki ?_)
        refine c_Yard_stack hE hc _ ⟨_, rfl, ?_⟩
        refine wm_aload_n C d_Law_law_330 rfl (j := 1) rfl ?_
        refine wm_aload_n C d_Law_law_331 rfl (j := 3) rfl ?_
        refine wm_iload_n C d_Law_law_332 rfl (j := 0) rfl ?_
        refine wm_iconst (v := 1) C d_Law_law_333 (by decide) ?_
        refine wm_iadd C d_Law_law_334 ?_
        refine wm_sld C hX (show vp_in (nI n + 1) L from cy_lw2 (k := 1) hL hn6 (by decide)) d_Law_law_335 ?_
        refine wm_callV (d2 := 0) (mc := 0) (ms := 0) C mo_Model_stack co_Model ml_Law_47 [.int (xs ((nI n) + 1).toNatClampNeg)] [.int (cy_Yard_stack s (xs ((nI n) + 1).toNatClampNeg))] rfl hm.1 rfl (by decide) (Nat.le_of_ble_eq_true rfl) (by decide) (by decide) d_Law_law_336 (cy_ki ?_)
        refine k_stack (D := (cI, cB, cZ, mo, M)) (hD _) hm _ ok ⟨_, rfl, ?_⟩
        refine wm_icmp_eq (tgt := 479) C d_Law_law_339 (by decide) (fun (h_339 : (cy_Yard_stack s (xs ((nI n) + 1).toNatClampNeg)) = (md_stack r (xs ((nI n) + 1).toNatClampNeg))) => ?_) (fun (h_339 : ¬ (cy_Yard_stack s (xs ((nI n) + 1).toNatClampNeg)) = (md_stack r (xs ((nI n) + 1).toNatClampNeg))) => ?_)
        · refine wm_iinc (v := (nI n) + 6) (lv' := [(3, .int ((nI n) + 6)), (2, .ref mo), (1, .ref (y + cy_off 133)), (0, .ref b)]) C d_Law_law_479 (k := 0) rfl rfl (by decide) rfl ?_
          refine wm_goto (tgt := 18) C d_Law_law_482 (by decide) ?_
          rw [show (6 : Int32) = nI 6 from rfl, nI_add]
          exact ih (n + 6) s r M (by omega) (by omega) hrel hc hm
        · exact absurd heq h_339
      by_cases e_33_8 : (xs (nI n).toNatClampNeg) &&& 15 = 8
      · refine wm_tableIn (tgt := 344) C d_Law_law_33 (by rw [e_33_8]; decide) (by rw [e_33_8]; decide) (by rw [e_33_8]; rfl) (by decide) ?_
        refine wm_aload_n C d_Law_law_344 rfl (j := 2) rfl ?_
        refine wm_aload_n C d_Law_law_345 rfl (j := 3) rfl ?_
        refine wm_iload_n C d_Law_law_346 rfl (j := 0) rfl ?_
        refine wm_iconst (v := 1) C d_Law_law_347 (by decide) ?_
        refine wm_iadd C d_Law_law_348 ?_
        refine wm_sld C hX (show vp_in (nI n + 1) L from cy_lw2 (k := 1) hL hn6 (by decide)) d_Law_law_349 ?_
        obtain ⟨ok, heq⟩ := hSim.2.2.2.2.2.2.2.2.2.1 s r (xs ((nI n) + 1).toNatClampNeg) hrel
        refine wm_callV (d2 := 1) (mc := 0) (ms := 0) C mo_Yard_local co_Yard ml_Law_48 [.int (xs ((nI n) + 1).toNatClampNeg)] [] rfl (rp_yard hc) rfl (by decide) (Nat.le_of_ble_eq_true rfl) (by decide) (by decide) d_Law_law_350 (cy_ki ?_)
        refine c_Yard_local hE hc _ ⟨_, rfl, ?_⟩
        refine wm_aload_n C d_Law_law_353 rfl (j := 1) rfl ?_
        refine wm_aload_n C d_Law_law_354 rfl (j := 3) rfl ?_
        refine wm_iload_n C d_Law_law_355 rfl (j := 0) rfl ?_
        refine wm_iconst (v := 1) C d_Law_law_356 (by decide) ?_
        refine wm_iadd C d_Law_law_357 ?_
        refine wm_sld C hX (show vp_in (nI n + 1) L from cy_lw2 (k := 1) hL hn6 (by decide)) d_Law_law_358 ?_
        refine wm_callV (d2 := 0) (mc := 0) (ms := 0) C mo_Model_local co_Model ml_Law_51 [.int (xs ((nI n) + 1).toNatClampNeg)] [.int (cy_Yard_local s (xs ((nI n) + 1).toNatClampNeg))] rfl hm.1 rfl (by decide) (Nat.le_of_ble_eq_true rfl) (by decide) (by decide) d_Law_law_359 (cy_ki ?_)
        refine k_local (D := (cI, cB, cZ, mo, M)) (hD _) hm _ ok ⟨_, rfl, ?_⟩
        refine wm_icmp_eq (tgt := 479) C d_Law_law_362 (by decide) (fun (h_362 : (cy_Yard_local s (xs ((nI n) + 1).toNatClampNeg)) = (md_local r (xs ((nI n) + 1).toNatClampNeg))) => ?_) (fun (h_362 : ¬ (cy_Yard_local s (xs ((nI n) + 1).toNatClampNeg)) = (md_local r (xs ((nI n) + 1).toNatClampNeg))) => ?_)
        · refine wm_iinc (v := (nI n) + 6) (lv' := [(3, .int ((nI n) + 6)), (2, .ref mo), (1, .ref (y + cy_off 133)), (0, .ref b)]) C d_Law_law_479 (k := 0) rfl rfl (by decide) rfl ?_
          refine wm_goto (tgt := 18) C d_Law_law_482 (by decide) ?_
          rw [show (6 : Int32) = nI 6 from rfl, nI_add]
          exact ih (n + 6) s r M (by omega) (by omega) hrel hc hm
        · exact absurd heq h_362
      by_cases e_33_9 : (xs (nI n).toNatClampNeg) &&& 15 = 9
      · refine wm_tableIn (tgt := 367) C d_Law_law_33 (by rw [e_33_9]; decide) (by rw [e_33_9]; decide) (by rw [e_33_9]; rfl) (by decide) ?_
        refine wm_aload_n C d_Law_law_367 rfl (j := 2) rfl ?_
        refine wm_aload_n C d_Law_law_368 rfl (j := 3) rfl ?_
        refine wm_iload_n C d_Law_law_369 rfl (j := 0) rfl ?_
        refine wm_iconst (v := 1) C d_Law_law_370 (by decide) ?_
        refine wm_iadd C d_Law_law_371 ?_
        refine wm_sld C hX (show vp_in (nI n + 1) L from cy_lw2 (k := 1) hL hn6 (by decide)) d_Law_law_372 ?_
        refine wm_aload_n C d_Law_law_373 rfl (j := 3) rfl ?_
        refine wm_iload_n C d_Law_law_374 rfl (j := 0) rfl ?_
        refine wm_iconst (v := 2) C d_Law_law_375 (by decide) ?_
        refine wm_iadd C d_Law_law_376 ?_
        refine wm_sld C hX (show vp_in (nI n + 2) L from cy_lw2 (k := 2) hL hn6 (by decide)) d_Law_law_377 ?_
        obtain ⟨ok, heq⟩ := hSim.2.2.2.2.2.2.2.2.2.2.1 s r (xs ((nI n) + 1).toNatClampNeg) (xs ((nI n) + 2).toNatClampNeg) hrel
        refine wm_callV (d2 := 3) (mc := 0) (ms := 0) C mo_Yard_cell co_Yard ml_Law_52 [.int (xs ((nI n) + 1).toNatClampNeg), .int (xs ((nI n) + 2).toNatClampNeg)] [] rfl (rp_yard hc) rfl (by decide) (Nat.le_of_ble_eq_true rfl) (by decide) (by decide) d_Law_law_378 (cy_ki ?_)
        refine c_Yard_cell hE hc _ _ ⟨_, rfl, ?_⟩
        refine wm_aload_n C d_Law_law_381 rfl (j := 1) rfl ?_
        refine wm_aload_n C d_Law_law_382 rfl (j := 3) rfl ?_
        refine wm_iload_n C d_Law_law_383 rfl (j := 0) rfl ?_
        refine wm_iconst (v := 1) C d_Law_law_384 (by decide) ?_
        refine wm_iadd C d_Law_law_385 ?_
        refine wm_sld C hX (show vp_in (nI n + 1) L from cy_lw2 (k := 1) hL hn6 (by decide)) d_Law_law_386 ?_
        refine wm_aload_n C d_Law_law_387 rfl (j := 3) rfl ?_
        refine wm_iload_n C d_Law_law_388 rfl (j := 0) rfl ?_
        refine wm_iconst (v := 2) C d_Law_law_389 (by decide) ?_
        refine wm_iadd C d_Law_law_390 ?_
        refine wm_sld C hX (show vp_in (nI n + 2) L from cy_lw2 (k := 2) hL hn6 (by decide)) d_Law_law_391 ?_
        refine wm_callV (d2 := 0) (mc := 0) (ms := 0) C mo_Model_cell co_Model ml_Law_55 [.int (xs ((nI n) + 1).toNatClampNeg), .int (xs ((nI n) + 2).toNatClampNeg)] [.int (cy_Yard_cell s (xs ((nI n) + 1).toNatClampNeg) (xs ((nI n) + 2).toNatClampNeg))] rfl hm.1 rfl (by decide) (Nat.le_of_ble_eq_true rfl) (by decide) (by decide) d_Law_law_392 (cy_ki ?_)
        refine k_cell (D := (cI, cB, cZ, mo, M)) (hD _) hm _ _ ok ⟨_, rfl, ?_⟩
        refine wm_icmp_eq (tgt := 479) C d_Law_law_395 (by decide) (fun (h_395 : (cy_Yard_cell s (xs ((nI n) + 1).toNatClampNeg) (xs ((nI n) + 2).toNatClampNeg)) = (md_cell r (xs ((nI n) + 1).toNatClampNeg) (xs ((nI n) + 2).toNatClampNeg))) => ?_) (fun (h_395 : ¬ (cy_Yard_cell s (xs ((nI n) + 1).toNatClampNeg) (xs ((nI n) + 2).toNatClampNeg)) = (md_cell r (xs ((nI n) + 1).toNatClampNeg) (xs ((nI n) + 2).toNatClampNeg))) => ?_)
        · refine wm_iinc (v := (nI n) + 6) (lv' := [(3, .int ((nI n) + 6)), (2, .ref mo), (1, .ref (y + cy_off 133)), (0, .ref b)]) C d_Law_law_479 (k := 0) rfl rfl (by decide) rfl ?_
          refine wm_goto (tgt := 18) C d_Law_law_482 (by decide) ?_
          rw [show (6 : Int32) = nI 6 from rfl, nI_add]
          exact ih (n + 6) s r M (by omega) (by omega) hrel hc hm
        · exact absurd heq h_395
      by_cases e_33_10 : (xs (nI n).toNatClampNeg) &&& 15 = 10
      · refine wm_tableIn (tgt := 400) C d_Law_law_33 (by rw [e_33_10]; decide) (by rw [e_33_10]; decide) (by rw [e_33_10]; rfl) (by decide) ?_
        refine wm_aload_n C d_Law_law_400 rfl (j := 2) rfl ?_
        refine wm_aload_n C d_Law_law_401 rfl (j := 3) rfl ?_
        refine wm_iload_n C d_Law_law_402 rfl (j := 0) rfl ?_
        refine wm_iconst (v := 1) C d_Law_law_403 (by decide) ?_
        refine wm_iadd C d_Law_law_404 ?_
        refine wm_sld C hX (show vp_in (nI n + 1) L from cy_lw2 (k := 1) hL hn6 (by decide)) d_Law_law_405 ?_
        obtain ⟨ok, heq⟩ := hSim.2.2.2.2.2.2.2.2.2.2.2.1 s r (xs ((nI n) + 1).toNatClampNeg) hrel
        refine wm_callV (d2 := 1) (mc := 0) (ms := 0) C mo_Yard_out co_Yard ml_Law_56 [.int (xs ((nI n) + 1).toNatClampNeg)] [] rfl (rp_yard hc) rfl (by decide) (Nat.le_of_ble_eq_true rfl) (by decide) (by decide) d_Law_law_406 (cy_ki ?_)
        refine c_Yard_out hE hc _ ⟨_, rfl, ?_⟩
        refine wm_aload_n C d_Law_law_409 rfl (j := 1) rfl ?_
        refine wm_aload_n C d_Law_law_410 rfl (j := 3) rfl ?_
        refine wm_iload_n C d_Law_law_411 rfl (j := 0) rfl ?_
        refine wm_iconst (v := 1) C d_Law_law_412 (by decide) ?_
        refine wm_iadd C d_Law_law_413 ?_
        refine wm_sld C hX (show vp_in (nI n + 1) L from cy_lw2 (k := 1) hL hn6 (by decide)) d_Law_law_414 ?_
        refine wm_callV (d2 := 0) (mc := 0) (ms := 0) C mo_Model_out co_Model ml_Law_59 [.int (xs ((nI n) + 1).toNatClampNeg)] [.int (cy_Yard_out s (xs ((nI n) + 1).toNatClampNeg))] rfl hm.1 rfl (by decide) (Nat.le_of_ble_eq_true rfl) (by decide) (by decide) d_Law_law_415 (cy_ki ?_)
        refine k_out (D := (cI, cB, cZ, mo, M)) (hD _) hm _ ok ⟨_, rfl, ?_⟩
        refine wm_icmp_eq (tgt := 479) C d_Law_law_418 (by decide) (fun (h_418 : (cy_Yard_out s (xs ((nI n) + 1).toNatClampNeg)) = (md_out r (xs ((nI n) + 1).toNatClampNeg))) => ?_) (fun (h_418 : ¬ (cy_Yard_out s (xs ((nI n) + 1).toNatClampNeg)) = (md_out r (xs ((nI n) + 1).toNatClampNeg))) => ?_)
        · refine wm_iinc (v := (nI n) + 6) (lv' := [(3, .int ((nI n) + 6)), (2, .ref mo), (1, .ref (y + cy_off 133)), (0, .ref b)]) C d_Law_law_479 (k := 0) rfl rfl (by decide) rfl ?_
          refine wm_goto (tgt := 18) C d_Law_law_482 (by decide) ?_
          rw [show (6 : Int32) = nI 6 from rfl, nI_add]
          exact ih (n + 6) s r M (by omega) (by omega) hrel hc hm
        · exact absurd heq h_418
      by_cases e_33_11 : (xs (nI n).toNatClampNeg) &&& 15 = 11
      · refine wm_tableIn (tgt := 423) C d_Law_law_33 (by rw [e_33_11]; decide) (by rw [e_33_11]; decide) (by rw [e_33_11]; rfl) (by decide) ?_
        refine wm_aload_n C d_Law_law_423 rfl (j := 2) rfl ?_
        refine wm_aload_n C d_Law_law_424 rfl (j := 3) rfl ?_
        refine wm_iload_n C d_Law_law_425 rfl (j := 0) rfl ?_
        refine wm_iconst (v := 1) C d_Law_law_426 (by decide) ?_
        refine wm_iadd C d_Law_law_427 ?_
        refine wm_sld C hX (show vp_in (nI n + 1) L from cy_lw2 (k := 1) hL hn6 (by decide)) d_Law_law_428 ?_
        refine wm_aload_n C d_Law_law_429 rfl (j := 3) rfl ?_
        refine wm_iload_n C d_Law_law_430 rfl (j := 0) rfl ?_
        refine wm_iconst (v := 2) C d_Law_law_431 (by decide) ?_
        refine wm_iadd C d_Law_law_432 ?_
        refine wm_sld C hX (show vp_in (nI n + 2) L from cy_lw2 (k := 2) hL hn6 (by decide)) d_Law_law_433 ?_
        obtain ⟨ok, heq⟩ := hSim.2.2.2.2.2.2.2.2.2.2.2.2.1 s r (xs ((nI n) + 1).toNatClampNeg) (xs ((nI n) + 2).toNatClampNeg) hrel
        refine wm_callV (d2 := 3) (mc := 0) (ms := 0) C mo_Yard_height co_Yard ml_Law_60 [.int (xs ((nI n) + 1).toNatClampNeg), .int (xs ((nI n) + 2).toNatClampNeg)] [] rfl (rp_yard hc) rfl (by decide) (Nat.le_of_ble_eq_true rfl) (by decide) (by decide) d_Law_law_434 (cy_ki ?_)
        refine c_Yard_height hE hc _ _ ⟨_, rfl, ?_⟩
        refine wm_aload_n C d_Law_law_437 rfl (j := 1) rfl ?_
        refine wm_aload_n C d_Law_law_438 rfl (j := 3) rfl ?_
        refine wm_iload_n C d_Law_law_439 rfl (j := 0) rfl ?_
        refine wm_iconst (v := 1) C d_Law_law_440 (by decide) ?_
        refine wm_iadd C d_Law_law_441 ?_
        refine wm_sld C hX (show vp_in (nI n + 1) L from cy_lw2 (k := 1) hL hn6 (by decide)) d_Law_law_442 ?_
        refine wm_aload_n C d_Law_law_443 rfl (j := 3) rfl ?_
        refine wm_iload_n C d_Law_law_444 rfl (j := 0) rfl ?_
        refine wm_iconst (v := 2) C d_Law_law_445 (by decide) ?_
        refine wm_iadd C d_Law_law_446 ?_
        refine wm_sld C hX (show vp_in (nI n + 2) L from cy_lw2 (k := 2) hL hn6 (by decide)) d_Law_law_447 ?_
        refine wm_callV (d2 := 0) (mc := 0) (ms := 0) C mo_Model_height co_Model ml_Law_63 [.int (xs ((nI n) + 1).toNatClampNeg), .int (xs ((nI n) + 2).toNatClampNeg)] [.int (cy_Yard_height s (xs ((nI n) + 1).toNatClampNeg) (xs ((nI n) + 2).toNatClampNeg))] rfl hm.1 rfl (by decide) (Nat.le_of_ble_eq_true rfl) (by decide) (by decide) d_Law_law_448 (cy_ki ?_)
        refine k_height (D := (cI, cB, cZ, mo, M)) (hD _) hm _ _ ok ⟨_, rfl, ?_⟩
        refine wm_icmp_eq (tgt := 479) C d_Law_law_451 (by decide) (fun (h_451 : (cy_Yard_height s (xs ((nI n) + 1).toNatClampNeg) (xs ((nI n) + 2).toNatClampNeg)) = (md_height r (xs ((nI n) + 1).toNatClampNeg) (xs ((nI n) + 2).toNatClampNeg))) => ?_) (fun (h_451 : ¬ (cy_Yard_height s (xs ((nI n) + 1).toNatClampNeg) (xs ((nI n) + 2).toNatClampNeg)) = (md_height r (xs ((nI n) + 1).toNatClampNeg) (xs ((nI n) + 2).toNatClampNeg))) => ?_)
        · refine wm_iinc (v := (nI n) + 6) (lv' := [(3, .int ((nI n) + 6)), (2, .ref mo), (1, .ref (y + cy_off 133)), (0, .ref b)]) C d_Law_law_479 (k := 0) rfl rfl (by decide) rfl ?_
          refine wm_goto (tgt := 18) C d_Law_law_482 (by decide) ?_
          rw [show (6 : Int32) = nI 6 from rfl, nI_add]
          exact ih (n + 6) s r M (by omega) (by omega) hrel hc hm
        · exact absurd heq h_451
      by_cases e_33_12 : (xs (nI n).toNatClampNeg) &&& 15 = 12
      · refine wm_tableIn (tgt := 456) C d_Law_law_33 (by rw [e_33_12]; decide) (by rw [e_33_12]; decide) (by rw [e_33_12]; rfl) (by decide) ?_
        refine wm_aload_n C d_Law_law_456 rfl (j := 2) rfl ?_
        refine wm_aload_n C d_Law_law_457 rfl (j := 3) rfl ?_
        refine wm_iload_n C d_Law_law_458 rfl (j := 0) rfl ?_
        refine wm_iconst (v := 1) C d_Law_law_459 (by decide) ?_
        refine wm_iadd C d_Law_law_460 ?_
        refine wm_sld C hX (show vp_in (nI n + 1) L from cy_lw2 (k := 1) hL hn6 (by decide)) d_Law_law_461 ?_
        obtain ⟨ok, heq⟩ := hSim.2.2.2.2.2.2.2.2.2.2.2.2.2 s r (xs ((nI n) + 1).toNatClampNeg) hrel
        refine wm_callV (d2 := 3) (mc := 0) (ms := 0) C mo_Yard_size co_Yard ml_Law_64 [.int (xs ((nI n) + 1).toNatClampNeg)] [] rfl (rp_yard hc) rfl (by decide) (Nat.le_of_ble_eq_true rfl) (by decide) (by decide) d_Law_law_462 (cy_ki ?_)
        refine c_Yard_size hE hc _ ⟨_, rfl, ?_⟩
        refine wm_aload_n C d_Law_law_465 rfl (j := 1) rfl ?_
        refine wm_aload_n C d_Law_law_466 rfl (j := 3) rfl ?_
        refine wm_iload_n C d_Law_law_467 rfl (j := 0) rfl ?_
        refine wm_iconst (v := 1) C d_Law_law_468 (by decide) ?_
        refine wm_iadd C d_Law_law_469 ?_
        refine wm_sld C hX (show vp_in (nI n + 1) L from cy_lw2 (k := 1) hL hn6 (by decide)) d_Law_law_470 ?_
        refine wm_callV (d2 := 0) (mc := 0) (ms := 0) C mo_Model_size co_Model ml_Law_67 [.int (xs ((nI n) + 1).toNatClampNeg)] [.int (cy_Yard_size s (xs ((nI n) + 1).toNatClampNeg))] rfl hm.1 rfl (by decide) (Nat.le_of_ble_eq_true rfl) (by decide) (by decide) d_Law_law_471 (cy_ki ?_)
        refine k_size (D := (cI, cB, cZ, mo, M)) (hD _) hm _ ok ⟨_, rfl, ?_⟩
        refine wm_icmp_eq (tgt := 479) C d_Law_law_474 (by decide) (fun (h_474 : (cy_Yard_size s (xs ((nI n) + 1).toNatClampNeg)) = (md_size r (xs ((nI n) + 1).toNatClampNeg))) => ?_) (fun (h_474 : ¬ (cy_Yard_size s (xs ((nI n) + 1).toNatClampNeg)) = (md_size r (xs ((nI n) + 1).toNatClampNeg))) => ?_)
        · refine wm_iinc (v := (nI n) + 6) (lv' := [(3, .int ((nI n) + 6)), (2, .ref mo), (1, .ref (y + cy_off 133)), (0, .ref b)]) C d_Law_law_479 (k := 0) rfl rfl (by decide) rfl ?_
          refine wm_goto (tgt := 18) C d_Law_law_482 (by decide) ?_
          rw [show (6 : Int32) = nI 6 from rfl, nI_add]
          exact ih (n + 6) s r M (by omega) (by omega) hrel hc hm
        · exact absurd heq h_474
      · refine wm_tableOut (tgt := 479) C d_Law_law_33 (by have n0 := lv_neT e_33_0 (a := 0) (by decide); have n1 := lv_neT e_33_1 (a := 1) (by decide); have n2 := lv_neT e_33_2 (a := 2) (by decide); have n3 := lv_neT e_33_3 (a := 3) (by decide); have n4 := lv_neT e_33_4 (a := 4) (by decide); have n5 := lv_neT e_33_5 (a := 5) (by decide); have n6 := lv_neT e_33_6 (a := 6) (by decide); have n7 := lv_neT e_33_7 (a := 7) (by decide); have n8 := lv_neT e_33_8 (a := 8) (by decide); have n9 := lv_neT e_33_9 (a := 9) (by decide); have n10 := lv_neT e_33_10 (a := 10) (by decide); have n11 := lv_neT e_33_11 (a := 11) (by decide); have n12 := lv_neT e_33_12 (a := 12) (by decide); omega) (by decide) ?_
        refine wm_iinc (v := (nI n) + 6) (lv' := [(3, .int ((nI n) + 6)), (2, .ref mo), (1, .ref (y + cy_off 133)), (0, .ref b)]) C d_Law_law_479 (k := 0) rfl rfl (by decide) rfl ?_
        refine wm_goto (tgt := 18) C d_Law_law_482 (by decide) ?_
        rw [show (6 : Int32) = nI 6 from rfl, nI_add]
        exact ih (n + 6) s r M (by omega) (by omega) hrel hc hm
