section MDR
variable {G : cy_G} {F : cy_F} {own : String} {cc : ByteArray} {nL d rc rs kc ks pc : Nat} {lv : List (Nat × Value)} {st : List Value} {M : cy_Hp}
theorem wm_bald (C : cy_C G F own cc nL d rc rs) {a t0 : Nat} {cA : ClassId} {n : Nat} {f : Nat → Int32} (ha : M a = some (.inl (cA, n, .inl f))) (ht : G.2.2.1[t0]? = some (cA, .byte)) {i : Int32} (hin : vp_in i n) (hd : decode cc pc = .ok (.baload, 1))
    (kk : WM G F nL kc ks (pc + 1) lv (.int (f i.toNatClampNeg) :: st) M) : WM G F nL kc ks pc lv (.int i :: .ref a :: st) M := by
  obtain ⟨p, l, e, R, s, m, args, below, meth, c, Q⟩ := F
  obtain ⟨hl0, hx, hb, hml, hown, hts, hK, -⟩ := C
  exact fun H ls locs hl hM hS => va_bald hx hb hK.1 (cy_hm_at hM ha) 0 t0 rfl ht hin hd (kk H ls locs hl hM hS)
theorem wm_zald (C : cy_C G F own cc nL d rc rs) {a t0 : Nat} {cA : ClassId} {n : Nat} {f : Nat → Int32} (ha : M a = some (.inl (cA, n, .inl f))) (ht : G.2.2.1[t0]? = some (cA, .boolean)) {i : Int32} (hin : vp_in i n) (hd : decode cc pc = .ok (.baload, 1))
    (kk : WM G F nL kc ks (pc + 1) lv (.int (f i.toNatClampNeg) :: st) M) : WM G F nL kc ks pc lv (.int i :: .ref a :: st) M := by
  obtain ⟨p, l, e, R, s, m, args, below, meth, c, Q⟩ := F
  obtain ⟨hl0, hx, hb, hml, hown, hts, hK, -⟩ := C
  exact fun H ls locs hl hM hS => va_zald hx hb hK.1 (cy_hm_at hM ha) 0 t0 rfl ht hin hd (kk H ls locs hl hM hS)
theorem wm_bast (C : cy_C G F own cc nL d rc rs) {a t0 : Nat} {cA : ClassId} {n : Nat} {f : Nat → Int32} (ha : M a = some (.inl (cA, n, .inl f))) (ht : G.2.2.1[t0]? = some (cA, .byte)) {i x : Int32} (hin : vp_in i n) (hd : decode cc pc = .ok (.bastore, 1))
    (kk : WM G F nL kc ks (pc + 1) lv st (cy_set M a (.inl (cA, n, .inl (upd f i.toNatClampNeg x.toInt8.toInt32))))) : WM G F nL kc ks pc lv (.int x :: .int i :: .ref a :: st) M := by
  obtain ⟨p, l, e, R, s, m, args, below, meth, c, Q⟩ := F
  obtain ⟨hl0, hx, hb, hml, hown, hts, hK, -⟩ := C
  intro H ls locs hl hM hS
  obtain ⟨hAa, hat⟩ := hM.1 a _ ha
  refine W.bast hx hb hat ((hK.1.2 t0 _ ht).1 n (fun j => .int (f j))) (fun q => by cases q) (by show ¬ (i < 0 ∨ (arrV _ _ _).slots.size ≤ _); rw [arrV_size]; exact hin) rfl rfl hd fun H1 e1 z oq => ?_
  refine kk H1 ls _ hl (cy_hm_set hM hAa z ?_ oq) (hS.put z oq hAa)
  show H1[a]? = some (vp_cell _ _)
  rw [e1, vp_cell_i, vp_cell_i, arrV_store]
  congr 2
  funext q
  by_cases hq : q = i.toNatClampNeg
  · subst hq; simp [updV, upd]; try rfl
  · simp [updV, upd, hq]
theorem wm_zast (C : cy_C G F own cc nL d rc rs) {a t0 : Nat} {cA : ClassId} {n : Nat} {f : Nat → Int32} (ha : M a = some (.inl (cA, n, .inl f))) (ht : G.2.2.1[t0]? = some (cA, .boolean)) {i x : Int32} (hx0 : narrow .boolean (.int x) = .int x) (hin : vp_in i n) (hd : decode cc pc = .ok (.bastore, 1))
    (kk : WM G F nL kc ks (pc + 1) lv st (cy_set M a (.inl (cA, n, .inl (upd f i.toNatClampNeg x))))) : WM G F nL kc ks pc lv (.int x :: .int i :: .ref a :: st) M := by
  obtain ⟨p, l, e, R, s, m, args, below, meth, c, Q⟩ := F
  obtain ⟨hl0, hx, hb, hml, hown, hts, hK, -⟩ := C
  intro H ls locs hl hM hS
  obtain ⟨hAa, hat⟩ := hM.1 a _ ha
  refine W.zast hx hb hat ((hK.1.2 t0 _ ht).1 n (fun j => .int (f j))) (fun q => by cases q) (by show ¬ (i < 0 ∨ (arrV _ _ _).slots.size ≤ _); rw [arrV_size]; exact hin) rfl rfl hd fun H1 e1 z oq => ?_
  refine kk H1 ls _ hl (cy_hm_set hM hAa z ?_ oq) (hS.put z oq hAa)
  show H1[a]? = some (vp_cell _ _)
  rw [e1, vp_cell_i, vp_cell_i, arrV_store]
  congr 2
  funext q
  by_cases hq : q = i.toNatClampNeg
  · subst hq; simp [updV, upd, hx0]
  · simp [updV, upd, hq]
theorem wm_newb (C : cy_C G F own cc nL d rc rs) {t0 : Nat} {cA : ClassId} (ht : G.2.2.1[t0]? = some (cA, .byte)) (lw : Cond.arrayClass .byte ∈ cy_TW) {n : Int32} {N : Nat} (hn : ¬ n < 0) (hN : n.toNatClampNeg = N) (hbig : N * 1 ≤ 536870912) (hkc : kc + 1 ≤ rc) (hks : ks + N ≤ rs) (hd : decode cc pc = .ok (.newarray .byte, 2))
    (kk : ∀ q : Nat, cy_top G M q → WM G F nL (kc + 1) (ks + N) (pc + 2) lv (.ref q :: st) (cy_set M q (.inl (cA, N, .inl (fun _ => 0))))) : WM G F nL kc ks pc lv (.int n :: st) M := by
  obtain ⟨p, l, e, R, s, m, args, below, meth, c, Q⟩ := F
  obtain ⟨hl0, hx, hb, hml, hown, hts, hK, hlk, hfr, hlo, hrc, hrs⟩ := C
  intro H ls locs hl hM hS
  refine va_newaK hx hb (atype := .byte) (hts _ lw) rfl hd rfl hn hN hbig (Nat.le_trans hkc hrc) (Nat.le_trans hks hrs) rfl fun H1 cB e1 z1 o1 hAr hNm => ?_
  have hA : cy_A G H.size := Nat.le_trans hK.2.2.1 hS.1
  have hcB : cB = cA := Option.some.inj (hNm.symm.trans (hK.1.2 t0 _ ht).2)
  subst hcB
  exact kk H.size (cy_hm_top hM hA) H1 ls locs hl (cy_hm_new hM hA rfl z1 e1 o1) ⟨Nat.le_trans hS.1 (by omega), fun x h1 h2 => (o1 x (Nat.lt_of_lt_of_le h1 hS.1)).trans (hS.2.1 x h1 h2), hS.2.2⟩
theorem wm_newz (C : cy_C G F own cc nL d rc rs) {t0 : Nat} {cA : ClassId} (ht : G.2.2.1[t0]? = some (cA, .boolean)) (lw : Cond.arrayClass .boolean ∈ cy_TW) {n : Int32} {N : Nat} (hn : ¬ n < 0) (hN : n.toNatClampNeg = N) (hbig : N * 1 ≤ 536870912) (hkc : kc + 1 ≤ rc) (hks : ks + N ≤ rs) (hd : decode cc pc = .ok (.newarray .boolean, 2))
    (kk : ∀ q : Nat, cy_top G M q → WM G F nL (kc + 1) (ks + N) (pc + 2) lv (.ref q :: st) (cy_set M q (.inl (cA, N, .inl (fun _ => 0))))) : WM G F nL kc ks pc lv (.int n :: st) M := by
  obtain ⟨p, l, e, R, s, m, args, below, meth, c, Q⟩ := F
  obtain ⟨hl0, hx, hb, hml, hown, hts, hK, hlk, hfr, hlo, hrc, hrs⟩ := C
  intro H ls locs hl hM hS
  refine va_newaK hx hb (atype := .boolean) (hts _ lw) rfl hd rfl hn hN hbig (Nat.le_trans hkc hrc) (Nat.le_trans hks hrs) rfl fun H1 cB e1 z1 o1 hAr hNm => ?_
  have hA : cy_A G H.size := Nat.le_trans hK.2.2.1 hS.1
  have hcB : cB = cA := Option.some.inj (hNm.symm.trans (hK.1.2 t0 _ ht).2)
  subst hcB
  exact kk H.size (cy_hm_top hM hA) H1 ls locs hl (cy_hm_new hM hA rfl z1 e1 o1) ⟨Nat.le_trans hS.1 (by omega), fun x h1 h2 => (o1 x (Nat.lt_of_lt_of_le h1 hS.1)).trans (hS.2.1 x h1 h2), hS.2.2⟩
end MDR
abbrev md_S : Type := (Nat → Nat → Int32) × (Nat → Int32)
abbrev md_E : Type := ClassId × ClassId × ClassId × Nat × cy_Hp
def md_len (a : Nat) : Nat := ([300, 2048, 8, 2048, 128, 128, 301, 301, 301, 8, 8, 8, 64, 64, 300, 64] : List Nat).getD a 0
def md_cls (D : md_E) (a : Nat) : ClassId := if a = 0 ∨ a = 1 ∨ a = 14 ∨ a = 15 then D.2.1 else if a = 6 ∨ a = 8 then D.2.2.1 else D.1
def md_obj (D : md_E) (f : Nat → Int32) : va_E := .inr (7, [.ref (D.2.2.2.1 + 1), .int (f 0), .ref (D.2.2.2.1 + 2), .ref (D.2.2.2.1 + 3), .ref (D.2.2.2.1 + 4), .ref (D.2.2.2.1 + 5), .ref (D.2.2.2.1 + 6), .int (f 1), .ref (D.2.2.2.1 + 7), .ref (D.2.2.2.1 + 8), .ref (D.2.2.2.1 + 9), .int (f 2), .int (f 3), .int (f 4), .int (f 5), .int (f 6), .int (f 7), .int (f 8), .int (f 9), .int (f 10), .ref (D.2.2.2.1 + 10), .ref (D.2.2.2.1 + 11), .ref (D.2.2.2.1 + 12), .ref (D.2.2.2.1 + 13), .ref (D.2.2.2.1 + 14), .ref (D.2.2.2.1 + 15), .int (f 11), .ref (D.2.2.2.1 + 16), .int (f 12)])
def md_R (D : md_E) (s : md_S) (M : cy_Hp) : Prop := M D.2.2.2.1 = some (md_obj D s.2) ∧ (∀ a, a < 16 → M (D.2.2.2.1 + (a + 1)) = some (.inl (md_cls D a, md_len a, .inl (s.1 a)))) ∧ ∀ x, (x < D.2.2.2.1 ∨ D.2.2.2.1 + 17 ≤ x) → M x = D.2.2.2.2 x
def md_Eo (G : cy_G) (D : md_E) : Prop := G.2.2.1[0]? = some (D.1, .int) ∧ G.2.2.1[2]? = some (D.2.1, .byte) ∧ G.2.2.1[3]? = some (D.2.2.1, .boolean)
def md_sa (s : md_S) (a : Nat) (i v : Int32) : md_S := (cy_up s.1 a (upd (s.1 a) i.toNatClampNeg v), s.2)
def md_ss (s : md_S) (k : Nat) (v : Int32) : md_S := (s.1, cy_up s.2 k v)
theorem md_R_sa {D : md_E} {s : md_S} {M : cy_Hp} (h : md_R D s M) {a : Nat} (ha : a < 16) (i v : Int32) : md_R D (md_sa s a i v) (cy_set M (D.2.2.2.1 + (a + 1)) (.inl (md_cls D a, md_len a, .inl (upd (s.1 a) i.toNatClampNeg v)))) := by
  refine ⟨(cy_set_ne _ _ (by omega)).trans h.1, fun b hb => ?_, fun x hx => (cy_set_ne _ _ (by omega)).trans (h.2.2 x hx)⟩
  by_cases e : b = a
  · subst e
    rw [cy_set_self]; show _ = some (Sum.inl (md_cls D b, md_len b, Sum.inl (cy_up s.1 b _ b)))
    rw [cy_up_self]
  · rw [cy_set_ne _ _ (by omega), h.2.1 b hb]; show _ = some (Sum.inl (md_cls D b, md_len b, Sum.inl (cy_up s.1 a _ b)))
    rw [cy_up_ne _ _ e]
theorem md_R_ss {D : md_E} {s : md_S} {M : cy_Hp} (h : md_R D s M) (k : Nat) (v : Int32) : md_R D (md_ss s k v) (cy_set M D.2.2.2.1 (md_obj D (cy_up s.2 k v))) :=
  ⟨cy_set_self _ _ _, fun b hb => (cy_set_ne _ _ (by omega)).trans (h.2.1 b hb), fun x hx => (cy_set_ne _ _ (by omega)).trans (h.2.2 x hx)⟩
theorem md_arr {D : md_E} {s : md_S} {M : cy_Hp} (h : md_R D s M) (a : Nat) (ha : a < 16) : M (D.2.2.2.1 + (a + 1)) = some (.inl (md_cls D a, md_len a, .inl (s.1 a))) := h.2.1 a ha
theorem md_gen {G : cy_G} {F : cy_F} {nL kc ks pc : Nat} {lv : List (Nat × Value)} {st : List Value} {D : md_E} {s : md_S} {M : cy_Hp} (h : md_R D s M) (k : ∀ M1, md_R D s M1 → WM G F nL kc ks pc lv st M1) : WM G F nL kc ks pc lv st M := k M h
