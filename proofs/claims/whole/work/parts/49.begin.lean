theorem st_arr {s : State} {args : Array Value} {ty : FieldType} (h : (Cond.arrayClass ty).before args s = true) : ∃ c : ClassId, ArrOfT s c ty ∧ s.vm.findClass ("[" ++ ty.toString) = some c := by
  obtain ⟨c, k, comp, h1, h2, h3⟩ := Cond.arrayClass_spec (args := args) (first := s) (o := none) (s := s) (idx := []) h
  exact ⟨c, fun n z => ⟨(fun k h => by cases h), k, h2, comp, h3⟩, h1⟩
theorem st_over {s : State} {args : Array Value} {C : String} (h : (Cond.arrayOver (.object C)).before args s = true) : ∃ c : ClassId, ArrOfT s c (.object C) ∧ va_RA s c (.object C) := by
  obtain ⟨comp, c, k, h1, h2, h3, h4, h5⟩ := Cond.arrayOver_spec (args := args) (first := s) (o := none) (s := s) (idx := []) h
  exact ⟨c, fun n z => ⟨(fun k h => by cases h), k, h3, comp, h4⟩, k, comp, h3, h4, h1, h5⟩
theorem st_K {s : State} {args : Array Value} (l : Launch) (hts : ∀ w ∈ lw_tbl, w.before args s = true) (hgv : (Jvm.Cond.and given_1 narrow_1).before args s = true) : ∃ (D : va_G) (cI cC cB cZ : ClassId) (ad : Nat → Nat), cy_K (l, D, [(cI, .int), (cC, .object "CodeYard$Code"), (cB, .byte), (cZ, .boolean)], s.heap.size, ad) s := by
  have hA : ∀ a : Nat, a < s.heap.size → ¬ (fun q : Nat => s.heap.size ≤ q) a := fun a h => Nat.not_le.mpr h
  have hin : ∀ {w : Cond}, w ∈ cy_TW → w.before args s = true := fun {w} h => hts w (List.mem_filter.mp h).1
  obtain ⟨c0, i0, k0⟩ := u_known (C := R_Row) (T := F_Row) (N := 2) (n := 2) hts i_Row (hin in_Row)
  obtain ⟨c1, i1, k1⟩ := u_known (C := R_Code) (T := F_Code) (N := 5) (n := 5) hts i_Code (hin in_Code)
  obtain ⟨c2, i2, k2⟩ := u_known (C := R_Shelf) (T := F_Shelf) (N := 1) (n := 1) hts i_Shelf (hin in_Shelf)
  obtain ⟨c3, i3, k3⟩ := u_known (C := R_Survey) (T := F_Survey) (N := 6) (n := 6) hts i_Survey (hin in_Survey)
  obtain ⟨c4, i4, k4⟩ := u_known (C := R_Frame) (T := F_Frame) (N := 7) (n := 7) hts i_Frame (hin in_Frame)
  obtain ⟨c5, i5, k5⟩ := u_known (C := R_Run) (T := F_Run) (N := 10) (n := 10) hts i_Run (hin in_Run)
  obtain ⟨c6, i6, k6⟩ := u_known (C := R_Yard) (T := F_Yard) (N := 4) (n := 4) hts i_Yard (hin in_Yard)
  obtain ⟨c7, i7, k7⟩ := u_known (C := R_Model) (T := F_Model) (N := 29) (n := 29) hts i_Model (hin in_Model)
  obtain ⟨cI, aI, nI'⟩ := st_arr (hin aw_int)
  obtain ⟨cB, aB, nB⟩ := st_arr (hin aw_byte)
  obtain ⟨cZ, aZ, nZ⟩ := st_arr (hin aw_boolean)
  have hov : (Cond.arrayOver (.object "CodeYard$Code")).before args s = true := hts _ (by decide +kernel)
  obtain ⟨cC, aC, rC⟩ := st_over hov
  have hs := flat_of_before _ hgv
  have hini : (Cond.initialized "CodeYard").before args s = true := hin ini_Yard
  obtain ⟨t0, z0, y0⟩ := st_t (A := fun q : Nat => s.heap.size ≤ q) (nm := "OPERAND_MOST") (f := cy_OM) hs (by decide +kernel) (by decide +kernel) st_e0 (hts _ (by decide +kernel)) hini hA
  obtain ⟨t1, z1, y1⟩ := st_t (A := fun q : Nat => s.heap.size ≤ q) (nm := "TAKES") (f := cy_TK) hs (by decide +kernel) (by decide +kernel) st_e1 (hts _ (by decide +kernel)) hini hA
  obtain ⟨t2, z2, y2⟩ := st_t (A := fun q : Nat => s.heap.size ≤ q) (nm := "GIVES") (f := cy_GV) hs (by decide +kernel) (by decide +kernel) st_e2 (hts _ (by decide +kernel)) hini hA
  refine ⟨(fun k => ([c0, c1, c2, c3, c4, c5, c6, c7] : List ClassId).getD k c0, fun k => ([i0, i1, i2, i3, i4, i5, i6, i7] : List (Nat → Nat)).getD k i0), cI, cC, cB, cZ, fun j => ([t0, t1, t2] : List Nat).getD j 0, ⟨?_, ?_⟩, ?_, Nat.le_refl _, ?_, ?_⟩
  · intro k q hq
    match k, hq with
    | 0, hq => cases hq; exact k0
    | 1, hq => cases hq; exact k1
    | 2, hq => cases hq; exact k2
    | 3, hq => cases hq; exact k3
    | 4, hq => cases hq; exact k4
    | 5, hq => cases hq; exact k5
    | 6, hq => cases hq; exact k6
    | 7, hq => cases hq; exact k7
    | k + 8, hq => simp [cy_cl] at hq
  · intro k q hq
    match k, hq with
    | 0, hq => cases hq; exact ⟨aI, nI'⟩
    | 1, hq => cases hq; exact ⟨aC, rC⟩
    | 2, hq => cases hq; exact ⟨aB, nB⟩
    | 3, hq => cases hq; exact ⟨aZ, nZ⟩
    | k + 4, hq => simp at hq
  · intro w hw
    have hn := (List.mem_filter.mp hw).2
    have hm := hts w (List.mem_filter.mp hw).1
    unfold cy_nestW at hn
    split at hn
    · exact va_Nw.of rfl hm
    · exact va_Nw.of rfl hm
    · cases hn
  · intro j q hq
    match j, hq with
    | 0, hq => cases hq; exact ⟨z0, y0⟩
    | 1, hq => cases hq; exact ⟨z1, y1⟩
    | 2, hq => cases hq; exact ⟨z2, y2⟩
    | j + 3, hq => simp [cy_ST] at hq
  · intro C hC
    have : C = "CodeYard$Code" := List.mem_singleton.mp hC
    subst this
    exact va_AO.of hov
set_option maxHeartbeats 4000000 in
set_option maxRecDepth 4000 in
theorem whole_start {p : Program} {e : Env} {s : State} {m : MethodId} {below : List Frame} {meth : Method} {c : Code} (l : Launch) {b L : Nat} {xs : Nat → Int32} (hL : L ≤ 3072) (C0 : lw_At p s m meth c b L xs) : W p l e room_1 s m #[Value.ref b] below meth c s.heap [] 0 0 (lw_Z below #[Value.ref b] s) (entryFrame m ([Value.ref b] : List Value).toArray 4) := by
  obtain ⟨hx, hb, hr, hml, hown, hts, hX, hbl, hlocks, hgv⟩ := C0
  obtain ⟨D, cI, cC, cB, cZ, ad, hK⟩ := st_K l hts hgv
  generalize hG : ((l, D, [(cI, .int), (cC, .object "CodeYard$Code"), (cB, .byte), (cZ, .boolean)], s.heap.size, ad) : cy_G) = G at hK
  have hG0 : G.2.2.1[0]? = some (cI, .int) := by rw [← hG]; rfl
  have hG1 : G.2.2.1[1]? = some (cC, .object "CodeYard$Code") := by rw [← hG]; rfl
  have hG2 : G.2.2.1[2]? = some (cB, .byte) := by rw [← hG]; rfl
  have hG3 : G.2.2.1[3]? = some (cZ, .boolean) := by rw [← hG]; rfl
  have hGl : l = G.1 := by rw [← hG]
  have hGs : G.2.2.2.1 = s.heap.size := by rw [← hG]
  have hGA : ∀ q : Nat, cy_A G q ↔ s.heap.size ≤ q := fun q => by unfold cy_A; rw [hGs]
  generalize hF : ((p, l, e, room_1, s, m, #[Value.ref b], below, meth, c, lw_Z below #[Value.ref b] s) : cy_F) = F
  have C : cy_C G F R_Law code 4 8 155 12810 := by
    rw [← hF]
    exact ⟨hGl, hx, hb, hml, hown, fun w hw => hts w (List.mem_filter.mp hw).1, hK, hlocks, by decide, by decide, by decide, by decide⟩
  have hX' : cy_X G F b L xs := by
    rw [← hF]
    exact ⟨hX, hbl, fun h => Nat.not_lt.mpr ((hGA b).1 h) hbl⟩
  have hLF : cy_LF F b G.2.2.2.1 := by
    rw [← hF]
    exact ⟨rfl, rfl, hr, hGs, rfl⟩
  have key : WM G F 4 0 0 0 [(0, .ref b)] [] (fun _ => none) := by
    refine wm_new C co_Yard cl_Law_7 in_Yard ini_Yard (fs := [.null, .null, .null, .null]) (fun j hj => by
      match j, hj with
      | 0, _ => rfl
      | 1, _ => rfl
      | 2, _ => rfl
      | 3, _ => rfl) (by decide) (by decide) d_Law_law_0 (fun y ht0 => ?_)
    refine wm_dup C d_Law_law_3 rfl ?_
    refine wm_callI (d2 := 4) (mc := 137) (ms := 6698) C mo_Yard_init rfl ml_Law_9 [] [.ref y] rfl rfl (by decide) (Nat.le_of_ble_eq_true rfl) (by decide) (by decide) d_Law_law_4 (cy_kv ?_)
    refine c_Yard_init hG0 hG1 (cy_set_self _ _ _) (cy_top_new ht0) (fun M1 hR1 hlow1 htop1 => ⟨rfl, ?_⟩)
    refine wm_astore_n (lv' := [(1, .ref y), (0, .ref b)]) C d_Law_law_7 rfl (by decide) rfl ?_
    refine wm_new C co_Model cl_Law_10 in_Model ini_Model (fs := [.null, .int 0, .null, .null, .null, .null, .null, .int 0, .null, .null, .null, .int 0, .int 0, .int 0, .int 0, .int 0, .int 0, .int 0, .int 0, .int 0, .null, .null, .null, .null, .null, .null, .int 0, .null, .int 0]) (fun j hj => by
      match j, hj with
      | 0, _ => rfl
      | 1, _ => rfl
      | 2, _ => rfl
      | 3, _ => rfl
      | 4, _ => rfl
      | 5, _ => rfl
      | 6, _ => rfl
      | 7, _ => rfl
      | 8, _ => rfl
      | 9, _ => rfl
      | 10, _ => rfl
      | 11, _ => rfl
      | 12, _ => rfl
      | 13, _ => rfl
      | 14, _ => rfl
      | 15, _ => rfl
      | 16, _ => rfl
      | 17, _ => rfl
      | 18, _ => rfl
      | 19, _ => rfl
      | 20, _ => rfl
      | 21, _ => rfl
      | 22, _ => rfl
      | 23, _ => rfl
      | 24, _ => rfl
      | 25, _ => rfl
      | 26, _ => rfl
      | 27, _ => rfl
      | 28, _ => rfl
      | k + 29, hj => exact absurd hj (by omega)) (by decide) (by decide) d_Law_law_8 (fun mo ht1 => ?_)
    have emo : mo = y + 138 := cy_top_eq htop1 ht1
    refine wm_dup C d_Law_law_11 rfl ?_
    refine wm_callI (d2 := 1) (mc := 16) (ms := 6079) C mo_Model_init rfl ml_Law_12 [] [.ref mo] rfl rfl (by decide) (Nat.le_of_ble_eq_true rfl) (by decide) (by decide) d_Law_law_12 (cy_kv ?_)
    refine k_init hG0 hG2 hG3 (cy_set_self _ _ _) (cy_top_new ht1) (fun M2 hm2 hlow2 htop2 => ⟨rfl, ?_⟩)
    refine wm_astore_n (lv' := [(2, .ref mo), (1, .ref y), (0, .ref b)]) C d_Law_law_15 rfl (by decide) rfl ?_
    refine wm_iconst (v := nI 0) C d_Law_law_16 (by decide) ?_
    refine wm_istore_n (lv' := [(3, .int (nI 0)), (2, .ref mo), (1, .ref y), (0, .ref b)]) C d_Law_law_17 rfl (by decide) rfl ?_
    have hc2 := cy_mv (M1 := M2) hR1 (fun k hk => (hlow2 (y + cy_off k) (by have := cy_off_lt k hk; omega)).trans (cy_set_ne _ _ (by have := cy_off_lt k hk; omega)))
    have fin := law_loop rl_sim hL hG0 hG1 hG2 hG3 (by omega) C hX' hLF (L + 1) 0 cy_s0 md_s0 M2 (by omega) (by decide) rl_sim.1 hc2 hm2
    exact fin
  rw [← hF] at key
  rw [lg_entry_eq]
  exact key s.heap _ [] (lv_entry [.ref b] (Nat.le_of_ble_eq_true rfl)) ⟨(fun a e h => by cases h), fun a h1 h2 => absurd h2 (Nat.not_lt.mpr ((hGA a).1 h1))⟩ va_S.rf
