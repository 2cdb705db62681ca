def cy_at (f : Nat → Int32) (n : Nat) (i o : Int32) : Int32 := if i < 0 then o else if nI n ≤ i then o else f i.toNatClampNeg
theorem cy_inOf {i : Int32} {n cap : Nat} (h0 : ¬ i < 0) (h1 : ¬ nI n ≤ i) (hn : n ≤ cap) (hc : cap < 2 ^ 31) : vp_in i cap := by
  obtain ⟨j, hj, rfl⟩ := nI_of h0
  rcases Nat.lt_or_ge j n with h | h
  · exact vp_in_nI (Nat.lt_of_lt_of_le h hn) hc
  · exact absurd (nI_le h hj) h1
theorem cy_le_tr {a b c : Int32} (h : a ≤ b) (h2 : b ≤ c) : a ≤ c := Int32.le_trans h h2
set_option maxHeartbeats 4000000 in
theorem t_Row_at {G : cy_G} {cI : ClassId} (hG : G.2.2.1[0]? = some (cI, .int)) {M : cy_Hp} {r a cap n : Nat} {f : Nat → Int32} (hr : M r = some (.inr (0, [.ref a, .int (nI n)]))) (ha : M a = some (.inl (cI, cap, .inl f))) (hra : r ≠ a) (hn : n ≤ cap) (hc : cap < 2 ^ 31) (i o : Int32) {post : Option Value → cy_Hp → Prop} (h : post (some (.int (cy_at f n i o))) M) : cy_Ct G 0 m_Row_at [.ref r, .int i, .int o] M 0 0 post := by
  refine cy_Ct.of (by decide) (Nat.le_of_ble_eq_true rfl) ?_
  intro F C P _
  have C : cy_C G F R_Row b_Row_at 3 0 0 0 := C
  have P : cy_P G F (some .int) post 0 0 := P
  show WM G F 3 0 0 0 [(0, .ref r), (1, .int i), (2, .int o)] [] M
  refine wm_iload_n C d_Row_at_0 rfl (j := 1) rfl ?_
  refine wm_if_lt (tgt := 30) C d_Row_at_1 (by decide) (fun (h_1 : i < 0) => ?_) (fun (h_1 : ¬ i < 0) => ?_)
  · refine wm_iload_n C d_Row_at_30 rfl (j := 2) rfl ?_
    refine wm_iret C P d_Row_at_31 ?_
    rw [cy_at] at h
    simpa [h_1] using h
  · refine wm_iload_n C d_Row_at_4 rfl (j := 1) rfl ?_
    refine wm_aload_n C d_Row_at_5 rfl (j := 0) rfl ?_
    refine wm_get C co_Row hr 1 (by decide) fl_Row_19 rfl d_Row_at_6 ?_
    refine wm_icmp_ge (tgt := 30) C d_Row_at_9 (by decide) (fun (h_9 : (nI n) ≤ i) => ?_) (fun (h_9 : ¬ (nI n) ≤ i) => ?_)
    · refine wm_iload_n C d_Row_at_30 rfl (j := 2) rfl ?_
      refine wm_iret C P d_Row_at_31 ?_
      rw [cy_at] at h
      simpa [h_1, h_9] using h
    · refine wm_iload_n C d_Row_at_12 rfl (j := 1) rfl ?_
      refine wm_aload_n C d_Row_at_13 rfl (j := 0) rfl ?_
      refine wm_get C co_Row hr 0 (by decide) fl_Row_13 rfl d_Row_at_14 ?_
      refine wm_alen C ha hG d_Row_at_17 ?_
      refine wm_icmp_ge (tgt := 30) C d_Row_at_18 (by decide) (fun (h_18 : (nI cap) ≤ i) => ?_) (fun (h_18 : ¬ (nI cap) ≤ i) => ?_)
      · exact absurd (cy_le_tr (nI_le hn hc) h_18) h_9
      · refine wm_aload_n C d_Row_at_21 rfl (j := 0) rfl ?_
        refine wm_get C co_Row hr 0 (by decide) fl_Row_13 rfl d_Row_at_22 ?_
        refine wm_iload_n C d_Row_at_25 rfl (j := 1) rfl ?_
        refine wm_iald C ha hG (cy_inOf h_1 h_9 hn hc) d_Row_at_26 ?_
        refine wm_goto (tgt := 31) C d_Row_at_27 (by decide) ?_
        refine wm_iret C P d_Row_at_31 ?_
        rw [cy_at] at h
        simpa [h_1, h_9, h_18] using h
set_option maxHeartbeats 4000000 in
theorem t_Row_has {G : cy_G} {cI : ClassId} (hG : G.2.2.1[0]? = some (cI, .int)) {M : cy_Hp} {r a cap n : Nat} {f : Nat → Int32} (hr : M r = some (.inr (0, [.ref a, .int (nI n)]))) (ha : M a = some (.inl (cI, cap, .inl f))) (hra : r ≠ a) (hn : n ≤ cap) (hc : cap < 2 ^ 31) (i : Int32) {post : Option Value → cy_Hp → Prop} (h : post (some (.int (if i < 0 then 0 else if nI n ≤ i then 0 else 1))) M) : cy_Ct G 0 m_Row_has [.ref r, .int i] M 0 0 post := by
  refine cy_Ct.of (by decide) (Nat.le_of_ble_eq_true rfl) ?_
  intro F C P _
  have C : cy_C G F R_Row b_Row_has 2 0 0 0 := C
  have P : cy_P G F (some .boolean) post 0 0 := P
  show WM G F 2 0 0 0 [(0, .ref r), (1, .int i)] [] M
  refine wm_iload_n C d_Row_has_0 rfl (j := 1) rfl ?_
  refine wm_if_lt (tgt := 25) C d_Row_has_1 (by decide) (fun (h_1 : i < 0) => ?_) (fun (h_1 : ¬ i < 0) => ?_)
  · refine wm_iconst (v := 0) C d_Row_has_25 (by decide) ?_
    refine wm_zret C P rfl d_Row_has_26 ?_
    simpa [h_1] using h
  · refine wm_iload_n C d_Row_has_4 rfl (j := 1) rfl ?_
    refine wm_aload_n C d_Row_has_5 rfl (j := 0) rfl ?_
    refine wm_get C co_Row hr 1 (by decide) fl_Row_19 rfl d_Row_has_6 ?_
    refine wm_icmp_ge (tgt := 25) C d_Row_has_9 (by decide) (fun (h_9 : (nI n) ≤ i) => ?_) (fun (h_9 : ¬ (nI n) ≤ i) => ?_)
    · refine wm_iconst (v := 0) C d_Row_has_25 (by decide) ?_
      refine wm_zret C P rfl d_Row_has_26 ?_
      simpa [h_1, h_9] using h
    · refine wm_iload_n C d_Row_has_12 rfl (j := 1) rfl ?_
      refine wm_aload_n C d_Row_has_13 rfl (j := 0) rfl ?_
      refine wm_get C co_Row hr 0 (by decide) fl_Row_13 rfl d_Row_has_14 ?_
      refine wm_alen C ha hG d_Row_has_17 ?_
      refine wm_icmp_ge (tgt := 25) C d_Row_has_18 (by decide) (fun (h_18 : (nI cap) ≤ i) => ?_) (fun (h_18 : ¬ (nI cap) ≤ i) => ?_)
      · exact absurd (cy_le_tr (nI_le hn hc) h_18) h_9
      · refine wm_iconst (v := 1) C d_Row_has_21 (by decide) ?_
        refine wm_goto (tgt := 26) C d_Row_has_22 (by decide) ?_
        refine wm_zret C P rfl d_Row_has_26 ?_
        simpa [h_1, h_9, h_18] using h
set_option maxHeartbeats 4000000 in
theorem t_Row_put {G : cy_G} {cI : ClassId} (hG : G.2.2.1[0]? = some (cI, .int)) {M : cy_Hp} {r a cap n : Nat} {f : Nat → Int32} (hr : M r = some (.inr (0, [.ref a, .int (nI n)]))) (ha : M a = some (.inl (cI, cap, .inl f))) (hra : r ≠ a) (hn : n ≤ cap) (hc : cap < 2 ^ 31) (i v : Int32) {post : Option Value → cy_Hp → Prop} (h1 : (i < 0 ∨ nI n ≤ i) → post none M) (h2 : ¬ i < 0 → ¬ nI n ≤ i → post none (cy_set M a (.inl (cI, cap, .inl (upd f i.toNatClampNeg v))))) : cy_Ct G 0 m_Row_put [.ref r, .int i, .int v] M 0 0 post := by
  refine cy_Ct.of (by decide) (Nat.le_of_ble_eq_true rfl) ?_
  intro F C P _
  have C : cy_C G F R_Row b_Row_put 3 0 0 0 := C
  have P : cy_P G F none post 0 0 := P
  show WM G F 3 0 0 0 [(0, .ref r), (1, .int i), (2, .int v)] [] M
  refine wm_iload_n C d_Row_put_0 rfl (j := 1) rfl ?_
  refine wm_if_lt (tgt := 28) C d_Row_put_1 (by decide) (fun (h_1 : i < 0) => ?_) (fun (h_1 : ¬ i < 0) => ?_)
  · refine wm_vret C P d_Row_put_28 ?_
    exact h1 (Or.inl h_1)
  · refine wm_iload_n C d_Row_put_4 rfl (j := 1) rfl ?_
    refine wm_aload_n C d_Row_put_5 rfl (j := 0) rfl ?_
    refine wm_get C co_Row hr 1 (by decide) fl_Row_19 rfl d_Row_put_6 ?_
    refine wm_icmp_ge (tgt := 28) C d_Row_put_9 (by decide) (fun (h_9 : (nI n) ≤ i) => ?_) (fun (h_9 : ¬ (nI n) ≤ i) => ?_)
    · refine wm_vret C P d_Row_put_28 ?_
      exact h1 (Or.inr h_9)
    · refine wm_iload_n C d_Row_put_12 rfl (j := 1) rfl ?_
      refine wm_aload_n C d_Row_put_13 rfl (j := 0) rfl ?_
      refine wm_get C co_Row hr 0 (by decide) fl_Row_13 rfl d_Row_put_14 ?_
      refine wm_alen C ha hG d_Row_put_17 ?_
      refine wm_icmp_ge (tgt := 28) C d_Row_put_18 (by decide) (fun (h_18 : (nI cap) ≤ i) => ?_) (fun (h_18 : ¬ (nI cap) ≤ i) => ?_)
      · exact absurd (cy_le_tr (nI_le hn hc) h_18) h_9
      · refine wm_aload_n C d_Row_put_21 rfl (j := 0) rfl ?_
        refine wm_get C co_Row hr 0 (by decide) fl_Row_13 rfl d_Row_put_22 ?_
        refine wm_iload_n C d_Row_put_25 rfl (j := 1) rfl ?_
        refine wm_iload_n C d_Row_put_26 rfl (j := 2) rfl ?_
        refine wm_iast C ha hG (cy_inOf h_1 h_9 hn hc) d_Row_put_27 ?_
        refine wm_vret C P d_Row_put_28 ?_
        exact h2 h_1 h_9
set_option maxHeartbeats 4000000 in
theorem t_Row_add {G : cy_G} {cI : ClassId} (hG : G.2.2.1[0]? = some (cI, .int)) {M : cy_Hp} {r a cap n : Nat} {f : Nat → Int32} (hr : M r = some (.inr (0, [.ref a, .int (nI n)]))) (ha : M a = some (.inl (cI, cap, .inl f))) (hra : r ≠ a) (hn : n ≤ cap) (hc : cap < 2 ^ 31) (v : Int32) {post : Option Value → cy_Hp → Prop} (h1 : cap ≤ n → post none M) (h2 : n < cap → post none (cy_set (cy_set M a (.inl (cI, cap, .inl (upd f n v)))) r (.inr (0, [.ref a, .int (nI (n + 1))])))) : cy_Ct G 0 m_Row_add [.ref r, .int v] M 0 0 post := by
  refine cy_Ct.of (by decide) (Nat.le_of_ble_eq_true rfl) ?_
  intro F C P _
  have C : cy_C G F R_Row b_Row_add 2 0 0 0 := C
  have P : cy_P G F none post 0 0 := P
  show WM G F 2 0 0 0 [(0, .ref r), (1, .int v)] [] M
  have hn31 : n < 2 ^ 31 := Nat.lt_of_le_of_lt hn hc
  refine wm_aload_n C d_Row_add_0 rfl (j := 0) rfl ?_
  refine wm_get C co_Row hr 1 (by decide) fl_Row_19 rfl d_Row_add_1 ?_
  refine wm_if_lt (tgt := 39) C d_Row_add_4 (by decide) (fun (h_4 : (nI n) < 0) => ?_) (fun (h_4 : ¬ (nI n) < 0) => ?_)
  · exact absurd h_4 (nI_pos hn31)
  · refine wm_aload_n C d_Row_add_7 rfl (j := 0) rfl ?_
    refine wm_get C co_Row hr 1 (by decide) fl_Row_19 rfl d_Row_add_8 ?_
    refine wm_aload_n C d_Row_add_11 rfl (j := 0) rfl ?_
    refine wm_get C co_Row hr 0 (by decide) fl_Row_13 rfl d_Row_add_12 ?_
    refine wm_alen C ha hG d_Row_add_15 ?_
    refine wm_icmp_ge (tgt := 39) C d_Row_add_16 (by decide) (fun (h_16 : (nI cap) ≤ (nI n)) => ?_) (fun (h_16 : ¬ (nI cap) ≤ (nI n)) => ?_)
    · refine wm_vret C P d_Row_add_39 ?_
      exact h1 ((nI_leI hc hn31).mp h_16)
    · refine wm_aload_n C d_Row_add_19 rfl (j := 0) rfl ?_
      refine wm_get C co_Row hr 0 (by decide) fl_Row_13 rfl d_Row_add_20 ?_
      refine wm_aload_n C d_Row_add_23 rfl (j := 0) rfl ?_
      refine wm_get C co_Row hr 1 (by decide) fl_Row_19 rfl d_Row_add_24 ?_
      refine wm_iload_n C d_Row_add_27 rfl (j := 1) rfl ?_
      refine wm_iast C ha hG (vp_in_nI (Nat.lt_of_not_le fun z => h_16 (nI_le z hn31)) hc) d_Row_add_28 ?_
      refine wm_aload_n C d_Row_add_29 rfl (j := 0) rfl ?_
      refine wm_dup C d_Row_add_30 rfl ?_
      refine wm_get C co_Row ((cy_set_ne _ _ hra).trans hr) 1 (by decide) fl_Row_19 rfl d_Row_add_31 ?_
      refine wm_iconst (v := 1) C d_Row_add_34 (by decide) ?_
      refine wm_iadd C d_Row_add_35 ?_
      refine wm_put C co_Row ((cy_set_ne _ _ hra).trans hr) 1 (by decide) fl_Row_19 rfl rfl rfl (Nat.le_of_ble_eq_true rfl) d_Row_add_36 ?_
      refine wm_vret C P d_Row_add_39 ?_
      have h2 := h2 (Nat.lt_of_not_le fun z => h_16 (nI_le z hn31))
      rw [nI_clamp hn31]
      rw [← nI_1] at h2
      exact h2
set_option maxHeartbeats 4000000 in
theorem t_Row_take0 {G : cy_G} {cI : ClassId} (hG : G.2.2.1[0]? = some (cI, .int)) {M : cy_Hp} {r a cap : Nat} {f : Nat → Int32} (hr : M r = some (.inr (0, [.ref a, .int (nI 0)]))) (ha : M a = some (.inl (cI, cap, .inl f))) (hra : r ≠ a) (hn : 0 ≤ cap) (hc : cap < 2 ^ 31)  {post : Option Value → cy_Hp → Prop} (h : post (some (.int 0)) M) : cy_Ct G 0 m_Row_takeLast [.ref r] M 0 0 post := by
  refine cy_Ct.of (by decide) (Nat.le_of_ble_eq_true rfl) ?_
  intro F C P _
  have C : cy_C G F R_Row b_Row_takeLast 1 0 0 0 := C
  have P : cy_P G F (some .int) post 0 0 := P
  show WM G F 1 0 0 0 [(0, .ref r)] [] M
  refine wm_aload_n C d_Row_takeLast_0 rfl (j := 0) rfl ?_
  refine wm_get C co_Row hr 1 (by decide) fl_Row_19 rfl d_Row_takeLast_1 ?_
  refine wm_if_le (tgt := 19) C d_Row_takeLast_4 (by decide) (fun (h_4 : (nI 0) ≤ 0) => ?_) (fun (h_4 : ¬ (nI 0) ≤ 0) => ?_)
  · refine wm_iconst (v := 0) C d_Row_takeLast_19 (by decide) ?_
    refine wm_iret C P d_Row_takeLast_20 ?_
    exact h
  · exact absurd (Int32.le_refl _) h_4
set_option maxHeartbeats 4000000 in
theorem t_Row_take1 {G : cy_G} {cI : ClassId} (hG : G.2.2.1[0]? = some (cI, .int)) {M : cy_Hp} {r a cap k : Nat} {f : Nat → Int32} (hr : M r = some (.inr (0, [.ref a, .int (nI (k + 1))]))) (ha : M a = some (.inl (cI, cap, .inl f))) (hra : r ≠ a) (hn : (k + 1) ≤ cap) (hc : cap < 2 ^ 31)  {post : Option Value → cy_Hp → Prop} (h : post (some (.int (f k))) (cy_set M r (.inr (0, [.ref a, .int (nI k)])))) : cy_Ct G 0 m_Row_takeLast [.ref r] M 0 0 post := by
  refine cy_Ct.of (by decide) (Nat.le_of_ble_eq_true rfl) ?_
  intro F C P _
  have C : cy_C G F R_Row b_Row_takeLast 1 0 0 0 := C
  have P : cy_P G F (some .int) post 0 0 := P
  show WM G F 1 0 0 0 [(0, .ref r)] [] M
  refine wm_aload_n C d_Row_takeLast_0 rfl (j := 0) rfl ?_
  refine wm_get C co_Row hr 1 (by decide) fl_Row_19 rfl d_Row_takeLast_1 ?_
  refine wm_if_le (tgt := 19) C d_Row_takeLast_4 (by decide) (fun (h_4 : (nI (k + 1)) ≤ 0) => ?_) (fun (h_4 : ¬ (nI (k + 1)) ≤ 0) => ?_)
  · exact absurd h_4 (nI_nle (Nat.succ_pos k) (Nat.lt_of_le_of_lt hn hc))
  · refine wm_aload_n C d_Row_takeLast_7 rfl (j := 0) rfl ?_
    refine wm_get C co_Row hr 1 (by decide) fl_Row_19 rfl d_Row_takeLast_8 ?_
    refine wm_aload_n C d_Row_takeLast_11 rfl (j := 0) rfl ?_
    refine wm_get C co_Row hr 0 (by decide) fl_Row_13 rfl d_Row_takeLast_12 ?_
    refine wm_alen C ha hG d_Row_takeLast_15 ?_
    refine wm_icmp_le (tgt := 21) C d_Row_takeLast_16 (by decide) (fun (h_16 : (nI (k + 1)) ≤ (nI cap)) => ?_) (fun (h_16 : ¬ (nI (k + 1)) ≤ (nI cap)) => ?_)
    · refine wm_aload_n C d_Row_takeLast_21 rfl (j := 0) rfl ?_
      refine wm_dup C d_Row_takeLast_22 rfl ?_
      refine wm_get C co_Row hr 1 (by decide) fl_Row_19 rfl d_Row_takeLast_23 ?_
      refine wm_iconst (v := 1) C d_Row_takeLast_26 (by decide) ?_
      refine wm_isub C d_Row_takeLast_27 ?_
      refine wm_put C co_Row hr 1 (by decide) fl_Row_19 rfl rfl rfl (Nat.le_of_ble_eq_true rfl) d_Row_takeLast_28 ?_
      refine wm_aload_n C d_Row_takeLast_31 rfl (j := 0) rfl ?_
      refine wm_get C co_Row (cy_set_self _ _ _) 0 (by decide) fl_Row_13 rfl d_Row_takeLast_32 ?_
      refine wm_aload_n C d_Row_takeLast_35 rfl (j := 0) rfl ?_
      refine wm_get C co_Row (cy_set_self _ _ _) 1 (by decide) fl_Row_19 rfl d_Row_takeLast_36 ?_
      refine wm_iald C ((cy_set_ne _ _ (Ne.symm hra)).trans ha) hG (by rw [nI_pred]; exact vp_in_nI (Nat.lt_of_lt_of_le (Nat.lt_succ_self k) hn) hc) d_Row_takeLast_39 ?_
      refine wm_iret C P d_Row_takeLast_40 ?_
      rw [nI_pred, nI_clamp (Nat.lt_of_lt_of_le (Nat.lt_succ_self k) (Nat.le_trans hn (Nat.le_of_lt hc)))]
      exact h
    · exact absurd (nI_le hn hc) h_16
def cy_clip (i m : Int32) : Int32 := if 0 < (if m < i then m else i) then (if m < i then m else i) else 0
set_option maxHeartbeats 4000000 in
theorem t_Row_shorten {G : cy_G} {cI : ClassId} (hG : G.2.2.1[0]? = some (cI, .int)) {M : cy_Hp} {r a cap n : Nat} {f : Nat → Int32} (hr : M r = some (.inr (0, [.ref a, .int (nI n)]))) (ha : M a = some (.inl (cI, cap, .inl f))) (hra : r ≠ a) (hn : n ≤ cap) (hc : cap < 2 ^ 31) (i : Int32) {post : Option Value → cy_Hp → Prop} (h : post none (cy_set M r (.inr (0, [.ref a, .int (cy_clip i (nI n))])))) : cy_Ct G 1 m_Row_shorten [.ref r, .int i] M 0 0 post := by
  refine cy_Ct.of (by decide) (Nat.le_of_ble_eq_true rfl) ?_
  intro F C P _
  have C : cy_C G F R_Row b_Row_shorten 2 1 0 0 := C
  have P : cy_P G F none post 0 0 := P
  show WM G F 2 0 0 0 [(0, .ref r), (1, .int i)] [] M
  refine wm_aload_n C d_Row_shorten_0 rfl (j := 0) rfl ?_
  refine wm_iconst (v := 0) C d_Row_shorten_1 (by decide) ?_
  refine wm_iload_n C d_Row_shorten_2 rfl (j := 1) rfl ?_
  refine wm_aload_n C d_Row_shorten_3 rfl (j := 0) rfl ?_
  refine wm_get C co_Row hr 1 (by decide) fl_Row_19 rfl d_Row_shorten_4 ?_
  refine wm_mmin C ml_Row_23 mm_min_s mm_i mm_min_c (by decide) (Nat.le_of_ble_eq_true rfl) (Nat.zero_le _) (Nat.zero_le _) d_Row_shorten_7 ?_
  refine wm_mmax C ml_Row_7 mm_max_s mm_i mm_max_c (by decide) (Nat.le_of_ble_eq_true rfl) (Nat.zero_le _) (Nat.zero_le _) d_Row_shorten_10 ?_
  refine wm_put C co_Row hr 1 (by decide) fl_Row_19 rfl rfl rfl (Nat.le_of_ble_eq_true rfl) d_Row_shorten_13 ?_
  refine wm_vret C P d_Row_shorten_16 ?_
  exact h
set_option maxHeartbeats 4000000 in
theorem t_Row_become {G : cy_G} {cI : ClassId} (hG : G.2.2.1[0]? = some (cI, .int)) {M : cy_Hp} {r a cap n : Nat} {f : Nat → Int32} (hr : M r = some (.inr (0, [.ref a, .int (nI n)]))) (ha : M a = some (.inl (cI, cap, .inl f))) (hra : r ≠ a) (hn : n ≤ cap) (hc : cap < 2 ^ 31) (i v : Int32) {post : Option Value → cy_Hp → Prop} (N : Nat) (hN : cy_clip i (nI cap) = nI N) (hNc : N ≤ cap) (h : post none (cy_set (cy_set M r (.inr (0, [.ref a, .int (nI N)]))) a (.inl (cI, cap, .inl (fun j => if j < N then v else f j))))) : cy_Ct G 1 m_Row_become [.ref r, .int i, .int v] M 0 0 post := by
  refine cy_Ct.of (by decide) (Nat.le_of_ble_eq_true rfl) ?_
  intro F C P _
  have C : cy_C G F R_Row b_Row_become 4 1 0 0 := C
  have P : cy_P G F none post 0 0 := P
  have loop : ∀ (q j : Nat) (M1 : cy_Hp) (g : Nat → Int32), j + q = N → M1 r = some (.inr (0, [.ref a, .int (nI N)])) → M1 a = some (.inl (cI, cap, .inl g)) → post none (cy_set M1 a (.inl (cI, cap, .inl (fun t => if t < N then (if t < j then g t else v) else g t)))) → WM G F 4 0 0 19 [(3, .int (nI j)), (0, .ref r), (1, .int i), (2, .int v)] [] M1 := by
    intro q
    induction q with
    | zero =>
      intro j M1 g hj hr1 ha1 hp
      refine wm_iload_n C d_Row_become_19 rfl (j := 0) rfl ?_
      refine wm_aload_n C d_Row_become_20 rfl (j := 1) rfl ?_
      refine wm_get C co_Row hr1 1 (by decide) fl_Row_19 rfl d_Row_become_21 ?_
      refine wm_icmp_ge (tgt := 49) C d_Row_become_24 (by decide) (fun (h_24 : (nI N) ≤ (nI j)) => ?_) (fun (h_24 : ¬ (nI N) ≤ (nI j)) => ?_)
      · refine wm_vret C P d_Row_become_49 ?_
        have e : (fun t => if t < N then (if t < j then g t else v) else g t) = g := by
          funext t
          by_cases ht : t < N
          · rw [if_pos ht, if_pos (by omega)]
          · rw [if_neg ht]
        rw [e] at hp
        rw [cy_set_same ha1] at hp
        exact hp
      · exact absurd (nI_le (show N ≤ j by omega) (by omega)) h_24
    | succ q ih =>
      intro j M1 g hj hr1 ha1 hp
      refine wm_iload_n C d_Row_become_19 rfl (j := 0) rfl ?_
      refine wm_aload_n C d_Row_become_20 rfl (j := 1) rfl ?_
      refine wm_get C co_Row hr1 1 (by decide) fl_Row_19 rfl d_Row_become_21 ?_
      refine wm_icmp_ge (tgt := 49) C d_Row_become_24 (by decide) (fun (h_24 : (nI N) ≤ (nI j)) => ?_) (fun (h_24 : ¬ (nI N) ≤ (nI j)) => ?_)
      · exact absurd h_24 (nI_ge (show j < N by omega) (by omega))
      · refine wm_iload_n C d_Row_become_27 rfl (j := 0) rfl ?_
        refine wm_aload_n C d_Row_become_28 rfl (j := 1) rfl ?_
        refine wm_get C co_Row hr1 0 (by decide) fl_Row_13 rfl d_Row_become_29 ?_
        refine wm_alen C ha1 hG d_Row_become_32 ?_
        refine wm_icmp_ge (tgt := 49) C d_Row_become_33 (by decide) (fun (h_33 : (nI cap) ≤ (nI j)) => ?_) (fun (h_33 : ¬ (nI cap) ≤ (nI j)) => ?_)
        · exact absurd h_33 (nI_ge (show j < cap by omega) (by omega))
        · refine wm_aload_n C d_Row_become_36 rfl (j := 1) rfl ?_
          refine wm_get C co_Row hr1 0 (by decide) fl_Row_13 rfl d_Row_become_37 ?_
          refine wm_iload_n C d_Row_become_40 rfl (j := 0) rfl ?_
          refine wm_iload_n C d_Row_become_41 rfl (j := 3) rfl ?_
          refine wm_iast C ha1 hG (vp_in_nI (show j < cap by omega) hc) d_Row_become_42 ?_
          refine wm_iinc (v := (nI j) + 1) (lv' := [(3, .int ((nI j) + 1)), (0, .ref r), (1, .int i), (2, .int v)]) C d_Row_become_43 (k := 0) rfl rfl (by decide) rfl ?_
          refine wm_goto (tgt := 19) C d_Row_become_46 (by decide) ?_
          rw [nI_1]
          refine ih (j + 1) _ (upd g j v) (by omega) ((cy_set_ne _ _ hra).trans hr1) (by rw [cy_set_self, nI_clamp (show j < 2 ^ 31 by omega)]) ?_
          rw [cy_set_set]
          have e : (fun t => if t < N then (if t < j + 1 then upd g j v t else v) else upd g j v t) = (fun t => if t < N then (if t < j then g t else v) else g t) := by
            funext t
            by_cases h1 : t < N
            · rw [if_pos h1, if_pos h1]
              by_cases h2 : t < j
              · rw [if_pos (by omega), if_pos h2, pk_un (by omega)]
              · rw [if_neg h2]
                by_cases h3 : t < j + 1
                · rw [if_pos h3, show t = j by omega, pk_us]
                · rw [if_neg h3]
            · rw [if_neg h1, if_neg h1, pk_un (by omega)]
          rw [e]
          exact hp
  show WM G F 4 0 0 0 [(0, .ref r), (1, .int i), (2, .int v)] [] M
  refine wm_aload_n C d_Row_become_0 rfl (j := 0) rfl ?_
  refine wm_iconst (v := 0) C d_Row_become_1 (by decide) ?_
  refine wm_iload_n C d_Row_become_2 rfl (j := 1) rfl ?_
  refine wm_aload_n C d_Row_become_3 rfl (j := 0) rfl ?_
  refine wm_get C co_Row hr 0 (by decide) fl_Row_13 rfl d_Row_become_4 ?_
  refine wm_alen C ha hG d_Row_become_7 ?_
  refine wm_mmin C ml_Row_23 mm_min_s mm_i mm_min_c (by decide) (Nat.le_of_ble_eq_true rfl) (Nat.zero_le _) (Nat.zero_le _) d_Row_become_8 ?_
  refine wm_mmax C ml_Row_7 mm_max_s mm_i mm_max_c (by decide) (Nat.le_of_ble_eq_true rfl) (Nat.zero_le _) (Nat.zero_le _) d_Row_become_11 ?_
  refine wm_put C co_Row hr 1 (by decide) fl_Row_19 rfl rfl rfl (Nat.le_of_ble_eq_true rfl) d_Row_become_14 ?_
  refine wm_iconst (v := 0) C d_Row_become_17 (by decide) ?_
  refine wm_istore_n (lv' := [(3, .int 0), (0, .ref r), (1, .int i), (2, .int v)]) C d_Row_become_18 rfl (by decide) rfl ?_
  have e0 : (if 0 < (if nI cap < i then nI cap else i) then (if nI cap < i then nI cap else i) else 0) = nI N := hN
  rw [e0]
  exact loop N 0 _ f (by omega) (cy_set_self _ _ _) ((cy_set_ne _ _ (Ne.symm hra)).trans ha) (by simpa using h)
