def md_putFour (s : md_S) (v : Int32) : md_S :=
  (md_ss (md_sa (md_ss (md_sa (md_ss (md_sa (md_ss (md_sa s 0 (s.2 0) (((v >>> (24 &&& 31)).toInt8.toInt32).toInt8.toInt32)) 0 ((s.2 0) + 1)) 0 ((s.2 0) + 1) (((v >>> (16 &&& 31)).toInt8.toInt32).toInt8.toInt32)) 0 (((s.2 0) + 1) + 1)) 0 (((s.2 0) + 1) + 1) (((v >>> (8 &&& 31)).toInt8.toInt32).toInt8.toInt32)) 0 ((((s.2 0) + 1) + 1) + 1)) 0 ((((s.2 0) + 1) + 1) + 1) (((v >>> (0 &&& 31)).toInt8.toInt32).toInt8.toInt32)) 0 (((((s.2 0) + 1) + 1) + 1) + 1))
def md_putFour_ok (s : md_S) (v : Int32) : Prop :=
  (vp_in (s.2 0) 300) ∧ (
  (vp_in ((s.2 0) + 1) 300) ∧ (
  (vp_in (((s.2 0) + 1) + 1) 300) ∧ (
  (vp_in ((((s.2 0) + 1) + 1) + 1) 300) ∧ (
  True))))
set_option maxHeartbeats 4000000 in
theorem k_putFour {G : cy_G} {D : md_E} {s : md_S} {M : cy_Hp} {post : Option Value → cy_Hp → Prop} (hD : md_Eo G D) (hR : md_R D s M) (v : Int32) (ho : md_putFour_ok s v) (h : ∀ M', md_R D (md_putFour s v) M' → post none M') : cy_Ct G 0 m_Model_putFour [.ref D.2.2.2.1, .int v] M 0 0 post := by
  refine cy_Ct.of (by decide) (Nat.le_of_ble_eq_true rfl) ?_
  intro F C P _
  have C : cy_C G F R_Model b_Model_putFour 3 0 0 0 := C
  have P : cy_P G F none post 0 0 := P
  unfold md_putFour_ok at ho
  show WM G F 3 0 0 0 [(0, .ref D.2.2.2.1), (1, .int v)] [] M
  refine wm_bipush (v := 24) C d_Model_putFour_0 (by decide) ?_
  refine wm_istore_n (lv' := [(2, .int 24), (0, .ref D.2.2.2.1), (1, .int v)]) C d_Model_putFour_2 rfl (by decide) rfl ?_
  refine wm_iload_n C d_Model_putFour_3 rfl (j := 0) rfl ?_
  refine wm_if_lt (tgt := 36) C d_Model_putFour_4 (by decide) (fun (h_4 : 24 < 0) => ?_) (fun (h_4 : ¬ 24 < 0) => ?_)
  · exact absurd h_4 (by decide)
  · refine wm_aload_n C d_Model_putFour_7 rfl (j := 1) rfl ?_
    refine wm_get C co_Model hR.1 0 (by decide) fl_Model_7 rfl d_Model_putFour_8 ?_
    refine wm_aload_n C d_Model_putFour_11 rfl (j := 1) rfl ?_
    refine wm_get C co_Model hR.1 1 (by decide) fl_Model_60 rfl d_Model_putFour_12 ?_
    refine wm_iload_n C d_Model_putFour_15 rfl (j := 2) rfl ?_
    refine wm_iload_n C d_Model_putFour_16 rfl (j := 0) rfl ?_
    refine wm_ishr C d_Model_putFour_17 ?_
    refine wm_i2b C d_Model_putFour_18 rfl ?_
    obtain ⟨o1, ho⟩ := ho
    refine wm_bast C (md_arr hR 0 (by decide)) hD.2.1 o1 d_Model_putFour_19 ?_
    refine md_gen (md_R_sa hR (a := 0) (by decide) (s.2 0) (((v >>> (24 &&& 31)).toInt8.toInt32).toInt8.toInt32)) (fun M1 hR1 => ?_)
    refine wm_aload_n C d_Model_putFour_20 rfl (j := 1) rfl ?_
    refine wm_dup C d_Model_putFour_21 rfl ?_
    refine wm_get C co_Model hR1.1 1 (by decide) fl_Model_60 rfl d_Model_putFour_22 ?_
    refine wm_iconst (v := 1) C d_Model_putFour_25 (by decide) ?_
    refine wm_iadd C d_Model_putFour_26 ?_
    refine wm_put C co_Model hR1.1 1 (by decide) fl_Model_60 rfl rfl rfl (Nat.le_of_ble_eq_true rfl) d_Model_putFour_27 ?_
    refine md_gen (md_R_ss hR1 0 ((s.2 0) + 1)) (fun M2 hR2 => ?_)
    refine wm_iinc (v := 16) (lv' := [(2, .int 16), (0, .ref D.2.2.2.1), (1, .int v)]) C d_Model_putFour_30 (k := 0) rfl (by decide) (by decide) rfl ?_
    refine wm_goto (tgt := 3) C d_Model_putFour_33 (by decide) ?_
    refine wm_iload_n C d_Model_putFour_3 rfl (j := 0) rfl ?_
    refine wm_if_lt (tgt := 36) C d_Model_putFour_4 (by decide) (fun (h_4_2 : 16 < 0) => ?_) (fun (h_4_2 : ¬ 16 < 0) => ?_)
    · exact absurd h_4_2 (by decide)
    · refine wm_aload_n C d_Model_putFour_7 rfl (j := 1) rfl ?_
      refine wm_get C co_Model hR2.1 0 (by decide) fl_Model_7 rfl d_Model_putFour_8 ?_
      refine wm_aload_n C d_Model_putFour_11 rfl (j := 1) rfl ?_
      refine wm_get C co_Model hR2.1 1 (by decide) fl_Model_60 rfl d_Model_putFour_12 ?_
      refine wm_iload_n C d_Model_putFour_15 rfl (j := 2) rfl ?_
      refine wm_iload_n C d_Model_putFour_16 rfl (j := 0) rfl ?_
      refine wm_ishr C d_Model_putFour_17 ?_
      refine wm_i2b C d_Model_putFour_18 rfl ?_
      obtain ⟨o2, ho⟩ := ho
      refine wm_bast C (md_arr hR2 0 (by decide)) hD.2.1 o2 d_Model_putFour_19 ?_
      refine md_gen (md_R_sa hR2 (a := 0) (by decide) ((s.2 0) + 1) (((v >>> (16 &&& 31)).toInt8.toInt32).toInt8.toInt32)) (fun M3 hR3 => ?_)
      refine wm_aload_n C d_Model_putFour_20 rfl (j := 1) rfl ?_
      refine wm_dup C d_Model_putFour_21 rfl ?_
      refine wm_get C co_Model hR3.1 1 (by decide) fl_Model_60 rfl d_Model_putFour_22 ?_
      refine wm_iconst (v := 1) C d_Model_putFour_25 (by decide) ?_
      refine wm_iadd C d_Model_putFour_26 ?_
      refine wm_put C co_Model hR3.1 1 (by decide) fl_Model_60 rfl rfl rfl (Nat.le_of_ble_eq_true rfl) d_Model_putFour_27 ?_
      refine md_gen (md_R_ss hR3 0 (((s.2 0) + 1) + 1)) (fun M4 hR4 => ?_)
      refine wm_iinc (v := 8) (lv' := [(2, .int 8), (0, .ref D.2.2.2.1), (1, .int v)]) C d_Model_putFour_30 (k := 0) rfl (by decide) (by decide) rfl ?_
      refine wm_goto (tgt := 3) C d_Model_putFour_33 (by decide) ?_
      refine wm_iload_n C d_Model_putFour_3 rfl (j := 0) rfl ?_
      refine wm_if_lt (tgt := 36) C d_Model_putFour_4 (by decide) (fun (h_4_3 : 8 < 0) => ?_) (fun (h_4_3 : ¬ 8 < 0) => ?_)
      · exact absurd h_4_3 (by decide)
      · refine wm_aload_n C d_Model_putFour_7 rfl (j := 1) rfl ?_
        refine wm_get C co_Model hR4.1 0 (by decide) fl_Model_7 rfl d_Model_putFour_8 ?_
        refine wm_aload_n C d_Model_putFour_11 rfl (j := 1) rfl ?_
        refine wm_get C co_Model hR4.1 1 (by decide) fl_Model_60 rfl d_Model_putFour_12 ?_
        refine wm_iload_n C d_Model_putFour_15 rfl (j := 2) rfl ?_
        refine wm_iload_n C d_Model_putFour_16 rfl (j := 0) rfl ?_
        refine wm_ishr C d_Model_putFour_17 ?_
        refine wm_i2b C d_Model_putFour_18 rfl ?_
        obtain ⟨o3, ho⟩ := ho
        refine wm_bast C (md_arr hR4 0 (by decide)) hD.2.1 o3 d_Model_putFour_19 ?_
        refine md_gen (md_R_sa hR4 (a := 0) (by decide) (((s.2 0) + 1) + 1) (((v >>> (8 &&& 31)).toInt8.toInt32).toInt8.toInt32)) (fun M5 hR5 => ?_)
        refine wm_aload_n C d_Model_putFour_20 rfl (j := 1) rfl ?_
        refine wm_dup C d_Model_putFour_21 rfl ?_
        refine wm_get C co_Model hR5.1 1 (by decide) fl_Model_60 rfl d_Model_putFour_22 ?_
        refine wm_iconst (v := 1) C d_Model_putFour_25 (by decide) ?_
        refine wm_iadd C d_Model_putFour_26 ?_
        refine wm_put C co_Model hR5.1 1 (by decide) fl_Model_60 rfl rfl rfl (Nat.le_of_ble_eq_true rfl) d_Model_putFour_27 ?_
        refine md_gen (md_R_ss hR5 0 ((((s.2 0) + 1) + 1) + 1)) (fun M6 hR6 => ?_)
        refine wm_iinc (v := 0) (lv' := [(2, .int 0), (0, .ref D.2.2.2.1), (1, .int v)]) C d_Model_putFour_30 (k := 0) rfl (by decide) (by decide) rfl ?_
        refine wm_goto (tgt := 3) C d_Model_putFour_33 (by decide) ?_
        refine wm_iload_n C d_Model_putFour_3 rfl (j := 0) rfl ?_
        refine wm_if_lt (tgt := 36) C d_Model_putFour_4 (by decide) (fun (h_4_4 : 0 < 0) => ?_) (fun (h_4_4 : ¬ 0 < 0) => ?_)
        · exact absurd h_4_4 (by decide)
        · refine wm_aload_n C d_Model_putFour_7 rfl (j := 1) rfl ?_
          refine wm_get C co_Model hR6.1 0 (by decide) fl_Model_7 rfl d_Model_putFour_8 ?_
          refine wm_aload_n C d_Model_putFour_11 rfl (j := 1) rfl ?_
          refine wm_get C co_Model hR6.1 1 (by decide) fl_Model_60 rfl d_Model_putFour_12 ?_
          refine wm_iload_n C d_Model_putFour_15 rfl (j := 2) rfl ?_
          refine wm_iload_n C d_Model_putFour_16 rfl (j := 0) rfl ?_
          refine wm_ishr C d_Model_putFour_17 ?_
          refine wm_i2b C d_Model_putFour_18 rfl ?_
          obtain ⟨o4, ho⟩ := ho
          refine wm_bast C (md_arr hR6 0 (by decide)) hD.2.1 o4 d_Model_putFour_19 ?_
          refine md_gen (md_R_sa hR6 (a := 0) (by decide) ((((s.2 0) + 1) + 1) + 1) (((v >>> (0 &&& 31)).toInt8.toInt32).toInt8.toInt32)) (fun M7 hR7 => ?_)
          refine wm_aload_n C d_Model_putFour_20 rfl (j := 1) rfl ?_
          refine wm_dup C d_Model_putFour_21 rfl ?_
          refine wm_get C co_Model hR7.1 1 (by decide) fl_Model_60 rfl d_Model_putFour_22 ?_
          refine wm_iconst (v := 1) C d_Model_putFour_25 (by decide) ?_
          refine wm_iadd C d_Model_putFour_26 ?_
          refine wm_put C co_Model hR7.1 1 (by decide) fl_Model_60 rfl rfl rfl (Nat.le_of_ble_eq_true rfl) d_Model_putFour_27 ?_
          refine md_gen (md_R_ss hR7 0 (((((s.2 0) + 1) + 1) + 1) + 1)) (fun M8 hR8 => ?_)
          refine wm_iinc (v := (-8)) (lv' := [(2, .int (-8)), (0, .ref D.2.2.2.1), (1, .int v)]) C d_Model_putFour_30 (k := 0) rfl (by decide) (by decide) rfl ?_
          refine wm_goto (tgt := 3) C d_Model_putFour_33 (by decide) ?_
          refine wm_iload_n C d_Model_putFour_3 rfl (j := 0) rfl ?_
          refine wm_if_lt (tgt := 36) C d_Model_putFour_4 (by decide) (fun (h_4_5 : (-8) < 0) => ?_) (fun (h_4_5 : ¬ (-8) < 0) => ?_)
          · refine wm_vret C P d_Model_putFour_36 ?_
            have e : md_putFour s v = (md_ss (md_sa (md_ss (md_sa (md_ss (md_sa (md_ss (md_sa s 0 (s.2 0) (((v >>> (24 &&& 31)).toInt8.toInt32).toInt8.toInt32)) 0 ((s.2 0) + 1)) 0 ((s.2 0) + 1) (((v >>> (16 &&& 31)).toInt8.toInt32).toInt8.toInt32)) 0 (((s.2 0) + 1) + 1)) 0 (((s.2 0) + 1) + 1) (((v >>> (8 &&& 31)).toInt8.toInt32).toInt8.toInt32)) 0 ((((s.2 0) + 1) + 1) + 1)) 0 ((((s.2 0) + 1) + 1) + 1) (((v >>> (0 &&& 31)).toInt8.toInt32).toInt8.toInt32)) 0 (((((s.2 0) + 1) + 1) + 1) + 1)) := by rw [md_putFour]
            rw [e] at h
            exact h _ hR8
          · exact absurd h_4_5 (by decide)
def md_feed (s : md_S) (a : Int32) (b : Int32) (c : Int32) (d : Int32) (e : Int32) : Int32 × md_S :=
  if ((s.2 0) + 20) ≤ 300 then
    ((md_putFour (md_putFour (md_putFour (md_putFour (md_putFour s a) b) c) d) e).2 0, (md_putFour (md_putFour (md_putFour (md_putFour (md_putFour s a) b) c) d) e))
  else
    ((-1), s)
def md_feed_ok (s : md_S) (a : Int32) (b : Int32) (c : Int32) (d : Int32) (e : Int32) : Prop :=
  if ((s.2 0) + 20) ≤ 300 then
    (md_putFour_ok s a) ∧ (md_putFour_ok (md_putFour s a) b) ∧ (md_putFour_ok (md_putFour (md_putFour s a) b) c) ∧ (md_putFour_ok (md_putFour (md_putFour (md_putFour s a) b) c) d) ∧ (md_putFour_ok (md_putFour (md_putFour (md_putFour (md_putFour s a) b) c) d) e) ∧ (
    True)
  else
    True
set_option maxHeartbeats 4000000 in
theorem k_feed {G : cy_G} {D : md_E} {s : md_S} {M : cy_Hp} {post : Option Value → cy_Hp → Prop} (hD : md_Eo G D) (hR : md_R D s M) (a : Int32) (b : Int32) (c : Int32) (d : Int32) (e : Int32) (ho : md_feed_ok s a b c d e) (h : ∀ M', md_R D (md_feed s a b c d e).2 M' → post (some (.int (md_feed s a b c d e).1)) M') : cy_Ct G 1 m_Model_feed [.ref D.2.2.2.1, .int a, .int b, .int c, .int d, .int e] M 0 0 post := by
  refine cy_Ct.of (by decide) (Nat.le_of_ble_eq_true rfl) ?_
  intro F C P _
  have C : cy_C G F R_Model b_Model_feed 6 1 0 0 := C
  have P : cy_P G F (some .int) post 0 0 := P
  unfold md_feed_ok at ho
  show WM G F 6 0 0 0 [(0, .ref D.2.2.2.1), (1, .int a), (2, .int b), (3, .int c), (4, .int d), (5, .int e)] [] M
  refine wm_aload_n C d_Model_feed_0 rfl (j := 0) rfl ?_
  refine wm_get C co_Model hR.1 1 (by decide) fl_Model_60 rfl d_Model_feed_1 ?_
  refine wm_bipush (v := 20) C d_Model_feed_4 (by decide) ?_
  refine wm_iadd C d_Model_feed_6 ?_
  refine wm_sipush (v := 300) C d_Model_feed_7 (by decide) ?_
  refine wm_icmp_le (tgt := 15) C d_Model_feed_10 (by decide) (fun (h_10 : ((s.2 0) + 20) ≤ 300) => ?_) (fun (h_10 : ¬ ((s.2 0) + 20) ≤ 300) => ?_)
  · rw [if_pos h_10] at ho
    refine wm_aload_n C d_Model_feed_15 rfl (j := 0) rfl ?_
    refine wm_iload_n C d_Model_feed_16 rfl (j := 1) rfl ?_
    refine wm_callV (d2 := 0) (mc := 0) (ms := 0) C mo_Model_putFour co_Model ml_Model_64 [.int a] [] rfl hR.1 rfl (by decide) (Nat.le_of_ble_eq_true rfl) (Nat.le_refl _) (Nat.le_refl _) d_Model_feed_17 (cy_kv ?_)
    obtain ⟨o1, ho⟩ := ho
    refine k_putFour hD hR _ o1 (fun M1 hR1 => ⟨rfl, ?_⟩)
    refine wm_aload_n C d_Model_feed_20 rfl (j := 0) rfl ?_
    refine wm_iload_n C d_Model_feed_21 rfl (j := 2) rfl ?_
    refine wm_callV (d2 := 0) (mc := 0) (ms := 0) C mo_Model_putFour co_Model ml_Model_64 [.int b] [] rfl hR1.1 rfl (by decide) (Nat.le_of_ble_eq_true rfl) (Nat.le_refl _) (Nat.le_refl _) d_Model_feed_22 (cy_kv ?_)
    obtain ⟨o2, ho⟩ := ho
    refine k_putFour hD hR1 _ o2 (fun M2 hR2 => ⟨rfl, ?_⟩)
    refine wm_aload_n C d_Model_feed_25 rfl (j := 0) rfl ?_
    refine wm_iload_n C d_Model_feed_26 rfl (j := 3) rfl ?_
    refine wm_callV (d2 := 0) (mc := 0) (ms := 0) C mo_Model_putFour co_Model ml_Model_64 [.int c] [] rfl hR2.1 rfl (by decide) (Nat.le_of_ble_eq_true rfl) (Nat.le_refl _) (Nat.le_refl _) d_Model_feed_27 (cy_kv ?_)
    obtain ⟨o3, ho⟩ := ho
    refine k_putFour hD hR2 _ o3 (fun M3 hR3 => ⟨rfl, ?_⟩)
    refine wm_aload_n C d_Model_feed_30 rfl (j := 0) rfl ?_
    refine wm_iload C d_Model_feed_31 (j := 4) rfl ?_
    refine wm_callV (d2 := 0) (mc := 0) (ms := 0) C mo_Model_putFour co_Model ml_Model_64 [.int d] [] rfl hR3.1 rfl (by decide) (Nat.le_of_ble_eq_true rfl) (Nat.le_refl _) (Nat.le_refl _) d_Model_feed_33 (cy_kv ?_)
    obtain ⟨o4, ho⟩ := ho
    refine k_putFour hD hR3 _ o4 (fun M4 hR4 => ⟨rfl, ?_⟩)
    refine wm_aload_n C d_Model_feed_36 rfl (j := 0) rfl ?_
    refine wm_iload C d_Model_feed_37 (j := 5) rfl ?_
    refine wm_callV (d2 := 0) (mc := 0) (ms := 0) C mo_Model_putFour co_Model ml_Model_64 [.int e] [] rfl hR4.1 rfl (by decide) (Nat.le_of_ble_eq_true rfl) (Nat.le_refl _) (Nat.le_refl _) d_Model_feed_39 (cy_kv ?_)
    obtain ⟨o5, ho⟩ := ho
    refine k_putFour hD hR4 _ o5 (fun M5 hR5 => ⟨rfl, ?_⟩)
    refine wm_aload_n C d_Model_feed_42 rfl (j := 0) rfl ?_
    refine wm_get C co_Model hR5.1 1 (by decide) fl_Model_60 rfl d_Model_feed_43 ?_
    refine wm_iret C P d_Model_feed_46 ?_
    have e : md_feed s a b c d e = ((md_putFour (md_putFour (md_putFour (md_putFour (md_putFour s a) b) c) d) e).2 0, (md_putFour (md_putFour (md_putFour (md_putFour (md_putFour s a) b) c) d) e)) := by rw [md_feed, if_pos h_10]
    rw [e] at h
    exact h _ hR5
  · rw [if_neg h_10] at ho
    refine wm_iconst (v := -1) C d_Model_feed_13 (by decide) ?_
    refine wm_iret C P d_Model_feed_14 ?_
    have e : md_feed s a b c d e = ((-1), s) := by rw [md_feed, if_neg h_10]
    rw [e] at h
    exact h _ hR
def md_end (s : md_S) (n : Int32) : Int32 × md_S :=
  if n < 0 then
    ((-1), s)
  else
    if n ≤ (s.2 0) then
      (n, (md_ss s 0 n))
    else
      ((-1), s)
set_option maxHeartbeats 4000000 in
theorem k_end {G : cy_G} {D : md_E} {s : md_S} {M : cy_Hp} {post : Option Value → cy_Hp → Prop} (hD : md_Eo G D) (hR : md_R D s M) (n : Int32)  (h : ∀ M', md_R D (md_end s n).2 M' → post (some (.int (md_end s n).1)) M') : cy_Ct G 0 m_Model_end [.ref D.2.2.2.1, .int n] M 0 0 post := by
  refine cy_Ct.of (by decide) (Nat.le_of_ble_eq_true rfl) ?_
  intro F C P _
  have C : cy_C G F R_Model b_Model_end 2 0 0 0 := C
  have P : cy_P G F (some .int) post 0 0 := P
  show WM G F 2 0 0 0 [(0, .ref D.2.2.2.1), (1, .int n)] [] M
  refine wm_iload_n C d_Model_end_0 rfl (j := 1) rfl ?_
  refine wm_if_lt (tgt := 12) C d_Model_end_1 (by decide) (fun (h_1 : n < 0) => ?_) (fun (h_1 : ¬ n < 0) => ?_)
  · refine wm_iconst (v := -1) C d_Model_end_12 (by decide) ?_
    refine wm_iret C P d_Model_end_13 ?_
    have e : md_end s n = ((-1), s) := by rw [md_end, if_pos h_1]
    rw [e] at h
    exact h _ hR
  · refine wm_iload_n C d_Model_end_4 rfl (j := 1) rfl ?_
    refine wm_aload_n C d_Model_end_5 rfl (j := 0) rfl ?_
    refine wm_get C co_Model hR.1 1 (by decide) fl_Model_60 rfl d_Model_end_6 ?_
    refine wm_icmp_le (tgt := 14) C d_Model_end_9 (by decide) (fun (h_9 : n ≤ (s.2 0)) => ?_) (fun (h_9 : ¬ n ≤ (s.2 0)) => ?_)
    · refine wm_aload_n C d_Model_end_14 rfl (j := 0) rfl ?_
      refine wm_iload_n C d_Model_end_15 rfl (j := 1) rfl ?_
      refine wm_put C co_Model hR.1 1 (by decide) fl_Model_60 rfl rfl rfl (Nat.le_of_ble_eq_true rfl) d_Model_end_16 ?_
      refine md_gen (md_R_ss hR 0 n) (fun M1 hR1 => ?_)
      refine wm_iload_n C d_Model_end_19 rfl (j := 1) rfl ?_
      refine wm_iret C P d_Model_end_20 ?_
      have e : md_end s n = (n, (md_ss s 0 n)) := by rw [md_end, if_neg h_1, if_pos h_9]
      rw [e] at h
      exact h _ hR1
    · refine wm_iconst (v := -1) C d_Model_end_12 (by decide) ?_
      refine wm_iret C P d_Model_end_13 ?_
      have e : md_end s n = ((-1), s) := by rw [md_end, if_neg h_1, if_neg h_9]
      rw [e] at h
      exact h _ hR
def md_poke (s : md_S) (i : Int32) (v : Int32) : Int32 × md_S :=
  if i < 0 then
    ((-1), s)
  else
    if i < (s.2 0) then
      ((s.1 0 i.toNatClampNeg) &&& 255, (md_sa s 0 i v.toInt8.toInt32.toInt8.toInt32))
    else
      ((-1), s)
def md_poke_ok (s : md_S) (i : Int32) (v : Int32) : Prop :=
  if i < 0 then
    True
  else
    if i < (s.2 0) then
      (vp_in i 300) ∧ (vp_in i 300) ∧ (
      True)
    else
      True
set_option maxHeartbeats 4000000 in
theorem k_poke {G : cy_G} {D : md_E} {s : md_S} {M : cy_Hp} {post : Option Value → cy_Hp → Prop} (hD : md_Eo G D) (hR : md_R D s M) (i : Int32) (v : Int32) (ho : md_poke_ok s i v) (h : ∀ M', md_R D (md_poke s i v).2 M' → post (some (.int (md_poke s i v).1)) M') : cy_Ct G 0 m_Model_poke [.ref D.2.2.2.1, .int i, .int v] M 0 0 post := by
  refine cy_Ct.of (by decide) (Nat.le_of_ble_eq_true rfl) ?_
  intro F C P _
  have C : cy_C G F R_Model b_Model_poke 4 0 0 0 := C
  have P : cy_P G F (some .int) post 0 0 := P
  unfold md_poke_ok at ho
  show WM G F 4 0 0 0 [(0, .ref D.2.2.2.1), (1, .int i), (2, .int v)] [] M
  refine wm_iload_n C d_Model_poke_0 rfl (j := 1) rfl ?_
  refine wm_if_lt (tgt := 12) C d_Model_poke_1 (by decide) (fun (h_1 : i < 0) => ?_) (fun (h_1 : ¬ i < 0) => ?_)
  · rw [if_pos h_1] at ho
    refine wm_iconst (v := -1) C d_Model_poke_12 (by decide) ?_
    refine wm_iret C P d_Model_poke_13 ?_
    have e : md_poke s i v = ((-1), s) := by rw [md_poke, if_pos h_1]
    rw [e] at h
    exact h _ hR
  · rw [if_neg h_1] at ho
    refine wm_iload_n C d_Model_poke_4 rfl (j := 1) rfl ?_
    refine wm_aload_n C d_Model_poke_5 rfl (j := 0) rfl ?_
    refine wm_get C co_Model hR.1 1 (by decide) fl_Model_60 rfl d_Model_poke_6 ?_
    refine wm_icmp_lt (tgt := 14) C d_Model_poke_9 (by decide) (fun (h_9 : i < (s.2 0)) => ?_) (fun (h_9 : ¬ i < (s.2 0)) => ?_)
    · rw [if_pos h_9] at ho
      refine wm_aload_n C d_Model_poke_14 rfl (j := 0) rfl ?_
      refine wm_get C co_Model hR.1 0 (by decide) fl_Model_7 rfl d_Model_poke_15 ?_
      refine wm_iload_n C d_Model_poke_18 rfl (j := 1) rfl ?_
      obtain ⟨o1, ho⟩ := ho
      refine wm_bald C (md_arr hR 0 (by decide)) hD.2.1 o1 d_Model_poke_19 ?_
      refine wm_sipush (v := 255) C d_Model_poke_20 (by decide) ?_
      refine wm_iand C d_Model_poke_23 ?_
      refine wm_istore_n (lv' := [(3, .int ((s.1 0 i.toNatClampNeg) &&& 255)), (0, .ref D.2.2.2.1), (1, .int i), (2, .int v)]) C d_Model_poke_24 rfl (by decide) rfl ?_
      refine wm_aload_n C d_Model_poke_25 rfl (j := 1) rfl ?_
      refine wm_get C co_Model hR.1 0 (by decide) fl_Model_7 rfl d_Model_poke_26 ?_
      refine wm_iload_n C d_Model_poke_29 rfl (j := 2) rfl ?_
      refine wm_iload_n C d_Model_poke_30 rfl (j := 3) rfl ?_
      refine wm_i2b C d_Model_poke_31 rfl ?_
      obtain ⟨o2, ho⟩ := ho
      refine wm_bast C (md_arr hR 0 (by decide)) hD.2.1 o2 d_Model_poke_32 ?_
      refine md_gen (md_R_sa hR (a := 0) (by decide) i v.toInt8.toInt32.toInt8.toInt32) (fun M1 hR1 => ?_)
      refine wm_iload_n C d_Model_poke_33 rfl (j := 0) rfl ?_
      refine wm_iret C P d_Model_poke_34 ?_
      have e : md_poke s i v = ((s.1 0 i.toNatClampNeg) &&& 255, (md_sa s 0 i v.toInt8.toInt32.toInt8.toInt32)) := by rw [md_poke, if_neg h_1, if_pos h_9]
      rw [e] at h
      exact h _ hR1
    · rw [if_neg h_9] at ho
      refine wm_iconst (v := -1) C d_Model_poke_12 (by decide) ?_
      refine wm_iret C P d_Model_poke_13 ?_
      have e : md_poke s i v = ((-1), s) := by rw [md_poke, if_neg h_1, if_neg h_9]
      rw [e] at h
      exact h _ hR
def md_at (s : md_S) (p : Int32) : Int32 :=
  (s.1 0 p.toNatClampNeg) &&& 255
def md_at_ok (s : md_S) (p : Int32) : Prop :=
  (vp_in p 300) ∧ (
  True)
set_option maxHeartbeats 4000000 in
theorem k_at {G : cy_G} {D : md_E} {s : md_S} {M : cy_Hp} {post : Option Value → cy_Hp → Prop} (hD : md_Eo G D) (hR : md_R D s M) (p : Int32) (ho : md_at_ok s p) (h : post (some (.int (md_at s p))) M) : cy_Ct G 0 m_Model_at [.ref D.2.2.2.1, .int p] M 0 0 post := by
  refine cy_Ct.of (by decide) (Nat.le_of_ble_eq_true rfl) ?_
  intro F C P _
  have C : cy_C G F R_Model b_Model_at 2 0 0 0 := C
  have P : cy_P G F (some .int) post 0 0 := P
  unfold md_at_ok at ho
  show WM G F 2 0 0 0 [(0, .ref D.2.2.2.1), (1, .int p)] [] M
  refine wm_aload_n C d_Model_at_0 rfl (j := 0) rfl ?_
  refine wm_get C co_Model hR.1 0 (by decide) fl_Model_7 rfl d_Model_at_1 ?_
  refine wm_iload_n C d_Model_at_4 rfl (j := 1) rfl ?_
  obtain ⟨o1, ho⟩ := ho
  refine wm_bald C (md_arr hR 0 (by decide)) hD.2.1 o1 d_Model_at_5 ?_
  refine wm_sipush (v := 255) C d_Model_at_6 (by decide) ?_
  refine wm_iand C d_Model_at_9 ?_
  refine wm_iret C P d_Model_at_10 ?_
  have e : md_at s p = (s.1 0 p.toNatClampNeg) &&& 255 := by rw [md_at]
  rw [e] at h
  exact h
def md_bad (s : md_S) (number : Int32) (place : Int32) : md_S :=
  if (s.2 2) ≤ 0 then
    (md_ss (md_ss s 2 number) 3 place)
  else
    s
set_option maxHeartbeats 4000000 in
theorem k_bad {G : cy_G} {D : md_E} {s : md_S} {M : cy_Hp} {post : Option Value → cy_Hp → Prop} (hD : md_Eo G D) (hR : md_R D s M) (number : Int32) (place : Int32)  (h : ∀ M', md_R D (md_bad s number place) M' → post none M') : cy_Ct G 0 m_Model_bad [.ref D.2.2.2.1, .int number, .int place] M 0 0 post := by
  refine cy_Ct.of (by decide) (Nat.le_of_ble_eq_true rfl) ?_
  intro F C P _
  have C : cy_C G F R_Model b_Model_bad 3 0 0 0 := C
  have P : cy_P G F none post 0 0 := P
  show WM G F 3 0 0 0 [(0, .ref D.2.2.2.1), (1, .int number), (2, .int place)] [] M
  refine wm_aload_n C d_Model_bad_0 rfl (j := 0) rfl ?_
  refine wm_get C co_Model hR.1 11 (by decide) fl_Model_68 rfl d_Model_bad_1 ?_
  refine wm_if_le (tgt := 8) C d_Model_bad_4 (by decide) (fun (h_4 : (s.2 2) ≤ 0) => ?_) (fun (h_4 : ¬ (s.2 2) ≤ 0) => ?_)
  · refine wm_aload_n C d_Model_bad_8 rfl (j := 0) rfl ?_
    refine wm_iload_n C d_Model_bad_9 rfl (j := 1) rfl ?_
    refine wm_put C co_Model hR.1 11 (by decide) fl_Model_68 rfl rfl rfl (Nat.le_of_ble_eq_true rfl) d_Model_bad_10 ?_
    refine md_gen (md_R_ss hR 2 number) (fun M1 hR1 => ?_)
    refine wm_aload_n C d_Model_bad_13 rfl (j := 0) rfl ?_
    refine wm_iload_n C d_Model_bad_14 rfl (j := 2) rfl ?_
    refine wm_put C co_Model hR1.1 12 (by decide) fl_Model_71 rfl rfl rfl (Nat.le_of_ble_eq_true rfl) d_Model_bad_15 ?_
    refine md_gen (md_R_ss hR1 3 place) (fun M2 hR2 => ?_)
    refine wm_vret C P d_Model_bad_18 ?_
    have e : md_bad s number place = (md_ss (md_ss s 2 number) 3 place) := by rw [md_bad, if_pos h_4]
    rw [e] at h
    exact h _ hR2
  · refine wm_vret C P d_Model_bad_7 ?_
    have e : md_bad s number place = s := by rw [md_bad, if_neg h_4]
    rw [e] at h
    exact h _ hR
def md_hasOperand (op : Int32) : Int32 :=
  if op ≤ 4 then
    1
  else
    if op < 16 then
      if op = 27 then
        1
      else
        0
    else
      if op ≤ 18 then
        1
      else
        if op = 27 then
          1
        else
          0
set_option maxHeartbeats 4000000 in
theorem k_hasOperand {G : cy_G} {D : md_E} {s : md_S} {M : cy_Hp} {post : Option Value → cy_Hp → Prop} (hD : md_Eo G D) (hR : md_R D s M) (op : Int32)  (h : post (some (.int (md_hasOperand op))) M) : cy_Ct G 0 m_Model_hasOperand [.int op] M 0 0 post := by
  refine cy_Ct.of (by decide) (Nat.le_of_ble_eq_true rfl) ?_
  intro F C P _
  have C : cy_C G F R_Model b_Model_hasOperand 1 0 0 0 := C
  have P : cy_P G F (some .boolean) post 0 0 := P
  show WM G F 1 0 0 0 [(0, .int op)] [] M
  refine wm_iload_n C d_Model_hasOperand_0 rfl (j := 0) rfl ?_
  refine wm_iconst (v := 4) C d_Model_hasOperand_1 (by decide) ?_
  refine wm_icmp_le (tgt := 23) C d_Model_hasOperand_2 (by decide) (fun (h_2 : op ≤ 4) => ?_) (fun (h_2 : ¬ op ≤ 4) => ?_)
  · refine wm_iconst (v := 1) C d_Model_hasOperand_23 (by decide) ?_
    refine wm_goto (tgt := 28) C d_Model_hasOperand_24 (by decide) ?_
    refine wm_zret C P rfl d_Model_hasOperand_28 ?_
    have e : md_hasOperand op = 1 := by rw [md_hasOperand, if_pos h_2]
    rw [e] at h
    exact h
  · refine wm_iload_n C d_Model_hasOperand_5 rfl (j := 0) rfl ?_
    refine wm_bipush (v := 16) C d_Model_hasOperand_6 (by decide) ?_
    refine wm_icmp_lt (tgt := 17) C d_Model_hasOperand_8 (by decide) (fun (h_8 : op < 16) => ?_) (fun (h_8 : ¬ op < 16) => ?_)
    · refine wm_iload_n C d_Model_hasOperand_17 rfl (j := 0) rfl ?_
      refine wm_bipush (v := 27) C d_Model_hasOperand_18 (by decide) ?_
      refine wm_icmp_ne (tgt := 27) C d_Model_hasOperand_20 (by decide) (fun (h_20 : ¬ op = 27) => ?_) (fun (h_20 : op = 27) => ?_)
      · refine wm_iconst (v := 0) C d_Model_hasOperand_27 (by decide) ?_
        refine wm_zret C P rfl d_Model_hasOperand_28 ?_
        have e : md_hasOperand op = 0 := by rw [md_hasOperand, if_neg h_2, if_pos h_8, if_neg h_20]
        rw [e] at h
        exact h
      · refine wm_iconst (v := 1) C d_Model_hasOperand_23 (by decide) ?_
        refine wm_goto (tgt := 28) C d_Model_hasOperand_24 (by decide) ?_
        refine wm_zret C P rfl d_Model_hasOperand_28 ?_
        have e : md_hasOperand op = 1 := by rw [md_hasOperand, if_neg h_2, if_pos h_8, if_pos h_20]
        rw [e] at h
        exact h
    · refine wm_iload_n C d_Model_hasOperand_11 rfl (j := 0) rfl ?_
      refine wm_bipush (v := 18) C d_Model_hasOperand_12 (by decide) ?_
      refine wm_icmp_le (tgt := 23) C d_Model_hasOperand_14 (by decide) (fun (h_14 : op ≤ 18) => ?_) (fun (h_14 : ¬ op ≤ 18) => ?_)
      · refine wm_iconst (v := 1) C d_Model_hasOperand_23 (by decide) ?_
        refine wm_goto (tgt := 28) C d_Model_hasOperand_24 (by decide) ?_
        refine wm_zret C P rfl d_Model_hasOperand_28 ?_
        have e : md_hasOperand op = 1 := by rw [md_hasOperand, if_neg h_2, if_neg h_8, if_pos h_14]
        rw [e] at h
        exact h
      · refine wm_iload_n C d_Model_hasOperand_17 rfl (j := 0) rfl ?_
        refine wm_bipush (v := 27) C d_Model_hasOperand_18 (by decide) ?_
        refine wm_icmp_ne (tgt := 27) C d_Model_hasOperand_20 (by decide) (fun (h_20_5 : ¬ op = 27) => ?_) (fun (h_20_5 : op = 27) => ?_)
        · refine wm_iconst (v := 0) C d_Model_hasOperand_27 (by decide) ?_
          refine wm_zret C P rfl d_Model_hasOperand_28 ?_
          have e : md_hasOperand op = 0 := by rw [md_hasOperand, if_neg h_2, if_neg h_8, if_neg h_14, if_neg h_20_5]
          rw [e] at h
          exact h
        · refine wm_iconst (v := 1) C d_Model_hasOperand_23 (by decide) ?_
          refine wm_goto (tgt := 28) C d_Model_hasOperand_24 (by decide) ?_
          refine wm_zret C P rfl d_Model_hasOperand_28 ?_
          have e : md_hasOperand op = 1 := by rw [md_hasOperand, if_neg h_2, if_neg h_8, if_neg h_14, if_pos h_20_5]
          rw [e] at h
          exact h
def md_takes (op : Int32) : Int32 :=
  if op = 0 then
    0
  else
    if op = 1 then
      0
    else
      if op = 2 then
        1
      else
        if op = 3 then
          0
        else
          if op = 4 then
            1
          else
            if op = 5 then
              2
            else
              if op = 6 then
                2
              else
                if op = 7 then
                  2
                else
                  if op = 8 then
                    2
                  else
                    if op = 9 then
                      2
                    else
                      if op = 10 then
                        2
                      else
                        if op = 11 then
                          2
                        else
                          if op = 12 then
                            2
                          else
                            if op = 13 then
                              1
                            else
                              if op = 14 then
                                1
                              else
                                if op = 15 then
                                  2
                                else
                                  if op = 16 then
                                    0
                                  else
                                    if op = 17 then
                                      1
                                    else
                                      if op = 18 then
                                        2
                                      else
                                        if op = 19 then
                                          1
                                        else
                                          if op = 20 then
                                            0
                                          else
                                            if op = 21 then
                                              1
                                            else
                                              if op = 22 then
                                                1
                                              else
                                                if op = 23 then
                                                  0
                                                else
                                                  if op = 24 then
                                                    0
                                                  else
                                                    if op = 25 then
                                                      2
                                                    else
                                                      if op = 26 then
                                                        2
                                                      else
                                                        if op = 27 then
                                                          0
                                                        else
                                                          2
set_option maxHeartbeats 4000000 in
theorem k_takes {G : cy_G} {D : md_E} {s : md_S} {M : cy_Hp} {post : Option Value → cy_Hp → Prop} (hD : md_Eo G D) (hR : md_R D s M) (op : Int32)  (h : post (some (.int (md_takes op))) M) : cy_Ct G 0 m_Model_takes [.int op] M 0 0 post := by
  refine cy_Ct.of (by decide) (Nat.le_of_ble_eq_true rfl) ?_
  intro F C P _
  have C : cy_C G F R_Model b_Model_takes 1 0 0 0 := C
  have P : cy_P G F (some .int) post 0 0 := P
  show WM G F 1 0 0 0 [(0, .int op)] [] M
  refine wm_iload_n C d_Model_takes_0 rfl (j := 0) rfl ?_
  by_cases e_1_0 : op = 0
  · refine wm_tableIn (tgt := 128) C d_Model_takes_1 (by rw [e_1_0]; decide) (by rw [e_1_0]; decide) (by rw [e_1_0]; rfl) (by decide) ?_
    refine wm_iconst (v := 0) C d_Model_takes_128 (by decide) ?_
    refine wm_iret C P d_Model_takes_129 ?_
    have e : md_takes op = 0 := by rw [md_takes, if_pos e_1_0]
    rw [e] at h
    exact h
  by_cases e_1_1 : op = 1
  · refine wm_tableIn (tgt := 128) C d_Model_takes_1 (by rw [e_1_1]; decide) (by rw [e_1_1]; decide) (by rw [e_1_1]; rfl) (by decide) ?_
    refine wm_iconst (v := 0) C d_Model_takes_128 (by decide) ?_
    refine wm_iret C P d_Model_takes_129 ?_
    have e : md_takes op = 0 := by rw [md_takes, if_neg e_1_0, if_pos e_1_1]
    rw [e] at h
    exact h
  by_cases e_1_2 : op = 2
  · refine wm_tableIn (tgt := 130) C d_Model_takes_1 (by rw [e_1_2]; decide) (by rw [e_1_2]; decide) (by rw [e_1_2]; rfl) (by decide) ?_
    refine wm_iconst (v := 1) C d_Model_takes_130 (by decide) ?_
    refine wm_iret C P d_Model_takes_131 ?_
    have e : md_takes op = 1 := by rw [md_takes, if_neg e_1_0, if_neg e_1_1, if_pos e_1_2]
    rw [e] at h
    exact h
  by_cases e_1_3 : op = 3
  · refine wm_tableIn (tgt := 128) C d_Model_takes_1 (by rw [e_1_3]; decide) (by rw [e_1_3]; decide) (by rw [e_1_3]; rfl) (by decide) ?_
    refine wm_iconst (v := 0) C d_Model_takes_128 (by decide) ?_
    refine wm_iret C P d_Model_takes_129 ?_
    have e : md_takes op = 0 := by rw [md_takes, if_neg e_1_0, if_neg e_1_1, if_neg e_1_2, if_pos e_1_3]
    rw [e] at h
    exact h
  by_cases e_1_4 : op = 4
  · refine wm_tableIn (tgt := 130) C d_Model_takes_1 (by rw [e_1_4]; decide) (by rw [e_1_4]; decide) (by rw [e_1_4]; rfl) (by decide) ?_
    refine wm_iconst (v := 1) C d_Model_takes_130 (by decide) ?_
    refine wm_iret C P d_Model_takes_131 ?_
    have e : md_takes op = 1 := by rw [md_takes, if_neg e_1_0, if_neg e_1_1, if_neg e_1_2, if_neg e_1_3, if_pos e_1_4]
    rw [e] at h
    exact h
  by_cases e_1_5 : op = 5
  · refine wm_tableIn (tgt := 132) C d_Model_takes_1 (by rw [e_1_5]; decide) (by rw [e_1_5]; decide) (by rw [e_1_5]; rfl) (by decide) ?_
    refine wm_iconst (v := 2) C d_Model_takes_132 (by decide) ?_
    refine wm_iret C P d_Model_takes_133 ?_
    have e : md_takes op = 2 := by rw [md_takes, if_neg e_1_0, if_neg e_1_1, if_neg e_1_2, if_neg e_1_3, if_neg e_1_4, if_pos e_1_5]
    rw [e] at h
    exact h
  by_cases e_1_6 : op = 6
  · refine wm_tableIn (tgt := 132) C d_Model_takes_1 (by rw [e_1_6]; decide) (by rw [e_1_6]; decide) (by rw [e_1_6]; rfl) (by decide) ?_
    refine wm_iconst (v := 2) C d_Model_takes_132 (by decide) ?_
    refine wm_iret C P d_Model_takes_133 ?_
    have e : md_takes op = 2 := by rw [md_takes, if_neg e_1_0, if_neg e_1_1, if_neg e_1_2, if_neg e_1_3, if_neg e_1_4, if_neg e_1_5, if_pos e_1_6]
    rw [e] at h
    exact h
  by_cases e_1_7 : op = 7
  · refine wm_tableIn (tgt := 132) C d_Model_takes_1 (by rw [e_1_7]; decide) (by rw [e_1_7]; decide) (by rw [e_1_7]; rfl) (by decide) ?_
    refine wm_iconst (v := 2) C d_Model_takes_132 (by decide) ?_
    refine wm_iret C P d_Model_takes_133 ?_
    have e : md_takes op = 2 := by rw [md_takes, if_neg e_1_0, if_neg e_1_1, if_neg e_1_2, if_neg e_1_3, if_neg e_1_4, if_neg e_1_5, if_neg e_1_6, if_pos e_1_7]
    rw [e] at h
    exact h
  by_cases e_1_8 : op = 8
  · refine wm_tableIn (tgt := 132) C d_Model_takes_1 (by rw [e_1_8]; decide) (by rw [e_1_8]; decide) (by rw [e_1_8]; rfl) (by decide) ?_
    refine wm_iconst (v := 2) C d_Model_takes_132 (by decide) ?_
    refine wm_iret C P d_Model_takes_133 ?_
    have e : md_takes op = 2 := by rw [md_takes, if_neg e_1_0, if_neg e_1_1, if_neg e_1_2, if_neg e_1_3, if_neg e_1_4, if_neg e_1_5, if_neg e_1_6, if_neg e_1_7, if_pos e_1_8]
    rw [e] at h
    exact h
  by_cases e_1_9 : op = 9
  · refine wm_tableIn (tgt := 132) C d_Model_takes_1 (by rw [e_1_9]; decide) (by rw [e_1_9]; decide) (by rw [e_1_9]; rfl) (by decide) ?_
    refine wm_iconst (v := 2) C d_Model_takes_132 (by decide) ?_
    refine wm_iret C P d_Model_takes_133 ?_
    have e : md_takes op = 2 := by rw [md_takes, if_neg e_1_0, if_neg e_1_1, if_neg e_1_2, if_neg e_1_3, if_neg e_1_4, if_neg e_1_5, if_neg e_1_6, if_neg e_1_7, if_neg e_1_8, if_pos e_1_9]
    rw [e] at h
    exact h
  by_cases e_1_10 : op = 10
  · refine wm_tableIn (tgt := 132) C d_Model_takes_1 (by rw [e_1_10]; decide) (by rw [e_1_10]; decide) (by rw [e_1_10]; rfl) (by decide) ?_
    refine wm_iconst (v := 2) C d_Model_takes_132 (by decide) ?_
    refine wm_iret C P d_Model_takes_133 ?_
    have e : md_takes op = 2 := by rw [md_takes, if_neg e_1_0, if_neg e_1_1, if_neg e_1_2, if_neg e_1_3, if_neg e_1_4, if_neg e_1_5, if_neg e_1_6, if_neg e_1_7, if_neg e_1_8, if_neg e_1_9, if_pos e_1_10]
    rw [e] at h
    exact h
  by_cases e_1_11 : op = 11
  · refine wm_tableIn (tgt := 132) C d_Model_takes_1 (by rw [e_1_11]; decide) (by rw [e_1_11]; decide) (by rw [e_1_11]; rfl) (by decide) ?_
    refine wm_iconst (v := 2) C d_Model_takes_132 (by decide) ?_
    refine wm_iret C P d_Model_takes_133 ?_
    have e : md_takes op = 2 := by rw [md_takes, if_neg e_1_0, if_neg e_1_1, if_neg e_1_2, if_neg e_1_3, if_neg e_1_4, if_neg e_1_5, if_neg e_1_6, if_neg e_1_7, if_neg e_1_8, if_neg e_1_9, if_neg e_1_10, if_pos e_1_11]
    rw [e] at h
    exact h
  by_cases e_1_12 : op = 12
  · refine wm_tableIn (tgt := 132) C d_Model_takes_1 (by rw [e_1_12]; decide) (by rw [e_1_12]; decide) (by rw [e_1_12]; rfl) (by decide) ?_
    refine wm_iconst (v := 2) C d_Model_takes_132 (by decide) ?_
    refine wm_iret C P d_Model_takes_133 ?_
    have e : md_takes op = 2 := by rw [md_takes, if_neg e_1_0, if_neg e_1_1, if_neg e_1_2, if_neg e_1_3, if_neg e_1_4, if_neg e_1_5, if_neg e_1_6, if_neg e_1_7, if_neg e_1_8, if_neg e_1_9, if_neg e_1_10, if_neg e_1_11, if_pos e_1_12]
    rw [e] at h
    exact h
  by_cases e_1_13 : op = 13
  · refine wm_tableIn (tgt := 130) C d_Model_takes_1 (by rw [e_1_13]; decide) (by rw [e_1_13]; decide) (by rw [e_1_13]; rfl) (by decide) ?_
    refine wm_iconst (v := 1) C d_Model_takes_130 (by decide) ?_
    refine wm_iret C P d_Model_takes_131 ?_
    have e : md_takes op = 1 := by rw [md_takes, if_neg e_1_0, if_neg e_1_1, if_neg e_1_2, if_neg e_1_3, if_neg e_1_4, if_neg e_1_5, if_neg e_1_6, if_neg e_1_7, if_neg e_1_8, if_neg e_1_9, if_neg e_1_10, if_neg e_1_11, if_neg e_1_12, if_pos e_1_13]
    rw [e] at h
    exact h
  by_cases e_1_14 : op = 14
  · refine wm_tableIn (tgt := 130) C d_Model_takes_1 (by rw [e_1_14]; decide) (by rw [e_1_14]; decide) (by rw [e_1_14]; rfl) (by decide) ?_
    refine wm_iconst (v := 1) C d_Model_takes_130 (by decide) ?_
    refine wm_iret C P d_Model_takes_131 ?_
    have e : md_takes op = 1 := by rw [md_takes, if_neg e_1_0, if_neg e_1_1, if_neg e_1_2, if_neg e_1_3, if_neg e_1_4, if_neg e_1_5, if_neg e_1_6, if_neg e_1_7, if_neg e_1_8, if_neg e_1_9, if_neg e_1_10, if_neg e_1_11, if_neg e_1_12, if_neg e_1_13, if_pos e_1_14]
    rw [e] at h
    exact h
  by_cases e_1_15 : op = 15
  · refine wm_tableIn (tgt := 132) C d_Model_takes_1 (by rw [e_1_15]; decide) (by rw [e_1_15]; decide) (by rw [e_1_15]; rfl) (by decide) ?_
    refine wm_iconst (v := 2) C d_Model_takes_132 (by decide) ?_
    refine wm_iret C P d_Model_takes_133 ?_
    have e : md_takes op = 2 := by rw [md_takes, if_neg e_1_0, if_neg e_1_1, if_neg e_1_2, if_neg e_1_3, if_neg e_1_4, if_neg e_1_5, if_neg e_1_6, if_neg e_1_7, if_neg e_1_8, if_neg e_1_9, if_neg e_1_10, if_neg e_1_11, if_neg e_1_12, if_neg e_1_13, if_neg e_1_14, if_pos e_1_15]
    rw [e] at h
    exact h
  by_cases e_1_16 : op = 16
  · refine wm_tableIn (tgt := 128) C d_Model_takes_1 (by rw [e_1_16]; decide) (by rw [e_1_16]; decide) (by rw [e_1_16]; rfl) (by decide) ?_
    refine wm_iconst (v := 0) C d_Model_takes_128 (by decide) ?_
    refine wm_iret C P d_Model_takes_129 ?_
    have e : md_takes op = 0 := by rw [md_takes, if_neg e_1_0, if_neg e_1_1, if_neg e_1_2, if_neg e_1_3, if_neg e_1_4, if_neg e_1_5, if_neg e_1_6, if_neg e_1_7, if_neg e_1_8, if_neg e_1_9, if_neg e_1_10, if_neg e_1_11, if_neg e_1_12, if_neg e_1_13, if_neg e_1_14, if_neg e_1_15, if_pos e_1_16]
    rw [e] at h
    exact h
  by_cases e_1_17 : op = 17
  · refine wm_tableIn (tgt := 130) C d_Model_takes_1 (by rw [e_1_17]; decide) (by rw [e_1_17]; decide) (by rw [e_1_17]; rfl) (by decide) ?_
    refine wm_iconst (v := 1) C d_Model_takes_130 (by decide) ?_
    refine wm_iret C P d_Model_takes_131 ?_
    have e : md_takes op = 1 := by rw [md_takes, if_neg e_1_0, if_neg e_1_1, if_neg e_1_2, if_neg e_1_3, if_neg e_1_4, if_neg e_1_5, if_neg e_1_6, if_neg e_1_7, if_neg e_1_8, if_neg e_1_9, if_neg e_1_10, if_neg e_1_11, if_neg e_1_12, if_neg e_1_13, if_neg e_1_14, if_neg e_1_15, if_neg e_1_16, if_pos e_1_17]
    rw [e] at h
    exact h
  by_cases e_1_18 : op = 18
  · refine wm_tableIn (tgt := 132) C d_Model_takes_1 (by rw [e_1_18]; decide) (by rw [e_1_18]; decide) (by rw [e_1_18]; rfl) (by decide) ?_
    refine wm_iconst (v := 2) C d_Model_takes_132 (by decide) ?_
    refine wm_iret C P d_Model_takes_133 ?_
    have e : md_takes op = 2 := by rw [md_takes, if_neg e_1_0, if_neg e_1_1, if_neg e_1_2, if_neg e_1_3, if_neg e_1_4, if_neg e_1_5, if_neg e_1_6, if_neg e_1_7, if_neg e_1_8, if_neg e_1_9, if_neg e_1_10, if_neg e_1_11, if_neg e_1_12, if_neg e_1_13, if_neg e_1_14, if_neg e_1_15, if_neg e_1_16, if_neg e_1_17, if_pos e_1_18]
    rw [e] at h
    exact h
  by_cases e_1_19 : op = 19
  · refine wm_tableIn (tgt := 130) C d_Model_takes_1 (by rw [e_1_19]; decide) (by rw [e_1_19]; decide) (by rw [e_1_19]; rfl) (by decide) ?_
    refine wm_iconst (v := 1) C d_Model_takes_130 (by decide) ?_
    refine wm_iret C P d_Model_takes_131 ?_
    have e : md_takes op = 1 := by rw [md_takes, if_neg e_1_0, if_neg e_1_1, if_neg e_1_2, if_neg e_1_3, if_neg e_1_4, if_neg e_1_5, if_neg e_1_6, if_neg e_1_7, if_neg e_1_8, if_neg e_1_9, if_neg e_1_10, if_neg e_1_11, if_neg e_1_12, if_neg e_1_13, if_neg e_1_14, if_neg e_1_15, if_neg e_1_16, if_neg e_1_17, if_neg e_1_18, if_pos e_1_19]
    rw [e] at h
    exact h
  by_cases e_1_20 : op = 20
  · refine wm_tableIn (tgt := 128) C d_Model_takes_1 (by rw [e_1_20]; decide) (by rw [e_1_20]; decide) (by rw [e_1_20]; rfl) (by decide) ?_
    refine wm_iconst (v := 0) C d_Model_takes_128 (by decide) ?_
    refine wm_iret C P d_Model_takes_129 ?_
    have e : md_takes op = 0 := by rw [md_takes, if_neg e_1_0, if_neg e_1_1, if_neg e_1_2, if_neg e_1_3, if_neg e_1_4, if_neg e_1_5, if_neg e_1_6, if_neg e_1_7, if_neg e_1_8, if_neg e_1_9, if_neg e_1_10, if_neg e_1_11, if_neg e_1_12, if_neg e_1_13, if_neg e_1_14, if_neg e_1_15, if_neg e_1_16, if_neg e_1_17, if_neg e_1_18, if_neg e_1_19, if_pos e_1_20]
    rw [e] at h
    exact h
  by_cases e_1_21 : op = 21
  · refine wm_tableIn (tgt := 130) C d_Model_takes_1 (by rw [e_1_21]; decide) (by rw [e_1_21]; decide) (by rw [e_1_21]; rfl) (by decide) ?_
    refine wm_iconst (v := 1) C d_Model_takes_130 (by decide) ?_
    refine wm_iret C P d_Model_takes_131 ?_
    have e : md_takes op = 1 := by rw [md_takes, if_neg e_1_0, if_neg e_1_1, if_neg e_1_2, if_neg e_1_3, if_neg e_1_4, if_neg e_1_5, if_neg e_1_6, if_neg e_1_7, if_neg e_1_8, if_neg e_1_9, if_neg e_1_10, if_neg e_1_11, if_neg e_1_12, if_neg e_1_13, if_neg e_1_14, if_neg e_1_15, if_neg e_1_16, if_neg e_1_17, if_neg e_1_18, if_neg e_1_19, if_neg e_1_20, if_pos e_1_21]
    rw [e] at h
    exact h
  by_cases e_1_22 : op = 22
  · refine wm_tableIn (tgt := 130) C d_Model_takes_1 (by rw [e_1_22]; decide) (by rw [e_1_22]; decide) (by rw [e_1_22]; rfl) (by decide) ?_
    refine wm_iconst (v := 1) C d_Model_takes_130 (by decide) ?_
    refine wm_iret C P d_Model_takes_131 ?_
    have e : md_takes op = 1 := by rw [md_takes, if_neg e_1_0, if_neg e_1_1, if_neg e_1_2, if_neg e_1_3, if_neg e_1_4, if_neg e_1_5, if_neg e_1_6, if_neg e_1_7, if_neg e_1_8, if_neg e_1_9, if_neg e_1_10, if_neg e_1_11, if_neg e_1_12, if_neg e_1_13, if_neg e_1_14, if_neg e_1_15, if_neg e_1_16, if_neg e_1_17, if_neg e_1_18, if_neg e_1_19, if_neg e_1_20, if_neg e_1_21, if_pos e_1_22]
    rw [e] at h
    exact h
  by_cases e_1_23 : op = 23
  · refine wm_tableIn (tgt := 128) C d_Model_takes_1 (by rw [e_1_23]; decide) (by rw [e_1_23]; decide) (by rw [e_1_23]; rfl) (by decide) ?_
    refine wm_iconst (v := 0) C d_Model_takes_128 (by decide) ?_
    refine wm_iret C P d_Model_takes_129 ?_
    have e : md_takes op = 0 := by rw [md_takes, if_neg e_1_0, if_neg e_1_1, if_neg e_1_2, if_neg e_1_3, if_neg e_1_4, if_neg e_1_5, if_neg e_1_6, if_neg e_1_7, if_neg e_1_8, if_neg e_1_9, if_neg e_1_10, if_neg e_1_11, if_neg e_1_12, if_neg e_1_13, if_neg e_1_14, if_neg e_1_15, if_neg e_1_16, if_neg e_1_17, if_neg e_1_18, if_neg e_1_19, if_neg e_1_20, if_neg e_1_21, if_neg e_1_22, if_pos e_1_23]
    rw [e] at h
    exact h
  by_cases e_1_24 : op = 24
  · refine wm_tableIn (tgt := 128) C d_Model_takes_1 (by rw [e_1_24]; decide) (by rw [e_1_24]; decide) (by rw [e_1_24]; rfl) (by decide) ?_
    refine wm_iconst (v := 0) C d_Model_takes_128 (by decide) ?_
    refine wm_iret C P d_Model_takes_129 ?_
    have e : md_takes op = 0 := by rw [md_takes, if_neg e_1_0, if_neg e_1_1, if_neg e_1_2, if_neg e_1_3, if_neg e_1_4, if_neg e_1_5, if_neg e_1_6, if_neg e_1_7, if_neg e_1_8, if_neg e_1_9, if_neg e_1_10, if_neg e_1_11, if_neg e_1_12, if_neg e_1_13, if_neg e_1_14, if_neg e_1_15, if_neg e_1_16, if_neg e_1_17, if_neg e_1_18, if_neg e_1_19, if_neg e_1_20, if_neg e_1_21, if_neg e_1_22, if_neg e_1_23, if_pos e_1_24]
    rw [e] at h
    exact h
  by_cases e_1_25 : op = 25
  · refine wm_tableIn (tgt := 132) C d_Model_takes_1 (by rw [e_1_25]; decide) (by rw [e_1_25]; decide) (by rw [e_1_25]; rfl) (by decide) ?_
    refine wm_iconst (v := 2) C d_Model_takes_132 (by decide) ?_
    refine wm_iret C P d_Model_takes_133 ?_
    have e : md_takes op = 2 := by rw [md_takes, if_neg e_1_0, if_neg e_1_1, if_neg e_1_2, if_neg e_1_3, if_neg e_1_4, if_neg e_1_5, if_neg e_1_6, if_neg e_1_7, if_neg e_1_8, if_neg e_1_9, if_neg e_1_10, if_neg e_1_11, if_neg e_1_12, if_neg e_1_13, if_neg e_1_14, if_neg e_1_15, if_neg e_1_16, if_neg e_1_17, if_neg e_1_18, if_neg e_1_19, if_neg e_1_20, if_neg e_1_21, if_neg e_1_22, if_neg e_1_23, if_neg e_1_24, if_pos e_1_25]
    rw [e] at h
    exact h
  by_cases e_1_26 : op = 26
  · refine wm_tableIn (tgt := 132) C d_Model_takes_1 (by rw [e_1_26]; decide) (by rw [e_1_26]; decide) (by rw [e_1_26]; rfl) (by decide) ?_
    refine wm_iconst (v := 2) C d_Model_takes_132 (by decide) ?_
    refine wm_iret C P d_Model_takes_133 ?_
    have e : md_takes op = 2 := by rw [md_takes, if_neg e_1_0, if_neg e_1_1, if_neg e_1_2, if_neg e_1_3, if_neg e_1_4, if_neg e_1_5, if_neg e_1_6, if_neg e_1_7, if_neg e_1_8, if_neg e_1_9, if_neg e_1_10, if_neg e_1_11, if_neg e_1_12, if_neg e_1_13, if_neg e_1_14, if_neg e_1_15, if_neg e_1_16, if_neg e_1_17, if_neg e_1_18, if_neg e_1_19, if_neg e_1_20, if_neg e_1_21, if_neg e_1_22, if_neg e_1_23, if_neg e_1_24, if_neg e_1_25, if_pos e_1_26]
    rw [e] at h
    exact h
  by_cases e_1_27 : op = 27
  · refine wm_tableIn (tgt := 128) C d_Model_takes_1 (by rw [e_1_27]; decide) (by rw [e_1_27]; decide) (by rw [e_1_27]; rfl) (by decide) ?_
    refine wm_iconst (v := 0) C d_Model_takes_128 (by decide) ?_
    refine wm_iret C P d_Model_takes_129 ?_
    have e : md_takes op = 0 := by rw [md_takes, if_neg e_1_0, if_neg e_1_1, if_neg e_1_2, if_neg e_1_3, if_neg e_1_4, if_neg e_1_5, if_neg e_1_6, if_neg e_1_7, if_neg e_1_8, if_neg e_1_9, if_neg e_1_10, if_neg e_1_11, if_neg e_1_12, if_neg e_1_13, if_neg e_1_14, if_neg e_1_15, if_neg e_1_16, if_neg e_1_17, if_neg e_1_18, if_neg e_1_19, if_neg e_1_20, if_neg e_1_21, if_neg e_1_22, if_neg e_1_23, if_neg e_1_24, if_neg e_1_25, if_neg e_1_26, if_pos e_1_27]
    rw [e] at h
    exact h
  · refine wm_tableOut (tgt := 132) C d_Model_takes_1 (by have n0 := lv_neT e_1_0 (a := 0) (by decide); have n1 := lv_neT e_1_1 (a := 1) (by decide); have n2 := lv_neT e_1_2 (a := 2) (by decide); have n3 := lv_neT e_1_3 (a := 3) (by decide); have n4 := lv_neT e_1_4 (a := 4) (by decide); have n5 := lv_neT e_1_5 (a := 5) (by decide); have n6 := lv_neT e_1_6 (a := 6) (by decide); have n7 := lv_neT e_1_7 (a := 7) (by decide); have n8 := lv_neT e_1_8 (a := 8) (by decide); have n9 := lv_neT e_1_9 (a := 9) (by decide); have n10 := lv_neT e_1_10 (a := 10) (by decide); have n11 := lv_neT e_1_11 (a := 11) (by decide); have n12 := lv_neT e_1_12 (a := 12) (by decide); have n13 := lv_neT e_1_13 (a := 13) (by decide); have n14 := lv_neT e_1_14 (a := 14) (by decide); have n15 := lv_neT e_1_15 (a := 15) (by decide); have n16 := lv_neT e_1_16 (a := 16) (by decide); have n17 := lv_neT e_1_17 (a := 17) (by decide); have n18 := lv_neT e_1_18 (a := 18) (by decide); have n19 := lv_neT e_1_19 (a := 19) (by decide); have n20 := lv_neT e_1_20 (a := 20) (by decide); have n21 := lv_neT e_1_21 (a := 21) (by decide); have n22 := lv_neT e_1_22 (a := 22) (by decide); have n23 := lv_neT e_1_23 (a := 23) (by decide); have n24 := lv_neT e_1_24 (a := 24) (by decide); have n25 := lv_neT e_1_25 (a := 25) (by decide); have n26 := lv_neT e_1_26 (a := 26) (by decide); have n27 := lv_neT e_1_27 (a := 27) (by decide); omega) (by decide) ?_
    refine wm_iconst (v := 2) C d_Model_takes_132 (by decide) ?_
    refine wm_iret C P d_Model_takes_133 ?_
    have e : md_takes op = 2 := by rw [md_takes, if_neg e_1_0, if_neg e_1_1, if_neg e_1_2, if_neg e_1_3, if_neg e_1_4, if_neg e_1_5, if_neg e_1_6, if_neg e_1_7, if_neg e_1_8, if_neg e_1_9, if_neg e_1_10, if_neg e_1_11, if_neg e_1_12, if_neg e_1_13, if_neg e_1_14, if_neg e_1_15, if_neg e_1_16, if_neg e_1_17, if_neg e_1_18, if_neg e_1_19, if_neg e_1_20, if_neg e_1_21, if_neg e_1_22, if_neg e_1_23, if_neg e_1_24, if_neg e_1_25, if_neg e_1_26, if_neg e_1_27]
    rw [e] at h
    exact h
def md_gives (op : Int32) : Int32 :=
  if op = 2 then
    0
  else
    if op = 3 then
      1
    else
      if op = 4 then
        0
      else
        if op = 5 then
          1
        else
          if op = 6 then
            1
          else
            if op = 7 then
              1
            else
              if op = 8 then
                1
              else
                if op = 9 then
                  1
                else
                  if op = 10 then
                    1
                  else
                    if op = 11 then
                      1
                    else
                      if op = 12 then
                        1
                      else
                        if op = 13 then
                          2
                        else
                          if op = 14 then
                            0
                          else
                            if op = 15 then
                              2
                            else
                              if op = 16 then
                                0
                              else
                                if op = 17 then
                                  0
                                else
                                  if op = 18 then
                                    0
                                  else
                                    if op = 19 then
                                      1
                                    else
                                      if op = 20 then
                                        1
                                      else
                                        if op = 21 then
                                          0
                                        else
                                          if op = 22 then
                                            0
                                          else
                                            if op = 23 then
                                              0
                                            else
                                              if op = 24 then
                                                0
                                              else
                                                1
set_option maxHeartbeats 4000000 in
theorem k_gives {G : cy_G} {D : md_E} {s : md_S} {M : cy_Hp} {post : Option Value → cy_Hp → Prop} (hD : md_Eo G D) (hR : md_R D s M) (op : Int32)  (h : post (some (.int (md_gives op))) M) : cy_Ct G 0 m_Model_gives [.int op] M 0 0 post := by
  refine cy_Ct.of (by decide) (Nat.le_of_ble_eq_true rfl) ?_
  intro F C P _
  have C : cy_C G F R_Model b_Model_gives 1 0 0 0 := C
  have P : cy_P G F (some .int) post 0 0 := P
  show WM G F 1 0 0 0 [(0, .int op)] [] M
  refine wm_iload_n C d_Model_gives_0 rfl (j := 0) rfl ?_
  by_cases e_1_2 : op = 2
  · refine wm_tableIn (tgt := 108) C d_Model_gives_1 (by rw [e_1_2]; decide) (by rw [e_1_2]; decide) (by rw [e_1_2]; rfl) (by decide) ?_
    refine wm_iconst (v := 0) C d_Model_gives_108 (by decide) ?_
    refine wm_iret C P d_Model_gives_109 ?_
    have e : md_gives op = 0 := by rw [md_gives, if_pos e_1_2]
    rw [e] at h
    exact h
  by_cases e_1_3 : op = 3
  · refine wm_tableIn (tgt := 112) C d_Model_gives_1 (by rw [e_1_3]; decide) (by rw [e_1_3]; decide) (by rw [e_1_3]; rfl) (by decide) ?_
    refine wm_iconst (v := 1) C d_Model_gives_112 (by decide) ?_
    refine wm_iret C P d_Model_gives_113 ?_
    have e : md_gives op = 1 := by rw [md_gives, if_neg e_1_2, if_pos e_1_3]
    rw [e] at h
    exact h
  by_cases e_1_4 : op = 4
  · refine wm_tableIn (tgt := 108) C d_Model_gives_1 (by rw [e_1_4]; decide) (by rw [e_1_4]; decide) (by rw [e_1_4]; rfl) (by decide) ?_
    refine wm_iconst (v := 0) C d_Model_gives_108 (by decide) ?_
    refine wm_iret C P d_Model_gives_109 ?_
    have e : md_gives op = 0 := by rw [md_gives, if_neg e_1_2, if_neg e_1_3, if_pos e_1_4]
    rw [e] at h
    exact h
  by_cases e_1_5 : op = 5
  · refine wm_tableIn (tgt := 112) C d_Model_gives_1 (by rw [e_1_5]; decide) (by rw [e_1_5]; decide) (by rw [e_1_5]; rfl) (by decide) ?_
    refine wm_iconst (v := 1) C d_Model_gives_112 (by decide) ?_
    refine wm_iret C P d_Model_gives_113 ?_
    have e : md_gives op = 1 := by rw [md_gives, if_neg e_1_2, if_neg e_1_3, if_neg e_1_4, if_pos e_1_5]
    rw [e] at h
    exact h
  by_cases e_1_6 : op = 6
  · refine wm_tableIn (tgt := 112) C d_Model_gives_1 (by rw [e_1_6]; decide) (by rw [e_1_6]; decide) (by rw [e_1_6]; rfl) (by decide) ?_
    refine wm_iconst (v := 1) C d_Model_gives_112 (by decide) ?_
    refine wm_iret C P d_Model_gives_113 ?_
    have e : md_gives op = 1 := by rw [md_gives, if_neg e_1_2, if_neg e_1_3, if_neg e_1_4, if_neg e_1_5, if_pos e_1_6]
    rw [e] at h
    exact h
  by_cases e_1_7 : op = 7
  · refine wm_tableIn (tgt := 112) C d_Model_gives_1 (by rw [e_1_7]; decide) (by rw [e_1_7]; decide) (by rw [e_1_7]; rfl) (by decide) ?_
    refine wm_iconst (v := 1) C d_Model_gives_112 (by decide) ?_
    refine wm_iret C P d_Model_gives_113 ?_
    have e : md_gives op = 1 := by rw [md_gives, if_neg e_1_2, if_neg e_1_3, if_neg e_1_4, if_neg e_1_5, if_neg e_1_6, if_pos e_1_7]
    rw [e] at h
    exact h
  by_cases e_1_8 : op = 8
  · refine wm_tableIn (tgt := 112) C d_Model_gives_1 (by rw [e_1_8]; decide) (by rw [e_1_8]; decide) (by rw [e_1_8]; rfl) (by decide) ?_
    refine wm_iconst (v := 1) C d_Model_gives_112 (by decide) ?_
    refine wm_iret C P d_Model_gives_113 ?_
    have e : md_gives op = 1 := by rw [md_gives, if_neg e_1_2, if_neg e_1_3, if_neg e_1_4, if_neg e_1_5, if_neg e_1_6, if_neg e_1_7, if_pos e_1_8]
    rw [e] at h
    exact h
  by_cases e_1_9 : op = 9
  · refine wm_tableIn (tgt := 112) C d_Model_gives_1 (by rw [e_1_9]; decide) (by rw [e_1_9]; decide) (by rw [e_1_9]; rfl) (by decide) ?_
    refine wm_iconst (v := 1) C d_Model_gives_112 (by decide) ?_
    refine wm_iret C P d_Model_gives_113 ?_
    have e : md_gives op = 1 := by rw [md_gives, if_neg e_1_2, if_neg e_1_3, if_neg e_1_4, if_neg e_1_5, if_neg e_1_6, if_neg e_1_7, if_neg e_1_8, if_pos e_1_9]
    rw [e] at h
    exact h
  by_cases e_1_10 : op = 10
  · refine wm_tableIn (tgt := 112) C d_Model_gives_1 (by rw [e_1_10]; decide) (by rw [e_1_10]; decide) (by rw [e_1_10]; rfl) (by decide) ?_
    refine wm_iconst (v := 1) C d_Model_gives_112 (by decide) ?_
    refine wm_iret C P d_Model_gives_113 ?_
    have e : md_gives op = 1 := by rw [md_gives, if_neg e_1_2, if_neg e_1_3, if_neg e_1_4, if_neg e_1_5, if_neg e_1_6, if_neg e_1_7, if_neg e_1_8, if_neg e_1_9, if_pos e_1_10]
    rw [e] at h
    exact h
  by_cases e_1_11 : op = 11
  · refine wm_tableIn (tgt := 112) C d_Model_gives_1 (by rw [e_1_11]; decide) (by rw [e_1_11]; decide) (by rw [e_1_11]; rfl) (by decide) ?_
    refine wm_iconst (v := 1) C d_Model_gives_112 (by decide) ?_
    refine wm_iret C P d_Model_gives_113 ?_
    have e : md_gives op = 1 := by rw [md_gives, if_neg e_1_2, if_neg e_1_3, if_neg e_1_4, if_neg e_1_5, if_neg e_1_6, if_neg e_1_7, if_neg e_1_8, if_neg e_1_9, if_neg e_1_10, if_pos e_1_11]
    rw [e] at h
    exact h
  by_cases e_1_12 : op = 12
  · refine wm_tableIn (tgt := 112) C d_Model_gives_1 (by rw [e_1_12]; decide) (by rw [e_1_12]; decide) (by rw [e_1_12]; rfl) (by decide) ?_
    refine wm_iconst (v := 1) C d_Model_gives_112 (by decide) ?_
    refine wm_iret C P d_Model_gives_113 ?_
    have e : md_gives op = 1 := by rw [md_gives, if_neg e_1_2, if_neg e_1_3, if_neg e_1_4, if_neg e_1_5, if_neg e_1_6, if_neg e_1_7, if_neg e_1_8, if_neg e_1_9, if_neg e_1_10, if_neg e_1_11, if_pos e_1_12]
    rw [e] at h
    exact h
  by_cases e_1_13 : op = 13
  · refine wm_tableIn (tgt := 110) C d_Model_gives_1 (by rw [e_1_13]; decide) (by rw [e_1_13]; decide) (by rw [e_1_13]; rfl) (by decide) ?_
    refine wm_iconst (v := 2) C d_Model_gives_110 (by decide) ?_
    refine wm_iret C P d_Model_gives_111 ?_
    have e : md_gives op = 2 := by rw [md_gives, if_neg e_1_2, if_neg e_1_3, if_neg e_1_4, if_neg e_1_5, if_neg e_1_6, if_neg e_1_7, if_neg e_1_8, if_neg e_1_9, if_neg e_1_10, if_neg e_1_11, if_neg e_1_12, if_pos e_1_13]
    rw [e] at h
    exact h
  by_cases e_1_14 : op = 14
  · refine wm_tableIn (tgt := 108) C d_Model_gives_1 (by rw [e_1_14]; decide) (by rw [e_1_14]; decide) (by rw [e_1_14]; rfl) (by decide) ?_
    refine wm_iconst (v := 0) C d_Model_gives_108 (by decide) ?_
    refine wm_iret C P d_Model_gives_109 ?_
    have e : md_gives op = 0 := by rw [md_gives, if_neg e_1_2, if_neg e_1_3, if_neg e_1_4, if_neg e_1_5, if_neg e_1_6, if_neg e_1_7, if_neg e_1_8, if_neg e_1_9, if_neg e_1_10, if_neg e_1_11, if_neg e_1_12, if_neg e_1_13, if_pos e_1_14]
    rw [e] at h
    exact h
  by_cases e_1_15 : op = 15
  · refine wm_tableIn (tgt := 110) C d_Model_gives_1 (by rw [e_1_15]; decide) (by rw [e_1_15]; decide) (by rw [e_1_15]; rfl) (by decide) ?_
    refine wm_iconst (v := 2) C d_Model_gives_110 (by decide) ?_
    refine wm_iret C P d_Model_gives_111 ?_
    have e : md_gives op = 2 := by rw [md_gives, if_neg e_1_2, if_neg e_1_3, if_neg e_1_4, if_neg e_1_5, if_neg e_1_6, if_neg e_1_7, if_neg e_1_8, if_neg e_1_9, if_neg e_1_10, if_neg e_1_11, if_neg e_1_12, if_neg e_1_13, if_neg e_1_14, if_pos e_1_15]
    rw [e] at h
    exact h
  by_cases e_1_16 : op = 16
  · refine wm_tableIn (tgt := 108) C d_Model_gives_1 (by rw [e_1_16]; decide) (by rw [e_1_16]; decide) (by rw [e_1_16]; rfl) (by decide) ?_
    refine wm_iconst (v := 0) C d_Model_gives_108 (by decide) ?_
    refine wm_iret C P d_Model_gives_109 ?_
    have e : md_gives op = 0 := by rw [md_gives, if_neg e_1_2, if_neg e_1_3, if_neg e_1_4, if_neg e_1_5, if_neg e_1_6, if_neg e_1_7, if_neg e_1_8, if_neg e_1_9, if_neg e_1_10, if_neg e_1_11, if_neg e_1_12, if_neg e_1_13, if_neg e_1_14, if_neg e_1_15, if_pos e_1_16]
    rw [e] at h
    exact h
  by_cases e_1_17 : op = 17
  · refine wm_tableIn (tgt := 108) C d_Model_gives_1 (by rw [e_1_17]; decide) (by rw [e_1_17]; decide) (by rw [e_1_17]; rfl) (by decide) ?_
    refine wm_iconst (v := 0) C d_Model_gives_108 (by decide) ?_
    refine wm_iret C P d_Model_gives_109 ?_
    have e : md_gives op = 0 := by rw [md_gives, if_neg e_1_2, if_neg e_1_3, if_neg e_1_4, if_neg e_1_5, if_neg e_1_6, if_neg e_1_7, if_neg e_1_8, if_neg e_1_9, if_neg e_1_10, if_neg e_1_11, if_neg e_1_12, if_neg e_1_13, if_neg e_1_14, if_neg e_1_15, if_neg e_1_16, if_pos e_1_17]
    rw [e] at h
    exact h
  by_cases e_1_18 : op = 18
  · refine wm_tableIn (tgt := 108) C d_Model_gives_1 (by rw [e_1_18]; decide) (by rw [e_1_18]; decide) (by rw [e_1_18]; rfl) (by decide) ?_
    refine wm_iconst (v := 0) C d_Model_gives_108 (by decide) ?_
    refine wm_iret C P d_Model_gives_109 ?_
    have e : md_gives op = 0 := by rw [md_gives, if_neg e_1_2, if_neg e_1_3, if_neg e_1_4, if_neg e_1_5, if_neg e_1_6, if_neg e_1_7, if_neg e_1_8, if_neg e_1_9, if_neg e_1_10, if_neg e_1_11, if_neg e_1_12, if_neg e_1_13, if_neg e_1_14, if_neg e_1_15, if_neg e_1_16, if_neg e_1_17, if_pos e_1_18]
    rw [e] at h
    exact h
  by_cases e_1_19 : op = 19
  · refine wm_tableIn (tgt := 112) C d_Model_gives_1 (by rw [e_1_19]; decide) (by rw [e_1_19]; decide) (by rw [e_1_19]; rfl) (by decide) ?_
    refine wm_iconst (v := 1) C d_Model_gives_112 (by decide) ?_
    refine wm_iret C P d_Model_gives_113 ?_
    have e : md_gives op = 1 := by rw [md_gives, if_neg e_1_2, if_neg e_1_3, if_neg e_1_4, if_neg e_1_5, if_neg e_1_6, if_neg e_1_7, if_neg e_1_8, if_neg e_1_9, if_neg e_1_10, if_neg e_1_11, if_neg e_1_12, if_neg e_1_13, if_neg e_1_14, if_neg e_1_15, if_neg e_1_16, if_neg e_1_17, if_neg e_1_18, if_pos e_1_19]
    rw [e] at h
    exact h
  by_cases e_1_20 : op = 20
  · refine wm_tableIn (tgt := 112) C d_Model_gives_1 (by rw [e_1_20]; decide) (by rw [e_1_20]; decide) (by rw [e_1_20]; rfl) (by decide) ?_
    refine wm_iconst (v := 1) C d_Model_gives_112 (by decide) ?_
    refine wm_iret C P d_Model_gives_113 ?_
    have e : md_gives op = 1 := by rw [md_gives, if_neg e_1_2, if_neg e_1_3, if_neg e_1_4, if_neg e_1_5, if_neg e_1_6, if_neg e_1_7, if_neg e_1_8, if_neg e_1_9, if_neg e_1_10, if_neg e_1_11, if_neg e_1_12, if_neg e_1_13, if_neg e_1_14, if_neg e_1_15, if_neg e_1_16, if_neg e_1_17, if_neg e_1_18, if_neg e_1_19, if_pos e_1_20]
    rw [e] at h
    exact h
  by_cases e_1_21 : op = 21
  · refine wm_tableIn (tgt := 108) C d_Model_gives_1 (by rw [e_1_21]; decide) (by rw [e_1_21]; decide) (by rw [e_1_21]; rfl) (by decide) ?_
    refine wm_iconst (v := 0) C d_Model_gives_108 (by decide) ?_
    refine wm_iret C P d_Model_gives_109 ?_
    have e : md_gives op = 0 := by rw [md_gives, if_neg e_1_2, if_neg e_1_3, if_neg e_1_4, if_neg e_1_5, if_neg e_1_6, if_neg e_1_7, if_neg e_1_8, if_neg e_1_9, if_neg e_1_10, if_neg e_1_11, if_neg e_1_12, if_neg e_1_13, if_neg e_1_14, if_neg e_1_15, if_neg e_1_16, if_neg e_1_17, if_neg e_1_18, if_neg e_1_19, if_neg e_1_20, if_pos e_1_21]
    rw [e] at h
    exact h
  by_cases e_1_22 : op = 22
  · refine wm_tableIn (tgt := 108) C d_Model_gives_1 (by rw [e_1_22]; decide) (by rw [e_1_22]; decide) (by rw [e_1_22]; rfl) (by decide) ?_
    refine wm_iconst (v := 0) C d_Model_gives_108 (by decide) ?_
    refine wm_iret C P d_Model_gives_109 ?_
    have e : md_gives op = 0 := by rw [md_gives, if_neg e_1_2, if_neg e_1_3, if_neg e_1_4, if_neg e_1_5, if_neg e_1_6, if_neg e_1_7, if_neg e_1_8, if_neg e_1_9, if_neg e_1_10, if_neg e_1_11, if_neg e_1_12, if_neg e_1_13, if_neg e_1_14, if_neg e_1_15, if_neg e_1_16, if_neg e_1_17, if_neg e_1_18, if_neg e_1_19, if_neg e_1_20, if_neg e_1_21, if_pos e_1_22]
    rw [e] at h
    exact h
  by_cases e_1_23 : op = 23
  · refine wm_tableIn (tgt := 108) C d_Model_gives_1 (by rw [e_1_23]; decide) (by rw [e_1_23]; decide) (by rw [e_1_23]; rfl) (by decide) ?_
    refine wm_iconst (v := 0) C d_Model_gives_108 (by decide) ?_
    refine wm_iret C P d_Model_gives_109 ?_
    have e : md_gives op = 0 := by rw [md_gives, if_neg e_1_2, if_neg e_1_3, if_neg e_1_4, if_neg e_1_5, if_neg e_1_6, if_neg e_1_7, if_neg e_1_8, if_neg e_1_9, if_neg e_1_10, if_neg e_1_11, if_neg e_1_12, if_neg e_1_13, if_neg e_1_14, if_neg e_1_15, if_neg e_1_16, if_neg e_1_17, if_neg e_1_18, if_neg e_1_19, if_neg e_1_20, if_neg e_1_21, if_neg e_1_22, if_pos e_1_23]
    rw [e] at h
    exact h
  by_cases e_1_24 : op = 24
  · refine wm_tableIn (tgt := 108) C d_Model_gives_1 (by rw [e_1_24]; decide) (by rw [e_1_24]; decide) (by rw [e_1_24]; rfl) (by decide) ?_
    refine wm_iconst (v := 0) C d_Model_gives_108 (by decide) ?_
    refine wm_iret C P d_Model_gives_109 ?_
    have e : md_gives op = 0 := by rw [md_gives, if_neg e_1_2, if_neg e_1_3, if_neg e_1_4, if_neg e_1_5, if_neg e_1_6, if_neg e_1_7, if_neg e_1_8, if_neg e_1_9, if_neg e_1_10, if_neg e_1_11, if_neg e_1_12, if_neg e_1_13, if_neg e_1_14, if_neg e_1_15, if_neg e_1_16, if_neg e_1_17, if_neg e_1_18, if_neg e_1_19, if_neg e_1_20, if_neg e_1_21, if_neg e_1_22, if_neg e_1_23, if_pos e_1_24]
    rw [e] at h
    exact h
  · refine wm_tableOut (tgt := 112) C d_Model_gives_1 (by have n0 := lv_neT e_1_2 (a := 2) (by decide); have n1 := lv_neT e_1_3 (a := 3) (by decide); have n2 := lv_neT e_1_4 (a := 4) (by decide); have n3 := lv_neT e_1_5 (a := 5) (by decide); have n4 := lv_neT e_1_6 (a := 6) (by decide); have n5 := lv_neT e_1_7 (a := 7) (by decide); have n6 := lv_neT e_1_8 (a := 8) (by decide); have n7 := lv_neT e_1_9 (a := 9) (by decide); have n8 := lv_neT e_1_10 (a := 10) (by decide); have n9 := lv_neT e_1_11 (a := 11) (by decide); have n10 := lv_neT e_1_12 (a := 12) (by decide); have n11 := lv_neT e_1_13 (a := 13) (by decide); have n12 := lv_neT e_1_14 (a := 14) (by decide); have n13 := lv_neT e_1_15 (a := 15) (by decide); have n14 := lv_neT e_1_16 (a := 16) (by decide); have n15 := lv_neT e_1_17 (a := 17) (by decide); have n16 := lv_neT e_1_18 (a := 18) (by decide); have n17 := lv_neT e_1_19 (a := 19) (by decide); have n18 := lv_neT e_1_20 (a := 20) (by decide); have n19 := lv_neT e_1_21 (a := 21) (by decide); have n20 := lv_neT e_1_22 (a := 22) (by decide); have n21 := lv_neT e_1_23 (a := 23) (by decide); have n22 := lv_neT e_1_24 (a := 24) (by decide); omega) (by decide) ?_
    refine wm_iconst (v := 1) C d_Model_gives_112 (by decide) ?_
    refine wm_iret C P d_Model_gives_113 ?_
    have e : md_gives op = 1 := by rw [md_gives, if_neg e_1_2, if_neg e_1_3, if_neg e_1_4, if_neg e_1_5, if_neg e_1_6, if_neg e_1_7, if_neg e_1_8, if_neg e_1_9, if_neg e_1_10, if_neg e_1_11, if_neg e_1_12, if_neg e_1_13, if_neg e_1_14, if_neg e_1_15, if_neg e_1_16, if_neg e_1_17, if_neg e_1_18, if_neg e_1_19, if_neg e_1_20, if_neg e_1_21, if_neg e_1_22, if_neg e_1_23, if_neg e_1_24]
    rw [e] at h
    exact h
def md_isOperand (op : Int32) (v : Int32) : Int32 :=
  if op = 1 then
    if 16 ≤ v then
      0
    else
      1
  else
    if op = 2 then
      if 16 ≤ v then
        0
      else
        1
    else
      if op = 3 then
        if 8 ≤ v then
          0
        else
          1
      else
        if op = 4 then
          if 8 ≤ v then
            0
          else
            1
        else
          if op = 27 then
            if 24 ≤ v then
              0
            else
              1
          else
            1
set_option maxHeartbeats 4000000 in
theorem k_isOperand {G : cy_G} {D : md_E} {s : md_S} {M : cy_Hp} {post : Option Value → cy_Hp → Prop} (hD : md_Eo G D) (hR : md_R D s M) (op : Int32) (v : Int32)  (h : post (some (.int (md_isOperand op v))) M) : cy_Ct G 0 m_Model_isOperand [.int op, .int v] M 0 0 post := by
  refine cy_Ct.of (by decide) (Nat.le_of_ble_eq_true rfl) ?_
  intro F C P _
  have C : cy_C G F R_Model b_Model_isOperand 2 0 0 0 := C
  have P : cy_P G F (some .boolean) post 0 0 := P
  show WM G F 2 0 0 0 [(0, .int op), (1, .int v)] [] M
  refine wm_iload_n C d_Model_isOperand_0 rfl (j := 0) rfl ?_
  refine wm_iconst (v := 1) C d_Model_isOperand_1 (by decide) ?_
  refine wm_icmp_eq (tgt := 10) C d_Model_isOperand_2 (by decide) (fun (h_2 : op = 1) => ?_) (fun (h_2 : ¬ op = 1) => ?_)
  · refine wm_iload_n C d_Model_isOperand_10 rfl (j := 1) rfl ?_
    refine wm_bipush (v := 16) C d_Model_isOperand_11 (by decide) ?_
    refine wm_icmp_ge (tgt := 20) C d_Model_isOperand_13 (by decide) (fun (h_13 : 16 ≤ v) => ?_) (fun (h_13 : ¬ 16 ≤ v) => ?_)
    · refine wm_iconst (v := 0) C d_Model_isOperand_20 (by decide) ?_
      refine wm_zret C P rfl d_Model_isOperand_21 ?_
      have e : md_isOperand op v = 0 := by rw [md_isOperand, if_pos h_2, if_pos h_13]
      rw [e] at h
      exact h
    · refine wm_iconst (v := 1) C d_Model_isOperand_16 (by decide) ?_
      refine wm_goto (tgt := 21) C d_Model_isOperand_17 (by decide) ?_
      refine wm_zret C P rfl d_Model_isOperand_21 ?_
      have e : md_isOperand op v = 1 := by rw [md_isOperand, if_pos h_2, if_neg h_13]
      rw [e] at h
      exact h
  · refine wm_iload_n C d_Model_isOperand_5 rfl (j := 0) rfl ?_
    refine wm_iconst (v := 2) C d_Model_isOperand_6 (by decide) ?_
    refine wm_icmp_ne (tgt := 22) C d_Model_isOperand_7 (by decide) (fun (h_7 : ¬ op = 2) => ?_) (fun (h_7 : op = 2) => ?_)
    · refine wm_iload_n C d_Model_isOperand_22 rfl (j := 0) rfl ?_
      refine wm_iconst (v := 3) C d_Model_isOperand_23 (by decide) ?_
      refine wm_icmp_eq (tgt := 32) C d_Model_isOperand_24 (by decide) (fun (h_24 : op = 3) => ?_) (fun (h_24 : ¬ op = 3) => ?_)
      · refine wm_iload_n C d_Model_isOperand_32 rfl (j := 1) rfl ?_
        refine wm_bipush (v := 8) C d_Model_isOperand_33 (by decide) ?_
        refine wm_icmp_ge (tgt := 42) C d_Model_isOperand_35 (by decide) (fun (h_35 : 8 ≤ v) => ?_) (fun (h_35 : ¬ 8 ≤ v) => ?_)
        · refine wm_iconst (v := 0) C d_Model_isOperand_42 (by decide) ?_
          refine wm_zret C P rfl d_Model_isOperand_43 ?_
          have e : md_isOperand op v = 0 := by rw [md_isOperand, if_neg h_2, if_neg h_7, if_pos h_24, if_pos h_35]
          rw [e] at h
          exact h
        · refine wm_iconst (v := 1) C d_Model_isOperand_38 (by decide) ?_
          refine wm_goto (tgt := 43) C d_Model_isOperand_39 (by decide) ?_
          refine wm_zret C P rfl d_Model_isOperand_43 ?_
          have e : md_isOperand op v = 1 := by rw [md_isOperand, if_neg h_2, if_neg h_7, if_pos h_24, if_neg h_35]
          rw [e] at h
          exact h
      · refine wm_iload_n C d_Model_isOperand_27 rfl (j := 0) rfl ?_
        refine wm_iconst (v := 4) C d_Model_isOperand_28 (by decide) ?_
        refine wm_icmp_ne (tgt := 44) C d_Model_isOperand_29 (by decide) (fun (h_29 : ¬ op = 4) => ?_) (fun (h_29 : op = 4) => ?_)
        · refine wm_iload_n C d_Model_isOperand_44 rfl (j := 0) rfl ?_
          refine wm_bipush (v := 27) C d_Model_isOperand_45 (by decide) ?_
          refine wm_icmp_ne (tgt := 56) C d_Model_isOperand_47 (by decide) (fun (h_47 : ¬ op = 27) => ?_) (fun (h_47 : op = 27) => ?_)
          · refine wm_iconst (v := 1) C d_Model_isOperand_56 (by decide) ?_
            refine wm_goto (tgt := 61) C d_Model_isOperand_57 (by decide) ?_
            refine wm_zret C P rfl d_Model_isOperand_61 ?_
            have e : md_isOperand op v = 1 := by rw [md_isOperand, if_neg h_2, if_neg h_7, if_neg h_24, if_neg h_29, if_neg h_47]
            rw [e] at h
            exact h
          · refine wm_iload_n C d_Model_isOperand_50 rfl (j := 1) rfl ?_
            refine wm_bipush (v := 24) C d_Model_isOperand_51 (by decide) ?_
            refine wm_icmp_ge (tgt := 60) C d_Model_isOperand_53 (by decide) (fun (h_53 : 24 ≤ v) => ?_) (fun (h_53 : ¬ 24 ≤ v) => ?_)
            · refine wm_iconst (v := 0) C d_Model_isOperand_60 (by decide) ?_
              refine wm_zret C P rfl d_Model_isOperand_61 ?_
              have e : md_isOperand op v = 0 := by rw [md_isOperand, if_neg h_2, if_neg h_7, if_neg h_24, if_neg h_29, if_pos h_47, if_pos h_53]
              rw [e] at h
              exact h
            · refine wm_iconst (v := 1) C d_Model_isOperand_56 (by decide) ?_
              refine wm_goto (tgt := 61) C d_Model_isOperand_57 (by decide) ?_
              refine wm_zret C P rfl d_Model_isOperand_61 ?_
              have e : md_isOperand op v = 1 := by rw [md_isOperand, if_neg h_2, if_neg h_7, if_neg h_24, if_neg h_29, if_pos h_47, if_neg h_53]
              rw [e] at h
              exact h
        · refine wm_iload_n C d_Model_isOperand_32 rfl (j := 1) rfl ?_
          refine wm_bipush (v := 8) C d_Model_isOperand_33 (by decide) ?_
          refine wm_icmp_ge (tgt := 42) C d_Model_isOperand_35 (by decide) (fun (h_35_9 : 8 ≤ v) => ?_) (fun (h_35_9 : ¬ 8 ≤ v) => ?_)
          · refine wm_iconst (v := 0) C d_Model_isOperand_42 (by decide) ?_
            refine wm_zret C P rfl d_Model_isOperand_43 ?_
            have e : md_isOperand op v = 0 := by rw [md_isOperand, if_neg h_2, if_neg h_7, if_neg h_24, if_pos h_29, if_pos h_35_9]
            rw [e] at h
            exact h
          · refine wm_iconst (v := 1) C d_Model_isOperand_38 (by decide) ?_
            refine wm_goto (tgt := 43) C d_Model_isOperand_39 (by decide) ?_
            refine wm_zret C P rfl d_Model_isOperand_43 ?_
            have e : md_isOperand op v = 1 := by rw [md_isOperand, if_neg h_2, if_neg h_7, if_neg h_24, if_pos h_29, if_neg h_35_9]
            rw [e] at h
            exact h
    · refine wm_iload_n C d_Model_isOperand_10 rfl (j := 1) rfl ?_
      refine wm_bipush (v := 16) C d_Model_isOperand_11 (by decide) ?_
      refine wm_icmp_ge (tgt := 20) C d_Model_isOperand_13 (by decide) (fun (h_13_10 : 16 ≤ v) => ?_) (fun (h_13_10 : ¬ 16 ≤ v) => ?_)
      · refine wm_iconst (v := 0) C d_Model_isOperand_20 (by decide) ?_
        refine wm_zret C P rfl d_Model_isOperand_21 ?_
        have e : md_isOperand op v = 0 := by rw [md_isOperand, if_neg h_2, if_pos h_7, if_pos h_13_10]
        rw [e] at h
        exact h
      · refine wm_iconst (v := 1) C d_Model_isOperand_16 (by decide) ?_
        refine wm_goto (tgt := 21) C d_Model_isOperand_17 (by decide) ?_
        refine wm_zret C P rfl d_Model_isOperand_21 ?_
        have e : md_isOperand op v = 1 := by rw [md_isOperand, if_neg h_2, if_pos h_7, if_neg h_13_10]
        rw [e] at h
        exact h
def md_come (s : md_S) (p : Int32) (h0 : Int32) : md_S :=
  if (s.1 7 p.toNatClampNeg) = (-1) then
    (md_sa s 7 p h0)
  else
    if (s.1 7 p.toNatClampNeg) = h0 then
      s
    else
      (md_bad s 8 p)
def md_come_ok (s : md_S) (p : Int32) (h0 : Int32) : Prop :=
  (vp_in p 301) ∧ (
  if (s.1 7 p.toNatClampNeg) = (-1) then
    (vp_in p 301) ∧ (
    True)
  else
    (vp_in p 301) ∧ (
    if (s.1 7 p.toNatClampNeg) = h0 then
      True
    else
      True))
set_option maxHeartbeats 4000000 in
theorem k_come {G : cy_G} {D : md_E} {s : md_S} {M : cy_Hp} {post : Option Value → cy_Hp → Prop} (hD : md_Eo G D) (hR : md_R D s M) (p : Int32) (h0 : Int32) (ho : md_come_ok s p h0) (h : ∀ M', md_R D (md_come s p h0) M' → post none M') : cy_Ct G 1 m_Model_come [.ref D.2.2.2.1, .int p, .int h0] M 0 0 post := by
  refine cy_Ct.of (by decide) (Nat.le_of_ble_eq_true rfl) ?_
  intro F C P _
  have C : cy_C G F R_Model b_Model_come 3 1 0 0 := C
  have P : cy_P G F none post 0 0 := P
  unfold md_come_ok at ho
  show WM G F 3 0 0 0 [(0, .ref D.2.2.2.1), (1, .int p), (2, .int h0)] [] M
  refine wm_aload_n C d_Model_come_0 rfl (j := 0) rfl ?_
  refine wm_get C co_Model hR.1 9 (by decide) fl_Model_33 rfl d_Model_come_1 ?_
  refine wm_iload_n C d_Model_come_4 rfl (j := 1) rfl ?_
  obtain ⟨o1, ho⟩ := ho
  refine wm_iald C (md_arr hR 7 (by decide)) hD.1 o1 d_Model_come_5 ?_
  refine wm_iconst (v := -1) C d_Model_come_6 (by decide) ?_
  refine wm_icmp_ne (tgt := 20) C d_Model_come_7 (by decide) (fun (h_7 : ¬ (s.1 7 p.toNatClampNeg) = (-1)) => ?_) (fun (h_7 : (s.1 7 p.toNatClampNeg) = (-1)) => ?_)
  · rw [if_neg h_7] at ho
    refine wm_aload_n C d_Model_come_20 rfl (j := 0) rfl ?_
    refine wm_get C co_Model hR.1 9 (by decide) fl_Model_33 rfl d_Model_come_21 ?_
    refine wm_iload_n C d_Model_come_24 rfl (j := 1) rfl ?_
    obtain ⟨o2, ho⟩ := ho
    refine wm_iald C (md_arr hR 7 (by decide)) hD.1 o2 d_Model_come_25 ?_
    refine wm_iload_n C d_Model_come_26 rfl (j := 2) rfl ?_
    refine wm_icmp_eq (tgt := 37) C d_Model_come_27 (by decide) (fun (h_27 : (s.1 7 p.toNatClampNeg) = h0) => ?_) (fun (h_27 : ¬ (s.1 7 p.toNatClampNeg) = h0) => ?_)
    · rw [if_pos h_27] at ho
      refine wm_vret C P d_Model_come_37 ?_
      have e : md_come s p h0 = s := by rw [md_come, if_neg h_7, if_pos h_27]
      rw [e] at h
      exact h _ hR
    · rw [if_neg h_27] at ho
      refine wm_aload_n C d_Model_come_30 rfl (j := 0) rfl ?_
      refine wm_bipush (v := 8) C d_Model_come_31 (by decide) ?_
      refine wm_iload_n C d_Model_come_33 rfl (j := 1) rfl ?_
      refine wm_callV (d2 := 0) (mc := 0) (ms := 0) C mo_Model_bad co_Model ml_Model_77 [.int 8, .int p] [] rfl hR.1 rfl (by decide) (Nat.le_of_ble_eq_true rfl) (Nat.le_refl _) (Nat.le_refl _) d_Model_come_34 (cy_kv ?_)
      refine k_bad hD hR _ _  (fun M1 hR1 => ⟨rfl, ?_⟩)
      refine wm_vret C P d_Model_come_37 ?_
      have e : md_come s p h0 = (md_bad s 8 p) := by rw [md_come, if_neg h_7, if_neg h_27]
      rw [e] at h
      exact h _ hR1
  · rw [if_pos h_7] at ho
    refine wm_aload_n C d_Model_come_10 rfl (j := 0) rfl ?_
    refine wm_get C co_Model hR.1 9 (by decide) fl_Model_33 rfl d_Model_come_11 ?_
    refine wm_iload_n C d_Model_come_14 rfl (j := 1) rfl ?_
    refine wm_iload_n C d_Model_come_15 rfl (j := 2) rfl ?_
    obtain ⟨o3, ho⟩ := ho
    refine wm_iast C (md_arr hR 7 (by decide)) hD.1 o3 d_Model_come_16 ?_
    refine md_gen (md_R_sa hR (a := 7) (by decide) p h0) (fun M2 hR2 => ?_)
    refine wm_goto (tgt := 37) C d_Model_come_17 (by decide) ?_
    refine wm_vret C P d_Model_come_37 ?_
    have e : md_come s p h0 = (md_sa s 7 p h0) := by rw [md_come, if_pos h_7]
    rw [e] at h
    exact h _ hR2
def md_goThrough (s : md_S) (p : Int32) : md_S :=
  if (s.1 8 p.toNatClampNeg) = 0 then
    if (s.2 2) ≤ 0 then
      if (((md_sa s 8 p 1).1 7 p.toNatClampNeg) - (md_takes (md_at (md_sa s 8 p 1) p))) < 0 then
        (md_bad (md_sa s 8 p 1) 7 p)
      else
        if ((((md_sa s 8 p 1).1 7 p.toNatClampNeg) - (md_takes (md_at (md_sa s 8 p 1) p))) + (md_gives (md_at (md_sa s 8 p 1) p))) ≤ 8 then
          if (md_hasOperand (md_at (md_sa s 8 p 1) p)) = 0 then
            if (md_at (md_sa s 8 p 1) p) < 22 then
              if (md_at (md_sa s 8 p 1) p) < 16 then
                (md_come (md_sa s 8 p 1) (p + 1) ((((md_sa s 8 p 1).1 7 p.toNatClampNeg) - (md_takes (md_at (md_sa s 8 p 1) p))) + (md_gives (md_at (md_sa s 8 p 1) p))))
              else
                if (md_at (md_sa s 8 p 1) p) ≤ 18 then
                  if (md_at (md_sa s 8 p 1) p) = 16 then
                    (md_come (md_sa s 8 p 1) (md_at (md_sa s 8 p 1) (p + 1)) ((((md_sa s 8 p 1).1 7 p.toNatClampNeg) - (md_takes (md_at (md_sa s 8 p 1) p))) + (md_gives (md_at (md_sa s 8 p 1) p))))
                  else
                    if (p + 1) ≤ (md_at (md_sa s 8 p 1) (p + 1)) then
                      (md_come (md_come (md_sa s 8 p 1) (p + 1) ((((md_sa s 8 p 1).1 7 p.toNatClampNeg) - (md_takes (md_at (md_sa s 8 p 1) p))) + (md_gives (md_at (md_sa s 8 p 1) p)))) (md_at (md_sa s 8 p 1) (p + 1)) ((((md_sa s 8 p 1).1 7 p.toNatClampNeg) - (md_takes (md_at (md_sa s 8 p 1) p))) + (md_gives (md_at (md_sa s 8 p 1) p))))
                    else
                      (md_come (md_come (md_sa s 8 p 1) (md_at (md_sa s 8 p 1) (p + 1)) ((((md_sa s 8 p 1).1 7 p.toNatClampNeg) - (md_takes (md_at (md_sa s 8 p 1) p))) + (md_gives (md_at (md_sa s 8 p 1) p)))) (p + 1) ((((md_sa s 8 p 1).1 7 p.toNatClampNeg) - (md_takes (md_at (md_sa s 8 p 1) p))) + (md_gives (md_at (md_sa s 8 p 1) p))))
                else
                  (md_come (md_sa s 8 p 1) (p + 1) ((((md_sa s 8 p 1).1 7 p.toNatClampNeg) - (md_takes (md_at (md_sa s 8 p 1) p))) + (md_gives (md_at (md_sa s 8 p 1) p))))
            else
              if 24 < (md_at (md_sa s 8 p 1) p) then
                if (md_at (md_sa s 8 p 1) p) < 16 then
                  (md_come (md_sa s 8 p 1) (p + 1) ((((md_sa s 8 p 1).1 7 p.toNatClampNeg) - (md_takes (md_at (md_sa s 8 p 1) p))) + (md_gives (md_at (md_sa s 8 p 1) p))))
                else
                  if (md_at (md_sa s 8 p 1) p) ≤ 18 then
                    if (md_at (md_sa s 8 p 1) p) = 16 then
                      (md_come (md_sa s 8 p 1) (md_at (md_sa s 8 p 1) (p + 1)) ((((md_sa s 8 p 1).1 7 p.toNatClampNeg) - (md_takes (md_at (md_sa s 8 p 1) p))) + (md_gives (md_at (md_sa s 8 p 1) p))))
                    else
                      if (p + 1) ≤ (md_at (md_sa s 8 p 1) (p + 1)) then
                        (md_come (md_come (md_sa s 8 p 1) (p + 1) ((((md_sa s 8 p 1).1 7 p.toNatClampNeg) - (md_takes (md_at (md_sa s 8 p 1) p))) + (md_gives (md_at (md_sa s 8 p 1) p)))) (md_at (md_sa s 8 p 1) (p + 1)) ((((md_sa s 8 p 1).1 7 p.toNatClampNeg) - (md_takes (md_at (md_sa s 8 p 1) p))) + (md_gives (md_at (md_sa s 8 p 1) p))))
                      else
                        (md_come (md_come (md_sa s 8 p 1) (md_at (md_sa s 8 p 1) (p + 1)) ((((md_sa s 8 p 1).1 7 p.toNatClampNeg) - (md_takes (md_at (md_sa s 8 p 1) p))) + (md_gives (md_at (md_sa s 8 p 1) p)))) (p + 1) ((((md_sa s 8 p 1).1 7 p.toNatClampNeg) - (md_takes (md_at (md_sa s 8 p 1) p))) + (md_gives (md_at (md_sa s 8 p 1) p))))
                  else
                    (md_come (md_sa s 8 p 1) (p + 1) ((((md_sa s 8 p 1).1 7 p.toNatClampNeg) - (md_takes (md_at (md_sa s 8 p 1) p))) + (md_gives (md_at (md_sa s 8 p 1) p))))
              else
                (md_sa s 8 p 1)
          else
            if (md_at (md_sa s 8 p 1) p) < 22 then
              if (md_at (md_sa s 8 p 1) p) < 16 then
                (md_come (md_sa s 8 p 1) (p + 2) ((((md_sa s 8 p 1).1 7 p.toNatClampNeg) - (md_takes (md_at (md_sa s 8 p 1) p))) + (md_gives (md_at (md_sa s 8 p 1) p))))
              else
                if (md_at (md_sa s 8 p 1) p) ≤ 18 then
                  if (md_at (md_sa s 8 p 1) p) = 16 then
                    (md_come (md_sa s 8 p 1) (md_at (md_sa s 8 p 1) (p + 1)) ((((md_sa s 8 p 1).1 7 p.toNatClampNeg) - (md_takes (md_at (md_sa s 8 p 1) p))) + (md_gives (md_at (md_sa s 8 p 1) p))))
                  else
                    if (p + 2) ≤ (md_at (md_sa s 8 p 1) (p + 1)) then
                      (md_come (md_come (md_sa s 8 p 1) (p + 2) ((((md_sa s 8 p 1).1 7 p.toNatClampNeg) - (md_takes (md_at (md_sa s 8 p 1) p))) + (md_gives (md_at (md_sa s 8 p 1) p)))) (md_at (md_sa s 8 p 1) (p + 1)) ((((md_sa s 8 p 1).1 7 p.toNatClampNeg) - (md_takes (md_at (md_sa s 8 p 1) p))) + (md_gives (md_at (md_sa s 8 p 1) p))))
                    else
                      (md_come (md_come (md_sa s 8 p 1) (md_at (md_sa s 8 p 1) (p + 1)) ((((md_sa s 8 p 1).1 7 p.toNatClampNeg) - (md_takes (md_at (md_sa s 8 p 1) p))) + (md_gives (md_at (md_sa s 8 p 1) p)))) (p + 2) ((((md_sa s 8 p 1).1 7 p.toNatClampNeg) - (md_takes (md_at (md_sa s 8 p 1) p))) + (md_gives (md_at (md_sa s 8 p 1) p))))
                else
                  (md_come (md_sa s 8 p 1) (p + 2) ((((md_sa s 8 p 1).1 7 p.toNatClampNeg) - (md_takes (md_at (md_sa s 8 p 1) p))) + (md_gives (md_at (md_sa s 8 p 1) p))))
            else
              if 24 < (md_at (md_sa s 8 p 1) p) then
                if (md_at (md_sa s 8 p 1) p) < 16 then
                  (md_come (md_sa s 8 p 1) (p + 2) ((((md_sa s 8 p 1).1 7 p.toNatClampNeg) - (md_takes (md_at (md_sa s 8 p 1) p))) + (md_gives (md_at (md_sa s 8 p 1) p))))
                else
                  if (md_at (md_sa s 8 p 1) p) ≤ 18 then
                    if (md_at (md_sa s 8 p 1) p) = 16 then
                      (md_come (md_sa s 8 p 1) (md_at (md_sa s 8 p 1) (p + 1)) ((((md_sa s 8 p 1).1 7 p.toNatClampNeg) - (md_takes (md_at (md_sa s 8 p 1) p))) + (md_gives (md_at (md_sa s 8 p 1) p))))
                    else
                      if (p + 2) ≤ (md_at (md_sa s 8 p 1) (p + 1)) then
                        (md_come (md_come (md_sa s 8 p 1) (p + 2) ((((md_sa s 8 p 1).1 7 p.toNatClampNeg) - (md_takes (md_at (md_sa s 8 p 1) p))) + (md_gives (md_at (md_sa s 8 p 1) p)))) (md_at (md_sa s 8 p 1) (p + 1)) ((((md_sa s 8 p 1).1 7 p.toNatClampNeg) - (md_takes (md_at (md_sa s 8 p 1) p))) + (md_gives (md_at (md_sa s 8 p 1) p))))
                      else
                        (md_come (md_come (md_sa s 8 p 1) (md_at (md_sa s 8 p 1) (p + 1)) ((((md_sa s 8 p 1).1 7 p.toNatClampNeg) - (md_takes (md_at (md_sa s 8 p 1) p))) + (md_gives (md_at (md_sa s 8 p 1) p)))) (p + 2) ((((md_sa s 8 p 1).1 7 p.toNatClampNeg) - (md_takes (md_at (md_sa s 8 p 1) p))) + (md_gives (md_at (md_sa s 8 p 1) p))))
                  else
                    (md_come (md_sa s 8 p 1) (p + 2) ((((md_sa s 8 p 1).1 7 p.toNatClampNeg) - (md_takes (md_at (md_sa s 8 p 1) p))) + (md_gives (md_at (md_sa s 8 p 1) p))))
              else
                (md_sa s 8 p 1)
        else
          (md_bad (md_sa s 8 p 1) 7 p)
    else
      s
  else
    s
def md_goThrough_ok (s : md_S) (p : Int32) : Prop :=
  (vp_in p 301) ∧ (
  if (s.1 8 p.toNatClampNeg) = 0 then
    if (s.2 2) ≤ 0 then
      (vp_in p 301) ∧ (md_at_ok (md_sa s 8 p 1) p) ∧ (vp_in p 301) ∧ (
      if (((md_sa s 8 p 1).1 7 p.toNatClampNeg) - (md_takes (md_at (md_sa s 8 p 1) p))) < 0 then
        True
      else
        if ((((md_sa s 8 p 1).1 7 p.toNatClampNeg) - (md_takes (md_at (md_sa s 8 p 1) p))) + (md_gives (md_at (md_sa s 8 p 1) p))) ≤ 8 then
          if (md_hasOperand (md_at (md_sa s 8 p 1) p)) = 0 then
            if (md_at (md_sa s 8 p 1) p) < 22 then
              if (md_at (md_sa s 8 p 1) p) < 16 then
                (md_come_ok (md_sa s 8 p 1) (p + 1) ((((md_sa s 8 p 1).1 7 p.toNatClampNeg) - (md_takes (md_at (md_sa s 8 p 1) p))) + (md_gives (md_at (md_sa s 8 p 1) p)))) ∧ (
                True)
              else
                if (md_at (md_sa s 8 p 1) p) ≤ 18 then
                  (md_at_ok (md_sa s 8 p 1) (p + 1)) ∧ (
                  if (md_at (md_sa s 8 p 1) p) = 16 then
                    (md_come_ok (md_sa s 8 p 1) (md_at (md_sa s 8 p 1) (p + 1)) ((((md_sa s 8 p 1).1 7 p.toNatClampNeg) - (md_takes (md_at (md_sa s 8 p 1) p))) + (md_gives (md_at (md_sa s 8 p 1) p)))) ∧ (
                    True)
                  else
                    if (p + 1) ≤ (md_at (md_sa s 8 p 1) (p + 1)) then
                      (md_come_ok (md_sa s 8 p 1) (p + 1) ((((md_sa s 8 p 1).1 7 p.toNatClampNeg) - (md_takes (md_at (md_sa s 8 p 1) p))) + (md_gives (md_at (md_sa s 8 p 1) p)))) ∧ (
                      (md_come_ok (md_come (md_sa s 8 p 1) (p + 1) ((((md_sa s 8 p 1).1 7 p.toNatClampNeg) - (md_takes (md_at (md_sa s 8 p 1) p))) + (md_gives (md_at (md_sa s 8 p 1) p)))) (md_at (md_sa s 8 p 1) (p + 1)) ((((md_sa s 8 p 1).1 7 p.toNatClampNeg) - (md_takes (md_at (md_sa s 8 p 1) p))) + (md_gives (md_at (md_sa s 8 p 1) p)))) ∧ (
                      True))
                    else
                      (md_come_ok (md_sa s 8 p 1) (md_at (md_sa s 8 p 1) (p + 1)) ((((md_sa s 8 p 1).1 7 p.toNatClampNeg) - (md_takes (md_at (md_sa s 8 p 1) p))) + (md_gives (md_at (md_sa s 8 p 1) p)))) ∧ (
                      (md_come_ok (md_come (md_sa s 8 p 1) (md_at (md_sa s 8 p 1) (p + 1)) ((((md_sa s 8 p 1).1 7 p.toNatClampNeg) - (md_takes (md_at (md_sa s 8 p 1) p))) + (md_gives (md_at (md_sa s 8 p 1) p)))) (p + 1) ((((md_sa s 8 p 1).1 7 p.toNatClampNeg) - (md_takes (md_at (md_sa s 8 p 1) p))) + (md_gives (md_at (md_sa s 8 p 1) p)))) ∧ (
                      True)))
                else
                  (md_come_ok (md_sa s 8 p 1) (p + 1) ((((md_sa s 8 p 1).1 7 p.toNatClampNeg) - (md_takes (md_at (md_sa s 8 p 1) p))) + (md_gives (md_at (md_sa s 8 p 1) p)))) ∧ (
                  True)
            else
              if 24 < (md_at (md_sa s 8 p 1) p) then
                if (md_at (md_sa s 8 p 1) p) < 16 then
                  (md_come_ok (md_sa s 8 p 1) (p + 1) ((((md_sa s 8 p 1).1 7 p.toNatClampNeg) - (md_takes (md_at (md_sa s 8 p 1) p))) + (md_gives (md_at (md_sa s 8 p 1) p)))) ∧ (
                  True)
                else
                  if (md_at (md_sa s 8 p 1) p) ≤ 18 then
                    (md_at_ok (md_sa s 8 p 1) (p + 1)) ∧ (
                    if (md_at (md_sa s 8 p 1) p) = 16 then
                      (md_come_ok (md_sa s 8 p 1) (md_at (md_sa s 8 p 1) (p + 1)) ((((md_sa s 8 p 1).1 7 p.toNatClampNeg) - (md_takes (md_at (md_sa s 8 p 1) p))) + (md_gives (md_at (md_sa s 8 p 1) p)))) ∧ (
                      True)
                    else
                      if (p + 1) ≤ (md_at (md_sa s 8 p 1) (p + 1)) then
                        (md_come_ok (md_sa s 8 p 1) (p + 1) ((((md_sa s 8 p 1).1 7 p.toNatClampNeg) - (md_takes (md_at (md_sa s 8 p 1) p))) + (md_gives (md_at (md_sa s 8 p 1) p)))) ∧ (
                        (md_come_ok (md_come (md_sa s 8 p 1) (p + 1) ((((md_sa s 8 p 1).1 7 p.toNatClampNeg) - (md_takes (md_at (md_sa s 8 p 1) p))) + (md_gives (md_at (md_sa s 8 p 1) p)))) (md_at (md_sa s 8 p 1) (p + 1)) ((((md_sa s 8 p 1).1 7 p.toNatClampNeg) - (md_takes (md_at (md_sa s 8 p 1) p))) + (md_gives (md_at (md_sa s 8 p 1) p)))) ∧ (
                        True))
                      else
                        (md_come_ok (md_sa s 8 p 1) (md_at (md_sa s 8 p 1) (p + 1)) ((((md_sa s 8 p 1).1 7 p.toNatClampNeg) - (md_takes (md_at (md_sa s 8 p 1) p))) + (md_gives (md_at (md_sa s 8 p 1) p)))) ∧ (
                        (md_come_ok (md_come (md_sa s 8 p 1) (md_at (md_sa s 8 p 1) (p + 1)) ((((md_sa s 8 p 1).1 7 p.toNatClampNeg) - (md_takes (md_at (md_sa s 8 p 1) p))) + (md_gives (md_at (md_sa s 8 p 1) p)))) (p + 1) ((((md_sa s 8 p 1).1 7 p.toNatClampNeg) - (md_takes (md_at (md_sa s 8 p 1) p))) + (md_gives (md_at (md_sa s 8 p 1) p)))) ∧ (
                        True)))
                  else
                    (md_come_ok (md_sa s 8 p 1) (p + 1) ((((md_sa s 8 p 1).1 7 p.toNatClampNeg) - (md_takes (md_at (md_sa s 8 p 1) p))) + (md_gives (md_at (md_sa s 8 p 1) p)))) ∧ (
                    True)
              else
                True
          else
            if (md_at (md_sa s 8 p 1) p) < 22 then
              if (md_at (md_sa s 8 p 1) p) < 16 then
                (md_come_ok (md_sa s 8 p 1) (p + 2) ((((md_sa s 8 p 1).1 7 p.toNatClampNeg) - (md_takes (md_at (md_sa s 8 p 1) p))) + (md_gives (md_at (md_sa s 8 p 1) p)))) ∧ (
                True)
              else
                if (md_at (md_sa s 8 p 1) p) ≤ 18 then
                  (md_at_ok (md_sa s 8 p 1) (p + 1)) ∧ (
                  if (md_at (md_sa s 8 p 1) p) = 16 then
                    (md_come_ok (md_sa s 8 p 1) (md_at (md_sa s 8 p 1) (p + 1)) ((((md_sa s 8 p 1).1 7 p.toNatClampNeg) - (md_takes (md_at (md_sa s 8 p 1) p))) + (md_gives (md_at (md_sa s 8 p 1) p)))) ∧ (
                    True)
                  else
                    if (p + 2) ≤ (md_at (md_sa s 8 p 1) (p + 1)) then
                      (md_come_ok (md_sa s 8 p 1) (p + 2) ((((md_sa s 8 p 1).1 7 p.toNatClampNeg) - (md_takes (md_at (md_sa s 8 p 1) p))) + (md_gives (md_at (md_sa s 8 p 1) p)))) ∧ (
                      (md_come_ok (md_come (md_sa s 8 p 1) (p + 2) ((((md_sa s 8 p 1).1 7 p.toNatClampNeg) - (md_takes (md_at (md_sa s 8 p 1) p))) + (md_gives (md_at (md_sa s 8 p 1) p)))) (md_at (md_sa s 8 p 1) (p + 1)) ((((md_sa s 8 p 1).1 7 p.toNatClampNeg) - (md_takes (md_at (md_sa s 8 p 1) p))) + (md_gives (md_at (md_sa s 8 p 1) p)))) ∧ (
                      True))
                    else
                      (md_come_ok (md_sa s 8 p 1) (md_at (md_sa s 8 p 1) (p + 1)) ((((md_sa s 8 p 1).1 7 p.toNatClampNeg) - (md_takes (md_at (md_sa s 8 p 1) p))) + (md_gives (md_at (md_sa s 8 p 1) p)))) ∧ (
                      (md_come_ok (md_come (md_sa s 8 p 1) (md_at (md_sa s 8 p 1) (p + 1)) ((((md_sa s 8 p 1).1 7 p.toNatClampNeg) - (md_takes (md_at (md_sa s 8 p 1) p))) + (md_gives (md_at (md_sa s 8 p 1) p)))) (p + 2) ((((md_sa s 8 p 1).1 7 p.toNatClampNeg) - (md_takes (md_at (md_sa s 8 p 1) p))) + (md_gives (md_at (md_sa s 8 p 1) p)))) ∧ (
                      True)))
                else
                  (md_come_ok (md_sa s 8 p 1) (p + 2) ((((md_sa s 8 p 1).1 7 p.toNatClampNeg) - (md_takes (md_at (md_sa s 8 p 1) p))) + (md_gives (md_at (md_sa s 8 p 1) p)))) ∧ (
                  True)
            else
              if 24 < (md_at (md_sa s 8 p 1) p) then
                if (md_at (md_sa s 8 p 1) p) < 16 then
                  (md_come_ok (md_sa s 8 p 1) (p + 2) ((((md_sa s 8 p 1).1 7 p.toNatClampNeg) - (md_takes (md_at (md_sa s 8 p 1) p))) + (md_gives (md_at (md_sa s 8 p 1) p)))) ∧ (
                  True)
                else
                  if (md_at (md_sa s 8 p 1) p) ≤ 18 then
                    (md_at_ok (md_sa s 8 p 1) (p + 1)) ∧ (
                    if (md_at (md_sa s 8 p 1) p) = 16 then
                      (md_come_ok (md_sa s 8 p 1) (md_at (md_sa s 8 p 1) (p + 1)) ((((md_sa s 8 p 1).1 7 p.toNatClampNeg) - (md_takes (md_at (md_sa s 8 p 1) p))) + (md_gives (md_at (md_sa s 8 p 1) p)))) ∧ (
                      True)
                    else
                      if (p + 2) ≤ (md_at (md_sa s 8 p 1) (p + 1)) then
                        (md_come_ok (md_sa s 8 p 1) (p + 2) ((((md_sa s 8 p 1).1 7 p.toNatClampNeg) - (md_takes (md_at (md_sa s 8 p 1) p))) + (md_gives (md_at (md_sa s 8 p 1) p)))) ∧ (
                        (md_come_ok (md_come (md_sa s 8 p 1) (p + 2) ((((md_sa s 8 p 1).1 7 p.toNatClampNeg) - (md_takes (md_at (md_sa s 8 p 1) p))) + (md_gives (md_at (md_sa s 8 p 1) p)))) (md_at (md_sa s 8 p 1) (p + 1)) ((((md_sa s 8 p 1).1 7 p.toNatClampNeg) - (md_takes (md_at (md_sa s 8 p 1) p))) + (md_gives (md_at (md_sa s 8 p 1) p)))) ∧ (
                        True))
                      else
                        (md_come_ok (md_sa s 8 p 1) (md_at (md_sa s 8 p 1) (p + 1)) ((((md_sa s 8 p 1).1 7 p.toNatClampNeg) - (md_takes (md_at (md_sa s 8 p 1) p))) + (md_gives (md_at (md_sa s 8 p 1) p)))) ∧ (
                        (md_come_ok (md_come (md_sa s 8 p 1) (md_at (md_sa s 8 p 1) (p + 1)) ((((md_sa s 8 p 1).1 7 p.toNatClampNeg) - (md_takes (md_at (md_sa s 8 p 1) p))) + (md_gives (md_at (md_sa s 8 p 1) p)))) (p + 2) ((((md_sa s 8 p 1).1 7 p.toNatClampNeg) - (md_takes (md_at (md_sa s 8 p 1) p))) + (md_gives (md_at (md_sa s 8 p 1) p)))) ∧ (
                        True)))
                  else
                    (md_come_ok (md_sa s 8 p 1) (p + 2) ((((md_sa s 8 p 1).1 7 p.toNatClampNeg) - (md_takes (md_at (md_sa s 8 p 1) p))) + (md_gives (md_at (md_sa s 8 p 1) p)))) ∧ (
                    True)
              else
                True
        else
          True)
    else
      True
  else
    True)
set_option maxHeartbeats 4000000 in
theorem k_goThrough {G : cy_G} {D : md_E} {s : md_S} {M : cy_Hp} {post : Option Value → cy_Hp → Prop} (hD : md_Eo G D) (hR : md_R D s M) (p : Int32) (ho : md_goThrough_ok s p) (h : ∀ M', md_R D (md_goThrough s p) M' → post none M') : cy_Ct G 2 m_Model_goThrough [.ref D.2.2.2.1, .int p] M 0 0 post := by
  refine cy_Ct.of (by decide) (Nat.le_of_ble_eq_true rfl) ?_
  intro F C P _
  have C : cy_C G F R_Model b_Model_goThrough 6 2 0 0 := C
  have P : cy_P G F none post 0 0 := P
  unfold md_goThrough_ok at ho
  show WM G F 6 0 0 0 [(0, .ref D.2.2.2.1), (1, .int p)] [] M
  refine wm_aload_n C d_Model_goThrough_0 rfl (j := 0) rfl ?_
  refine wm_get C co_Model hR.1 10 (by decide) fl_Model_36 rfl d_Model_goThrough_1 ?_
  refine wm_iload_n C d_Model_goThrough_4 rfl (j := 1) rfl ?_
  obtain ⟨o1, ho⟩ := ho
  refine wm_zald C (md_arr hR 8 (by decide)) hD.2.2 o1 d_Model_goThrough_5 ?_
  refine wm_if_ne (tgt := 16) C d_Model_goThrough_6 (by decide) (fun (h_6 : ¬ (s.1 8 p.toNatClampNeg) = 0) => ?_) (fun (h_6 : (s.1 8 p.toNatClampNeg) = 0) => ?_)
  · rw [if_neg h_6] at ho
    refine wm_vret C P d_Model_goThrough_16 ?_
    have e : md_goThrough s p = s := by rw [md_goThrough, if_neg h_6]
    rw [e] at h
    exact h _ hR
  · rw [if_pos h_6] at ho
    refine wm_aload_n C d_Model_goThrough_9 rfl (j := 0) rfl ?_
    refine wm_get C co_Model hR.1 11 (by decide) fl_Model_68 rfl d_Model_goThrough_10 ?_
    refine wm_if_le (tgt := 17) C d_Model_goThrough_13 (by decide) (fun (h_13 : (s.2 2) ≤ 0) => ?_) (fun (h_13 : ¬ (s.2 2) ≤ 0) => ?_)
    · rw [if_pos h_13] at ho
      refine wm_aload_n C d_Model_goThrough_17 rfl (j := 0) rfl ?_
      refine wm_get C co_Model hR.1 10 (by decide) fl_Model_36 rfl d_Model_goThrough_18 ?_
      refine wm_iload_n C d_Model_goThrough_21 rfl (j := 1) rfl ?_
      refine wm_iconst (v := 1) C d_Model_goThrough_22 (by decide) ?_
      obtain ⟨o2, ho⟩ := ho
      refine wm_zast C (md_arr hR 8 (by decide)) hD.2.2 rfl o2 d_Model_goThrough_23 ?_
      refine md_gen (md_R_sa hR (a := 8) (by decide) p 1) (fun M1 hR1 => ?_)
      refine wm_aload_n C d_Model_goThrough_24 rfl (j := 0) rfl ?_
      refine wm_iload_n C d_Model_goThrough_25 rfl (j := 1) rfl ?_
      refine wm_callV (d2 := 0) (mc := 0) (ms := 0) C mo_Model_at co_Model ml_Model_81 [.int p] [] rfl hR1.1 rfl (by decide) (Nat.le_of_ble_eq_true rfl) (Nat.le_refl _) (Nat.le_refl _) d_Model_goThrough_26 (cy_ki ?_)
      obtain ⟨o3, ho⟩ := ho
      refine k_at hD hR1 _ o3 ⟨_, rfl, ?_⟩
      refine wm_istore_n (lv' := [(2, .int (md_at (md_sa s 8 p 1) p)), (0, .ref D.2.2.2.1), (1, .int p)]) C d_Model_goThrough_29 rfl (by decide) rfl ?_
      refine wm_aload_n C d_Model_goThrough_30 rfl (j := 1) rfl ?_
      refine wm_get C co_Model hR1.1 9 (by decide) fl_Model_33 rfl d_Model_goThrough_31 ?_
      refine wm_iload_n C d_Model_goThrough_34 rfl (j := 2) rfl ?_
      obtain ⟨o4, ho⟩ := ho
      refine wm_iald C (md_arr hR1 7 (by decide)) hD.1 o4 d_Model_goThrough_35 ?_
      refine wm_iload_n C d_Model_goThrough_36 rfl (j := 0) rfl ?_
      refine wm_callS (d2 := 0) (mc := 0) (ms := 0) C mo_Model_takes ml_Model_102 [.int (md_at (md_sa s 8 p 1) p)] [.int ((md_sa s 8 p 1).1 7 p.toNatClampNeg)] rfl rfl (by decide) (Nat.le_of_ble_eq_true rfl) (Nat.le_refl _) (Nat.le_refl _) d_Model_goThrough_37 (cy_ki ?_)
      refine k_takes hD hR1 _  ⟨_, rfl, ?_⟩
      refine wm_isub C d_Model_goThrough_40 ?_
      refine wm_istore_n (lv' := [(3, .int (((md_sa s 8 p 1).1 7 p.toNatClampNeg) - (md_takes (md_at (md_sa s 8 p 1) p)))), (2, .int (md_at (md_sa s 8 p 1) p)), (0, .ref D.2.2.2.1), (1, .int p)]) C d_Model_goThrough_41 rfl (by decide) rfl ?_
      refine wm_iload_n C d_Model_goThrough_42 rfl (j := 0) rfl ?_
      refine wm_if_lt (tgt := 57) C d_Model_goThrough_43 (by decide) (fun (h_43 : (((md_sa s 8 p 1).1 7 p.toNatClampNeg) - (md_takes (md_at (md_sa s 8 p 1) p))) < 0) => ?_) (fun (h_43 : ¬ (((md_sa s 8 p 1).1 7 p.toNatClampNeg) - (md_takes (md_at (md_sa s 8 p 1) p))) < 0) => ?_)
      · rw [if_pos h_43] at ho
        refine wm_aload_n C d_Model_goThrough_57 rfl (j := 2) rfl ?_
        refine wm_bipush (v := 7) C d_Model_goThrough_58 (by decide) ?_
        refine wm_iload_n C d_Model_goThrough_60 rfl (j := 3) rfl ?_
        refine wm_callV (d2 := 0) (mc := 0) (ms := 0) C mo_Model_bad co_Model ml_Model_77 [.int 7, .int p] [] rfl hR1.1 rfl (by decide) (Nat.le_of_ble_eq_true rfl) (Nat.le_refl _) (Nat.le_refl _) d_Model_goThrough_61 (cy_kv ?_)
        refine k_bad hD hR1 _ _  (fun M2 hR2 => ⟨rfl, ?_⟩)
        refine wm_vret C P d_Model_goThrough_64 ?_
        have e : md_goThrough s p = (md_bad (md_sa s 8 p 1) 7 p) := by rw [md_goThrough, if_pos h_6, if_pos h_13, if_pos h_43]
        rw [e] at h
        exact h _ hR2
      · rw [if_neg h_43] at ho
        refine wm_iload_n C d_Model_goThrough_46 rfl (j := 0) rfl ?_
        refine wm_iload_n C d_Model_goThrough_47 rfl (j := 1) rfl ?_
        refine wm_callS (d2 := 0) (mc := 0) (ms := 0) C mo_Model_gives ml_Model_105 [.int (md_at (md_sa s 8 p 1) p)] [.int (((md_sa s 8 p 1).1 7 p.toNatClampNeg) - (md_takes (md_at (md_sa s 8 p 1) p)))] rfl rfl (by decide) (Nat.le_of_ble_eq_true rfl) (Nat.le_refl _) (Nat.le_refl _) d_Model_goThrough_48 (cy_ki ?_)
        refine k_gives hD hR1 _  ⟨_, rfl, ?_⟩
        refine wm_iadd C d_Model_goThrough_51 ?_
        refine wm_bipush (v := 8) C d_Model_goThrough_52 (by decide) ?_
        refine wm_icmp_le (tgt := 65) C d_Model_goThrough_54 (by decide) (fun (h_54 : ((((md_sa s 8 p 1).1 7 p.toNatClampNeg) - (md_takes (md_at (md_sa s 8 p 1) p))) + (md_gives (md_at (md_sa s 8 p 1) p))) ≤ 8) => ?_) (fun (h_54 : ¬ ((((md_sa s 8 p 1).1 7 p.toNatClampNeg) - (md_takes (md_at (md_sa s 8 p 1) p))) + (md_gives (md_at (md_sa s 8 p 1) p))) ≤ 8) => ?_)
        · rw [if_pos h_54] at ho
          refine wm_iload_n C d_Model_goThrough_65 rfl (j := 0) rfl ?_
          refine wm_iload_n C d_Model_goThrough_66 rfl (j := 1) rfl ?_
          refine wm_callS (d2 := 0) (mc := 0) (ms := 0) C mo_Model_gives ml_Model_105 [.int (md_at (md_sa s 8 p 1) p)] [.int (((md_sa s 8 p 1).1 7 p.toNatClampNeg) - (md_takes (md_at (md_sa s 8 p 1) p)))] rfl rfl (by decide) (Nat.le_of_ble_eq_true rfl) (Nat.le_refl _) (Nat.le_refl _) d_Model_goThrough_67 (cy_ki ?_)
          refine k_gives hD hR1 _  ⟨_, rfl, ?_⟩
          refine wm_iadd C d_Model_goThrough_70 ?_
          refine wm_istore_n (lv' := [(3, .int ((((md_sa s 8 p 1).1 7 p.toNatClampNeg) - (md_takes (md_at (md_sa s 8 p 1) p))) + (md_gives (md_at (md_sa s 8 p 1) p)))), (2, .int (md_at (md_sa s 8 p 1) p)), (0, .ref D.2.2.2.1), (1, .int p)]) C d_Model_goThrough_71 rfl (by decide) rfl ?_
          refine wm_iload_n C d_Model_goThrough_72 rfl (j := 3) rfl ?_
          refine wm_iload_n C d_Model_goThrough_73 rfl (j := 1) rfl ?_
          refine wm_callS (d2 := 0) (mc := 0) (ms := 0) C mo_Model_hasOperand ml_Model_85 [.int (md_at (md_sa s 8 p 1) p)] [.int p] rfl rfl (by decide) (Nat.le_of_ble_eq_true rfl) (Nat.le_refl _) (Nat.le_refl _) d_Model_goThrough_74 (cy_ki ?_)
          refine k_hasOperand hD hR1 _  ⟨_, rfl, ?_⟩
          refine wm_if_eq (tgt := 84) C d_Model_goThrough_77 (by decide) (fun (h_77 : (md_hasOperand (md_at (md_sa s 8 p 1) p)) = 0) => ?_) (fun (h_77 : ¬ (md_hasOperand (md_at (md_sa s 8 p 1) p)) = 0) => ?_)
          · rw [if_pos h_77] at ho
            refine wm_iconst (v := 1) C d_Model_goThrough_84 (by decide) ?_
            refine wm_iadd C d_Model_goThrough_85 ?_
            refine wm_istore (lv' := [(4, .int (p + 1)), (3, .int ((((md_sa s 8 p 1).1 7 p.toNatClampNeg) - (md_takes (md_at (md_sa s 8 p 1) p))) + (md_gives (md_at (md_sa s 8 p 1) p)))), (2, .int (md_at (md_sa s 8 p 1) p)), (0, .ref D.2.2.2.1), (1, .int p)]) C d_Model_goThrough_86 (by decide) rfl ?_
            refine wm_iload_n C d_Model_goThrough_88 rfl (j := 2) rfl ?_
            refine wm_bipush (v := 22) C d_Model_goThrough_89 (by decide) ?_
            refine wm_icmp_lt (tgt := 101) C d_Model_goThrough_91 (by decide) (fun (h_91 : (md_at (md_sa s 8 p 1) p) < 22) => ?_) (fun (h_91 : ¬ (md_at (md_sa s 8 p 1) p) < 22) => ?_)
            · rw [if_pos h_91] at ho
              refine wm_iload_n C d_Model_goThrough_101 rfl (j := 2) rfl ?_
              refine wm_bipush (v := 16) C d_Model_goThrough_102 (by decide) ?_
              refine wm_icmp_lt (tgt := 113) C d_Model_goThrough_104 (by decide) (fun (h_104 : (md_at (md_sa s 8 p 1) p) < 16) => ?_) (fun (h_104 : ¬ (md_at (md_sa s 8 p 1) p) < 16) => ?_)
              · rw [if_pos h_104] at ho
                refine wm_aload_n C d_Model_goThrough_113 rfl (j := 3) rfl ?_
                refine wm_iload C d_Model_goThrough_114 (j := 0) rfl ?_
                refine wm_iload_n C d_Model_goThrough_116 rfl (j := 1) rfl ?_
                refine wm_callV (d2 := 1) (mc := 0) (ms := 0) C mo_Model_come co_Model ml_Model_96 [.int (p + 1), .int ((((md_sa s 8 p 1).1 7 p.toNatClampNeg) - (md_takes (md_at (md_sa s 8 p 1) p))) + (md_gives (md_at (md_sa s 8 p 1) p)))] [] rfl hR1.1 rfl (by decide) (Nat.le_of_ble_eq_true rfl) (Nat.le_refl _) (Nat.le_refl _) d_Model_goThrough_117 (cy_kv ?_)
                obtain ⟨o5, ho⟩ := ho
                refine k_come hD hR1 _ _ o5 (fun M3 hR3 => ⟨rfl, ?_⟩)
                refine wm_vret C P d_Model_goThrough_120 ?_
                have e : md_goThrough s p = (md_come (md_sa s 8 p 1) (p + 1) ((((md_sa s 8 p 1).1 7 p.toNatClampNeg) - (md_takes (md_at (md_sa s 8 p 1) p))) + (md_gives (md_at (md_sa s 8 p 1) p)))) := by rw [md_goThrough, if_pos h_6, if_pos h_13, if_neg h_43, if_pos h_54, if_pos h_77, if_pos h_91, if_pos h_104]
                rw [e] at h
                exact h _ hR3
              · rw [if_neg h_104] at ho
                refine wm_iload_n C d_Model_goThrough_107 rfl (j := 2) rfl ?_
                refine wm_bipush (v := 18) C d_Model_goThrough_108 (by decide) ?_
                refine wm_icmp_le (tgt := 121) C d_Model_goThrough_110 (by decide) (fun (h_110 : (md_at (md_sa s 8 p 1) p) ≤ 18) => ?_) (fun (h_110 : ¬ (md_at (md_sa s 8 p 1) p) ≤ 18) => ?_)
                · rw [if_pos h_110] at ho
                  refine wm_aload_n C d_Model_goThrough_121 rfl (j := 3) rfl ?_
                  refine wm_iload_n C d_Model_goThrough_122 rfl (j := 4) rfl ?_
                  refine wm_iconst (v := 1) C d_Model_goThrough_123 (by decide) ?_
                  refine wm_iadd C d_Model_goThrough_124 ?_
                  refine wm_callV (d2 := 0) (mc := 0) (ms := 0) C mo_Model_at co_Model ml_Model_81 [.int (p + 1)] [] rfl hR1.1 rfl (by decide) (Nat.le_of_ble_eq_true rfl) (Nat.le_refl _) (Nat.le_refl _) d_Model_goThrough_125 (cy_ki ?_)
                  obtain ⟨o6, ho⟩ := ho
                  refine k_at hD hR1 _ o6 ⟨_, rfl, ?_⟩
                  refine wm_istore (lv' := [(5, .int (md_at (md_sa s 8 p 1) (p + 1))), (4, .int (p + 1)), (3, .int ((((md_sa s 8 p 1).1 7 p.toNatClampNeg) - (md_takes (md_at (md_sa s 8 p 1) p))) + (md_gives (md_at (md_sa s 8 p 1) p)))), (2, .int (md_at (md_sa s 8 p 1) p)), (0, .ref D.2.2.2.1), (1, .int p)]) C d_Model_goThrough_128 (by decide) rfl ?_
                  refine wm_iload_n C d_Model_goThrough_130 rfl (j := 3) rfl ?_
                  refine wm_bipush (v := 16) C d_Model_goThrough_131 (by decide) ?_
                  refine wm_icmp_ne (tgt := 144) C d_Model_goThrough_133 (by decide) (fun (h_133 : ¬ (md_at (md_sa s 8 p 1) p) = 16) => ?_) (fun (h_133 : (md_at (md_sa s 8 p 1) p) = 16) => ?_)
                  · rw [if_neg h_133] at ho
                    refine wm_aload_n C d_Model_goThrough_144 rfl (j := 4) rfl ?_
                    refine wm_iload C d_Model_goThrough_145 (j := 0) rfl ?_
                    refine wm_iload C d_Model_goThrough_147 (j := 1) rfl ?_
                    refine wm_icmp_ge (tgt := 157) C d_Model_goThrough_149 (by decide) (fun (h_149 : (p + 1) ≤ (md_at (md_sa s 8 p 1) (p + 1))) => ?_) (fun (h_149 : ¬ (p + 1) ≤ (md_at (md_sa s 8 p 1) (p + 1))) => ?_)
                    · rw [if_pos h_149] at ho
                      refine wm_iload C d_Model_goThrough_157 (j := 1) rfl ?_
                      refine wm_iload_n C d_Model_goThrough_159 rfl (j := 2) rfl ?_
                      refine wm_callV (d2 := 1) (mc := 0) (ms := 0) C mo_Model_come co_Model ml_Model_96 [.int (p + 1), .int ((((md_sa s 8 p 1).1 7 p.toNatClampNeg) - (md_takes (md_at (md_sa s 8 p 1) p))) + (md_gives (md_at (md_sa s 8 p 1) p)))] [] rfl hR1.1 rfl (by decide) (Nat.le_of_ble_eq_true rfl) (Nat.le_refl _) (Nat.le_refl _) d_Model_goThrough_160 (cy_kv ?_)
                      obtain ⟨o7, ho⟩ := ho
                      refine k_come hD hR1 _ _ o7 (fun M4 hR4 => ⟨rfl, ?_⟩)
                      refine wm_aload_n C d_Model_goThrough_163 rfl (j := 4) rfl ?_
                      refine wm_iload C d_Model_goThrough_164 (j := 0) rfl ?_
                      refine wm_iload C d_Model_goThrough_166 (j := 1) rfl ?_
                      refine wm_icmp_ge (tgt := 176) C d_Model_goThrough_168 (by decide) (fun (h_168 : (p + 1) ≤ (md_at (md_sa s 8 p 1) (p + 1))) => ?_) (fun (h_168 : ¬ (p + 1) ≤ (md_at (md_sa s 8 p 1) (p + 1))) => ?_)
                      · refine wm_iload C d_Model_goThrough_176 (j := 0) rfl ?_
                        refine wm_iload_n C d_Model_goThrough_178 rfl (j := 2) rfl ?_
                        refine wm_callV (d2 := 1) (mc := 0) (ms := 0) C mo_Model_come co_Model ml_Model_96 [.int (md_at (md_sa s 8 p 1) (p + 1)), .int ((((md_sa s 8 p 1).1 7 p.toNatClampNeg) - (md_takes (md_at (md_sa s 8 p 1) p))) + (md_gives (md_at (md_sa s 8 p 1) p)))] [] rfl hR4.1 rfl (by decide) (Nat.le_of_ble_eq_true rfl) (Nat.le_refl _) (Nat.le_refl _) d_Model_goThrough_179 (cy_kv ?_)
                        obtain ⟨o8, ho⟩ := ho
                        refine k_come hD hR4 _ _ o8 (fun M5 hR5 => ⟨rfl, ?_⟩)
                        refine wm_vret C P d_Model_goThrough_182 ?_
                        have e : md_goThrough s p = (md_come (md_come (md_sa s 8 p 1) (p + 1) ((((md_sa s 8 p 1).1 7 p.toNatClampNeg) - (md_takes (md_at (md_sa s 8 p 1) p))) + (md_gives (md_at (md_sa s 8 p 1) p)))) (md_at (md_sa s 8 p 1) (p + 1)) ((((md_sa s 8 p 1).1 7 p.toNatClampNeg) - (md_takes (md_at (md_sa s 8 p 1) p))) + (md_gives (md_at (md_sa s 8 p 1) p)))) := by rw [md_goThrough, if_pos h_6, if_pos h_13, if_neg h_43, if_pos h_54, if_pos h_77, if_pos h_91, if_neg h_104, if_pos h_110, if_neg h_133, if_pos h_149]
                        rw [e] at h
                        exact h _ hR5
                      · exact absurd h_149 h_168
                    · rw [if_neg h_149] at ho
                      refine wm_iload C d_Model_goThrough_152 (j := 0) rfl ?_
                      refine wm_goto (tgt := 159) C d_Model_goThrough_154 (by decide) ?_
                      refine wm_iload_n C d_Model_goThrough_159 rfl (j := 2) rfl ?_
                      refine wm_callV (d2 := 1) (mc := 0) (ms := 0) C mo_Model_come co_Model ml_Model_96 [.int (md_at (md_sa s 8 p 1) (p + 1)), .int ((((md_sa s 8 p 1).1 7 p.toNatClampNeg) - (md_takes (md_at (md_sa s 8 p 1) p))) + (md_gives (md_at (md_sa s 8 p 1) p)))] [] rfl hR1.1 rfl (by decide) (Nat.le_of_ble_eq_true rfl) (Nat.le_refl _) (Nat.le_refl _) d_Model_goThrough_160 (cy_kv ?_)
                      obtain ⟨o9, ho⟩ := ho
                      refine k_come hD hR1 _ _ o9 (fun M6 hR6 => ⟨rfl, ?_⟩)
                      refine wm_aload_n C d_Model_goThrough_163 rfl (j := 4) rfl ?_
                      refine wm_iload C d_Model_goThrough_164 (j := 0) rfl ?_
                      refine wm_iload C d_Model_goThrough_166 (j := 1) rfl ?_
                      refine wm_icmp_ge (tgt := 176) C d_Model_goThrough_168 (by decide) (fun (h_168_12 : (p + 1) ≤ (md_at (md_sa s 8 p 1) (p + 1))) => ?_) (fun (h_168_12 : ¬ (p + 1) ≤ (md_at (md_sa s 8 p 1) (p + 1))) => ?_)
                      · exact absurd h_168_12 h_149
                      · refine wm_iload C d_Model_goThrough_171 (j := 1) rfl ?_
                        refine wm_goto (tgt := 178) C d_Model_goThrough_173 (by decide) ?_
                        refine wm_iload_n C d_Model_goThrough_178 rfl (j := 2) rfl ?_
                        refine wm_callV (d2 := 1) (mc := 0) (ms := 0) C mo_Model_come co_Model ml_Model_96 [.int (p + 1), .int ((((md_sa s 8 p 1).1 7 p.toNatClampNeg) - (md_takes (md_at (md_sa s 8 p 1) p))) + (md_gives (md_at (md_sa s 8 p 1) p)))] [] rfl hR6.1 rfl (by decide) (Nat.le_of_ble_eq_true rfl) (Nat.le_refl _) (Nat.le_refl _) d_Model_goThrough_179 (cy_kv ?_)
                        obtain ⟨o10, ho⟩ := ho
                        refine k_come hD hR6 _ _ o10 (fun M7 hR7 => ⟨rfl, ?_⟩)
                        refine wm_vret C P d_Model_goThrough_182 ?_
                        have e : md_goThrough s p = (md_come (md_come (md_sa s 8 p 1) (md_at (md_sa s 8 p 1) (p + 1)) ((((md_sa s 8 p 1).1 7 p.toNatClampNeg) - (md_takes (md_at (md_sa s 8 p 1) p))) + (md_gives (md_at (md_sa s 8 p 1) p)))) (p + 1) ((((md_sa s 8 p 1).1 7 p.toNatClampNeg) - (md_takes (md_at (md_sa s 8 p 1) p))) + (md_gives (md_at (md_sa s 8 p 1) p)))) := by rw [md_goThrough, if_pos h_6, if_pos h_13, if_neg h_43, if_pos h_54, if_pos h_77, if_pos h_91, if_neg h_104, if_pos h_110, if_neg h_133, if_neg h_149]
                        rw [e] at h
                        exact h _ hR7
                  · rw [if_pos h_133] at ho
                    refine wm_aload_n C d_Model_goThrough_136 rfl (j := 4) rfl ?_
                    refine wm_iload C d_Model_goThrough_137 (j := 0) rfl ?_
                    refine wm_iload_n C d_Model_goThrough_139 rfl (j := 2) rfl ?_
                    refine wm_callV (d2 := 1) (mc := 0) (ms := 0) C mo_Model_come co_Model ml_Model_96 [.int (md_at (md_sa s 8 p 1) (p + 1)), .int ((((md_sa s 8 p 1).1 7 p.toNatClampNeg) - (md_takes (md_at (md_sa s 8 p 1) p))) + (md_gives (md_at (md_sa s 8 p 1) p)))] [] rfl hR1.1 rfl (by decide) (Nat.le_of_ble_eq_true rfl) (Nat.le_refl _) (Nat.le_refl _) d_Model_goThrough_140 (cy_kv ?_)
                    obtain ⟨o11, ho⟩ := ho
                    refine k_come hD hR1 _ _ o11 (fun M8 hR8 => ⟨rfl, ?_⟩)
                    refine wm_vret C P d_Model_goThrough_143 ?_
                    have e : md_goThrough s p = (md_come (md_sa s 8 p 1) (md_at (md_sa s 8 p 1) (p + 1)) ((((md_sa s 8 p 1).1 7 p.toNatClampNeg) - (md_takes (md_at (md_sa s 8 p 1) p))) + (md_gives (md_at (md_sa s 8 p 1) p)))) := by rw [md_goThrough, if_pos h_6, if_pos h_13, if_neg h_43, if_pos h_54, if_pos h_77, if_pos h_91, if_neg h_104, if_pos h_110, if_pos h_133]
                    rw [e] at h
                    exact h _ hR8
                · rw [if_neg h_110] at ho
                  refine wm_aload_n C d_Model_goThrough_113 rfl (j := 3) rfl ?_
                  refine wm_iload C d_Model_goThrough_114 (j := 0) rfl ?_
                  refine wm_iload_n C d_Model_goThrough_116 rfl (j := 1) rfl ?_
                  refine wm_callV (d2 := 1) (mc := 0) (ms := 0) C mo_Model_come co_Model ml_Model_96 [.int (p + 1), .int ((((md_sa s 8 p 1).1 7 p.toNatClampNeg) - (md_takes (md_at (md_sa s 8 p 1) p))) + (md_gives (md_at (md_sa s 8 p 1) p)))] [] rfl hR1.1 rfl (by decide) (Nat.le_of_ble_eq_true rfl) (Nat.le_refl _) (Nat.le_refl _) d_Model_goThrough_117 (cy_kv ?_)
                  obtain ⟨o12, ho⟩ := ho
                  refine k_come hD hR1 _ _ o12 (fun M9 hR9 => ⟨rfl, ?_⟩)
                  refine wm_vret C P d_Model_goThrough_120 ?_
                  have e : md_goThrough s p = (md_come (md_sa s 8 p 1) (p + 1) ((((md_sa s 8 p 1).1 7 p.toNatClampNeg) - (md_takes (md_at (md_sa s 8 p 1) p))) + (md_gives (md_at (md_sa s 8 p 1) p)))) := by rw [md_goThrough, if_pos h_6, if_pos h_13, if_neg h_43, if_pos h_54, if_pos h_77, if_pos h_91, if_neg h_104, if_neg h_110]
                  rw [e] at h
                  exact h _ hR9
            · rw [if_neg h_91] at ho
              refine wm_iload_n C d_Model_goThrough_94 rfl (j := 2) rfl ?_
              refine wm_bipush (v := 24) C d_Model_goThrough_95 (by decide) ?_
              refine wm_icmp_gt (tgt := 101) C d_Model_goThrough_97 (by decide) (fun (h_97 : 24 < (md_at (md_sa s 8 p 1) p)) => ?_) (fun (h_97 : ¬ 24 < (md_at (md_sa s 8 p 1) p)) => ?_)
              · rw [if_pos h_97] at ho
                refine wm_iload_n C d_Model_goThrough_101 rfl (j := 2) rfl ?_
                refine wm_bipush (v := 16) C d_Model_goThrough_102 (by decide) ?_
                refine wm_icmp_lt (tgt := 113) C d_Model_goThrough_104 (by decide) (fun (h_104_14 : (md_at (md_sa s 8 p 1) p) < 16) => ?_) (fun (h_104_14 : ¬ (md_at (md_sa s 8 p 1) p) < 16) => ?_)
                · rw [if_pos h_104_14] at ho
                  refine wm_aload_n C d_Model_goThrough_113 rfl (j := 3) rfl ?_
                  refine wm_iload C d_Model_goThrough_114 (j := 0) rfl ?_
                  refine wm_iload_n C d_Model_goThrough_116 rfl (j := 1) rfl ?_
                  refine wm_callV (d2 := 1) (mc := 0) (ms := 0) C mo_Model_come co_Model ml_Model_96 [.int (p + 1), .int ((((md_sa s 8 p 1).1 7 p.toNatClampNeg) - (md_takes (md_at (md_sa s 8 p 1) p))) + (md_gives (md_at (md_sa s 8 p 1) p)))] [] rfl hR1.1 rfl (by decide) (Nat.le_of_ble_eq_true rfl) (Nat.le_refl _) (Nat.le_refl _) d_Model_goThrough_117 (cy_kv ?_)
                  obtain ⟨o13, ho⟩ := ho
                  refine k_come hD hR1 _ _ o13 (fun M10 hR10 => ⟨rfl, ?_⟩)
                  refine wm_vret C P d_Model_goThrough_120 ?_
                  have e : md_goThrough s p = (md_come (md_sa s 8 p 1) (p + 1) ((((md_sa s 8 p 1).1 7 p.toNatClampNeg) - (md_takes (md_at (md_sa s 8 p 1) p))) + (md_gives (md_at (md_sa s 8 p 1) p)))) := by rw [md_goThrough, if_pos h_6, if_pos h_13, if_neg h_43, if_pos h_54, if_pos h_77, if_neg h_91, if_pos h_97, if_pos h_104_14]
                  rw [e] at h
                  exact h _ hR10
                · rw [if_neg h_104_14] at ho
                  refine wm_iload_n C d_Model_goThrough_107 rfl (j := 2) rfl ?_
                  refine wm_bipush (v := 18) C d_Model_goThrough_108 (by decide) ?_
                  refine wm_icmp_le (tgt := 121) C d_Model_goThrough_110 (by decide) (fun (h_110_15 : (md_at (md_sa s 8 p 1) p) ≤ 18) => ?_) (fun (h_110_15 : ¬ (md_at (md_sa s 8 p 1) p) ≤ 18) => ?_)
                  · rw [if_pos h_110_15] at ho
                    refine wm_aload_n C d_Model_goThrough_121 rfl (j := 3) rfl ?_
                    refine wm_iload_n C d_Model_goThrough_122 rfl (j := 4) rfl ?_
                    refine wm_iconst (v := 1) C d_Model_goThrough_123 (by decide) ?_
                    refine wm_iadd C d_Model_goThrough_124 ?_
                    refine wm_callV (d2 := 0) (mc := 0) (ms := 0) C mo_Model_at co_Model ml_Model_81 [.int (p + 1)] [] rfl hR1.1 rfl (by decide) (Nat.le_of_ble_eq_true rfl) (Nat.le_refl _) (Nat.le_refl _) d_Model_goThrough_125 (cy_ki ?_)
                    obtain ⟨o14, ho⟩ := ho
                    refine k_at hD hR1 _ o14 ⟨_, rfl, ?_⟩
                    refine wm_istore (lv' := [(5, .int (md_at (md_sa s 8 p 1) (p + 1))), (4, .int (p + 1)), (3, .int ((((md_sa s 8 p 1).1 7 p.toNatClampNeg) - (md_takes (md_at (md_sa s 8 p 1) p))) + (md_gives (md_at (md_sa s 8 p 1) p)))), (2, .int (md_at (md_sa s 8 p 1) p)), (0, .ref D.2.2.2.1), (1, .int p)]) C d_Model_goThrough_128 (by decide) rfl ?_
                    refine wm_iload_n C d_Model_goThrough_130 rfl (j := 3) rfl ?_
                    refine wm_bipush (v := 16) C d_Model_goThrough_131 (by decide) ?_
                    refine wm_icmp_ne (tgt := 144) C d_Model_goThrough_133 (by decide) (fun (h_133_16 : ¬ (md_at (md_sa s 8 p 1) p) = 16) => ?_) (fun (h_133_16 : (md_at (md_sa s 8 p 1) p) = 16) => ?_)
                    · rw [if_neg h_133_16] at ho
                      refine wm_aload_n C d_Model_goThrough_144 rfl (j := 4) rfl ?_
                      refine wm_iload C d_Model_goThrough_145 (j := 0) rfl ?_
                      refine wm_iload C d_Model_goThrough_147 (j := 1) rfl ?_
                      refine wm_icmp_ge (tgt := 157) C d_Model_goThrough_149 (by decide) (fun (h_149_17 : (p + 1) ≤ (md_at (md_sa s 8 p 1) (p + 1))) => ?_) (fun (h_149_17 : ¬ (p + 1) ≤ (md_at (md_sa s 8 p 1) (p + 1))) => ?_)
                      · rw [if_pos h_149_17] at ho
                        refine wm_iload C d_Model_goThrough_157 (j := 1) rfl ?_
                        refine wm_iload_n C d_Model_goThrough_159 rfl (j := 2) rfl ?_
                        refine wm_callV (d2 := 1) (mc := 0) (ms := 0) C mo_Model_come co_Model ml_Model_96 [.int (p + 1), .int ((((md_sa s 8 p 1).1 7 p.toNatClampNeg) - (md_takes (md_at (md_sa s 8 p 1) p))) + (md_gives (md_at (md_sa s 8 p 1) p)))] [] rfl hR1.1 rfl (by decide) (Nat.le_of_ble_eq_true rfl) (Nat.le_refl _) (Nat.le_refl _) d_Model_goThrough_160 (cy_kv ?_)
                        obtain ⟨o15, ho⟩ := ho
                        refine k_come hD hR1 _ _ o15 (fun M11 hR11 => ⟨rfl, ?_⟩)
                        refine wm_aload_n C d_Model_goThrough_163 rfl (j := 4) rfl ?_
                        refine wm_iload C d_Model_goThrough_164 (j := 0) rfl ?_
                        refine wm_iload C d_Model_goThrough_166 (j := 1) rfl ?_
                        refine wm_icmp_ge (tgt := 176) C d_Model_goThrough_168 (by decide) (fun (h_168_18 : (p + 1) ≤ (md_at (md_sa s 8 p 1) (p + 1))) => ?_) (fun (h_168_18 : ¬ (p + 1) ≤ (md_at (md_sa s 8 p 1) (p + 1))) => ?_)
                        · refine wm_iload C d_Model_goThrough_176 (j := 0) rfl ?_
                          refine wm_iload_n C d_Model_goThrough_178 rfl (j := 2) rfl ?_
                          refine wm_callV (d2 := 1) (mc := 0) (ms := 0) C mo_Model_come co_Model ml_Model_96 [.int (md_at (md_sa s 8 p 1) (p + 1)), .int ((((md_sa s 8 p 1).1 7 p.toNatClampNeg) - (md_takes (md_at (md_sa s 8 p 1) p))) + (md_gives (md_at (md_sa s 8 p 1) p)))] [] rfl hR11.1 rfl (by decide) (Nat.le_of_ble_eq_true rfl) (Nat.le_refl _) (Nat.le_refl _) d_Model_goThrough_179 (cy_kv ?_)
                          obtain ⟨o16, ho⟩ := ho
                          refine k_come hD hR11 _ _ o16 (fun M12 hR12 => ⟨rfl, ?_⟩)
                          refine wm_vret C P d_Model_goThrough_182 ?_
                          have e : md_goThrough s p = (md_come (md_come (md_sa s 8 p 1) (p + 1) ((((md_sa s 8 p 1).1 7 p.toNatClampNeg) - (md_takes (md_at (md_sa s 8 p 1) p))) + (md_gives (md_at (md_sa s 8 p 1) p)))) (md_at (md_sa s 8 p 1) (p + 1)) ((((md_sa s 8 p 1).1 7 p.toNatClampNeg) - (md_takes (md_at (md_sa s 8 p 1) p))) + (md_gives (md_at (md_sa s 8 p 1) p)))) := by rw [md_goThrough, if_pos h_6, if_pos h_13, if_neg h_43, if_pos h_54, if_pos h_77, if_neg h_91, if_pos h_97, if_neg h_104_14, if_pos h_110_15, if_neg h_133_16, if_pos h_149_17]
                          rw [e] at h
                          exact h _ hR12
                        · exact absurd h_149_17 h_168_18
                      · rw [if_neg h_149_17] at ho
                        refine wm_iload C d_Model_goThrough_152 (j := 0) rfl ?_
                        refine wm_goto (tgt := 159) C d_Model_goThrough_154 (by decide) ?_
                        refine wm_iload_n C d_Model_goThrough_159 rfl (j := 2) rfl ?_
                        refine wm_callV (d2 := 1) (mc := 0) (ms := 0) C mo_Model_come co_Model ml_Model_96 [.int (md_at (md_sa s 8 p 1) (p + 1)), .int ((((md_sa s 8 p 1).1 7 p.toNatClampNeg) - (md_takes (md_at (md_sa s 8 p 1) p))) + (md_gives (md_at (md_sa s 8 p 1) p)))] [] rfl hR1.1 rfl (by decide) (Nat.le_of_ble_eq_true rfl) (Nat.le_refl _) (Nat.le_refl _) d_Model_goThrough_160 (cy_kv ?_)
                        obtain ⟨o17, ho⟩ := ho
                        refine k_come hD hR1 _ _ o17 (fun M13 hR13 => ⟨rfl, ?_⟩)
                        refine wm_aload_n C d_Model_goThrough_163 rfl (j := 4) rfl ?_
                        refine wm_iload C d_Model_goThrough_164 (j := 0) rfl ?_
                        refine wm_iload C d_Model_goThrough_166 (j := 1) rfl ?_
                        refine wm_icmp_ge (tgt := 176) C d_Model_goThrough_168 (by decide) (fun (h_168_19 : (p + 1) ≤ (md_at (md_sa s 8 p 1) (p + 1))) => ?_) (fun (h_168_19 : ¬ (p + 1) ≤ (md_at (md_sa s 8 p 1) (p + 1))) => ?_)
                        · exact absurd h_168_19 h_149_17
                        · refine wm_iload C d_Model_goThrough_171 (j := 1) rfl ?_
                          refine wm_goto (tgt := 178) C d_Model_goThrough_173 (by decide) ?_
                          refine wm_iload_n C d_Model_goThrough_178 rfl (j := 2) rfl ?_
                          refine wm_callV (d2 := 1) (mc := 0) (ms := 0) C mo_Model_come co_Model ml_Model_96 [.int (p + 1), .int ((((md_sa s 8 p 1).1 7 p.toNatClampNeg) - (md_takes (md_at (md_sa s 8 p 1) p))) + (md_gives (md_at (md_sa s 8 p 1) p)))] [] rfl hR13.1 rfl (by decide) (Nat.le_of_ble_eq_true rfl) (Nat.le_refl _) (Nat.le_refl _) d_Model_goThrough_179 (cy_kv ?_)
                          obtain ⟨o18, ho⟩ := ho
                          refine k_come hD hR13 _ _ o18 (fun M14 hR14 => ⟨rfl, ?_⟩)
                          refine wm_vret C P d_Model_goThrough_182 ?_
                          have e : md_goThrough s p = (md_come (md_come (md_sa s 8 p 1) (md_at (md_sa s 8 p 1) (p + 1)) ((((md_sa s 8 p 1).1 7 p.toNatClampNeg) - (md_takes (md_at (md_sa s 8 p 1) p))) + (md_gives (md_at (md_sa s 8 p 1) p)))) (p + 1) ((((md_sa s 8 p 1).1 7 p.toNatClampNeg) - (md_takes (md_at (md_sa s 8 p 1) p))) + (md_gives (md_at (md_sa s 8 p 1) p)))) := by rw [md_goThrough, if_pos h_6, if_pos h_13, if_neg h_43, if_pos h_54, if_pos h_77, if_neg h_91, if_pos h_97, if_neg h_104_14, if_pos h_110_15, if_neg h_133_16, if_neg h_149_17]
                          rw [e] at h
                          exact h _ hR14
                    · rw [if_pos h_133_16] at ho
                      refine wm_aload_n C d_Model_goThrough_136 rfl (j := 4) rfl ?_
                      refine wm_iload C d_Model_goThrough_137 (j := 0) rfl ?_
                      refine wm_iload_n C d_Model_goThrough_139 rfl (j := 2) rfl ?_
                      refine wm_callV (d2 := 1) (mc := 0) (ms := 0) C mo_Model_come co_Model ml_Model_96 [.int (md_at (md_sa s 8 p 1) (p + 1)), .int ((((md_sa s 8 p 1).1 7 p.toNatClampNeg) - (md_takes (md_at (md_sa s 8 p 1) p))) + (md_gives (md_at (md_sa s 8 p 1) p)))] [] rfl hR1.1 rfl (by decide) (Nat.le_of_ble_eq_true rfl) (Nat.le_refl _) (Nat.le_refl _) d_Model_goThrough_140 (cy_kv ?_)
                      obtain ⟨o19, ho⟩ := ho
                      refine k_come hD hR1 _ _ o19 (fun M15 hR15 => ⟨rfl, ?_⟩)
                      refine wm_vret C P d_Model_goThrough_143 ?_
                      have e : md_goThrough s p = (md_come (md_sa s 8 p 1) (md_at (md_sa s 8 p 1) (p + 1)) ((((md_sa s 8 p 1).1 7 p.toNatClampNeg) - (md_takes (md_at (md_sa s 8 p 1) p))) + (md_gives (md_at (md_sa s 8 p 1) p)))) := by rw [md_goThrough, if_pos h_6, if_pos h_13, if_neg h_43, if_pos h_54, if_pos h_77, if_neg h_91, if_pos h_97, if_neg h_104_14, if_pos h_110_15, if_pos h_133_16]
                      rw [e] at h
                      exact h _ hR15
                  · rw [if_neg h_110_15] at ho
                    refine wm_aload_n C d_Model_goThrough_113 rfl (j := 3) rfl ?_
                    refine wm_iload C d_Model_goThrough_114 (j := 0) rfl ?_
                    refine wm_iload_n C d_Model_goThrough_116 rfl (j := 1) rfl ?_
                    refine wm_callV (d2 := 1) (mc := 0) (ms := 0) C mo_Model_come co_Model ml_Model_96 [.int (p + 1), .int ((((md_sa s 8 p 1).1 7 p.toNatClampNeg) - (md_takes (md_at (md_sa s 8 p 1) p))) + (md_gives (md_at (md_sa s 8 p 1) p)))] [] rfl hR1.1 rfl (by decide) (Nat.le_of_ble_eq_true rfl) (Nat.le_refl _) (Nat.le_refl _) d_Model_goThrough_117 (cy_kv ?_)
                    obtain ⟨o20, ho⟩ := ho
                    refine k_come hD hR1 _ _ o20 (fun M16 hR16 => ⟨rfl, ?_⟩)
                    refine wm_vret C P d_Model_goThrough_120 ?_
                    have e : md_goThrough s p = (md_come (md_sa s 8 p 1) (p + 1) ((((md_sa s 8 p 1).1 7 p.toNatClampNeg) - (md_takes (md_at (md_sa s 8 p 1) p))) + (md_gives (md_at (md_sa s 8 p 1) p)))) := by rw [md_goThrough, if_pos h_6, if_pos h_13, if_neg h_43, if_pos h_54, if_pos h_77, if_neg h_91, if_pos h_97, if_neg h_104_14, if_neg h_110_15]
                    rw [e] at h
                    exact h _ hR16
              · rw [if_neg h_97] at ho
                refine wm_vret C P d_Model_goThrough_100 ?_
                have e : md_goThrough s p = (md_sa s 8 p 1) := by rw [md_goThrough, if_pos h_6, if_pos h_13, if_neg h_43, if_pos h_54, if_pos h_77, if_neg h_91, if_neg h_97]
                rw [e] at h
                exact h _ hR1
          · rw [if_neg h_77] at ho
            refine wm_iconst (v := 2) C d_Model_goThrough_80 (by decide) ?_
            refine wm_goto (tgt := 85) C d_Model_goThrough_81 (by decide) ?_
            refine wm_iadd C d_Model_goThrough_85 ?_
            refine wm_istore (lv' := [(4, .int (p + 2)), (3, .int ((((md_sa s 8 p 1).1 7 p.toNatClampNeg) - (md_takes (md_at (md_sa s 8 p 1) p))) + (md_gives (md_at (md_sa s 8 p 1) p)))), (2, .int (md_at (md_sa s 8 p 1) p)), (0, .ref D.2.2.2.1), (1, .int p)]) C d_Model_goThrough_86 (by decide) rfl ?_
            refine wm_iload_n C d_Model_goThrough_88 rfl (j := 2) rfl ?_
            refine wm_bipush (v := 22) C d_Model_goThrough_89 (by decide) ?_
            refine wm_icmp_lt (tgt := 101) C d_Model_goThrough_91 (by decide) (fun (h_91_20 : (md_at (md_sa s 8 p 1) p) < 22) => ?_) (fun (h_91_20 : ¬ (md_at (md_sa s 8 p 1) p) < 22) => ?_)
            · rw [if_pos h_91_20] at ho
              refine wm_iload_n C d_Model_goThrough_101 rfl (j := 2) rfl ?_
              refine wm_bipush (v := 16) C d_Model_goThrough_102 (by decide) ?_
              refine wm_icmp_lt (tgt := 113) C d_Model_goThrough_104 (by decide) (fun (h_104_21 : (md_at (md_sa s 8 p 1) p) < 16) => ?_) (fun (h_104_21 : ¬ (md_at (md_sa s 8 p 1) p) < 16) => ?_)
              · rw [if_pos h_104_21] at ho
                refine wm_aload_n C d_Model_goThrough_113 rfl (j := 3) rfl ?_
                refine wm_iload C d_Model_goThrough_114 (j := 0) rfl ?_
                refine wm_iload_n C d_Model_goThrough_116 rfl (j := 1) rfl ?_
                refine wm_callV (d2 := 1) (mc := 0) (ms := 0) C mo_Model_come co_Model ml_Model_96 [.int (p + 2), .int ((((md_sa s 8 p 1).1 7 p.toNatClampNeg) - (md_takes (md_at (md_sa s 8 p 1) p))) + (md_gives (md_at (md_sa s 8 p 1) p)))] [] rfl hR1.1 rfl (by decide) (Nat.le_of_ble_eq_true rfl) (Nat.le_refl _) (Nat.le_refl _) d_Model_goThrough_117 (cy_kv ?_)
                obtain ⟨o21, ho⟩ := ho
                refine k_come hD hR1 _ _ o21 (fun M17 hR17 => ⟨rfl, ?_⟩)
                refine wm_vret C P d_Model_goThrough_120 ?_
                have e : md_goThrough s p = (md_come (md_sa s 8 p 1) (p + 2) ((((md_sa s 8 p 1).1 7 p.toNatClampNeg) - (md_takes (md_at (md_sa s 8 p 1) p))) + (md_gives (md_at (md_sa s 8 p 1) p)))) := by rw [md_goThrough, if_pos h_6, if_pos h_13, if_neg h_43, if_pos h_54, if_neg h_77, if_pos h_91_20, if_pos h_104_21]
                rw [e] at h
                exact h _ hR17
              · rw [if_neg h_104_21] at ho
                refine wm_iload_n C d_Model_goThrough_107 rfl (j := 2) rfl ?_
                refine wm_bipush (v := 18) C d_Model_goThrough_108 (by decide) ?_
                refine wm_icmp_le (tgt := 121) C d_Model_goThrough_110 (by decide) (fun (h_110_22 : (md_at (md_sa s 8 p 1) p) ≤ 18) => ?_) (fun (h_110_22 : ¬ (md_at (md_sa s 8 p 1) p) ≤ 18) => ?_)
                · rw [if_pos h_110_22] at ho
                  refine wm_aload_n C d_Model_goThrough_121 rfl (j := 3) rfl ?_
                  refine wm_iload_n C d_Model_goThrough_122 rfl (j := 4) rfl ?_
                  refine wm_iconst (v := 1) C d_Model_goThrough_123 (by decide) ?_
                  refine wm_iadd C d_Model_goThrough_124 ?_
                  refine wm_callV (d2 := 0) (mc := 0) (ms := 0) C mo_Model_at co_Model ml_Model_81 [.int (p + 1)] [] rfl hR1.1 rfl (by decide) (Nat.le_of_ble_eq_true rfl) (Nat.le_refl _) (Nat.le_refl _) d_Model_goThrough_125 (cy_ki ?_)
                  obtain ⟨o22, ho⟩ := ho
                  refine k_at hD hR1 _ o22 ⟨_, rfl, ?_⟩
                  refine wm_istore (lv' := [(5, .int (md_at (md_sa s 8 p 1) (p + 1))), (4, .int (p + 2)), (3, .int ((((md_sa s 8 p 1).1 7 p.toNatClampNeg) - (md_takes (md_at (md_sa s 8 p 1) p))) + (md_gives (md_at (md_sa s 8 p 1) p)))), (2, .int (md_at (md_sa s 8 p 1) p)), (0, .ref D.2.2.2.1), (1, .int p)]) C d_Model_goThrough_128 (by decide) rfl ?_
                  refine wm_iload_n C d_Model_goThrough_130 rfl (j := 3) rfl ?_
                  refine wm_bipush (v := 16) C d_Model_goThrough_131 (by decide) ?_
                  refine wm_icmp_ne (tgt := 144) C d_Model_goThrough_133 (by decide) (fun (h_133_23 : ¬ (md_at (md_sa s 8 p 1) p) = 16) => ?_) (fun (h_133_23 : (md_at (md_sa s 8 p 1) p) = 16) => ?_)
                  · rw [if_neg h_133_23] at ho
                    refine wm_aload_n C d_Model_goThrough_144 rfl (j := 4) rfl ?_
                    refine wm_iload C d_Model_goThrough_145 (j := 0) rfl ?_
                    refine wm_iload C d_Model_goThrough_147 (j := 1) rfl ?_
                    refine wm_icmp_ge (tgt := 157) C d_Model_goThrough_149 (by decide) (fun (h_149_24 : (p + 2) ≤ (md_at (md_sa s 8 p 1) (p + 1))) => ?_) (fun (h_149_24 : ¬ (p + 2) ≤ (md_at (md_sa s 8 p 1) (p + 1))) => ?_)
                    · rw [if_pos h_149_24] at ho
                      refine wm_iload C d_Model_goThrough_157 (j := 1) rfl ?_
                      refine wm_iload_n C d_Model_goThrough_159 rfl (j := 2) rfl ?_
                      refine wm_callV (d2 := 1) (mc := 0) (ms := 0) C mo_Model_come co_Model ml_Model_96 [.int (p + 2), .int ((((md_sa s 8 p 1).1 7 p.toNatClampNeg) - (md_takes (md_at (md_sa s 8 p 1) p))) + (md_gives (md_at (md_sa s 8 p 1) p)))] [] rfl hR1.1 rfl (by decide) (Nat.le_of_ble_eq_true rfl) (Nat.le_refl _) (Nat.le_refl _) d_Model_goThrough_160 (cy_kv ?_)
                      obtain ⟨o23, ho⟩ := ho
                      refine k_come hD hR1 _ _ o23 (fun M18 hR18 => ⟨rfl, ?_⟩)
                      refine wm_aload_n C d_Model_goThrough_163 rfl (j := 4) rfl ?_
                      refine wm_iload C d_Model_goThrough_164 (j := 0) rfl ?_
                      refine wm_iload C d_Model_goThrough_166 (j := 1) rfl ?_
                      refine wm_icmp_ge (tgt := 176) C d_Model_goThrough_168 (by decide) (fun (h_168_25 : (p + 2) ≤ (md_at (md_sa s 8 p 1) (p + 1))) => ?_) (fun (h_168_25 : ¬ (p + 2) ≤ (md_at (md_sa s 8 p 1) (p + 1))) => ?_)
                      · refine wm_iload C d_Model_goThrough_176 (j := 0) rfl ?_
                        refine wm_iload_n C d_Model_goThrough_178 rfl (j := 2) rfl ?_
                        refine wm_callV (d2 := 1) (mc := 0) (ms := 0) C mo_Model_come co_Model ml_Model_96 [.int (md_at (md_sa s 8 p 1) (p + 1)), .int ((((md_sa s 8 p 1).1 7 p.toNatClampNeg) - (md_takes (md_at (md_sa s 8 p 1) p))) + (md_gives (md_at (md_sa s 8 p 1) p)))] [] rfl hR18.1 rfl (by decide) (Nat.le_of_ble_eq_true rfl) (Nat.le_refl _) (Nat.le_refl _) d_Model_goThrough_179 (cy_kv ?_)
                        obtain ⟨o24, ho⟩ := ho
                        refine k_come hD hR18 _ _ o24 (fun M19 hR19 => ⟨rfl, ?_⟩)
                        refine wm_vret C P d_Model_goThrough_182 ?_
                        have e : md_goThrough s p = (md_come (md_come (md_sa s 8 p 1) (p + 2) ((((md_sa s 8 p 1).1 7 p.toNatClampNeg) - (md_takes (md_at (md_sa s 8 p 1) p))) + (md_gives (md_at (md_sa s 8 p 1) p)))) (md_at (md_sa s 8 p 1) (p + 1)) ((((md_sa s 8 p 1).1 7 p.toNatClampNeg) - (md_takes (md_at (md_sa s 8 p 1) p))) + (md_gives (md_at (md_sa s 8 p 1) p)))) := by rw [md_goThrough, if_pos h_6, if_pos h_13, if_neg h_43, if_pos h_54, if_neg h_77, if_pos h_91_20, if_neg h_104_21, if_pos h_110_22, if_neg h_133_23, if_pos h_149_24]
                        rw [e] at h
                        exact h _ hR19
                      · exact absurd h_149_24 h_168_25
                    · rw [if_neg h_149_24] at ho
                      refine wm_iload C d_Model_goThrough_152 (j := 0) rfl ?_
                      refine wm_goto (tgt := 159) C d_Model_goThrough_154 (by decide) ?_
                      refine wm_iload_n C d_Model_goThrough_159 rfl (j := 2) rfl ?_
                      refine wm_callV (d2 := 1) (mc := 0) (ms := 0) C mo_Model_come co_Model ml_Model_96 [.int (md_at (md_sa s 8 p 1) (p + 1)), .int ((((md_sa s 8 p 1).1 7 p.toNatClampNeg) - (md_takes (md_at (md_sa s 8 p 1) p))) + (md_gives (md_at (md_sa s 8 p 1) p)))] [] rfl hR1.1 rfl (by decide) (Nat.le_of_ble_eq_true rfl) (Nat.le_refl _) (Nat.le_refl _) d_Model_goThrough_160 (cy_kv ?_)
                      obtain ⟨o25, ho⟩ := ho
                      refine k_come hD hR1 _ _ o25 (fun M20 hR20 => ⟨rfl, ?_⟩)
                      refine wm_aload_n C d_Model_goThrough_163 rfl (j := 4) rfl ?_
                      refine wm_iload C d_Model_goThrough_164 (j := 0) rfl ?_
                      refine wm_iload C d_Model_goThrough_166 (j := 1) rfl ?_
                      refine wm_icmp_ge (tgt := 176) C d_Model_goThrough_168 (by decide) (fun (h_168_26 : (p + 2) ≤ (md_at (md_sa s 8 p 1) (p + 1))) => ?_) (fun (h_168_26 : ¬ (p + 2) ≤ (md_at (md_sa s 8 p 1) (p + 1))) => ?_)
                      · exact absurd h_168_26 h_149_24
                      · refine wm_iload C d_Model_goThrough_171 (j := 1) rfl ?_
                        refine wm_goto (tgt := 178) C d_Model_goThrough_173 (by decide) ?_
                        refine wm_iload_n C d_Model_goThrough_178 rfl (j := 2) rfl ?_
                        refine wm_callV (d2 := 1) (mc := 0) (ms := 0) C mo_Model_come co_Model ml_Model_96 [.int (p + 2), .int ((((md_sa s 8 p 1).1 7 p.toNatClampNeg) - (md_takes (md_at (md_sa s 8 p 1) p))) + (md_gives (md_at (md_sa s 8 p 1) p)))] [] rfl hR20.1 rfl (by decide) (Nat.le_of_ble_eq_true rfl) (Nat.le_refl _) (Nat.le_refl _) d_Model_goThrough_179 (cy_kv ?_)
                        obtain ⟨o26, ho⟩ := ho
                        refine k_come hD hR20 _ _ o26 (fun M21 hR21 => ⟨rfl, ?_⟩)
                        refine wm_vret C P d_Model_goThrough_182 ?_
                        have e : md_goThrough s p = (md_come (md_come (md_sa s 8 p 1) (md_at (md_sa s 8 p 1) (p + 1)) ((((md_sa s 8 p 1).1 7 p.toNatClampNeg) - (md_takes (md_at (md_sa s 8 p 1) p))) + (md_gives (md_at (md_sa s 8 p 1) p)))) (p + 2) ((((md_sa s 8 p 1).1 7 p.toNatClampNeg) - (md_takes (md_at (md_sa s 8 p 1) p))) + (md_gives (md_at (md_sa s 8 p 1) p)))) := by rw [md_goThrough, if_pos h_6, if_pos h_13, if_neg h_43, if_pos h_54, if_neg h_77, if_pos h_91_20, if_neg h_104_21, if_pos h_110_22, if_neg h_133_23, if_neg h_149_24]
                        rw [e] at h
                        exact h _ hR21
                  · rw [if_pos h_133_23] at ho
                    refine wm_aload_n C d_Model_goThrough_136 rfl (j := 4) rfl ?_
                    refine wm_iload C d_Model_goThrough_137 (j := 0) rfl ?_
                    refine wm_iload_n C d_Model_goThrough_139 rfl (j := 2) rfl ?_
                    refine wm_callV (d2 := 1) (mc := 0) (ms := 0) C mo_Model_come co_Model ml_Model_96 [.int (md_at (md_sa s 8 p 1) (p + 1)), .int ((((md_sa s 8 p 1).1 7 p.toNatClampNeg) - (md_takes (md_at (md_sa s 8 p 1) p))) + (md_gives (md_at (md_sa s 8 p 1) p)))] [] rfl hR1.1 rfl (by decide) (Nat.le_of_ble_eq_true rfl) (Nat.le_refl _) (Nat.le_refl _) d_Model_goThrough_140 (cy_kv ?_)
                    obtain ⟨o27, ho⟩ := ho
                    refine k_come hD hR1 _ _ o27 (fun M22 hR22 => ⟨rfl, ?_⟩)
                    refine wm_vret C P d_Model_goThrough_143 ?_
                    have e : md_goThrough s p = (md_come (md_sa s 8 p 1) (md_at (md_sa s 8 p 1) (p + 1)) ((((md_sa s 8 p 1).1 7 p.toNatClampNeg) - (md_takes (md_at (md_sa s 8 p 1) p))) + (md_gives (md_at (md_sa s 8 p 1) p)))) := by rw [md_goThrough, if_pos h_6, if_pos h_13, if_neg h_43, if_pos h_54, if_neg h_77, if_pos h_91_20, if_neg h_104_21, if_pos h_110_22, if_pos h_133_23]
                    rw [e] at h
                    exact h _ hR22
                · rw [if_neg h_110_22] at ho
                  refine wm_aload_n C d_Model_goThrough_113 rfl (j := 3) rfl ?_
                  refine wm_iload C d_Model_goThrough_114 (j := 0) rfl ?_
                  refine wm_iload_n C d_Model_goThrough_116 rfl (j := 1) rfl ?_
                  refine wm_callV (d2 := 1) (mc := 0) (ms := 0) C mo_Model_come co_Model ml_Model_96 [.int (p + 2), .int ((((md_sa s 8 p 1).1 7 p.toNatClampNeg) - (md_takes (md_at (md_sa s 8 p 1) p))) + (md_gives (md_at (md_sa s 8 p 1) p)))] [] rfl hR1.1 rfl (by decide) (Nat.le_of_ble_eq_true rfl) (Nat.le_refl _) (Nat.le_refl _) d_Model_goThrough_117 (cy_kv ?_)
                  obtain ⟨o28, ho⟩ := ho
                  refine k_come hD hR1 _ _ o28 (fun M23 hR23 => ⟨rfl, ?_⟩)
                  refine wm_vret C P d_Model_goThrough_120 ?_
                  have e : md_goThrough s p = (md_come (md_sa s 8 p 1) (p + 2) ((((md_sa s 8 p 1).1 7 p.toNatClampNeg) - (md_takes (md_at (md_sa s 8 p 1) p))) + (md_gives (md_at (md_sa s 8 p 1) p)))) := by rw [md_goThrough, if_pos h_6, if_pos h_13, if_neg h_43, if_pos h_54, if_neg h_77, if_pos h_91_20, if_neg h_104_21, if_neg h_110_22]
                  rw [e] at h
                  exact h _ hR23
            · rw [if_neg h_91_20] at ho
              refine wm_iload_n C d_Model_goThrough_94 rfl (j := 2) rfl ?_
              refine wm_bipush (v := 24) C d_Model_goThrough_95 (by decide) ?_
              refine wm_icmp_gt (tgt := 101) C d_Model_goThrough_97 (by decide) (fun (h_97_27 : 24 < (md_at (md_sa s 8 p 1) p)) => ?_) (fun (h_97_27 : ¬ 24 < (md_at (md_sa s 8 p 1) p)) => ?_)
              · rw [if_pos h_97_27] at ho
                refine wm_iload_n C d_Model_goThrough_101 rfl (j := 2) rfl ?_
                refine wm_bipush (v := 16) C d_Model_goThrough_102 (by decide) ?_
                refine wm_icmp_lt (tgt := 113) C d_Model_goThrough_104 (by decide) (fun (h_104_28 : (md_at (md_sa s 8 p 1) p) < 16) => ?_) (fun (h_104_28 : ¬ (md_at (md_sa s 8 p 1) p) < 16) => ?_)
                · rw [if_pos h_104_28] at ho
                  refine wm_aload_n C d_Model_goThrough_113 rfl (j := 3) rfl ?_
                  refine wm_iload C d_Model_goThrough_114 (j := 0) rfl ?_
                  refine wm_iload_n C d_Model_goThrough_116 rfl (j := 1) rfl ?_
                  refine wm_callV (d2 := 1) (mc := 0) (ms := 0) C mo_Model_come co_Model ml_Model_96 [.int (p + 2), .int ((((md_sa s 8 p 1).1 7 p.toNatClampNeg) - (md_takes (md_at (md_sa s 8 p 1) p))) + (md_gives (md_at (md_sa s 8 p 1) p)))] [] rfl hR1.1 rfl (by decide) (Nat.le_of_ble_eq_true rfl) (Nat.le_refl _) (Nat.le_refl _) d_Model_goThrough_117 (cy_kv ?_)
                  obtain ⟨o29, ho⟩ := ho
                  refine k_come hD hR1 _ _ o29 (fun M24 hR24 => ⟨rfl, ?_⟩)
                  refine wm_vret C P d_Model_goThrough_120 ?_
                  have e : md_goThrough s p = (md_come (md_sa s 8 p 1) (p + 2) ((((md_sa s 8 p 1).1 7 p.toNatClampNeg) - (md_takes (md_at (md_sa s 8 p 1) p))) + (md_gives (md_at (md_sa s 8 p 1) p)))) := by rw [md_goThrough, if_pos h_6, if_pos h_13, if_neg h_43, if_pos h_54, if_neg h_77, if_neg h_91_20, if_pos h_97_27, if_pos h_104_28]
                  rw [e] at h
                  exact h _ hR24
                · rw [if_neg h_104_28] at ho
                  refine wm_iload_n C d_Model_goThrough_107 rfl (j := 2) rfl ?_
                  refine wm_bipush (v := 18) C d_Model_goThrough_108 (by decide) ?_
                  refine wm_icmp_le (tgt := 121) C d_Model_goThrough_110 (by decide) (fun (h_110_29 : (md_at (md_sa s 8 p 1) p) ≤ 18) => ?_) (fun (h_110_29 : ¬ (md_at (md_sa s 8 p 1) p) ≤ 18) => ?_)
                  · rw [if_pos h_110_29] at ho
                    refine wm_aload_n C d_Model_goThrough_121 rfl (j := 3) rfl ?_
                    refine wm_iload_n C d_Model_goThrough_122 rfl (j := 4) rfl ?_
                    refine wm_iconst (v := 1) C d_Model_goThrough_123 (by decide) ?_
                    refine wm_iadd C d_Model_goThrough_124 ?_
                    refine wm_callV (d2 := 0) (mc := 0) (ms := 0) C mo_Model_at co_Model ml_Model_81 [.int (p + 1)] [] rfl hR1.1 rfl (by decide) (Nat.le_of_ble_eq_true rfl) (Nat.le_refl _) (Nat.le_refl _) d_Model_goThrough_125 (cy_ki ?_)
                    obtain ⟨o30, ho⟩ := ho
                    refine k_at hD hR1 _ o30 ⟨_, rfl, ?_⟩
                    refine wm_istore (lv' := [(5, .int (md_at (md_sa s 8 p 1) (p + 1))), (4, .int (p + 2)), (3, .int ((((md_sa s 8 p 1).1 7 p.toNatClampNeg) - (md_takes (md_at (md_sa s 8 p 1) p))) + (md_gives (md_at (md_sa s 8 p 1) p)))), (2, .int (md_at (md_sa s 8 p 1) p)), (0, .ref D.2.2.2.1), (1, .int p)]) C d_Model_goThrough_128 (by decide) rfl ?_
                    refine wm_iload_n C d_Model_goThrough_130 rfl (j := 3) rfl ?_
                    refine wm_bipush (v := 16) C d_Model_goThrough_131 (by decide) ?_
                    refine wm_icmp_ne (tgt := 144) C d_Model_goThrough_133 (by decide) (fun (h_133_30 : ¬ (md_at (md_sa s 8 p 1) p) = 16) => ?_) (fun (h_133_30 : (md_at (md_sa s 8 p 1) p) = 16) => ?_)
                    · rw [if_neg h_133_30] at ho
                      refine wm_aload_n C d_Model_goThrough_144 rfl (j := 4) rfl ?_
                      refine wm_iload C d_Model_goThrough_145 (j := 0) rfl ?_
                      refine wm_iload C d_Model_goThrough_147 (j := 1) rfl ?_
                      refine wm_icmp_ge (tgt := 157) C d_Model_goThrough_149 (by decide) (fun (h_149_31 : (p + 2) ≤ (md_at (md_sa s 8 p 1) (p + 1))) => ?_) (fun (h_149_31 : ¬ (p + 2) ≤ (md_at (md_sa s 8 p 1) (p + 1))) => ?_)
                      · rw [if_pos h_149_31] at ho
                        refine wm_iload C d_Model_goThrough_157 (j := 1) rfl ?_
                        refine wm_iload_n C d_Model_goThrough_159 rfl (j := 2) rfl ?_
                        refine wm_callV (d2 := 1) (mc := 0) (ms := 0) C mo_Model_come co_Model ml_Model_96 [.int (p + 2), .int ((((md_sa s 8 p 1).1 7 p.toNatClampNeg) - (md_takes (md_at (md_sa s 8 p 1) p))) + (md_gives (md_at (md_sa s 8 p 1) p)))] [] rfl hR1.1 rfl (by decide) (Nat.le_of_ble_eq_true rfl) (Nat.le_refl _) (Nat.le_refl _) d_Model_goThrough_160 (cy_kv ?_)
                        obtain ⟨o31, ho⟩ := ho
                        refine k_come hD hR1 _ _ o31 (fun M25 hR25 => ⟨rfl, ?_⟩)
                        refine wm_aload_n C d_Model_goThrough_163 rfl (j := 4) rfl ?_
                        refine wm_iload C d_Model_goThrough_164 (j := 0) rfl ?_
                        refine wm_iload C d_Model_goThrough_166 (j := 1) rfl ?_
                        refine wm_icmp_ge (tgt := 176) C d_Model_goThrough_168 (by decide) (fun (h_168_32 : (p + 2) ≤ (md_at (md_sa s 8 p 1) (p + 1))) => ?_) (fun (h_168_32 : ¬ (p + 2) ≤ (md_at (md_sa s 8 p 1) (p + 1))) => ?_)
                        · refine wm_iload C d_Model_goThrough_176 (j := 0) rfl ?_
                          refine wm_iload_n C d_Model_goThrough_178 rfl (j := 2) rfl ?_
                          refine wm_callV (d2 := 1) (mc := 0) (ms := 0) C mo_Model_come co_Model ml_Model_96 [.int (md_at (md_sa s 8 p 1) (p + 1)), .int ((((md_sa s 8 p 1).1 7 p.toNatClampNeg) - (md_takes (md_at (md_sa s 8 p 1) p))) + (md_gives (md_at (md_sa s 8 p 1) p)))] [] rfl hR25.1 rfl (by decide) (Nat.le_of_ble_eq_true rfl) (Nat.le_refl _) (Nat.le_refl _) d_Model_goThrough_179 (cy_kv ?_)
                          obtain ⟨o32, ho⟩ := ho
                          refine k_come hD hR25 _ _ o32 (fun M26 hR26 => ⟨rfl, ?_⟩)
                          refine wm_vret C P d_Model_goThrough_182 ?_
                          have e : md_goThrough s p = (md_come (md_come (md_sa s 8 p 1) (p + 2) ((((md_sa s 8 p 1).1 7 p.toNatClampNeg) - (md_takes (md_at (md_sa s 8 p 1) p))) + (md_gives (md_at (md_sa s 8 p 1) p)))) (md_at (md_sa s 8 p 1) (p + 1)) ((((md_sa s 8 p 1).1 7 p.toNatClampNeg) - (md_takes (md_at (md_sa s 8 p 1) p))) + (md_gives (md_at (md_sa s 8 p 1) p)))) := by rw [md_goThrough, if_pos h_6, if_pos h_13, if_neg h_43, if_pos h_54, if_neg h_77, if_neg h_91_20, if_pos h_97_27, if_neg h_104_28, if_pos h_110_29, if_neg h_133_30, if_pos h_149_31]
                          rw [e] at h
                          exact h _ hR26
                        · exact absurd h_149_31 h_168_32
                      · rw [if_neg h_149_31] at ho
                        refine wm_iload C d_Model_goThrough_152 (j := 0) rfl ?_
                        refine wm_goto (tgt := 159) C d_Model_goThrough_154 (by decide) ?_
                        refine wm_iload_n C d_Model_goThrough_159 rfl (j := 2) rfl ?_
                        refine wm_callV (d2 := 1) (mc := 0) (ms := 0) C mo_Model_come co_Model ml_Model_96 [.int (md_at (md_sa s 8 p 1) (p + 1)), .int ((((md_sa s 8 p 1).1 7 p.toNatClampNeg) - (md_takes (md_at (md_sa s 8 p 1) p))) + (md_gives (md_at (md_sa s 8 p 1) p)))] [] rfl hR1.1 rfl (by decide) (Nat.le_of_ble_eq_true rfl) (Nat.le_refl _) (Nat.le_refl _) d_Model_goThrough_160 (cy_kv ?_)
                        obtain ⟨o33, ho⟩ := ho
                        refine k_come hD hR1 _ _ o33 (fun M27 hR27 => ⟨rfl, ?_⟩)
                        refine wm_aload_n C d_Model_goThrough_163 rfl (j := 4) rfl ?_
                        refine wm_iload C d_Model_goThrough_164 (j := 0) rfl ?_
                        refine wm_iload C d_Model_goThrough_166 (j := 1) rfl ?_
                        refine wm_icmp_ge (tgt := 176) C d_Model_goThrough_168 (by decide) (fun (h_168_33 : (p + 2) ≤ (md_at (md_sa s 8 p 1) (p + 1))) => ?_) (fun (h_168_33 : ¬ (p + 2) ≤ (md_at (md_sa s 8 p 1) (p + 1))) => ?_)
                        · exact absurd h_168_33 h_149_31
                        · refine wm_iload C d_Model_goThrough_171 (j := 1) rfl ?_
                          refine wm_goto (tgt := 178) C d_Model_goThrough_173 (by decide) ?_
                          refine wm_iload_n C d_Model_goThrough_178 rfl (j := 2) rfl ?_
                          refine wm_callV (d2 := 1) (mc := 0) (ms := 0) C mo_Model_come co_Model ml_Model_96 [.int (p + 2), .int ((((md_sa s 8 p 1).1 7 p.toNatClampNeg) - (md_takes (md_at (md_sa s 8 p 1) p))) + (md_gives (md_at (md_sa s 8 p 1) p)))] [] rfl hR27.1 rfl (by decide) (Nat.le_of_ble_eq_true rfl) (Nat.le_refl _) (Nat.le_refl _) d_Model_goThrough_179 (cy_kv ?_)
                          obtain ⟨o34, ho⟩ := ho
                          refine k_come hD hR27 _ _ o34 (fun M28 hR28 => ⟨rfl, ?_⟩)
                          refine wm_vret C P d_Model_goThrough_182 ?_
                          have e : md_goThrough s p = (md_come (md_come (md_sa s 8 p 1) (md_at (md_sa s 8 p 1) (p + 1)) ((((md_sa s 8 p 1).1 7 p.toNatClampNeg) - (md_takes (md_at (md_sa s 8 p 1) p))) + (md_gives (md_at (md_sa s 8 p 1) p)))) (p + 2) ((((md_sa s 8 p 1).1 7 p.toNatClampNeg) - (md_takes (md_at (md_sa s 8 p 1) p))) + (md_gives (md_at (md_sa s 8 p 1) p)))) := by rw [md_goThrough, if_pos h_6, if_pos h_13, if_neg h_43, if_pos h_54, if_neg h_77, if_neg h_91_20, if_pos h_97_27, if_neg h_104_28, if_pos h_110_29, if_neg h_133_30, if_neg h_149_31]
                          rw [e] at h
                          exact h _ hR28
                    · rw [if_pos h_133_30] at ho
                      refine wm_aload_n C d_Model_goThrough_136 rfl (j := 4) rfl ?_
                      refine wm_iload C d_Model_goThrough_137 (j := 0) rfl ?_
                      refine wm_iload_n C d_Model_goThrough_139 rfl (j := 2) rfl ?_
                      refine wm_callV (d2 := 1) (mc := 0) (ms := 0) C mo_Model_come co_Model ml_Model_96 [.int (md_at (md_sa s 8 p 1) (p + 1)), .int ((((md_sa s 8 p 1).1 7 p.toNatClampNeg) - (md_takes (md_at (md_sa s 8 p 1) p))) + (md_gives (md_at (md_sa s 8 p 1) p)))] [] rfl hR1.1 rfl (by decide) (Nat.le_of_ble_eq_true rfl) (Nat.le_refl _) (Nat.le_refl _) d_Model_goThrough_140 (cy_kv ?_)
                      obtain ⟨o35, ho⟩ := ho
                      refine k_come hD hR1 _ _ o35 (fun M29 hR29 => ⟨rfl, ?_⟩)
                      refine wm_vret C P d_Model_goThrough_143 ?_
                      have e : md_goThrough s p = (md_come (md_sa s 8 p 1) (md_at (md_sa s 8 p 1) (p + 1)) ((((md_sa s 8 p 1).1 7 p.toNatClampNeg) - (md_takes (md_at (md_sa s 8 p 1) p))) + (md_gives (md_at (md_sa s 8 p 1) p)))) := by rw [md_goThrough, if_pos h_6, if_pos h_13, if_neg h_43, if_pos h_54, if_neg h_77, if_neg h_91_20, if_pos h_97_27, if_neg h_104_28, if_pos h_110_29, if_pos h_133_30]
                      rw [e] at h
                      exact h _ hR29
                  · rw [if_neg h_110_29] at ho
                    refine wm_aload_n C d_Model_goThrough_113 rfl (j := 3) rfl ?_
                    refine wm_iload C d_Model_goThrough_114 (j := 0) rfl ?_
                    refine wm_iload_n C d_Model_goThrough_116 rfl (j := 1) rfl ?_
                    refine wm_callV (d2 := 1) (mc := 0) (ms := 0) C mo_Model_come co_Model ml_Model_96 [.int (p + 2), .int ((((md_sa s 8 p 1).1 7 p.toNatClampNeg) - (md_takes (md_at (md_sa s 8 p 1) p))) + (md_gives (md_at (md_sa s 8 p 1) p)))] [] rfl hR1.1 rfl (by decide) (Nat.le_of_ble_eq_true rfl) (Nat.le_refl _) (Nat.le_refl _) d_Model_goThrough_117 (cy_kv ?_)
                    obtain ⟨o36, ho⟩ := ho
                    refine k_come hD hR1 _ _ o36 (fun M30 hR30 => ⟨rfl, ?_⟩)
                    refine wm_vret C P d_Model_goThrough_120 ?_
                    have e : md_goThrough s p = (md_come (md_sa s 8 p 1) (p + 2) ((((md_sa s 8 p 1).1 7 p.toNatClampNeg) - (md_takes (md_at (md_sa s 8 p 1) p))) + (md_gives (md_at (md_sa s 8 p 1) p)))) := by rw [md_goThrough, if_pos h_6, if_pos h_13, if_neg h_43, if_pos h_54, if_neg h_77, if_neg h_91_20, if_pos h_97_27, if_neg h_104_28, if_neg h_110_29]
                    rw [e] at h
                    exact h _ hR30
              · rw [if_neg h_97_27] at ho
                refine wm_vret C P d_Model_goThrough_100 ?_
                have e : md_goThrough s p = (md_sa s 8 p 1) := by rw [md_goThrough, if_pos h_6, if_pos h_13, if_neg h_43, if_pos h_54, if_neg h_77, if_neg h_91_20, if_neg h_97_27]
                rw [e] at h
                exact h _ hR1
        · rw [if_neg h_54] at ho
          refine wm_aload_n C d_Model_goThrough_57 rfl (j := 2) rfl ?_
          refine wm_bipush (v := 7) C d_Model_goThrough_58 (by decide) ?_
          refine wm_iload_n C d_Model_goThrough_60 rfl (j := 3) rfl ?_
          refine wm_callV (d2 := 0) (mc := 0) (ms := 0) C mo_Model_bad co_Model ml_Model_77 [.int 7, .int p] [] rfl hR1.1 rfl (by decide) (Nat.le_of_ble_eq_true rfl) (Nat.le_refl _) (Nat.le_refl _) d_Model_goThrough_61 (cy_kv ?_)
          refine k_bad hD hR1 _ _  (fun M31 hR31 => ⟨rfl, ?_⟩)
          refine wm_vret C P d_Model_goThrough_64 ?_
          have e : md_goThrough s p = (md_bad (md_sa s 8 p 1) 7 p) := by rw [md_goThrough, if_pos h_6, if_pos h_13, if_neg h_43, if_neg h_54]
          rw [e] at h
          exact h _ hR31
    · rw [if_neg h_13] at ho
      refine wm_vret C P d_Model_goThrough_16 ?_
      have e : md_goThrough s p = s := by rw [md_goThrough, if_pos h_6, if_neg h_13]
      rw [e] at h
      exact h _ hR
def md_push (s : md_S) (v : Int32) : md_S :=
  (md_sa (md_sa s 12 ((8 * ((s.2 10) - 1)) + (s.1 11 ((s.2 10) - 1).toNatClampNeg)) v) 11 ((s.2 10) - 1) (((md_sa s 12 ((8 * ((s.2 10) - 1)) + (s.1 11 ((s.2 10) - 1).toNatClampNeg)) v).1 11 ((s.2 10) - 1).toNatClampNeg) + 1))
def md_push_ok (s : md_S) (v : Int32) : Prop :=
  (vp_in ((s.2 10) - 1) 8) ∧ (vp_in ((8 * ((s.2 10) - 1)) + (s.1 11 ((s.2 10) - 1).toNatClampNeg)) 64) ∧ (vp_in ((s.2 10) - 1) 8) ∧ (vp_in ((s.2 10) - 1) 8) ∧ (
  True)
set_option maxHeartbeats 4000000 in
theorem k_push {G : cy_G} {D : md_E} {s : md_S} {M : cy_Hp} {post : Option Value → cy_Hp → Prop} (hD : md_Eo G D) (hR : md_R D s M) (v : Int32) (ho : md_push_ok s v) (h : ∀ M', md_R D (md_push s v) M' → post none M') : cy_Ct G 0 m_Model_push [.ref D.2.2.2.1, .int v] M 0 0 post := by
  refine cy_Ct.of (by decide) (Nat.le_of_ble_eq_true rfl) ?_
  intro F C P _
  have C : cy_C G F R_Model b_Model_push 3 0 0 0 := C
  have P : cy_P G F none post 0 0 := P
  unfold md_push_ok at ho
  show WM G F 3 0 0 0 [(0, .ref D.2.2.2.1), (1, .int v)] [] M
  refine wm_aload_n C d_Model_push_0 rfl (j := 0) rfl ?_
  refine wm_get C co_Model hR.1 19 (by decide) fl_Model_140 rfl d_Model_push_1 ?_
  refine wm_iconst (v := 1) C d_Model_push_4 (by decide) ?_
  refine wm_isub C d_Model_push_5 ?_
  refine wm_istore_n (lv' := [(2, .int ((s.2 10) - 1)), (0, .ref D.2.2.2.1), (1, .int v)]) C d_Model_push_6 rfl (by decide) rfl ?_
  refine wm_aload_n C d_Model_push_7 rfl (j := 1) rfl ?_
  refine wm_get C co_Model hR.1 23 (by decide) fl_Model_48 rfl d_Model_push_8 ?_
  refine wm_bipush (v := 8) C d_Model_push_11 (by decide) ?_
  refine wm_iload_n C d_Model_push_13 rfl (j := 0) rfl ?_
  refine wm_imul C d_Model_push_14 ?_
  refine wm_aload_n C d_Model_push_15 rfl (j := 1) rfl ?_
  refine wm_get C co_Model hR.1 22 (by decide) fl_Model_45 rfl d_Model_push_16 ?_
  refine wm_iload_n C d_Model_push_19 rfl (j := 0) rfl ?_
  obtain ⟨o1, ho⟩ := ho
  refine wm_iald C (md_arr hR 11 (by decide)) hD.1 o1 d_Model_push_20 ?_
  refine wm_iadd C d_Model_push_21 ?_
  refine wm_iload_n C d_Model_push_22 rfl (j := 2) rfl ?_
  obtain ⟨o2, ho⟩ := ho
  refine wm_iast C (md_arr hR 12 (by decide)) hD.1 o2 d_Model_push_23 ?_
  refine md_gen (md_R_sa hR (a := 12) (by decide) ((8 * ((s.2 10) - 1)) + (s.1 11 ((s.2 10) - 1).toNatClampNeg)) v) (fun M1 hR1 => ?_)
  refine wm_aload_n C d_Model_push_24 rfl (j := 1) rfl ?_
  refine wm_get C co_Model hR1.1 22 (by decide) fl_Model_45 rfl d_Model_push_25 ?_
  refine wm_iload_n C d_Model_push_28 rfl (j := 0) rfl ?_
  refine wm_dup2_11 C d_Model_push_29 rfl rfl ?_
  obtain ⟨o3, ho⟩ := ho
  refine wm_iald C (md_arr hR1 11 (by decide)) hD.1 o3 d_Model_push_30 ?_
  refine wm_iconst (v := 1) C d_Model_push_31 (by decide) ?_
  refine wm_iadd C d_Model_push_32 ?_
  obtain ⟨o4, ho⟩ := ho
  refine wm_iast C (md_arr hR1 11 (by decide)) hD.1 o4 d_Model_push_33 ?_
  refine md_gen (md_R_sa hR1 (a := 11) (by decide) ((s.2 10) - 1) (((md_sa s 12 ((8 * ((s.2 10) - 1)) + (s.1 11 ((s.2 10) - 1).toNatClampNeg)) v).1 11 ((s.2 10) - 1).toNatClampNeg) + 1)) (fun M2 hR2 => ?_)
  refine wm_vret C P d_Model_push_34 ?_
  have e : md_push s v = (md_sa (md_sa s 12 ((8 * ((s.2 10) - 1)) + (s.1 11 ((s.2 10) - 1).toNatClampNeg)) v) 11 ((s.2 10) - 1) (((md_sa s 12 ((8 * ((s.2 10) - 1)) + (s.1 11 ((s.2 10) - 1).toNatClampNeg)) v).1 11 ((s.2 10) - 1).toNatClampNeg) + 1)) := by rw [md_push]
  rw [e] at h
  exact h _ hR2
def md_pop (s : md_S) : Int32 × md_S :=
  ((md_sa s 11 ((s.2 10) - 1) ((s.1 11 ((s.2 10) - 1).toNatClampNeg) - 1)).1 12 ((8 * ((s.2 10) - 1)) + ((md_sa s 11 ((s.2 10) - 1) ((s.1 11 ((s.2 10) - 1).toNatClampNeg) - 1)).1 11 ((s.2 10) - 1).toNatClampNeg)).toNatClampNeg, (md_sa (md_sa s 11 ((s.2 10) - 1) ((s.1 11 ((s.2 10) - 1).toNatClampNeg) - 1)) 12 ((8 * ((s.2 10) - 1)) + ((md_sa s 11 ((s.2 10) - 1) ((s.1 11 ((s.2 10) - 1).toNatClampNeg) - 1)).1 11 ((s.2 10) - 1).toNatClampNeg)) 0))
def md_pop_ok (s : md_S) : Prop :=
  (vp_in ((s.2 10) - 1) 8) ∧ (vp_in ((s.2 10) - 1) 8) ∧ (vp_in ((s.2 10) - 1) 8) ∧ (vp_in ((8 * ((s.2 10) - 1)) + ((md_sa s 11 ((s.2 10) - 1) ((s.1 11 ((s.2 10) - 1).toNatClampNeg) - 1)).1 11 ((s.2 10) - 1).toNatClampNeg)) 64) ∧ (vp_in ((s.2 10) - 1) 8) ∧ (vp_in ((8 * ((s.2 10) - 1)) + ((md_sa s 11 ((s.2 10) - 1) ((s.1 11 ((s.2 10) - 1).toNatClampNeg) - 1)).1 11 ((s.2 10) - 1).toNatClampNeg)) 64) ∧ (
  True)
set_option maxHeartbeats 4000000 in
theorem k_pop {G : cy_G} {D : md_E} {s : md_S} {M : cy_Hp} {post : Option Value → cy_Hp → Prop} (hD : md_Eo G D) (hR : md_R D s M)  (ho : md_pop_ok s) (h : ∀ M', md_R D (md_pop s).2 M' → post (some (.int (md_pop s).1)) M') : cy_Ct G 0 m_Model_pop [.ref D.2.2.2.1] M 0 0 post := by
  refine cy_Ct.of (by decide) (Nat.le_of_ble_eq_true rfl) ?_
  intro F C P _
  have C : cy_C G F R_Model b_Model_pop 3 0 0 0 := C
  have P : cy_P G F (some .int) post 0 0 := P
  unfold md_pop_ok at ho
  show WM G F 3 0 0 0 [(0, .ref D.2.2.2.1)] [] M
  refine wm_aload_n C d_Model_pop_0 rfl (j := 0) rfl ?_
  refine wm_get C co_Model hR.1 19 (by decide) fl_Model_140 rfl d_Model_pop_1 ?_
  refine wm_iconst (v := 1) C d_Model_pop_4 (by decide) ?_
  refine wm_isub C d_Model_pop_5 ?_
  refine wm_istore_n (lv' := [(1, .int ((s.2 10) - 1)), (0, .ref D.2.2.2.1)]) C d_Model_pop_6 rfl (by decide) rfl ?_
  refine wm_aload_n C d_Model_pop_7 rfl (j := 1) rfl ?_
  refine wm_get C co_Model hR.1 22 (by decide) fl_Model_45 rfl d_Model_pop_8 ?_
  refine wm_iload_n C d_Model_pop_11 rfl (j := 0) rfl ?_
  refine wm_dup2_11 C d_Model_pop_12 rfl rfl ?_
  obtain ⟨o1, ho⟩ := ho
  refine wm_iald C (md_arr hR 11 (by decide)) hD.1 o1 d_Model_pop_13 ?_
  refine wm_iconst (v := 1) C d_Model_pop_14 (by decide) ?_
  refine wm_isub C d_Model_pop_15 ?_
  obtain ⟨o2, ho⟩ := ho
  refine wm_iast C (md_arr hR 11 (by decide)) hD.1 o2 d_Model_pop_16 ?_
  refine md_gen (md_R_sa hR (a := 11) (by decide) ((s.2 10) - 1) ((s.1 11 ((s.2 10) - 1).toNatClampNeg) - 1)) (fun M1 hR1 => ?_)
  refine wm_aload_n C d_Model_pop_17 rfl (j := 1) rfl ?_
  refine wm_get C co_Model hR1.1 23 (by decide) fl_Model_48 rfl d_Model_pop_18 ?_
  refine wm_bipush (v := 8) C d_Model_pop_21 (by decide) ?_
  refine wm_iload_n C d_Model_pop_23 rfl (j := 0) rfl ?_
  refine wm_imul C d_Model_pop_24 ?_
  refine wm_aload_n C d_Model_pop_25 rfl (j := 1) rfl ?_
  refine wm_get C co_Model hR1.1 22 (by decide) fl_Model_45 rfl d_Model_pop_26 ?_
  refine wm_iload_n C d_Model_pop_29 rfl (j := 0) rfl ?_
  obtain ⟨o3, ho⟩ := ho
  refine wm_iald C (md_arr hR1 11 (by decide)) hD.1 o3 d_Model_pop_30 ?_
  refine wm_iadd C d_Model_pop_31 ?_
  obtain ⟨o4, ho⟩ := ho
  refine wm_iald C (md_arr hR1 12 (by decide)) hD.1 o4 d_Model_pop_32 ?_
  refine wm_istore_n (lv' := [(2, .int ((md_sa s 11 ((s.2 10) - 1) ((s.1 11 ((s.2 10) - 1).toNatClampNeg) - 1)).1 12 ((8 * ((s.2 10) - 1)) + ((md_sa s 11 ((s.2 10) - 1) ((s.1 11 ((s.2 10) - 1).toNatClampNeg) - 1)).1 11 ((s.2 10) - 1).toNatClampNeg)).toNatClampNeg)), (1, .int ((s.2 10) - 1)), (0, .ref D.2.2.2.1)]) C d_Model_pop_33 rfl (by decide) rfl ?_
  refine wm_aload_n C d_Model_pop_34 rfl (j := 2) rfl ?_
  refine wm_get C co_Model hR1.1 23 (by decide) fl_Model_48 rfl d_Model_pop_35 ?_
  refine wm_bipush (v := 8) C d_Model_pop_38 (by decide) ?_
  refine wm_iload_n C d_Model_pop_40 rfl (j := 1) rfl ?_
  refine wm_imul C d_Model_pop_41 ?_
  refine wm_aload_n C d_Model_pop_42 rfl (j := 2) rfl ?_
  refine wm_get C co_Model hR1.1 22 (by decide) fl_Model_45 rfl d_Model_pop_43 ?_
  refine wm_iload_n C d_Model_pop_46 rfl (j := 1) rfl ?_
  obtain ⟨o5, ho⟩ := ho
  refine wm_iald C (md_arr hR1 11 (by decide)) hD.1 o5 d_Model_pop_47 ?_
  refine wm_iadd C d_Model_pop_48 ?_
  refine wm_iconst (v := 0) C d_Model_pop_49 (by decide) ?_
  obtain ⟨o6, ho⟩ := ho
  refine wm_iast C (md_arr hR1 12 (by decide)) hD.1 o6 d_Model_pop_50 ?_
  refine md_gen (md_R_sa hR1 (a := 12) (by decide) ((8 * ((s.2 10) - 1)) + ((md_sa s 11 ((s.2 10) - 1) ((s.1 11 ((s.2 10) - 1).toNatClampNeg) - 1)).1 11 ((s.2 10) - 1).toNatClampNeg)) 0) (fun M2 hR2 => ?_)
  refine wm_iload_n C d_Model_pop_51 rfl (j := 0) rfl ?_
  refine wm_iret C P d_Model_pop_52 ?_
  have e : md_pop s = ((md_sa s 11 ((s.2 10) - 1) ((s.1 11 ((s.2 10) - 1).toNatClampNeg) - 1)).1 12 ((8 * ((s.2 10) - 1)) + ((md_sa s 11 ((s.2 10) - 1) ((s.1 11 ((s.2 10) - 1).toNatClampNeg) - 1)).1 11 ((s.2 10) - 1).toNatClampNeg)).toNatClampNeg, (md_sa (md_sa s 11 ((s.2 10) - 1) ((s.1 11 ((s.2 10) - 1).toNatClampNeg) - 1)) 12 ((8 * ((s.2 10) - 1)) + ((md_sa s 11 ((s.2 10) - 1) ((s.1 11 ((s.2 10) - 1).toNatClampNeg) - 1)).1 11 ((s.2 10) - 1).toNatClampNeg)) 0)) := by rw [md_pop]
  rw [e] at h
  exact h _ hR2
def md_ends (s : md_S) (v : Int32) : md_S :=
  if ((s.2 10) - 1) ≤ 0 then
    (md_ss (md_ss (md_ss s 10 ((s.2 10) - 1)) 5 0) 7 v)
  else
    (md_push (md_ss s 10 ((s.2 10) - 1)) v)
def md_ends_ok (s : md_S) (v : Int32) : Prop :=
  if ((s.2 10) - 1) ≤ 0 then
    True
  else
    (md_push_ok (md_ss s 10 ((s.2 10) - 1)) v) ∧ (
    True)
set_option maxHeartbeats 4000000 in
theorem k_ends {G : cy_G} {D : md_E} {s : md_S} {M : cy_Hp} {post : Option Value → cy_Hp → Prop} (hD : md_Eo G D) (hR : md_R D s M) (v : Int32) (ho : md_ends_ok s v) (h : ∀ M', md_R D (md_ends s v) M' → post none M') : cy_Ct G 1 m_Model_ends [.ref D.2.2.2.1, .int v] M 0 0 post := by
  refine cy_Ct.of (by decide) (Nat.le_of_ble_eq_true rfl) ?_
  intro F C P _
  have C : cy_C G F R_Model b_Model_ends 2 1 0 0 := C
  have P : cy_P G F none post 0 0 := P
  unfold md_ends_ok at ho
  show WM G F 2 0 0 0 [(0, .ref D.2.2.2.1), (1, .int v)] [] M
  refine wm_aload_n C d_Model_ends_0 rfl (j := 0) rfl ?_
  refine wm_dup C d_Model_ends_1 rfl ?_
  refine wm_get C co_Model hR.1 19 (by decide) fl_Model_140 rfl d_Model_ends_2 ?_
  refine wm_iconst (v := 1) C d_Model_ends_5 (by decide) ?_
  refine wm_isub C d_Model_ends_6 ?_
  refine wm_put C co_Model hR.1 19 (by decide) fl_Model_140 rfl rfl rfl (Nat.le_of_ble_eq_true rfl) d_Model_ends_7 ?_
  refine md_gen (md_R_ss hR 10 ((s.2 10) - 1)) (fun M1 hR1 => ?_)
  refine wm_aload_n C d_Model_ends_10 rfl (j := 0) rfl ?_
  refine wm_get C co_Model hR1.1 19 (by decide) fl_Model_140 rfl d_Model_ends_11 ?_
  refine wm_if_le (tgt := 23) C d_Model_ends_14 (by decide) (fun (h_14 : ((s.2 10) - 1) ≤ 0) => ?_) (fun (h_14 : ¬ ((s.2 10) - 1) ≤ 0) => ?_)
  · rw [if_pos h_14] at ho
    refine wm_aload_n C d_Model_ends_23 rfl (j := 0) rfl ?_
    refine wm_iconst (v := 0) C d_Model_ends_24 (by decide) ?_
    refine wm_put C co_Model hR1.1 14 (by decide) fl_Model_108 rfl rfl rfl (Nat.le_of_ble_eq_true rfl) d_Model_ends_25 ?_
    refine md_gen (md_R_ss hR1 5 0) (fun M2 hR2 => ?_)
    refine wm_aload_n C d_Model_ends_28 rfl (j := 0) rfl ?_
    refine wm_iload_n C d_Model_ends_29 rfl (j := 1) rfl ?_
    refine wm_put C co_Model hR2.1 16 (by decide) fl_Model_131 rfl rfl rfl (Nat.le_of_ble_eq_true rfl) d_Model_ends_30 ?_
    refine md_gen (md_R_ss hR2 7 v) (fun M3 hR3 => ?_)
    refine wm_vret C P d_Model_ends_33 ?_
    have e : md_ends s v = (md_ss (md_ss (md_ss s 10 ((s.2 10) - 1)) 5 0) 7 v) := by rw [md_ends, if_pos h_14]
    rw [e] at h
    exact h _ hR3
  · rw [if_neg h_14] at ho
    refine wm_aload_n C d_Model_ends_17 rfl (j := 0) rfl ?_
    refine wm_iload_n C d_Model_ends_18 rfl (j := 1) rfl ?_
    refine wm_callV (d2 := 0) (mc := 0) (ms := 0) C mo_Model_push co_Model ml_Model_146 [.int v] [] rfl hR1.1 rfl (by decide) (Nat.le_of_ble_eq_true rfl) (Nat.le_refl _) (Nat.le_refl _) d_Model_ends_19 (cy_kv ?_)
    obtain ⟨o1, ho⟩ := ho
    refine k_push hD hR1 _ o1 (fun M4 hR4 => ⟨rfl, ?_⟩)
    refine wm_vret C P d_Model_ends_22 ?_
    have e : md_ends s v = (md_push (md_ss s 10 ((s.2 10) - 1)) v) := by rw [md_ends, if_neg h_14]
    rw [e] at h
    exact h _ hR4
