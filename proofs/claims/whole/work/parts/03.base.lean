/-! THE ABSTRACT HEAP: a partial map from addresses to cells; a method's contract over it; one rule an instruction -/
abbrev cy_Hp : Type := Nat → Option va_E
def cy_set (M : cy_Hp) (a : Nat) (e : va_E) : cy_Hp := fun q => if q = a then some e else M q
theorem cy_set_self (M : cy_Hp) (a : Nat) (e : va_E) : cy_set M a e a = some e := by simp [cy_set]
theorem cy_set_ne (M : cy_Hp) {a q : Nat} (e : va_E) (h : q ≠ a) : cy_set M a e q = M q := by simp [cy_set, h]
theorem cy_set_set (M : cy_Hp) (a : Nat) (e e2 : va_E) : cy_set (cy_set M a e) a e2 = cy_set M a e2 := by
  funext q
  by_cases h : q = a
  · simp [cy_set, h]
  · simp [cy_set, h]
theorem cy_set_comm (M : cy_Hp) {a b : Nat} (e e2 : va_E) (h : a ≠ b) : cy_set (cy_set M a e) b e2 = cy_set (cy_set M b e2) a e := by
  funext q
  by_cases h1 : q = a
  · subst h1; simp [cy_set, h]
  · by_cases h2 : q = b
    · subst h2; simp [cy_set, h1]
    · simp [cy_set, h1, h2]
theorem cy_set_same {M : cy_Hp} {a : Nat} {e : va_E} (h : M a = some e) : cy_set M a e = M := by
  funext q
  by_cases hq : q = a
  · subst hq; rw [cy_set_self, h]
  · rw [cy_set_ne _ _ hq]
/-- launch, classes and slots, array classes, the first address that is ours, the addresses of the static tables -/
abbrev cy_G : Type := Launch × va_G × List (ClassId × FieldType) × Nat × (Nat → Nat)
def cy_A (G : cy_G) : Nat → Prop := fun q => G.2.2.2.1 ≤ q
def cy_goodW (w : Cond) : Bool := (w.onTables && w.keeps) || (match w with | .arrayClass _ => true | _ => false)
def cy_nestW (w : Cond) : Bool := match w with
  | .fieldLinkNest _ _ _ _ _ _ => true
  | .methodLinkNest _ _ _ _ => true
  | _ => false
def cy_TW : List Cond := lw_tbl.filter cy_goodW
def cy_NW : List Cond := lw_tbl.filter cy_nestW
theorem cy_tw {w : Cond} (h : w ∈ lw_tbl) (g : cy_goodW w = true) : w ∈ cy_TW := List.mem_filter.mpr ⟨h, g⟩
theorem cy_nw {w : Cond} (h : w ∈ lw_tbl) (g : cy_nestW w = true) : w ∈ cy_NW := List.mem_filter.mpr ⟨h, g⟩
theorem cy_good {w : Cond} (h : w ∈ cy_TW) : (w.onTables && w.keeps) = true ∨ ∃ ty, w = .arrayClass ty := by
  have h := (List.mem_filter.mp h).2
  unfold cy_goodW at h
  rcases Bool.or_eq_true_iff.mp h with h | h
  · exact Or.inl h
  · split at h
    · exact Or.inr ⟨_, rfl⟩
    · cases h
def cy_SX (G : cy_G) (U : State) : Prop := ∀ (j : Nat) (q : String × String × String × Nat × (Nat → Value)), cy_ST[j]? = some q → va_Z q.1 q.2.1 q.2.2.1 (.ref (G.2.2.2.2 j)) (cy_A G) U U.heap ∧ va_T .int (G.2.2.2.2 j) q.2.2.2.1 q.2.2.2.2 (cy_A G) U U.heap
/-- what every method of ours finds: classes, links between nest mates, static tables -/
def cy_K (G : cy_G) (U : State) : Prop := va_K G.2.1 cy_cl G.2.2.1 U ∧ (∀ w ∈ cy_NW, va_Nw w U) ∧ G.2.2.2.1 ≤ U.heap.size ∧ cy_SX G U ∧ ∀ C ∈ cy_AO, va_AO C U
theorem cy_K_call {G : cy_G} {s U : State} {H : Heap} {locs : List Loc} (h : cy_K G s) (hS : va_S (cy_A G) s.heap H locs) (hU : U.heap = H) (hW : s.WarmedH U.vm) : cy_K G U := by
  obtain ⟨h1, h2, h3, h4, h5⟩ := h
  refine ⟨va_K.moved hW.alike h1, fun w hw => ?_, ?_, fun j q hq => ?_, fun C hC => va_AO.moved hW.alike (h5 C hC)⟩
  · have hn := (List.mem_filter.mp hw).2
    have h2 := h2 w hw
    unfold cy_nestW at hn
    split at hn
    · exact va_Nw.warmF hW h2
    · exact va_Nw.warmM hW h2
    · cases hn
  · rw [hU]; exact Nat.le_trans h3 hS.1
  · obtain ⟨z1, z2⟩ := h4 j q hq
    rw [hU]
    exact ⟨va_Z.moved hW.alike (z1.kept (fun a ha hA => hS.2.1 a ha hA)), va_T.moved hW.alike (z2.kept (fun a ha hA => hS.2.1 a ha hA))⟩
theorem cy_K_calling {G : cy_G} {U : State} {g : JFrame} {mk : MethodId} {a : Array Value} (h : cy_K G U) : cy_K G (U.calling g mk a) := by
  obtain ⟨h1, h2, h3, h4, h5⟩ := h
  refine ⟨va_K.moved (u := U) (U := U.calling g mk a) (Vm.Alike.refl U.vm) h1, fun w hw => ?_, h3, fun j q hq => ?_, fun C hC => va_AO.moved (u := U) (U := U.calling g mk a) (Vm.Alike.refl U.vm) (h5 C hC)⟩
  · have hn := (List.mem_filter.mp hw).2
    have h2 := h2 w hw
    unfold cy_nestW at hn
    split at hn
    · exact va_Nw.same (u := U) (U := U.calling g mk a) rfl rfl h2
    · exact va_Nw.same (u := U) (U := U.calling g mk a) rfl rfl h2
    · cases hn
  · obtain ⟨z1, z2⟩ := h4 j q hq
    exact ⟨va_Z.moved (u := U) (U := U.calling g mk a) (Vm.Alike.refl U.vm) z1, va_T.moved (u := U) (U := U.calling g mk a) (Vm.Alike.refl U.vm) z2⟩
/-- the heap holds M; all its cells are ours -/
def cy_hm (G : cy_G) (M : cy_Hp) (H : Heap) : Prop := (∀ (a : Nat) (e : va_E), M a = some e → cy_A G a ∧ va_at G.2.1 cy_cl (a, e) H) ∧ ∀ a : Nat, cy_A G a → a < H.size → M a ≠ none
/-- the next address that is given out -/
def cy_top (G : cy_G) (M : cy_Hp) (z : Nat) : Prop := cy_A G z ∧ (∀ a : Nat, z ≤ a → M a = none) ∧ ∀ a : Nat, cy_A G a → a < z → M a ≠ none
theorem cy_top_eq {G : cy_G} {M : cy_Hp} {z q : Nat} (h : cy_top G M z) (h2 : cy_top G M q) : q = z := by
  rcases Nat.lt_trichotomy q z with e | e | e
  · exact absurd (h2.2.1 q (Nat.le_refl _)) (h.2.2 q h2.1 e)
  · exact e
  · exact absurd (h.2.1 z (Nat.le_refl _)) (h2.2.2 z h.1 e)
theorem cy_top_lt {G : cy_G} {M : cy_Hp} {z a : Nat} {e : va_E} (h : cy_top G M z) (ha : M a = some e) : a < z := by
  rcases Nat.lt_or_ge a z with q | q
  · exact q
  · rw [h.2.1 a q] at ha; cases ha
theorem cy_top_set {G : cy_G} {M : cy_Hp} {z a : Nat} {e : va_E} (h : cy_top G M z) (ha : a < z) : cy_top G (cy_set M a e) z := by
  refine ⟨h.1, fun x hx => ?_, fun x h1 h2 => ?_⟩
  · rw [cy_set_ne M e (by omega)]; exact h.2.1 x hx
  · by_cases q : x = a
    · rw [q, cy_set_self]; exact fun w => by cases w
    · rw [cy_set_ne M e q]; exact h.2.2 x h1 h2
theorem cy_top_new {G : cy_G} {M : cy_Hp} {z : Nat} {e : va_E} (h : cy_top G M z) : cy_top G (cy_set M z e) (z + 1) := by
  refine ⟨Nat.le_trans h.1 (Nat.le_succ z), fun x hx => ?_, fun x h1 h2 => ?_⟩
  · rw [cy_set_ne M e (by omega)]; exact h.2.1 x (by omega)
  · by_cases q : x = z
    · rw [q, cy_set_self]; exact fun w => by cases w
    · rw [cy_set_ne M e q]; exact h.2.2 x h1 (by omega)
theorem cy_hm_at {G : cy_G} {M : cy_Hp} {H : Heap} {a : Nat} {e : va_E} (h : cy_hm G M H) (ha : M a = some e) : va_P G.2.1 cy_cl [(a, e)] H := by
  intro k q hk
  match k, hk with
  | 0, hk => cases hk; exact (h.1 a e ha).2
  | k + 1, hk => simp at hk
theorem cy_hm_set {G : cy_G} {M : cy_Hp} {H H1 : Heap} {a : Nat} {e : va_E} (h : cy_hm G M H) (ha : cy_A G a) (hz : H1.size = H.size) (he : va_at G.2.1 cy_cl (a, e) H1) (oq : ∀ q : Nat, q ≠ a → H1[q]? = H[q]?) : cy_hm G (cy_set M a e) H1 := by
  refine ⟨fun q x hq => ?_, fun q h1 h2 => ?_⟩
  · by_cases hqa : q = a
    · subst hqa
      rw [cy_set_self] at hq
      cases hq
      exact ⟨ha, he⟩
    · rw [cy_set_ne M e hqa] at hq
      exact ⟨(h.1 q x hq).1, (h.1 q x hq).2.kept (oq q hqa)⟩
  · by_cases hqa : q = a
    · subst hqa; rw [cy_set_self]; exact fun w => by cases w
    · rw [cy_set_ne M e hqa]; exact h.2 q h1 (by rw [← hz]; exact h2)
theorem cy_hm_new {G : cy_G} {M : cy_Hp} {H H1 : Heap} {a : Nat} {e : va_E} (h : cy_hm G M H) (ha : cy_A G a) (hs : a = H.size) (hz : H1.size = H.size + 1) (he : va_at G.2.1 cy_cl (a, e) H1) (oq : ∀ q : Nat, q < a → H1[q]? = H[q]?) : cy_hm G (cy_set M a e) H1 := by
  refine ⟨fun q x hq => ?_, fun q h1 h2 => ?_⟩
  · by_cases hqa : q = a
    · subst hqa
      rw [cy_set_self] at hq
      cases hq
      exact ⟨ha, he⟩
    · rw [cy_set_ne M e hqa] at hq
      have hlt := (h.1 q x hq).2.lt
      exact ⟨(h.1 q x hq).1, (h.1 q x hq).2.kept (oq q (by rw [hs]; exact hlt))⟩
  · by_cases hqa : q = a
    · subst hqa; rw [cy_set_self]; exact fun w => by cases w
    · rw [cy_set_ne M e hqa]; exact h.2 q h1 (by omega)
theorem cy_hm_top {G : cy_G} {M : cy_Hp} {H : Heap} (h : cy_hm G M H) (hA : cy_A G H.size) : cy_top G M H.size := by
  refine ⟨hA, fun a ha => ?_, fun a h1 h2 => h.2 a h1 h2⟩
  cases hM : M a with
  | none => rfl
  | some e => exact absurd ((h.1 _ e hM).2.lt) (Nat.not_lt.mpr ha)
/-- a method of ours: name, bytes, locals, what it returns -/
abbrev cy_I : Type := MethodName × ByteArray × Nat × Option FieldType
def cy_w (i : cy_I) : List Cond := Cond.code i.1 i.2.1 i.2.2.1 i.2.2.2 :: cy_TW
def cy_Q (G : cy_G) (post : Option Value → cy_Hp → Prop) : Array Value → State → Outcome → State → Prop := fun _ st o t => ∃ (r : Option Value) (M : cy_Hp), o = .returned r ∧ post r M ∧ cy_hm G M t.heap ∧ va_F (cy_A G) st t
/-- the contract: from a heap that holds M, with these arguments, the method returns r, and the heap holds M', with post r M' -/
def cy_Ct (G : cy_G) (d : Nat) (i : cy_I) (av : List Value) (M : cy_Hp) (mc ms : Nat) (post : Option Value → cy_Hp → Prop) : Prop :=
  Met G.1 i.1 (cy_w i) ({ frames := d, cells := mc, slots := ms, locals := 40 * d }) (va_Pc av (fun U => cy_K G U ∧ cy_hm G M U.heap)) (cy_Q G post) mc ms (cy_A G)
abbrev cy_F : Type := Program × Launch × Env × Room × State × MethodId × Array Value × List Frame × Method × Code × (State → Prop)
def WM (G : cy_G) (F : cy_F) (nL kc ks pc : Nat) (lv : List (Nat × Value)) (st : List Value) (M : cy_Hp) : Prop := match F with
  | (p, l, e, R, s, m, args, below, meth, c, Q) => ∀ (H : Heap) (ls : Array Slot) (locs : List Loc), lv_has ls nL lv → cy_hm G M H → va_S (cy_A G) s.heap H locs → W p l e R s m args below meth c H locs kc ks Q (F0 m pc ls st)
def cy_C (G : cy_G) (F : cy_F) (own : String) (cc : ByteArray) (nL d rc rs : Nat) : Prop := match F with
  | (p, l, _, R, s, m, args, _, meth, c, _) => l = G.1 ∧ p.tables.exec = Jvm.exec ∧ c.code = cc ∧ c.maxLocals = nL ∧ s.vm.findClass own = some m.cls ∧ (∀ w ∈ cy_TW, w.before args s = true) ∧ cy_K G s ∧ meth.locks = false ∧ d ≤ R.frames ∧ 40 * d ≤ R.locals ∧ rc ≤ R.cells ∧ rs ≤ R.slots
def cy_P (G : cy_G) (F : cy_F) (ret : Option FieldType) (post : Option Value → cy_Hp → Prop) (mc ms : Nat) : Prop := match F with
  | (_, _, _, _, s, _, args, below, meth, _, Q) => meth.sig.returnType = ret ∧ Q = MQ below (cy_Q G post) args s mc ms (cy_A G)
def cy_N (F : cy_F) : Prop := match F with
  | (_, _, _, _, _, _, _, _, meth, _, _) => meth.name = "<init>"
theorem cy_Ct.of {G : cy_G} {d : Nat} {i : cy_I} {av : List Value} {M : cy_Hp} {mc ms : Nat} {post : Option Value → cy_Hp → Prop} (hy : plainName i.1.cls = true) (hn : (lg_sl av).length ≤ i.2.2.1)
    (h : ∀ F : cy_F, cy_C G F i.1.cls i.2.1 i.2.2.1 d mc ms → cy_P G F i.2.2.2 post mc ms → (i.1.name = "<init>" → cy_N F) → WM G F i.2.2.1 0 0 0 (lv_args 0 av) [] M) : cy_Ct G d i av M mc ms post := by
  obtain ⟨y, bs, mL, rt⟩ := i
  refine Met.ofW (cc := bs) (maxL := mL) (ret := rt) hy rfl ?_
  intro p e s m args below meth c s₁ B hml hv
  obtain ⟨rfl, hK, hM⟩ := hv
  have hts := atoms_spec (ws := cy_w (y, bs, mL, rt)) B.pre
  have hown : s.vm.findClass y.cls = some m.cls := findClass_of_methodNamed B.named
  have hk := h (p, G.1, e, { frames := d, cells := mc, slots := ms, locals := 40 * d }, s, m, av.toArray, below, meth, c, MQ below (cy_Q G post) av.toArray s mc ms (cy_A G)) ⟨rfl, B.exec, B.bytes, hml, hown, fun w hw => hts w (List.mem_cons_of_mem _ hw), hK, B.notSynchronized, Nat.le_refl _, Nat.le_refl _, Nat.le_refl _, Nat.le_refl _⟩ ⟨B.returns, rfl⟩ (fun hh => ((name_of_methodNamed B.named B.method).1.trans hh))
  rw [lg_entry_eq]
  exact hk s.heap _ [] (lv_entry av hn) hM va_S.rf
theorem cy_Ct.mono {G : cy_G} {d : Nat} {i : cy_I} {av : List Value} {M : cy_Hp} {mc ms : Nat} {post post2 : Option Value → cy_Hp → Prop} (h : cy_Ct G d i av M mc ms post) (hp : ∀ r M', post r M' → post2 r M') : cy_Ct G d i av M mc ms post2 := by
  intro p e ha hc hk s m args below hf happ hP hK
  obtain ⟨n, o, h1, h2, h3, ⟨r, M', a1, a2, a3⟩, h5⟩ := h p e ha hc hk s m args below hf happ hP hK
  exact ⟨n, o, h1, h2, h3, ⟨r, M', a1, hp r M' a2, a3⟩, h5⟩
/-- a class of ours: its place in the list, name, fields -/
def cy_Co (ci : Nat) (C : String) (T : u_T) (N : Nat) (ty : Nat → FieldType) : Prop := cy_cl[ci]? = some (C, T, N) ∧ (∀ w ∈ u_ws C T N, w ∈ cy_TW) ∧ (∀ k, k < N → parseFieldDescriptor (T k).2.2.1 = some (ty k)) ∧ (∀ a, a < N → ∀ b, b < N → a ≠ b → (T a).2.1 ≠ (T b).2.1)
/-- a method that may be called: its words stand in the tables; n: how many arguments -/
def cy_Mo (i : cy_I) (n : Nat) : Prop := Cond.code i.1 i.2.1 i.2.2.1 i.2.2.2 ∈ cy_TW ∧ Cond.initialized i.1.cls ∈ cy_TW ∧ (i.1.cls ≠ "java/lang/invoke/MethodHandle" ∧ i.1.cls ≠ "java/lang/invoke/VarHandle" ∧ (parseMethodDescriptor i.1.desc).map (fun d => d.parameters.length) = some n) ∧ i.2.2.1 ≤ 21
/-- ... an instance method, ... -/
def cy_MoV (i : cy_I) (n : Nat) : Prop := cy_Mo i n ∧ Cond.instanceMethod i.1 ∈ cy_TW ∧ Cond.selects i.1.cls i.1 i.1 ∈ cy_TW
def cy_MoI (i : cy_I) (n : Nat) : Prop := cy_Mo i n ∧ Cond.instanceMethod i.1 ∈ cy_TW ∧ i.1.name = "<init>"
def cy_MoS (i : cy_I) (n : Nat) : Prop := cy_Mo i n ∧ Cond.static i.1 ∈ cy_TW
theorem cy_goodIn {i : cy_I} (h : Cond.code i.1 i.2.1 i.2.2.1 i.2.2.2 ∈ cy_TW) : GoodIn cy_TW (cy_w i) := by
  intro w hw
  rcases List.mem_cons.mp hw with rfl | hw
  · exact ⟨h, cy_good h⟩
  · exact ⟨hw, cy_good hw⟩
section CYR
variable {G : cy_G} {F : cy_F} {own : String} {cc : ByteArray} {nL d rc rs kc ks pc : Nat} {lv : List (Nat × Value)} {st : List Value} {M : cy_Hp}
theorem wm_sub (lv2 : List (Nat × Value)) (hs : ∀ q ∈ lv2, q ∈ lv) (k : WM G F nL kc ks pc lv2 st M) : WM G F nL kc ks pc lv st M := by
  obtain ⟨p, l, e, R, s, m, args, below, meth, c, Q⟩ := F
  exact fun H ls locs hl hM hS => k H ls locs ⟨hl.1, hl.2.1, fun q hq => hl.2.2 q (hs q hq)⟩ hM hS
theorem wm_get (C : cy_C G F own cc nL d rc rs) {ci : Nat} {Cn : String} {T : u_T} {N : Nat} {ty : Nat → FieldType} (co : cy_Co ci Cn T N ty) {a idx : Nat} {fs : List Value} (ha : M a = some (.inr (ci, fs))) (k : Nat) (hk : k < N) (lk : Cond.fieldLink own idx (T k).1 (T k).2.1 (T k).2.2.1 ∈ cy_TW) {v : Value} (hv : fs[k]? = some v) (hd : decode cc pc = .ok (.getfield idx, 3))
    (kk : WM G F nL kc ks (pc + 3) lv (v :: st) M) : WM G F nL kc ks pc lv (.ref a :: st) M := by
  obtain ⟨p, l, e, R, s, m, args, below, meth, c, Q⟩ := F
  obtain ⟨hl0, hx, hb, hml, hown, hts, hK, -⟩ := C
  exact fun H ls locs hl hM hS => va_get hx hb hts co.2.1 hown hK.1 (cy_hm_at hM ha) 0 rfl co.1 k hk (hts _ lk) (fun _ h9 => h9) hv hd (kk H ls locs hl hM hS)
theorem wm_getN (C : cy_C G F own cc nL d rc rs) {ci : Nat} {Cn host : String} {T : u_T} {N : Nat} {ty : Nat → FieldType} (co : cy_Co ci Cn T N ty) {a idx : Nat} {fs : List Value} (ha : M a = some (.inr (ci, fs))) (k : Nat) (hk : k < N) (lk : Cond.fieldLinkNest own idx (T k).1 (T k).2.1 (T k).2.2.1 host ∈ cy_NW) {v : Value} (hv : fs[k]? = some v) (hd : decode cc pc = .ok (.getfield idx, 3))
    (kk : WM G F nL kc ks (pc + 3) lv (v :: st) M) : WM G F nL kc ks pc lv (.ref a :: st) M := by
  obtain ⟨p, l, e, R, s, m, args, below, meth, c, Q⟩ := F
  obtain ⟨hl0, hx, hb, hml, hown, hts, hK, -⟩ := C
  exact fun H ls locs hl hM hS => va_getN hx hb hts co.2.1 hown hK.1 (cy_hm_at hM ha) 0 rfl co.1 k hk (va_Nw.use rfl (hK.2.1 _ lk)) (fun _ h9 => h9) hv hd (kk H ls locs hl hM hS)
theorem wm_put (C : cy_C G F own cc nL d rc rs) {ci : Nat} {Cn : String} {T : u_T} {N : Nat} {ty : Nat → FieldType} (co : cy_Co ci Cn T N ty) {a idx : Nat} {fs : List Value} (ha : M a = some (.inr (ci, fs))) (k : Nat) (hk : k < N) (lk : Cond.fieldLink own idx (T k).1 (T k).2.1 (T k).2.2.1 ∈ cy_TW) (hfin : (T k).2.2.2 = false) {v : Value} (hn : narrow (ty k) v = v) (hfit : fits (ty k) v = true) (hlen : k < fs.length) (hd : decode cc pc = .ok (.putfield idx, 3))
    (kk : WM G F nL kc ks (pc + 3) lv st (cy_set M a (.inr (ci, fs.set k v)))) : WM G F nL kc ks pc lv (v :: .ref a :: st) M := by
  obtain ⟨p, l, e, R, s, m, args, below, meth, c, Q⟩ := F
  obtain ⟨hl0, hx, hb, hml, hown, hts, hK, -⟩ := C
  intro H ls locs hl hM hS
  have hap := va_apart (own := own) hts co.2.1 ty co.2.2.1 co.2.2.2 hK.1 co.1
  obtain ⟨hAa, r, h1, cell, q1, q2, q3, q4⟩ := hM.1 a _ ha
  have hr : r = (Cn, T, N) := Option.some.inj (h1.symm.trans co.1)
  subst hr
  obtain ⟨hSl, hfc, kC, hkC, hkind⟩ := hK.1.1 ci _ co.1
  obtain ⟨cf, kf, fi, f, hi, hsl⟩ := hSl k hk
  have hlay := hts _ (co.2.1 _ (u_in_lay hk))
  unfold u_lay at hlay
  rw [if_neg (by rw [hfin]; decide)] at hlay
  have hst := (u_facts hfc hkC (u_lays hts co.2.1 hk) hi).1
  have h6 := u_store hfc hkC hkind hlay hi (co.2.2.1 k hk) hn hfit
  refine W.putK hx hb (f := f) ⟨hown, hts _ lk, ⟨_, _, _, hi⟩, hst⟩ (by rw [q2]; exact h6) q1 q3 (by rw [hsl]; exact k2_hasslot (q4 k hk)) rfl rfl hd fun H' e1 e2 e3 => ?_
  rw [hsl] at e1 ⊢
  exact kk H' ls _ hl (cy_hm_set hM hAa e2 ⟨_, co.1, t_OB.to (V := updV (vp_V fs) k v) ⟨_, e1, q2, q3, t_set q4 hap hk v⟩ (fun j _ => vp_updV_set hlen v j)⟩ e3) (hS.put e2 e3 hAa)
theorem wm_putN (C : cy_C G F own cc nL d rc rs) {ci : Nat} {Cn host : String} {T : u_T} {N : Nat} {ty : Nat → FieldType} (co : cy_Co ci Cn T N ty) {a idx : Nat} {fs : List Value} (ha : M a = some (.inr (ci, fs))) (k : Nat) (hk : k < N) (lk : Cond.fieldLinkNest own idx (T k).1 (T k).2.1 (T k).2.2.1 host ∈ cy_NW) (hfin : (T k).2.2.2 = false) {v : Value} (hn : narrow (ty k) v = v) (hfit : fits (ty k) v = true) (hlen : k < fs.length) (hd : decode cc pc = .ok (.putfield idx, 3))
    (kk : WM G F nL kc ks (pc + 3) lv st (cy_set M a (.inr (ci, fs.set k v)))) : WM G F nL kc ks pc lv (v :: .ref a :: st) M := by
  obtain ⟨p, l, e, R, s, m, args, below, meth, c, Q⟩ := F
  obtain ⟨hl0, hx, hb, hml, hown, hts, hK, -⟩ := C
  intro H ls locs hl hM hS
  have hap := va_apart (own := own) hts co.2.1 ty co.2.2.1 co.2.2.2 hK.1 co.1
  obtain ⟨hAa, r, h1, cell, q1, q2, q3, q4⟩ := hM.1 a _ ha
  have hr : r = (Cn, T, N) := Option.some.inj (h1.symm.trans co.1)
  subst hr
  obtain ⟨hSl, hfc, kC, hkC, hkind⟩ := hK.1.1 ci _ co.1
  obtain ⟨cf, kf, fi, f, hi, hsl⟩ := hSl k hk
  have hlay := hts _ (co.2.1 _ (u_in_lay hk))
  unfold u_lay at hlay
  rw [if_neg (by rw [hfin]; decide)] at hlay
  have hst := (u_facts hfc hkC (u_lays hts co.2.1 hk) hi).1
  have h6 := u_store hfc hkC hkind hlay hi (co.2.2.1 k hk) hn hfit
  refine va_WputK hx hb (f := f) hown (va_Nw.use rfl (hK.2.1 _ lk)) hi hst (by rw [q2]; exact h6) q1 q3 (by rw [hsl]; exact k2_hasslot (q4 k hk)) rfl rfl hd fun H' e1 e2 e3 => ?_
  rw [hsl] at e1 ⊢
  exact kk H' ls _ hl (cy_hm_set hM hAa e2 ⟨_, co.1, t_OB.to (V := updV (vp_V fs) k v) ⟨_, e1, q2, q3, t_set q4 hap hk v⟩ (fun j _ => vp_updV_set hlen v j)⟩ e3) (hS.put e2 e3 hAa)
theorem wm_putF (C : cy_C G F own cc nL d rc rs) (hi0 : cy_N F) {ci : Nat} {Cn : String} {T : u_T} {N : Nat} {ty : Nat → FieldType} (co : cy_Co ci Cn T N ty) {a idx : Nat} {fs : List Value} (ha : M a = some (.inr (ci, fs))) (k : Nat) (hk : k < N) (lk : Cond.fieldLink own idx (T k).1 (T k).2.1 (T k).2.2.1 ∈ cy_TW) (hfin : (T k).2.2.2 = true) (hdecl : (T k).1 = own) {v : Value} (hn : narrow (ty k) v = v) (hfit : fits (ty k) v = true) (hlen : k < fs.length) (hd : decode cc pc = .ok (.putfield idx, 3))
    (kk : WM G F nL kc ks (pc + 3) lv st (cy_set M a (.inr (ci, fs.set k v)))) : WM G F nL kc ks pc lv (v :: .ref a :: st) M := by
  obtain ⟨p, l, e, R, s, m, args, below, meth, c, Q⟩ := F
  obtain ⟨hl0, hx, hb, hml, hown, hts, hK, -⟩ := C
  intro H ls locs hl hM hS
  have hap := va_apart (own := own) hts co.2.1 ty co.2.2.1 co.2.2.2 hK.1 co.1
  obtain ⟨hAa, r, h1, cell, q1, q2, q3, q4⟩ := hM.1 a _ ha
  have hr : r = (Cn, T, N) := Option.some.inj (h1.symm.trans co.1)
  subst hr
  obtain ⟨hSl, hfc, kC, hkC, hkind⟩ := hK.1.1 ci _ co.1
  obtain ⟨cf, kf, fi, f, hi, hsl⟩ := hSl k hk
  have hlay := hts _ (co.2.1 _ (u_in_lay hk))
  unfold u_lay at hlay
  rw [if_pos hfin] at hlay
  have hst := (u_facts hfc hkC (u_lays hts co.2.1 hk) hi).1
  have hcf : m.cls = cf := by
    obtain ⟨_, _, c', _, _, _, -, -, hf', -, -, -, hown2, -⟩ := Cond.laysFinal_spec hlay
    have e1 : c' = cf := by have := hi.symm.trans hf'; simp at this; exact this.1.symm
    rw [hdecl] at hown2
    rw [← e1]; exact Option.some.inj (hown.symm.trans hown2)
  have h6 := u_fits hfc hkC hkind (Or.inr hlay) hi (co.2.2.1 k hk) hn hfit
  refine W.putFinK hx hb hown (hts _ lk) hi hst hcf hi0 (by rw [q2]; exact h6) q1 q3 (by rw [hsl]; exact k2_hasslot (q4 k hk)) rfl rfl hd fun H' e1 e2 e3 => ?_
  rw [hsl] at e1 ⊢
  exact kk H' ls _ hl (cy_hm_set hM hAa e2 ⟨_, co.1, t_OB.to (V := updV (vp_V fs) k v) ⟨_, e1, q2, q3, t_set q4 hap hk v⟩ (fun j _ => vp_updV_set hlen v j)⟩ e3) (hS.put e2 e3 hAa)
theorem wm_iald (C : cy_C G F own cc nL d rc rs) {a t0 : Nat} {cA : ClassId} {n : Nat} {f : Nat → Int32} (ha : M a = some (.inl (cA, n, .inl f))) (ht : G.2.2.1[t0]? = some (cA, .int)) {i : Int32} (hin : vp_in i n) (hd : decode cc pc = .ok (.iaload, 1))
    (kk : WM G F nL kc ks (pc + 1) lv (.int (f i.toNatClampNeg) :: st) M) : WM G F nL kc ks pc lv (.int i :: .ref a :: st) M := by
  obtain ⟨p, l, e, R, s, m, args, below, meth, c, Q⟩ := F
  obtain ⟨hl0, hx, hb, hml, hown, hts, hK, -⟩ := C
  exact fun H ls locs hl hM hS => va_iald hx hb hK.1 (cy_hm_at hM ha) 0 t0 rfl ht hin hd (kk H ls locs hl hM hS)
theorem wm_iast (C : cy_C G F own cc nL d rc rs) {a t0 : Nat} {cA : ClassId} {n : Nat} {f : Nat → Int32} (ha : M a = some (.inl (cA, n, .inl f))) (ht : G.2.2.1[t0]? = some (cA, .int)) {i x : Int32} (hin : vp_in i n) (hd : decode cc pc = .ok (.iastore, 1))
    (kk : WM G F nL kc ks (pc + 1) lv st (cy_set M a (.inl (cA, n, .inl (upd f i.toNatClampNeg x))))) : WM G F nL kc ks pc lv (.int x :: .int i :: .ref a :: st) M := by
  obtain ⟨p, l, e, R, s, m, args, below, meth, c, Q⟩ := F
  obtain ⟨hl0, hx, hb, hml, hown, hts, hK, -⟩ := C
  intro H ls locs hl hM hS
  obtain ⟨hAa, hat⟩ := hM.1 a _ ha
  refine W.iast hx hb hat ((hK.1.2 t0 _ ht).1 n (fun j => .int (f j))) (fun q => by cases q) (by show ¬ (i < 0 ∨ (arrV _ _ _).slots.size ≤ _); rw [arrV_size]; exact hin) rfl rfl hd fun H1 e1 z oq => ?_
  refine kk H1 ls _ hl (cy_hm_set hM hAa z ?_ oq) (hS.put z oq hAa)
  show H1[a]? = some (vp_cell _ _)
  rw [e1, vp_cell_i, vp_cell_i, arrV_store]
  congr 2
  funext q
  by_cases hq : q = i.toNatClampNeg
  · subst hq; simp [updV, upd]
  · simp [updV, upd, hq]
theorem wm_alen (C : cy_C G F own cc nL d rc rs) {a t0 : Nat} {cA : ClassId} {x : vp_A} {ty : FieldType} (ha : M a = some (.inl (cA, x))) (ht : G.2.2.1[t0]? = some (cA, ty)) (hd : decode cc pc = .ok (.arraylength, 1))
    (kk : WM G F nL kc ks (pc + 1) lv (.int (nI x.1) :: st) M) : WM G F nL kc ks pc lv (.ref a :: st) M := by
  obtain ⟨p, l, e, R, s, m, args, below, meth, c, Q⟩ := F
  obtain ⟨hl0, hx, hb, hml, hown, hts, hK, -⟩ := C
  exact fun H ls locs hl hM hS => va_alen hx hb hK.1 (cy_hm_at hM ha) 0 t0 rfl ht rfl hd (kk H ls locs hl hM hS)
theorem wm_aald (C : cy_C G F own cc nL d rc rs) {a t0 : Nat} {cA : ClassId} {Cn : String} {n : Nat} {f : Nat → Option Nat} (ha : M a = some (.inl (cA, n, .inr (.inr (.inr (.inr f)))))) (ht : G.2.2.1[t0]? = some (cA, .object Cn)) {i : Int32} (hin : vp_in i n) (hd : decode cc pc = .ok (.aaload, 1))
    (kk : WM G F nL kc ks (pc + 1) lv (va_rf (f i.toNatClampNeg) :: st) M) : WM G F nL kc ks pc lv (.int i :: .ref a :: st) M := by
  obtain ⟨p, l, e, R, s, m, args, below, meth, c, Q⟩ := F
  obtain ⟨hl0, hx, hb, hml, hown, hts, hK, -⟩ := C
  exact fun H ls locs hl hM hS => va_aldq hx hb hK.1 (cy_hm_at hM ha) 0 t0 rfl ht hin hd (kk H ls locs hl hM hS)
theorem wm_aast (C : cy_C G F own cc nL d rc rs) {a t0 ci v : Nat} {cA : ClassId} {r : vw_C} {n : Nat} {vs : List Value} {f : Nat → Option Nat} (ha : M a = some (.inl (cA, n, .inr (.inr (.inr (.inr f)))))) (ht : G.2.2.1[t0]? = some (cA, .object r.1)) (hv : M v = some (.inr (ci, vs))) (hc : cy_cl[ci]? = some r) {i : Int32} (hin : vp_in i n) (hd : decode cc pc = .ok (.aastore, 1))
    (kk : WM G F nL kc ks (pc + 1) lv st (cy_set M a (.inl (cA, n, .inr (.inr (.inr (.inr (va_up f i.toNatClampNeg (some v))))))))) : WM G F nL kc ks pc lv (.ref v :: .int i :: .ref a :: st) M := by
  obtain ⟨p, l, e, R, s, m, args, below, meth, c, Q⟩ := F
  obtain ⟨hl0, hx, hb, hml, hown, hts, hK, -⟩ := C
  intro H ls locs hl hM hS
  have hlt : i.toNatClampNeg < n := Nat.not_le.mp fun q => hin (Or.inr q)
  have h0 : ¬ i < 0 := fun q => hin (Or.inl q)
  obtain ⟨hAa, hat⟩ := hM.1 a _ ha
  obtain ⟨-, r', hr', cellV, g1, g2, g3, -⟩ := hM.1 v _ hv
  have hcls := (hK.1.1 ci r hc).2
  obtain ⟨kA, comp, k1, k2, k3, -⟩ := (hK.1.2 t0 _ ht).2
  have hcomp : comp = G.2.1.1 ci := Option.some.inj (k3.symm.trans hcls.1)
  subst hcomp
  obtain ⟨kC, hkC, -⟩ := hcls.2
  refine W.aast hx hb hat (fun q h => by cases h) (fun h => by cases h) k1 k2 rfl hkC ⟨h0, by show _ < (arrV _ _ _).slots.size; rw [arrV_size]; exact hlt⟩ g1 (fun q h => by rw [g3] at h; cases h) (by rw [g2]; exact hkC) (by rw [g2]; exact va_assign hcls) rfl rfl hd fun H1 e1 z oq => ?_
  refine kk H1 ls _ hl (cy_hm_set hM hAa z ?_ oq) (hS.put z oq hAa)
  show H1[a]? = some (vp_cell _ _)
  rw [e1, vp_cell_q, vp_cell_q, arrV_store]
  congr 2
  funext q
  by_cases hq : q = i.toNatClampNeg
  · subst hq; simp [updV, va_up, va_rf]
  · simp [updV, va_up, hq]
theorem wm_new (C : cy_C G F own cc nL d rc rs) {ci : Nat} {Cn : String} {T : u_T} {N : Nat} {ty : Nat → FieldType} (co : cy_Co ci Cn T N ty) {idx : Nat} (lk : Cond.classLink own idx Cn ∈ cy_TW) (li : Cond.instantiable Cn N ∈ cy_TW) (ln : Cond.initialized Cn ∈ cy_TW) {fs : List Value} (hfs : ∀ j, j < N → defaultValue (ty j) = vp_V fs j) (hkc : kc + 1 ≤ rc) (hks : ks + N ≤ rs) (hd : decode cc pc = .ok (.new idx, 3))
    (kk : ∀ q : Nat, cy_top G M q → WM G F nL (kc + 1) (ks + N) (pc + 3) lv (.ref q :: st) (cy_set M q (.inr (ci, fs)))) : WM G F nL kc ks pc lv st M := by
  obtain ⟨p, l, e, R, s, m, args, below, meth, c, Q⟩ := F
  obtain ⟨hl0, hx, hb, hml, hown, hts, hK, hlk, hfr, hlo, hrc, hrs⟩ := C
  intro H ls locs hl hM hS
  have hKn := hK.1.1 ci _ co.1
  refine W.newcK hx hb hown (hts _ lk) (hts _ li) (hts _ ln) rfl hd (Nat.le_trans hkc hrc) (Nat.le_trans hks hrs) hKn.2.1 rfl fun H1 kC hkC e1 z1 o1 => ?_
  have hA : cy_A G H.size := Nat.le_trans hK.2.2.1 hS.1
  exact kk H.size (cy_hm_top hM hA) H1 ls locs hl (cy_hm_new hM hA rfl z1 ⟨_, co.1, (u_born ty hts co.2.1 hKn hkC e1 co.2.2.1).to hfs⟩ o1) ⟨Nat.le_trans hS.1 (by omega), fun x h1 h2 => (o1 x (Nat.lt_of_lt_of_le h1 hS.1)).trans (hS.2.1 x h1 h2), hS.2.2⟩
theorem wm_newa (C : cy_C G F own cc nL d rc rs) {t0 : Nat} {cA : ClassId} (ht : G.2.2.1[t0]? = some (cA, .int)) (lw : Cond.arrayClass .int ∈ cy_TW) {n : Int32} {N : Nat} (hn : ¬ n < 0) (hN : n.toNatClampNeg = N) (hbig : N * 4 ≤ 536870912) (hkc : kc + 1 ≤ rc) (hks : ks + N ≤ rs) (hd : decode cc pc = .ok (.newarray .int, 2))
    (kk : ∀ q : Nat, cy_top G M q → WM G F nL (kc + 1) (ks + N) (pc + 2) lv (.ref q :: st) (cy_set M q (.inl (cA, N, .inl (fun _ => 0))))) : WM G F nL kc ks pc lv (.int n :: st) M := by
  obtain ⟨p, l, e, R, s, m, args, below, meth, c, Q⟩ := F
  obtain ⟨hl0, hx, hb, hml, hown, hts, hK, hlk, hfr, hlo, hrc, hrs⟩ := C
  intro H ls locs hl hM hS
  refine va_newaK hx hb (atype := .int) (hts _ lw) rfl hd rfl hn hN hbig (Nat.le_trans hkc hrc) (Nat.le_trans hks hrs) rfl fun H1 cB e1 z1 o1 hAr hNm => ?_
  have hA : cy_A G H.size := Nat.le_trans hK.2.2.1 hS.1
  have hcB : cB = cA := Option.some.inj (hNm.symm.trans (hK.1.2 t0 _ ht).2)
  subst hcB
  exact kk H.size (cy_hm_top hM hA) H1 ls locs hl (cy_hm_new hM hA rfl z1 e1 o1) ⟨Nat.le_trans hS.1 (by omega), fun x h1 h2 => (o1 x (Nat.lt_of_lt_of_le h1 hS.1)).trans (hS.2.1 x h1 h2), hS.2.2⟩
theorem wm_newq (C : cy_C G F own cc nL d rc rs) {t0 : Nat} {cA : ClassId} {Cn : String} (ht : G.2.2.1[t0]? = some (cA, .object Cn)) {idx : Nat} (lk : Cond.classLink own idx Cn ∈ cy_TW) (lo : Cn ∈ cy_AO) {n : Int32} {N : Nat} (hn : ¬ n < 0) (hN : n.toNatClampNeg = N) (hbig : N * 4 ≤ 536870912) (hkc : kc + 1 ≤ rc) (hks : ks + N ≤ rs) (hd : decode cc pc = .ok (.anewarray idx, 3))
    (kk : ∀ q : Nat, cy_top G M q → WM G F nL (kc + 1) (ks + N) (pc + 3) lv (.ref q :: st) (cy_set M q (.inl (cA, N, .inr (.inr (.inr (.inr (fun _ => none)))))))) : WM G F nL kc ks pc lv (.int n :: st) M := by
  obtain ⟨p, l, e, R, s, m, args, below, meth, c, Q⟩ := F
  obtain ⟨hl0, hx, hb, hml, hown, hts, hK, hlk, hfr, hlo, hrc, hrs⟩ := C
  intro H ls locs hl hM hS
  subst hN
  refine W.anew hx hb hown (hts _ lk) (va_AO.use (hK.2.2.2.2 _ lo)) rfl hd rfl hn hbig (Nat.le_trans hkc hrc) (Nat.le_trans hks hrs) fun cB kA comp f1 f2 f3 f4 => ?_
  generalize hH1 : H.push ({ cls := cB, slots := Array.replicate n.toNatClampNeg .null, vm := .none } : Cell) = H1
  have z1 : H1.size = H.size + 1 := by rw [← hH1, Array.size_push]
  have e1 : H1[H.size]? = some (arrV cB n.toNatClampNeg (fun _ => .null)) := by rw [← hH1, Array.getElem?_push_size, ← arrV_new]
  have o1 : ∀ q : Nat, q < H.size → H1[q]? = H[q]? := fun q hq => by rw [← hH1, Array.getElem?_push, if_neg (Nat.ne_of_lt hq)]
  have hA : cy_A G H.size := Nat.le_trans hK.2.2.1 hS.1
  have hcB : cB = cA := by
    obtain ⟨kA', comp', g1, g2, g3, g4⟩ := (hK.1.2 t0 _ ht).2
    exact Option.some.inj (f1.symm.trans g4)
  subst hcB
  exact kk H.size (cy_hm_top hM hA) H1 ls locs hl (cy_hm_new hM hA rfl z1 e1 o1) ⟨Nat.le_trans hS.1 (by omega), fun x h1 h2 => (o1 x (Nat.lt_of_lt_of_le h1 hS.1)).trans (hS.2.1 x h1 h2), hS.2.2⟩
theorem wm_gets (C : cy_C G F own cc nL d rc rs) {j idx : Nat} {q : String × String × String × Nat × (Nat → Value)} (hj : cy_ST[j]? = some q) (lk : Cond.fieldLink own idx q.1 q.2.1 q.2.2.1 ∈ cy_TW) (hd : decode cc pc = .ok (.getstatic idx, 3))
    (kk : WM G F nL kc ks (pc + 3) lv (.ref (G.2.2.2.2 j) :: st) M) : WM G F nL kc ks pc lv st M := by
  obtain ⟨p, l, e, R, s, m, args, below, meth, c, Q⟩ := F
  obtain ⟨hl0, hx, hb, hml, hown, hts, hK, -⟩ := C
  exact fun H ls locs hl hM hS => va_gets hx hb (hK.2.2.2.1 j q hj).1 hS hown (hts _ lk) (fun _ h9 => h9) hd (kk H ls locs hl hM hS)
theorem wm_getsN (C : cy_C G F own cc nL d rc rs) {j : Nat} {q : String × String × String × Nat × (Nat → Value)} (hj : cy_ST[j]? = some q) {i : Int32} (hin : vp_in i q.2.2.2.1) {v : Value} (hv : q.2.2.2.2 i.toNatClampNeg = v) (hd : decode cc pc = .ok (.iaload, 1))
    (kk : WM G F nL kc ks (pc + 1) lv (v :: st) M) : WM G F nL kc ks pc lv (.int i :: .ref (G.2.2.2.2 j) :: st) M := by
  obtain ⟨p, l, e, R, s, m, args, below, meth, c, Q⟩ := F
  obtain ⟨hl0, hx, hb, hml, hown, hts, hK, -⟩ := C
  exact fun H ls locs hl hM hS => va_ti hx hb (hK.2.2.2.1 j q hj).2 hS hin hv hd (kk H ls locs hl hM hS)
theorem wm_tlen (C : cy_C G F own cc nL d rc rs) {j : Nat} {q : String × String × String × Nat × (Nat → Value)} (hj : cy_ST[j]? = some q) (hd : decode cc pc = .ok (.arraylength, 1))
    (kk : WM G F nL kc ks (pc + 1) lv (.int (nI q.2.2.2.1) :: st) M) : WM G F nL kc ks pc lv (.ref (G.2.2.2.2 j) :: st) M := by
  obtain ⟨p, l, e, R, s, m, args, below, meth, c, Q⟩ := F
  obtain ⟨hl0, hx, hb, hml, hown, hts, hK, -⟩ := C
  exact fun H ls locs hl hM hS => va_tlen hx hb (hK.2.2.2.1 j q hj).2 hS rfl hd (kk H ls locs hl hM hS)
theorem wm_obj (C : cy_C G F own cc nL d rc rs) {a idx : Nat} (lk : Cond.methodLink own idx Lib.objectInit ∈ cy_TW) (li : Cond.instanceMethod Lib.objectInit ∈ cy_TW) (lc : Cond.code Lib.objectInit ⟨#[0xb1]⟩ 1 none ∈ cy_TW) (hd1 : 1 ≤ d) (hst : (st.map fun v => v.category).sum ≤ 8) (hd : decode cc pc = .ok (.invokespecial idx, 3))
    (kk : WM G F nL kc ks (pc + 3) lv st M) : WM G F nL kc ks pc lv (.ref a :: st) M := by
  obtain ⟨p, l, e, R, s, m, args, below, meth, c, Q⟩ := F
  obtain ⟨hl0, hx, hb, hml, hown, hts, hK, hlk, hfr, hlo, hrc, hrs⟩ := C
  intro H ls locs hl hM hS
  refine W.objInit hx hb hown (hts _ lk) (hts _ li) (hts _ lc) rfl (by rw [hml]; exact hl.1) rfl hd (Nat.le_trans hd1 hfr) ?_ (kk H ls locs hl hM hS)
  show 2 * 0 + (st.map fun v => v.category).sum + 12 ≤ R.locals
  omega
theorem wm_mmax (C : cy_C G F own cc nL d rc rs) {idx : Nat} (lk : Cond.methodLink own idx Lib.Math.max.name ∈ cy_TW) (ls0 : Cond.static Lib.Math.max.name ∈ cy_TW) (li : Cond.initialized "java/lang/Math" ∈ cy_TW) (lc : Cond.code Lib.Math.max.name Lib.Math.max.code 2 (some .int) ∈ cy_TW) (hd1 : 1 ≤ d) (hst : (st.map fun v => v.category).sum ≤ 8) (hkc : kc ≤ rc) (hks : ks ≤ rs) {x y : Int32} (hd : decode cc pc = .ok (.invokestatic idx, 3))
    (kk : WM G F nL kc ks (pc + 3) lv (.int (if x < y then y else x) :: st) M) : WM G F nL kc ks pc lv (.int y :: .int x :: st) M := by
  obtain ⟨p, l, e, R, s, m, args, below, meth, c, Q⟩ := F
  obtain ⟨hl0, hx, hb, hml, hown, hts, hK, hlk, hfr, hlo, hrc, hrs⟩ := C
  exact fun H ls locs hl hM hS => va_mmax hx hb (by rw [hml]; exact hl.1.symm) hown (hts _ lk) (hts _ ls0) (hts _ li) (hts _ lc) (Nat.le_trans hd1 hfr) (by omega) (Nat.le_trans hkc hrc) (Nat.le_trans hks hrs) hd (kk H ls locs hl hM hS)
theorem wm_mmin (C : cy_C G F own cc nL d rc rs) {idx : Nat} (lk : Cond.methodLink own idx Lib.Math.min.name ∈ cy_TW) (ls0 : Cond.static Lib.Math.min.name ∈ cy_TW) (li : Cond.initialized "java/lang/Math" ∈ cy_TW) (lc : Cond.code Lib.Math.min.name Lib.Math.min.code 2 (some .int) ∈ cy_TW) (hd1 : 1 ≤ d) (hst : (st.map fun v => v.category).sum ≤ 8) (hkc : kc ≤ rc) (hks : ks ≤ rs) {x y : Int32} (hd : decode cc pc = .ok (.invokestatic idx, 3))
    (kk : WM G F nL kc ks (pc + 3) lv (.int (if y < x then y else x) :: st) M) : WM G F nL kc ks pc lv (.int y :: .int x :: st) M := by
  obtain ⟨p, l, e, R, s, m, args, below, meth, c, Q⟩ := F
  obtain ⟨hl0, hx, hb, hml, hown, hts, hK, hlk, hfr, hlo, hrc, hrs⟩ := C
  exact fun H ls locs hl hM hS => va_mmin hx hb (by rw [hml]; exact hl.1.symm) hown (hts _ lk) (hts _ ls0) (hts _ li) (hts _ lc) (Nat.le_trans hd1 hfr) (by omega) (Nat.le_trans hkc hrc) (Nat.le_trans hks hrs) hd (kk H ls locs hl hM hS)
/-! ends -/
theorem wm_iret (C : cy_C G F own cc nL d rc rs) {post : Option Value → cy_Hp → Prop} (P : cy_P G F (some .int) post kc ks) {v : Int32} (hd : decode cc pc = .ok (.ireturn, 1)) (h : post (some (.int v)) M) : WM G F nL kc ks pc lv [.int v] M := by
  obtain ⟨p, l, e, R, s, m, args, below, meth, c, Q⟩ := F
  obtain ⟨hl0, hx, hb, hml, hown, hts, hK, hlk, -⟩ := C
  obtain ⟨hr, rfl⟩ := P
  exact fun H ls locs hl hM hS => W.iret (v := v) hx hb hr (fun t ht hW => ⟨some (.int v), M, rfl, h, by rw [ht]; exact hM, hS.F ht⟩) hS.2.2 hd hlk
theorem wm_zret (C : cy_C G F own cc nL d rc rs) {post : Option Value → cy_Hp → Prop} (P : cy_P G F (some .boolean) post kc ks) {v : Int32} (hn : narrow .boolean (.int v) = .int v) (hd : decode cc pc = .ok (.ireturn, 1)) (h : post (some (.int v)) M) : WM G F nL kc ks pc lv [.int v] M := by
  obtain ⟨p, l, e, R, s, m, args, below, meth, c, Q⟩ := F
  obtain ⟨hl0, hx, hb, hml, hown, hts, hK, hlk, -⟩ := C
  obtain ⟨hr, rfl⟩ := P
  exact fun H ls locs hl hM hS => W.zret (v := v) hx hb hr hn (fun t ht hW => ⟨some (.int v), M, rfl, h, by rw [ht]; exact hM, hS.F ht⟩) hS.2.2 hd hlk
theorem wm_vret (C : cy_C G F own cc nL d rc rs) {post : Option Value → cy_Hp → Prop} (P : cy_P G F none post kc ks) (hd : decode cc pc = .ok (.return_, 1)) (h : post none M) : WM G F nL kc ks pc lv [] M := by
  obtain ⟨p, l, e, R, s, m, args, below, meth, c, Q⟩ := F
  obtain ⟨hl0, hx, hb, hml, hown, hts, hK, hlk, -⟩ := C
  obtain ⟨hr, rfl⟩ := P
  exact fun H ls locs hl hM hS => W.vret hx hb hr (fun t ht hW => ⟨none, M, rfl, h, by rw [ht]; exact hM, hS.F ht⟩) hS.2.2 hd hlk
theorem wm_aret (C : cy_C G F own cc nL d rc rs) {post : Option Value → cy_Hp → Prop} {rt : FieldType} (P : cy_P G F (some rt) post kc ks) (hrt : (∃ n, rt = .object n) ∨ ∃ t, rt = .array t) {v : Value} (hv : v = .null ∨ ∃ a, v = .ref a) (hd : decode cc pc = .ok (.areturn, 1)) (h : post (some v) M) : WM G F nL kc ks pc lv [v] M := by
  obtain ⟨p, l, e, R, s, m, args, below, meth, c, Q⟩ := F
  obtain ⟨hl0, hx, hb, hml, hown, hts, hK, hlk, -⟩ := C
  obtain ⟨hr, rfl⟩ := P
  exact fun H ls locs hl hM hS => W.aret (v := v) hx hb hr hrt hv (fun t ht hW => ⟨some v, M, rfl, h, by rw [ht]; exact hM, hS.F ht⟩) hS.2.2 hd hlk
/-- room that isn't used -/
theorem wm_widen {kc2 ks2 : Nat} (h1 : kc ≤ kc2) (h2 : ks ≤ ks2) (k : WM G F nL kc2 ks2 pc lv st M) : WM G F nL kc ks pc lv st M := by
  obtain ⟨p, l, e, R, s, m, args, below, meth, c, Q⟩ := F
  exact fun H ls locs hl hM hS => W.widen h1 h2 (k H ls locs hl hM hS)
end CYR
/-! calls -/
theorem cy_blind {G : cy_G} {av : List Value} {M : cy_Hp} : FrameBlind (va_Pc av (fun U => cy_K G U ∧ cy_hm G M U.heap)) := fun _ _ _ _ q => ⟨q.1, cy_K_calling q.2.1, q.2.2⟩
theorem cy_run {G : cy_G} {p : Program} {l : Launch} {e : Env} {R : Room} {s : State} {m : MethodId} {args : Array Value} {below : List Frame} {meth : Method} {c : Code} {Q : State → Prop} {H : Heap} {locs : List Loc} {nL kc ks mc ms pc : Nat} {lv : List (Nat × Value)} {ls : Array Slot} {st rest : List Value} {a : Array Value}
    (hr : va_Run p l e R s m args below meth c H locs kc ks mc ms (F0 m pc ls st) rest (cy_Q G (fun r M' => WM G (p, l, e, R, s, m, args, below, meth, c, Q) nL (kc + mc) (ks + ms) (pc + 3) lv (r.toList ++ rest) M') a) (cy_A G))
    (hl : lv_has ls nL lv) (hS : va_S (cy_A G) s.heap H locs) : W p l e R s m args below meth c H locs kc ks Q (F0 m pc ls st) := by
  intro T hT X
  obtain ⟨v, st₀, t, T', L, h0, X', hL, e1, e2, ⟨r, M', hv, hp, hm, hz, hk⟩, stp⟩ := hr T hT X
  cases hv
  rw [h0] at hz hk
  obtain ⟨t2, a1, b1⟩ := hp T'.heap ls (locs ++ L) hl (by rw [e1]; exact hm)
    ⟨Nat.le_trans hS.1 (by rw [e1]; exact hz), fun q h1 h2 => by rw [e1, hk q (Nat.lt_of_lt_of_le h1 hS.1) h2]; exact hS.2.1 q h1 h2, fun q hq => by
      rcases List.mem_append.mp hq with h | h
      · exact hS.2.2 q h
      · exact hL q h⟩ T' rfl X'
  exact ⟨t2, stp t2 a1, b1⟩
section CYC
variable {G : cy_G} {F : cy_F} {own : String} {cc : ByteArray} {nL d rc rs kc ks pc : Nat} {lv : List (Nat × Value)} {st : List Value} {M : cy_Hp}
theorem wm_callV (C : cy_C G F own cc nL d rc rs) {i : cy_I} {n d2 mc ms idx ci b : Nat} {fs : List Value} {T : u_T} {N : Nat} {ty : Nat → FieldType} (mo : cy_MoV i n) (co : cy_Co ci i.1.cls T N ty) (lk : Cond.methodLink own idx i.1 ∈ cy_TW) (As rest : List Value) (hst : st = As.reverse ++ .ref b :: rest) (hb0 : M b = some (.inr (ci, fs))) (hn : As.length = n) (hdd : d2 + 1 ≤ d) (hrest : (rest.map fun v => v.category).sum ≤ 8) (hkc : kc + mc ≤ rc) (hks : ks + ms ≤ rs) (hd : decode cc pc = .ok (.invokevirtual idx, 3))
    (kk : cy_Ct G d2 i (.ref b :: As) M mc ms (fun r M' => WM G F nL (kc + mc) (ks + ms) (pc + 3) lv (r.toList ++ rest) M')) : WM G F nL kc ks pc lv st M := by
  obtain ⟨p, l, e, R, s, m, args, below, meth, c, Q⟩ := F
  obtain ⟨hl0, hx, hb, hml, hown, hts, hK, hlk, hfr, hlo, hrc, hrs⟩ := C
  obtain ⟨y, bs, mL, rt⟩ := i
  obtain ⟨⟨mo1, mo2, mo3, mo4⟩, mo5, mo6⟩ := mo
  subst hl0
  intro H ls locs hl hM hS
  have hcb : CallB R s args own idx y bs mL rt (cy_w (y, bs, mL, rt)) ({ frames := d2, cells := mc, slots := ms, locals := 40 * d2 }) mc ms n := callB_of n hts (cy_goodIn mo1) rfl rfl rfl (hts _ mo2) (hts _ lk) mo3 ⟨by show d2 + 1 ≤ R.frames; omega, by have h4 : mL ≤ 21 := mo4; show 8 + (mL + 11) + 40 * d2 ≤ R.locals; omega⟩
  exact cy_run (va_runV (C := y.cls) (As := As) (rest := rest) ⟨hx, hb, hml, hown, hts⟩ kk ⟨hcb, hts _ mo5, hts _ mo6⟩ ⟨cy_blind, va_recv hK.1 (cy_hm_at hM hb0) co.1 (q0 := 0) rfl, fun U hU hW => ⟨rfl, cy_K_call hK hS hU hW, by rw [hU]; exact hM⟩⟩ rfl hn hl.1 hst (lv_room hrest) hd ⟨Nat.le_trans hkc hrc, Nat.le_trans hks hrs⟩) hl hS
theorem wm_callVN (C : cy_C G F own cc nL d rc rs) {i : cy_I} {host : String} {n d2 mc ms idx ci b : Nat} {fs : List Value} {T : u_T} {N : Nat} {ty : Nat → FieldType} (mo : cy_MoV i n) (co : cy_Co ci i.1.cls T N ty) (lk : Cond.methodLinkNest own idx i.1 host ∈ cy_NW) (As rest : List Value) (hst : st = As.reverse ++ .ref b :: rest) (hb0 : M b = some (.inr (ci, fs))) (hn : As.length = n) (hdd : d2 + 1 ≤ d) (hrest : (rest.map fun v => v.category).sum ≤ 8) (hkc : kc + mc ≤ rc) (hks : ks + ms ≤ rs) (hd : decode cc pc = .ok (.invokevirtual idx, 3))
    (kk : cy_Ct G d2 i (.ref b :: As) M mc ms (fun r M' => WM G F nL (kc + mc) (ks + ms) (pc + 3) lv (r.toList ++ rest) M')) : WM G F nL kc ks pc lv st M := by
  obtain ⟨p, l, e, R, s, m, args, below, meth, c, Q⟩ := F
  obtain ⟨hl0, hx, hb, hml, hown, hts, hK, hlk, hfr, hlo, hrc, hrs⟩ := C
  obtain ⟨y, bs, mL, rt⟩ := i
  obtain ⟨⟨mo1, mo2, mo3, mo4⟩, mo5, mo6⟩ := mo
  subst hl0
  intro H ls locs hl hM hS
  have hcb : va_CN R s args own idx y host bs mL rt (cy_w (y, bs, mL, rt)) ({ frames := d2, cells := mc, slots := ms, locals := 40 * d2 }) mc ms n := va_cnB n hts (cy_goodIn mo1) rfl rfl rfl (hK.2.1 _ lk) (hts _ mo2) mo3 ⟨by show d2 + 1 ≤ R.frames; omega, by have h4 : mL ≤ 21 := mo4; show 8 + (mL + 11) + 40 * d2 ≤ R.locals; omega⟩
  exact cy_run (va_runVN (C := y.cls) (As := As) (rest := rest) ⟨hx, hb, hml, hown, hts⟩ kk ⟨hcb, hts _ mo5, hts _ mo6⟩ ⟨cy_blind, va_recv hK.1 (cy_hm_at hM hb0) co.1 (q0 := 0) rfl, fun U hU hW => ⟨rfl, cy_K_call hK hS hU hW, by rw [hU]; exact hM⟩⟩ rfl hn hl.1 hst (lv_room hrest) hd ⟨Nat.le_trans hkc hrc, Nat.le_trans hks hrs⟩) hl hS
theorem wm_callS (C : cy_C G F own cc nL d rc rs) {i : cy_I} {n d2 mc ms idx : Nat} (mo : cy_MoS i n) (lk : Cond.methodLink own idx i.1 ∈ cy_TW) (As rest : List Value) (hst : st = As.reverse ++ rest) (hn : As.length = n) (hdd : d2 + 1 ≤ d) (hrest : (rest.map fun v => v.category).sum ≤ 8) (hkc : kc + mc ≤ rc) (hks : ks + ms ≤ rs) (hd : decode cc pc = .ok (.invokestatic idx, 3))
    (kk : cy_Ct G d2 i As M mc ms (fun r M' => WM G F nL (kc + mc) (ks + ms) (pc + 3) lv (r.toList ++ rest) M')) : WM G F nL kc ks pc lv st M := by
  obtain ⟨p, l, e, R, s, m, args, below, meth, c, Q⟩ := F
  obtain ⟨hl0, hx, hb, hml, hown, hts, hK, hlk, hfr, hlo, hrc, hrs⟩ := C
  obtain ⟨y, bs, mL, rt⟩ := i
  obtain ⟨⟨mo1, mo2, mo3, mo4⟩, mo5⟩ := mo
  subst hl0
  intro H ls locs hl hM hS
  have hcb : CallB R s args own idx y bs mL rt (cy_w (y, bs, mL, rt)) ({ frames := d2, cells := mc, slots := ms, locals := 40 * d2 }) mc ms n := callB_of n hts (cy_goodIn mo1) rfl rfl rfl (hts _ mo2) (hts _ lk) mo3 ⟨by show d2 + 1 ≤ R.frames; omega, by have h4 : mL ≤ 21 := mo4; show 8 + (mL + 11) + 40 * d2 ≤ R.locals; omega⟩
  exact cy_run (va_runS (As := As) (rest := rest) ⟨hx, hb, hml, hown, hts⟩ kk ⟨hcb, hts _ mo5⟩ ⟨cy_blind, fun U hU hW => ⟨rfl, cy_K_call hK hS hU hW, by rw [hU]; exact hM⟩⟩ rfl hn hl.1 hst (lv_room hrest) hd ⟨Nat.le_trans hkc hrc, Nat.le_trans hks hrs⟩) hl hS
theorem wm_callSN (C : cy_C G F own cc nL d rc rs) {i : cy_I} {host : String} {n d2 mc ms idx : Nat} (mo : cy_MoS i n) (lk : Cond.methodLinkNest own idx i.1 host ∈ cy_NW) (As rest : List Value) (hst : st = As.reverse ++ rest) (hn : As.length = n) (hdd : d2 + 1 ≤ d) (hrest : (rest.map fun v => v.category).sum ≤ 8) (hkc : kc + mc ≤ rc) (hks : ks + ms ≤ rs) (hd : decode cc pc = .ok (.invokestatic idx, 3))
    (kk : cy_Ct G d2 i As M mc ms (fun r M' => WM G F nL (kc + mc) (ks + ms) (pc + 3) lv (r.toList ++ rest) M')) : WM G F nL kc ks pc lv st M := by
  obtain ⟨p, l, e, R, s, m, args, below, meth, c, Q⟩ := F
  obtain ⟨hl0, hx, hb, hml, hown, hts, hK, hlk, hfr, hlo, hrc, hrs⟩ := C
  obtain ⟨y, bs, mL, rt⟩ := i
  obtain ⟨⟨mo1, mo2, mo3, mo4⟩, mo5⟩ := mo
  subst hl0
  intro H ls locs hl hM hS
  have hcb : va_CN R s args own idx y host bs mL rt (cy_w (y, bs, mL, rt)) ({ frames := d2, cells := mc, slots := ms, locals := 40 * d2 }) mc ms n := va_cnB n hts (cy_goodIn mo1) rfl rfl rfl (hK.2.1 _ lk) (hts _ mo2) mo3 ⟨by show d2 + 1 ≤ R.frames; omega, by have h4 : mL ≤ 21 := mo4; show 8 + (mL + 11) + 40 * d2 ≤ R.locals; omega⟩
  exact cy_run (va_runSN (As := As) (rest := rest) ⟨hx, hb, hml, hown, hts⟩ kk ⟨hcb, hts _ mo5, trivial⟩ ⟨cy_blind, fun U hU hW => ⟨rfl, cy_K_call hK hS hU hW, by rw [hU]; exact hM⟩⟩ rfl hn hl.1 hst (lv_room hrest) hd ⟨Nat.le_trans hkc hrc, Nat.le_trans hks hrs⟩) hl hS
theorem wm_callI (C : cy_C G F own cc nL d rc rs) {i : cy_I} {n d2 mc ms idx b : Nat} (mo : cy_MoI i n) (hret : i.2.2.2 = none) (lk : Cond.methodLink own idx i.1 ∈ cy_TW) (As rest : List Value) (hst : st = As.reverse ++ .ref b :: rest) (hn : As.length = n) (hdd : d2 + 1 ≤ d) (hrest : (rest.map fun v => v.category).sum ≤ 8) (hkc : kc + mc ≤ rc) (hks : ks + ms ≤ rs) (hd : decode cc pc = .ok (.invokespecial idx, 3))
    (kk : cy_Ct G d2 i (.ref b :: As) M mc ms (fun r M' => WM G F nL (kc + mc) (ks + ms) (pc + 3) lv (r.toList ++ rest) M')) : WM G F nL kc ks pc lv st M := by
  obtain ⟨p, l, e, R, s, m, args, below, meth, c, Q⟩ := F
  obtain ⟨hl0, hx, hb, hml, hown, hts, hK, hlk, hfr, hlo, hrc, hrs⟩ := C
  obtain ⟨y, bs, mL, rt⟩ := i
  obtain ⟨⟨mo1, mo2, mo3, mo4⟩, mo5, mo6⟩ := mo
  subst hl0
  have hret : rt = none := hret
  subst hret
  intro H ls locs hl hM hS
  have hcb : CallB R s args own idx y bs mL none (cy_w (y, bs, mL, none)) ({ frames := d2, cells := mc, slots := ms, locals := 40 * d2 }) mc ms n := callB_of n hts (cy_goodIn mo1) rfl rfl rfl (hts _ mo2) (hts _ lk) mo3 ⟨by show d2 + 1 ≤ R.frames; omega, by have h4 : mL ≤ 21 := mo4; show 8 + (mL + 11) + 40 * d2 ≤ R.locals; omega⟩
  exact cy_run (va_runI (As := As) (rest := rest) ⟨hx, hb, hml, hown, hts⟩ kk ⟨hcb, mo6, hts _ mo5⟩ ⟨cy_blind, fun U hU hW => ⟨rfl, cy_K_call hK hS hU hW, by rw [hU]; exact hM⟩⟩ rfl hn hl.1 hst (lv_room hrest) hd ⟨Nat.le_trans hkc hrc, Nat.le_trans hks hrs⟩) hl hS
theorem wm_callIN (C : cy_C G F own cc nL d rc rs) {i : cy_I} {host : String} {n d2 mc ms idx b : Nat} (mo : cy_MoI i n) (hret : i.2.2.2 = none) (lk : Cond.methodLinkNest own idx i.1 host ∈ cy_NW) (As rest : List Value) (hst : st = As.reverse ++ .ref b :: rest) (hn : As.length = n) (hdd : d2 + 1 ≤ d) (hrest : (rest.map fun v => v.category).sum ≤ 8) (hkc : kc + mc ≤ rc) (hks : ks + ms ≤ rs) (hd : decode cc pc = .ok (.invokespecial idx, 3))
    (kk : cy_Ct G d2 i (.ref b :: As) M mc ms (fun r M' => WM G F nL (kc + mc) (ks + ms) (pc + 3) lv (r.toList ++ rest) M')) : WM G F nL kc ks pc lv st M := by
  obtain ⟨p, l, e, R, s, m, args, below, meth, c, Q⟩ := F
  obtain ⟨hl0, hx, hb, hml, hown, hts, hK, hlk, hfr, hlo, hrc, hrs⟩ := C
  obtain ⟨y, bs, mL, rt⟩ := i
  obtain ⟨⟨mo1, mo2, mo3, mo4⟩, mo5, mo6⟩ := mo
  subst hl0
  have hret : rt = none := hret
  subst hret
  intro H ls locs hl hM hS
  have hcb : va_CN R s args own idx y host bs mL none (cy_w (y, bs, mL, none)) ({ frames := d2, cells := mc, slots := ms, locals := 40 * d2 }) mc ms n := va_cnB n hts (cy_goodIn mo1) rfl rfl rfl (hK.2.1 _ lk) (hts _ mo2) mo3 ⟨by show d2 + 1 ≤ R.frames; omega, by have h4 : mL ≤ 21 := mo4; show 8 + (mL + 11) + 40 * d2 ≤ R.locals; omega⟩
  exact cy_run (va_runIN (As := As) (rest := rest) ⟨hx, hb, hml, hown, hts⟩ kk ⟨hcb, mo6, hts _ mo5⟩ ⟨cy_blind, fun U hU hW => ⟨rfl, cy_K_call hK hS hU hW, by rw [hU]; exact hM⟩⟩ rfl hn hl.1 hst (lv_room hrest) hd ⟨Nat.le_trans hkc hrc, Nat.le_trans hks hrs⟩) hl hS
end CYC
