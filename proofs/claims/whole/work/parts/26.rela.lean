theorem rl_us {α : Type} {f : Nat → α} {k : Nat} {v : α} : cy_up f k v k = v := if_pos rfl
theorem rl_un {α : Type} {f : Nat → α} {k j : Nat} {v : α} (h : j ≠ k) : cy_up f k v j = f j := if_neg h
theorem rl_uu {α : Type} (f : Nat → α) (k : Nat) (v w : α) : cy_up (cy_up f k v) k w = cy_up f k w := by
  funext j; unfold cy_up; by_cases h : j = k
  · rw [if_pos h, if_pos h]
  · rw [if_neg h, if_neg h, if_neg h]
theorem rl_and (x : Int32) : x &&& 255 = nI (x.toInt % 256).toNat := by
  rw [pk_and x 8 (by decide)]
  congr 1
  have h : x.toInt = x.toBitVec.toInt := rfl
  rw [h, BitVec.toInt_eq_toNat_cond]
  have := x.toBitVec.isLt
  split <;> omega
theorem rl_b8 (x : Int32) : x.toInt8.toInt32.toInt = x.toInt.bmod 256 := by
  rw [Int8.toInt_toInt32, Int32.toInt_toInt8]
theorem rl_and8 (x : Int32) : x.toInt8.toInt32 &&& 255 = x &&& 255 := by
  rw [rl_and, rl_and, rl_b8, show x.toInt.bmod 256 % 256 = x.toInt % 256 from Int.bmod_emod (x := x.toInt) (m := 256)]
theorem rl_88 (x : Int32) : x.toInt8.toInt32.toInt8.toInt32 = x.toInt8.toInt32 := by
  apply Int32.toInt_inj.mp
  rw [rl_b8, rl_b8, Int.bmod_bmod]
theorem rl_8and (x : Int32) : (x &&& 255).toInt8.toInt32 = x.toInt8.toInt32 := by
  apply Int32.toInt_inj.mp
  rw [rl_b8, rl_b8, rl_and, nI_toInt (by omega)]
  rw [Int.toNat_of_nonneg (by omega)]; exact Int.emod_bmod (x := x.toInt) (n := 256)
theorem rl_8s {b : Nat} (h : b < 128) : (nI b).toInt8.toInt32 = nI b := by
  apply Int32.toInt_inj.mp
  rw [rl_b8, nI_toInt (by omega)]
  rw [Int.bmod_def]
  split <;> omega
theorem rl_255 {b : Nat} (h : b < 256) : nI b &&& 255 = nI b := by
  rw [rl_and, nI_toInt (by omega)]; congr 1; omega
theorem rl_andE (x : Int32) : ∃ b : Nat, b < 256 ∧ x &&& 255 = nI b := ⟨_, by omega, rl_and x⟩
theorem rl_aa (x : Int32) : x &&& 255 &&& 255 = x &&& 255 := by
  obtain ⟨b, hb, e⟩ := rl_andE x
  rw [e, rl_255 hb]
theorem rl_sh (v s t : Int32) (k : Nat) (hk : k ≤ 24) (h1 : ((t.toUInt32 &&& Int32.toUInt32 31).toBitVec % 32).toNat = k) (h2 : (s.toBitVec.smod 32).toNat = k) : (v.toUInt32 >>> (t.toUInt32 &&& Int32.toUInt32 31)).toInt32 &&& 255 = (v >>> s).toInt8.toInt32.toInt8.toInt32 &&& 255 := by
  rw [rl_88, rl_and8, pk_and _ 8 (by decide), rl_and, pk_ushr v t k h1, pk_shr v s k h2, Int.shiftRight_eq_div_pow]
  congr 1
  have h : v.toInt = v.toBitVec.toInt := rfl
  rw [h, BitVec.toInt_eq_toNat_cond]
  have := v.toBitVec.isLt
  have hp : (2 : Int) ^ 32 = 2 ^ k * (256 * 2 ^ (24 - k)) := by
    rw [show (256 : Int) = 2 ^ 8 from rfl, ← Int.pow_add, ← Int.pow_add]; congr 1; omega
  split
  · have : ((v.toBitVec.toNat : Int) / ((2 ^ k : Nat) : Int)) = ((v.toBitVec.toNat / 2 ^ k : Nat) : Int) := by simp
    rw [this]; omega
  · have h0 : (2 : Int) ^ k ≠ 0 := by
      have := Int.pow_pos (n := 2) (m := k) (by decide); omega
    have : ((v.toBitVec.toNat : Int) - ((2 ^ 32 : Nat) : Int)) / ((2 ^ k : Nat) : Int) = ((v.toBitVec.toNat / 2 ^ k : Nat) : Int) - 256 * 2 ^ (24 - k) := by
      simp only [Int.natCast_pow, Int.natCast_ediv]
      have e : ((v.toBitVec.toNat : Int) - ((2 : Nat) : Int) ^ 32) = (v.toBitVec.toNat : Int) + (2 ^ k) * (-(256 * 2 ^ (24 - k))) := by
        rw [Int.mul_neg, ← hp]; rfl
      rw [e]
      have := Int.add_mul_ediv_left (v.toBitVec.toNat : Int) (-(256 * 2 ^ (24 - k))) h0
      show ((v.toBitVec.toNat : Int) + (2 ^ k) * (-(256 * 2 ^ (24 - k)))) / (2 : Int) ^ k = _
      rw [this]; rfl
    rw [this]
    generalize (2 : Int) ^ (24 - k) = z
    omega
theorem rl_leI {x y : Int32} {a b : Nat} (hx : x = nI a) (hy : y = nI b) (ha : a < 2 ^ 31) (hb : b < 2 ^ 31) : x ≤ y ↔ a ≤ b := by rw [hx, hy]; exact nI_leI ha hb
theorem rl_ltI {x y : Int32} {a b : Nat} (hx : x = nI a) (hy : y = nI b) (ha : a < 2 ^ 31) (hb : b < 2 ^ 31) : x < y ↔ a < b := by rw [hx, hy]; exact nI_ltI ha hb
theorem rl_eqI {x y : Int32} {a b : Nat} (hx : x = nI a) (hy : y = nI b) (ha : a < 2 ^ 31) (hb : b < 2 ^ 31) : x = y ↔ a = b := by rw [hx, hy]; exact nI_eq ha hb
def rl_T (xs : List Int32) (f : Nat → Int32) (n : Int32) (cap : Nat) : Prop := n = nI xs.length ∧ xs.length ≤ cap ∧ ∀ j, j < xs.length → xs.getD j 0 = f j &&& 255
def rl_D (s : cy_S) (r : md_S) (k : Nat) : Prop := (s.1 (6 + 4 * k)).length ≤ 256 ∧ (s.1 (7 + 4 * k)).length = (s.1 (6 + 4 * k)).length ∧ r.1 2 k = nI (s.1 (6 + 4 * k)).length ∧ ∀ p, p < (s.1 (6 + 4 * k)).length → r.1 1 (256 * k + p) = ((s.1 (6 + 4 * k)).getD p 0).toInt8.toInt32 ∧ r.1 1 (256 * k + p) &&& 255 = (s.1 (6 + 4 * k)).getD p 0 ∧ r.1 3 (256 * k + p) = (s.1 (7 + 4 * k)).getD p 0
def rl_K (s : cy_S) (o : Nat) (g : Nat → Int32) : Prop := ∀ k, k < 8 → 0 < (s.1 (6 + 4 * k)).length → (s.1 (o + 4 * k)).length = 16 ∧ ∀ i, i < 16 → (s.1 (o + 4 * k)).getD i 0 = g (16 * k + i)
def rl_N (s : cy_S) (r : md_S) : Prop := r.2 4 = s.2.2.1.2.1 ∧ r.2 7 = s.2.2.1.2.2.2.1 ∧ r.2 8 = s.2.2.1.2.2.2.2.1 ∧ ∃ d : Nat, d ≤ 2000 ∧ r.2 9 = nI d ∧ s.2.2.1.2.2.2.2.2 = nI d
def rl_B (s : cy_S) (r : md_S) : Prop := rl_T (s.1 0) (r.1 0) (r.2 0) 300 ∧ (∀ k, k < 8 → rl_D s r k) ∧ rl_T (s.1 4) (r.1 14) (r.2 11) 300 ∧ rl_T (s.1 5) (r.1 15) (r.2 12) 64 ∧ rl_N s r
def rl_F (s : cy_S) (r : md_S) (j : Nat) : Prop := (s.2.1 j).1 < 8 ∧ r.1 9 j = nI (s.2.1 j).1 ∧ r.1 10 j = (s.2.1 j).2 ∧ r.1 11 j = nI (s.1 (42 + 2 * j)).length ∧ (s.1 (42 + 2 * j)).length ≤ 8 ∧ (∀ i, i < (s.1 (42 + 2 * j)).length → (s.1 (42 + 2 * j)).getD i 0 = r.1 12 (8 * j + i)) ∧ (s.1 (43 + 2 * j)).length = 8 ∧ ∀ i, i < 8 → (s.1 (43 + 2 * j)).getD i 0 = r.1 13 (8 * j + i)
def rl_M (s : cy_S) (r : md_S) : Prop := rl_B s r ∧ rl_K s 8 (r.1 4) ∧ rl_K s 9 (r.1 5) ∧ s.2.2.1.2.1 = 1 ∧ s.2.2.1.2.2.1 = 1 ∧ r.2 5 = 1 ∧ r.2 6 = 0 ∧ s.2.2.1.1 < 8 ∧ r.2 10 = nI (s.2.2.1.1 + 1) ∧ ∀ j, j ≤ s.2.2.1.1 → rl_F s r j
def rl_E (s : cy_S) (r : md_S) : Prop := rl_B s r ∧ rl_K s 8 (r.1 4) ∧ r.2 5 = 0 ∧ (s.2.2.1.2.1 = 0 ∨ (s.2.2.1.2.2.1 = 0 ∧ r.2 6 = 0) ∨ (s.2.2.1.2.2.1 = 2 ∧ r.2 6 = 1))
def rl_at (xs : List Int32) (p : Nat) : Int32 := xs.getD p 0
def rl_len (o : Int32) : Nat := if cy_Yard_hasOperand o = 0 then 1 else 2
def rl_cl (B H : List Int32) (p h : Nat) : Prop := ∃ o t g : Nat, B.getD p 0 = nI o ∧ o < 28 ∧ cy_Yard_takes (nI o) = nI t ∧ cy_Yard_gives (nI o) = nI g ∧ t ≤ 2 ∧ g ≤ 2 ∧ t ≤ h ∧ h - t + g ≤ 8 ∧
  (cy_Yard_hasOperand (nI o) = 1 → p + 1 < B.length ∧ ∃ v : Nat, B.getD (p + 1) 0 = nI v ∧ v < 256 ∧ nI v ≤ cy_Yard_operandMost (nI o) ∧ (cy_Yard_isJump (nI o) = 1 → v < B.length ∧ H.getD v 0 = nI (h - t + g))) ∧
  (cy_Yard_isEnding (nI o) = 0 → o ≠ 16 → p + rl_len (nI o) < B.length ∧ H.getD (p + rl_len (nI o)) 0 = nI (h - t + g))
def rl_snd (B H : List Int32) : Prop := 3 < B.length ∧ (∀ b, b < 3 → ∃ p : Nat, p < B.length ∧ B.getD b 0 = nI p ∧ H.getD p 0 = nI 0) ∧ ∀ p, p < B.length → H.getD p 0 = -1 ∨ ∃ h : Nat, h ≤ 8 ∧ H.getD p 0 = nI h ∧ rl_cl B H p h
def rl_I (s : cy_S) : Prop := ∀ k, k < 8 → 0 < (s.1 (6 + 4 * k)).length → rl_snd (s.1 (6 + 4 * k)) (s.1 (7 + 4 * k))
def rl_J (s : cy_S) : Prop := ∀ j, j ≤ s.2.2.1.1 → 0 < (s.1 (6 + 4 * (s.2.1 j).1)).length ∧ ∃ p : Nat, p < (s.1 (6 + 4 * (s.2.1 j).1)).length ∧ (s.2.1 j).2 = nI p ∧ (s.1 (7 + 4 * (s.2.1 j).1)).getD p 0 = nI ((s.1 (42 + 2 * j)).length + if j = s.2.2.1.1 then 0 else 1)
def rl_Rel (s : cy_S) (r : md_S) : Prop := rl_I s ∧ (rl_E s r ∨ (rl_M s r ∧ rl_J s))
theorem rl_start : rl_Rel cy_s0 md_s0 := by
  refine ⟨fun k _ h => absurd h (by simp [cy_s0]), Or.inl ⟨⟨⟨rfl, by decide, fun j h => absurd h (by simp [cy_s0])⟩, fun k hk => ⟨by simp [cy_s0], rfl, rfl, fun p hp => absurd hp (by simp [cy_s0])⟩, ⟨rfl, by decide, fun j h => absurd h (by simp [cy_s0])⟩, ⟨rfl, by decide, fun j h => absurd h (by simp [cy_s0])⟩, rfl, rfl, rfl, 0, by decide, rfl, rfl⟩, fun k hk h => absurd h (by simp [cy_s0]), rfl, Or.inl rfl⟩⟩
