/-! Sets of slots as numbers -/
section
def dif (a b : Nat) : Nat := a ^^^ (a &&& b)
theorem dif_bit (a b i : Nat) : (dif a b).testBit i = (a.testBit i && !b.testBit i) := by
  unfold dif
  rw [Nat.testBit_xor, Nat.testBit_and]
  cases a.testBit i <;> cases b.testBit i <;> rfl
theorem bt_nI (a : Nat) {i : Nat} (hi : i < 32) : bt (nI a) i = a.testBit i := by
  show (BitVec.ofNat 32 a).getLsbD i = _
  rw [BitVec.getLsbD_ofNat, decide_eq_true hi, Bool.true_and]
theorem i_dif (a b : Nat) : nI a &&& (nI b ^^^ (-1 : Int32)) = nI (dif a b) := by
  apply b_ext
  intro i hi
  rw [b_and, b_xor, b_m1 i hi, bt_nI _ hi, bt_nI _ hi, bt_nI _ hi, dif_bit]
  cases b.testBit i <;> simp
theorem i_and31 {k : Nat} (h : k < 32) : nI k &&& 31 = nI k := (by decide +kernel : ∀ k, k < 32 → nI k &&& 31 = nI k) k h
theorem i_one {k : Nat} (h : k < 32) : (1 : Int32) <<< (nI k &&& 31) = nI (2 ^ k) := (by decide +kernel : ∀ k, k < 32 → (1 : Int32) <<< (nI k &&& 31) = nI (2 ^ k)) k h
theorem i_all {c : Nat} (h : c ≤ 8) : ((1 : Int32) <<< (nI c &&& 31)) - (1 : Int32) = nI (2 ^ c - 1) := (by decide +kernel : ∀ c, c < 9 → ((1 : Int32) <<< (nI c &&& 31)) - (1 : Int32) = nI (2 ^ c - 1)) c (by omega)
theorem i_bit (a : Nat) {k : Nat} (hk : k < 31) : (nI a >>> (nI k &&& 31)) &&& (1 : Int32) = nI (a.testBit k).toNat := by
  apply b_ext
  intro i hi
  rw [b_and, b_sshr k (by omega) _ hi, show (1 : Int32) = nI 1 from rfl, bt_nI _ hi, bt_nI _ hi]
  by_cases h0 : i = 0
  · subst h0
    rw [if_pos (by omega), bt_nI _ (by omega)]
    cases a.testBit k <;> rfl
  · have h1 : Nat.testBit 1 i = false := by
      have h2 : (2 ^ 0).testBit i = decide (0 = i) := Nat.testBit_two_pow
      rw [show (1 : Nat) = 2 ^ 0 from rfl, h2, decide_eq_false (fun e => h0 e.symm)]
    rw [h1, Bool.and_false]
    cases a.testBit k
    · simp
    · exact h1.symm
theorem has5 (a : Nat) {k : Nat} (hk : k < 31) : f_X5_has (nI a) (nI k) = if a.testBit k then 1 else 0 := by
  unfold f_X5_has
  rw [i_bit a hk]
  cases a.testBit k <;> rfl
theorem has4 (a : Nat) {k : Nat} (hk : k < 31) : f_X4_has (nI a) (nI k) = if a.testBit k then 1 else 0 := by
  unfold f_X4_has
  rw [i_bit a hk]
  cases a.testBit k <;> rfl
def pcn (a : Nat) : Nat := (a.testBit 0).toNat + (a.testBit 1).toNat + (a.testBit 2).toNat + (a.testBit 3).toNat + (a.testBit 4).toNat + (a.testBit 5).toNat + (a.testBit 6).toNat + (a.testBit 7).toNat
theorem bc_pcn {a : Nat} (h : a < 256) : f_J6_bitCount_0f7a4 (nI a) = nI (pcn a) := (by decide +kernel : ∀ a, a < 256 → f_J6_bitCount_0f7a4 (nI a) = nI (pcn a)) a h
theorem many_pcn {a : Nat} (h : a < 256) : f_X5_many (nI a) = some (nI (pcn a)) := (by decide +kernel : ∀ a, a < 256 → f_X5_many (nI a) = some (nI (pcn a))) a h
theorem pcn_le (a : Nat) : pcn a ≤ 8 := by
  unfold pcn
  have h : ∀ b : Bool, b.toNat ≤ 1 := fun b => by cases b <;> decide
  have h0 := h (a.testBit 0); have h1 := h (a.testBit 1); have h2 := h (a.testBit 2); have h3 := h (a.testBit 3); have h4 := h (a.testBit 4); have h5 := h (a.testBit 5); have h6 := h (a.testBit 6); have h7 := h (a.testBit 7)
  omega
theorem dif_lt {a b n : Nat} (h : a < 2 ^ n) : dif a b < 2 ^ n := Nat.xor_lt_two_pow h (Nat.lt_of_le_of_lt Nat.and_le_left h)
theorem or_lt {a b n : Nat} (ha : a < 2 ^ n) (hb : b < 2 ^ n) : a ||| b < 2 ^ n := Nat.or_lt_two_pow ha hb
theorem bit_lt {a n k : Nat} (h : a < 2 ^ n) (hk : n ≤ k) : a.testBit k = false := Nat.testBit_lt_two_pow (Nat.lt_of_lt_of_le h (Nat.pow_le_pow_right (by decide) hk))
theorem two_bit (k i : Nat) : (2 ^ k).testBit i = decide (k = i) := Nat.testBit_two_pow
theorem all_bit (c i : Nat) : (2 ^ c - 1).testBit i = decide (i < c) := Nat.testBit_two_pow_sub_one c i
theorem nI_zero {a : Nat} (h : a < 2 ^ 31) : nI a = 0 ↔ a = 0 := by
  rw [← nI_0, nI_eq h (by decide)]
/-- the slots of which all before them are in a set -/
def rdy (bf : Nat → Nat) (sg : Nat) : Nat → Nat
  | 0 => 0
  | c + 1 => if dif (bf c) sg = 0 then rdy bf sg c ||| 2 ^ c else rdy bf sg c
theorem rdy_bit (bf : Nat → Nat) (sg : Nat) : ∀ c i, (rdy bf sg c).testBit i = (decide (i < c) && decide (dif (bf i) sg = 0))
  | 0, i => by simp [rdy]
  | c + 1, i => by
    have ih := rdy_bit bf sg c i
    rw [rdy]
    by_cases h : dif (bf c) sg = 0
    · rw [if_pos h, Nat.testBit_or, ih, two_bit]
      by_cases hi : c = i
      · subst hi; simp [h]
      · by_cases h2 : i < c
        · simp [hi, h2, show i < c + 1 by omega]
        · simp [hi, h2, show ¬ i < c + 1 by omega]
    · rw [if_neg h, ih]
      by_cases hi : c = i
      · subst hi; simp [h]
      · by_cases h2 : i < c
        · simp [h2, show i < c + 1 by omega]
        · simp [h2, show ¬ i < c + 1 by omega]
theorem rdy_lt (bf : Nat → Nat) (sg : Nat) : ∀ c, rdy bf sg c < 2 ^ c
  | 0 => by simp [rdy]
  | c + 1 => by
    have ih := rdy_lt bf sg c
    have h2 : 2 ^ c < 2 ^ (c + 1) := Nat.pow_lt_pow_right (by decide) (by omega)
    rw [rdy]
    split
    · exact or_lt (Nat.lt_trans ih h2) h2
    · exact Nat.lt_trans ih h2
theorem nat_ext {a b : Nat} (h : ∀ i, a.testBit i = b.testBit i) : a = b := Nat.eq_of_testBit_eq h
end
