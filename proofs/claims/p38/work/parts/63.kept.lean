-- 59.nums.lean.txt
theorem fa_lt (a b : Int32) : a < b ↔ a.toInt < b.toInt := Int32.lt_iff_toInt_lt
theorem fa_le (a b : Int32) : a ≤ b ↔ a.toInt ≤ b.toInt := Int32.le_iff_toInt_le
theorem fa_eq (a b : Int32) : a = b ↔ a.toInt = b.toInt := Int32.toInt_inj.symm
theorem fa_lt64 (a b : Int64) : a < b ↔ a.toInt < b.toInt := Int64.lt_iff_toInt_lt
theorem fa_le64 (a b : Int64) : a ≤ b ↔ a.toInt ≤ b.toInt := Int64.le_iff_toInt_le
theorem fa_eq64 (a b : Int64) : a = b ↔ a.toInt = b.toInt := Int64.toInt_inj.symm
/-- a comparison of two ints taken as longs -/
theorem fa_wide_lt (a b : Int32) : a.toInt64 < b.toInt64 ↔ a < b := by rw [fa_lt64, fa_lt, Int32.toInt_toInt64, Int32.toInt_toInt64]
theorem fa_wide_le (a b : Int32) : a.toInt64 ≤ b.toInt64 ↔ a ≤ b := by rw [fa_le64, fa_le, Int32.toInt_toInt64, Int32.toInt_toInt64]
theorem fa_wide_eq (a b : Int32) : a.toInt64 = b.toInt64 ↔ a = b := by rw [fa_eq64, fa_eq, Int32.toInt_toInt64, Int32.toInt_toInt64]
/-- one strict comparison gives all the others -/
theorem fa_of_lt {a b : Int32} (h : a < b) : a ≤ b ∧ ¬ b ≤ a ∧ ¬ b < a ∧ a ≠ b ∧ b ≠ a := by
  rw [fa_lt] at h
  refine ⟨?_, ?_, ?_, ?_, ?_⟩
  · rw [fa_le]; omega
  · rw [fa_le]; omega
  · rw [fa_lt]; omega
  · intro e; rw [fa_eq] at e; omega
  · intro e; rw [fa_eq] at e; omega
theorem fa_of_nlt {a b : Int32} (h : ¬ a < b) : b ≤ a := by
  rw [fa_lt] at h
  rw [fa_le]
  omega
theorem fa_of_nle {a b : Int32} (h : ¬ a ≤ b) : b < a := by
  rw [fa_le] at h
  rw [fa_lt]
  omega
theorem fa_le_ne {a b : Int32} (h : a ≤ b) (h2 : a ≠ b) : a < b := by
  rw [fa_le] at h
  rw [fa_lt]
  have h3 : a.toInt ≠ b.toInt := fun e => h2 ((fa_eq a b).mpr e)
  omega
theorem fa_three (a b : Int32) : a < b ∨ a = b ∨ b < a := by
  rw [fa_lt, fa_lt, fa_eq]
  omega
theorem fa_trans {a b c : Int32} (h : a < b) (h2 : b ≤ c) : a < c := by
  rw [fa_lt] at *
  rw [fa_le] at h2
  omega
theorem fa_lit (n : Nat) : (OfNat.ofNat n : Int32) = nI n := rfl
theorem fa_litL (n : Nat) : (OfNat.ofNat n : Int64) = lN n := rfl
theorem fa_and (a b : Nat) : nI a &&& nI b = nI (a &&& b) := by
  apply Int32.toBitVec_inj.1
  show BitVec.ofNat 32 a &&& BitVec.ofNat 32 b = BitVec.ofNat 32 (a &&& b)
  apply BitVec.eq_of_getLsbD_eq
  intro i hi
  simp [hi]
theorem fa_or (a b : Nat) : nI a ||| nI b = nI (a ||| b) := by
  apply Int32.toBitVec_inj.1
  show BitVec.ofNat 32 a ||| BitVec.ofNat 32 b = BitVec.ofNat 32 (a ||| b)
  apply BitVec.eq_of_getLsbD_eq
  intro i hi
  simp [hi]
/-- a remainder by a power of two, as a mask -/
theorem fa_mask (n k : Nat) : nI n &&& nI (2 ^ k - 1) = nI (n % 2 ^ k) := by rw [fa_and, Nat.and_two_pow_sub_one_eq_mod]
/-- 'or' of a high part and a low one that don't meet is their sum -/
theorem fa_or_sum {a k : Nat} (b : Nat) (h : a < 2 ^ k) : nI (2 ^ k * b) ||| nI a = nI (2 ^ k * b + a) := by rw [fa_or, Nat.two_pow_add_eq_or_of_lt h]
/-- one bit, by 'and' with a power of two -/
theorem fa_bit {n j : Nat} (hj : j < 31) : nI n &&& nI (2 ^ j) = 0 ↔ n.testBit j = false := by
  have h2 : (2 : Nat) ^ j < 2 ^ 31 := Nat.pow_lt_pow_right (by decide) hj
  have hle : n &&& 2 ^ j ≤ 2 ^ j := Nat.and_le_right
  have e : n &&& 2 ^ j = 0 ↔ n.testBit j = false := by
    constructor
    · intro h
      have h1 : (n &&& 2 ^ j).testBit j = false := by rw [h]; simp
      rw [Nat.testBit_and] at h1
      first | simpa using h1 | simpa [Nat.testBit_two_pow_self] using h1 | simpa [Nat.testBit_two_pow] using h1
    · intro h
      apply Nat.eq_of_testBit_eq
      intro i
      rw [Nat.testBit_and]
      by_cases hi : j = i
      · subst hi; simp [h]
      · first | (simp [Nat.testBit_two_pow, hi]; done) | (simp [Nat.testBit_two_pow_of_ne hi]; done)
  rw [fa_and]
  constructor
  · intro h
    apply e.mp
    rcases Nat.eq_zero_or_pos (n &&& 2 ^ j) with z | z
    · exact z
    · exact absurd h (nI_ne0 z (Nat.lt_of_le_of_lt hle h2))
  · intro h
    rw [e.mpr h]; exact nI_0
/-- a remainder by a power of two of a number that isn't negative, as Java divides -/
theorem fa_rem {a k : Nat} (ha : a < 2 ^ 31) (hk : k < 31) : nI a - nI a / nI (2 ^ k) * nI (2 ^ k) = nI (a % 2 ^ k) := pk_rem ha (Nat.two_pow_pos k) (Nat.pow_lt_pow_right (by decide) hk)
theorem fa_byte_xor (x y : Int32) : (x ^^^ y).toInt8 = x.toInt8 ^^^ y.toInt8 := by
  apply Int8.toBitVec_inj.1
  apply BitVec.eq_of_getLsbD_eq
  intro i hi
  first | (simp [hi]; done) | (simp [hi, BitVec.getLsbD_setWidth, BitVec.getLsbD_signExtend]; done)
theorem fa_short_xor (x y : Int32) : (x ^^^ y).toInt16 = x.toInt16 ^^^ y.toInt16 := by
  apply Int16.toBitVec_inj.1
  apply BitVec.eq_of_getLsbD_eq
  intro i hi
  first | (simp [hi]; done) | (simp [hi, BitVec.getLsbD_setWidth, BitVec.getLsbD_signExtend]; done)
/-- the cut to a byte sees the low byte alone -/
theorem fa_byte_low (x : Int32) : (x &&& 255).toInt8 = x.toInt8 := by
  apply Int8.toBitVec_inj.1
  apply BitVec.eq_of_getLsbD_eq
  intro i hi
  have h2 : (255 : Int32).toBitVec.getLsbD i = true := by
    have : ∀ j : Fin 8, (255 : Int32).toBitVec.getLsbD j.val = true := by decide +kernel
    exact this ⟨i, hi⟩
  have h4 : (x &&& 255).toBitVec.getLsbD i = x.toBitVec.getLsbD i := by
    show (x.toBitVec &&& (255 : Int32).toBitVec).getLsbD i = _
    rw [BitVec.getLsbD_and, h2, Bool.and_true]
  have h3 : i < 32 := by omega
  first
    | (show (((x &&& 255).toBitVec).signExtend 8).getLsbD i = (x.toBitVec.signExtend 8).getLsbD i; rw [BitVec.getLsbD_signExtend, BitVec.getLsbD_signExtend, if_pos h3, if_pos h3, h4])
    | (show (((x &&& 255).toBitVec).setWidth 8).getLsbD i = (x.toBitVec.setWidth 8).getLsbD i; rw [BitVec.getLsbD_setWidth, BitVec.getLsbD_setWidth, h4])
    | (simp [hi, h3, h4]; done)
theorem fa_short_low (x : Int32) : (x &&& 65535).toInt16 = x.toInt16 := by
  apply Int16.toBitVec_inj.1
  apply BitVec.eq_of_getLsbD_eq
  intro i hi
  have h2 : (65535 : Int32).toBitVec.getLsbD i = true := by
    have : ∀ j : Fin 16, (65535 : Int32).toBitVec.getLsbD j.val = true := by decide +kernel
    exact this ⟨i, hi⟩
  have h4 : (x &&& 65535).toBitVec.getLsbD i = x.toBitVec.getLsbD i := by
    show (x.toBitVec &&& (65535 : Int32).toBitVec).getLsbD i = _
    rw [BitVec.getLsbD_and, h2, Bool.and_true]
  have h3 : i < 32 := by omega
  first
    | (show (((x &&& 65535).toBitVec).signExtend 16).getLsbD i = (x.toBitVec.signExtend 16).getLsbD i; rw [BitVec.getLsbD_signExtend, BitVec.getLsbD_signExtend, if_pos h3, if_pos h3, h4])
    | (show (((x &&& 65535).toBitVec).setWidth 16).getLsbD i = (x.toBitVec.setWidth 16).getLsbD i; rw [BitVec.getLsbD_setWidth, BitVec.getLsbD_setWidth, h4])
    | (simp [hi, h3, h4]; done)
/-- a small number is its own byte, its own short -/
theorem fa_byte_small {n : Nat} (h : n < 128) : (nI n).toInt8.toInt32 = nI n := by
  have : ∀ j : Fin 128, (nI j.val).toInt8.toInt32 = nI j.val := by decide +kernel
  exact this ⟨n, h⟩
theorem fa_absdiff {a b : Nat} (ha : a < 2 ^ 31) (hb : b < 2 ^ 31) : (if nI a < nI b then nI b - nI a else nI a - nI b) = nI (if a < b then b - a else a - b) := by
  by_cases h : a < b
  · rw [if_pos (nI_lt h hb), if_pos h]
    exact pk_sub (Nat.le_of_lt h)
  · rw [if_neg (nI_nlt (Nat.le_of_not_lt h) ha), if_neg h]
    exact pk_sub (Nat.le_of_not_lt h)
/-- f where k < i, what stood there else -/
def fa_fill {α : Type} (f g : Nat → α) (i : Nat) : Nat → α := fun k => if k < i then f k else g k
theorem fa_fill_0 {α : Type} (f g : Nat → α) : fa_fill f g 0 = g := funext fun k => if_neg (Nat.not_lt_zero k)
theorem fa_fill_in {α : Type} {f g : Nat → α} {i k : Nat} (h : k < i) : fa_fill f g i k = f k := if_pos h
theorem fa_fill_out {α : Type} {f g : Nat → α} {i k : Nat} (h : i ≤ k) : fa_fill f g i k = g k := if_neg (Nat.not_lt.mpr h)
theorem fa_fill_succ (f g : Nat → Int32) (i : Nat) : upd (fa_fill f g i) i (f i) = fa_fill f g (i + 1) := by
  funext k
  by_cases e : k = i
  · subst e
    rw [pk_us]
    exact (if_pos (Nat.lt_succ_self k)).symm
  · rw [pk_un e]
    by_cases h : k < i
    · rw [fa_fill_in h, fa_fill_in (Nat.lt_succ_of_lt h)]
    · rw [fa_fill_out (Nat.le_of_not_lt h), fa_fill_out (by omega)]
/-- a store that changes nothing -/
theorem fa_upd_same {f : Nat → Int32} {i : Nat} {x : Int32} (h : f i = x) : upd f i x = f := by
  funext k
  by_cases e : k = i
  · subst e
    rw [pk_us, h]
  · rw [pk_un e]
/-- a store under a condition, told as one -/
theorem fa_upd_if (c : Prop) [Decidable c] (f : Nat → Int32) (i : Nat) (x : Int32) : (if c then upd f i x else f) = upd f i (if c then x else f i) := by
  by_cases h : c
  · rw [if_pos h, if_pos h]
  · rw [if_neg h, if_neg h, fa_upd_same rfl]
/-- two stores at one place, at two -/
theorem fa_upd_twice (f : Nat → Int32) (i : Nat) (x y : Int32) : upd (upd f i x) i y = upd f i y := by
  funext k
  by_cases e : k = i
  · subst e
    rw [pk_us, pk_us]
  · rw [pk_un e, pk_un e, pk_un e]
theorem fa_upd_swap (f : Nat → Int32) {i j : Nat} (h : i ≠ j) (x y : Int32) : upd (upd f i x) j y = upd (upd f j y) i x := by
  funext k
  by_cases e : k = i
  · subst e
    rw [pk_un h, pk_us, pk_us]
  · by_cases e2 : k = j
    · subst e2
      rw [pk_us, pk_un e, pk_us]
    · rw [pk_un e2, pk_un e, pk_un e, pk_un e2]
/-- the first k < n with p k, n if there is none -/
def fa_first (p : Nat → Bool) : Nat → Nat
  | 0 => 0
  | n + 1 => if fa_first p n < n then fa_first p n else if p n then n else n + 1
theorem fa_first_le (p : Nat → Bool) : ∀ n, fa_first p n ≤ n
  | 0 => Nat.le_refl 0
  | n + 1 => by
    have ih := fa_first_le p n
    unfold fa_first
    split
    · omega
    · split
      · omega
      · omega
theorem fa_first_no (p : Nat → Bool) : ∀ n k, k < fa_first p n → p k = false
  | 0, k, h => absurd h (Nat.not_lt_zero k)
  | n + 1, k, h => by
    have ih := fa_first_no p n
    have hl := fa_first_le p n
    unfold fa_first at h
    split at h
    · exact ih k h
    · rename_i h1
      split at h
      · exact ih k (by omega)
      · rename_i h2
        by_cases e : k = n
        · subst e
          exact Bool.eq_false_iff.mpr h2
        · exact ih k (by omega)
theorem fa_first_yes (p : Nat → Bool) : ∀ n, fa_first p n < n → p (fa_first p n) = true
  | 0, h => absurd h (Nat.not_lt_zero _)
  | n + 1, h => by
    have ih := fa_first_yes p n
    have hl := fa_first_le p n
    unfold fa_first at h ⊢
    split at h
    · rename_i h1
      rw [if_pos h1]
      exact ih h1
    · rename_i h1
      rw [if_neg h1]
      split at h
      · rename_i h2
        rw [if_pos h2]
        exact h2
      · omega
/-- how many k < n have p k -/
def fa_cnt (p : Nat → Bool) : Nat → Nat
  | 0 => 0
  | n + 1 => fa_cnt p n + if p n then 1 else 0
theorem fa_cnt_le (p : Nat → Bool) : ∀ n, fa_cnt p n ≤ n
  | 0 => Nat.le_refl 0
  | n + 1 => by
    have ih := fa_cnt_le p n
    unfold fa_cnt
    split
    · omega
    · omega
theorem fa_cnt_yes {p : Nat → Bool} {n : Nat} (h : p n = true) : fa_cnt p (n + 1) = fa_cnt p n + 1 := by rw [fa_cnt, if_pos h]
theorem fa_cnt_no {p : Nat → Bool} {n : Nat} (h : p n = false) : fa_cnt p (n + 1) = fa_cnt p n := by rw [fa_cnt, if_neg (by rw [h]; decide)]; rfl
theorem fa_cnt_cong {p q : Nat → Bool} : ∀ {n : Nat}, (∀ k, k < n → p k = q k) → fa_cnt p n = fa_cnt q n
  | 0, _ => rfl
  | n + 1, h => by rw [fa_cnt, fa_cnt, fa_cnt_cong (fun k hk => h k (Nat.lt_succ_of_lt hk)), h n (Nat.lt_succ_self n)]
theorem fa_post {α : Type} {P : α → Prop} {x y : α} (h : x = y) (hp : P y) : P x := h ▸ hp
theorem fa_post2 {α β : Type} {P : α → β → Prop} {x y : α} {u v : β} (h : x = y) (h2 : u = v) (hp : P y v) : P x u := h ▸ h2 ▸ hp
theorem fa_bool {r : Int32} {b : Bool} (h : r = if b then 1 else 0) : (r = 0 ↔ b = false) ∧ (¬ r = 0 ↔ b = true) := by
  subst h
  cases b
  · exact ⟨⟨fun _ => rfl, fun _ => rfl⟩, ⟨fun h => absurd rfl h, fun h => absurd h (by decide)⟩⟩
  · exact ⟨⟨fun h => absurd h (by decide), fun h => absurd h (by decide)⟩, ⟨fun _ => rfl, fun _ => by decide⟩⟩
/-- a boolean's narrowing changes nothing -/
theorem fa_bool_and {r : Int32} (h : r = 0 ∨ r = 1) : r &&& 1 = r := by
  rcases h with rfl | rfl
  · decide
  · decide
theorem fa_bool_prop {c : Prop} [Decidable c] {r : Int32} (h : r = if c then 1 else 0) : (r = 0 ↔ ¬ c) ∧ (¬ r = 0 ↔ c) := by
  subst h
  by_cases hc : c
  · rw [if_pos hc]
    exact ⟨⟨fun h => absurd h (by decide), fun h => absurd hc h⟩, ⟨fun _ => hc, fun _ => by decide⟩⟩
  · rw [if_neg hc]
    exact ⟨⟨fun _ => hc, fun _ => rfl⟩, ⟨fun h => absurd rfl h, fun h => absurd h hc⟩⟩
def bt (x : Int32) (i : Nat) : Bool := x.toBitVec.getLsbD i
theorem b_ext {x y : Int32} (h : ∀ i, i < 32 → bt x i = bt y i) : x = y := Int32.toBitVec_inj.mp (BitVec.eq_of_getLsbD_eq (fun i hi => h i hi))
theorem b_or (x y : Int32) (i : Nat) : bt (x ||| y) i = (bt x i || bt y i) := by unfold bt; rw [Int32.toBitVec_or, BitVec.getLsbD_or]
theorem b_and (x y : Int32) (i : Nat) : bt (x &&& y) i = (bt x i && bt y i) := by unfold bt; rw [Int32.toBitVec_and, BitVec.getLsbD_and]
theorem b_xor (x y : Int32) (i : Nat) : bt (x ^^^ y) i = (bt x i ^^ bt y i) := by unfold bt; rw [Int32.toBitVec_xor, BitVec.getLsbD_xor]
theorem b_big {x : Int32} {i : Nat} (h : 32 ≤ i) : bt x i = false := BitVec.getLsbD_of_ge _ _ h
theorem b_255 (i : Nat) : bt 255 i = decide (i < 8) := by
  rcases Nat.lt_or_ge i 32 with h | h
  · exact (by decide +kernel : ∀ i, i < 32 → bt 255 i = decide (i < 8)) i h
  · rw [b_big h, decide_eq_false (by omega)]
theorem b_65535 (i : Nat) : bt 65535 i = decide (i < 16) := by
  rcases Nat.lt_or_ge i 32 with h | h
  · exact (by decide +kernel : ∀ i, i < 32 → bt 65535 i = decide (i < 16)) i h
  · rw [b_big h, decide_eq_false (by omega)]
theorem b_m1 : ∀ i, i < 32 → bt (-1) i = true := by decide +kernel
theorem b_0 (i : Nat) : bt 0 i = false := BitVec.getLsbD_zero
theorem s_l : ∀ n, n < 32 → ((nI n &&& 31).toBitVec.smod 32).toNat = n := by decide +kernel
theorem s_u : ∀ n, n < 32 → (((nI n).toUInt32 &&& Int32.toUInt32 31).toBitVec % 32).toNat = n := by decide +kernel
theorem b_shl (n : Nat) (hn : n < 32) (x : Int32) {i : Nat} (hi : i < 32) : bt (x <<< (nI n &&& 31)) i = (decide (n ≤ i) && bt x (i - n)) := by
  unfold bt
  rw [Int32.toBitVec_shiftLeft]
  show (x.toBitVec <<< ((nI n &&& 31).toBitVec.smod 32).toNat).getLsbD i = _
  rw [s_l n hn, BitVec.getLsbD_shiftLeft]
  rcases Nat.lt_or_ge i n with h | h
  · simp [h, Nat.not_le.mpr h]
  · simp [hi, h, Nat.not_lt.mpr h]
theorem b_ushr (n : Nat) (hn : n < 32) (x : Int32) (i : Nat) : bt ((x.toUInt32 >>> ((nI n).toUInt32 &&& Int32.toUInt32 31)).toInt32) i = bt x (n + i) := by
  show (x.toUInt32 >>> ((nI n).toUInt32 &&& Int32.toUInt32 31)).toBitVec.getLsbD i = x.toUInt32.toBitVec.getLsbD (n + i)
  rw [UInt32.toBitVec_shiftRight]
  show (x.toUInt32.toBitVec >>> (((nI n).toUInt32 &&& Int32.toUInt32 31).toBitVec % 32).toNat).getLsbD i = _
  rw [s_u n hn, BitVec.getLsbD_ushiftRight]
theorem b_sshr (n : Nat) (hn : n < 32) (x : Int32) {i : Nat} (hi : i < 32) : bt (x >>> (nI n &&& 31)) i = if n + i < 32 then bt x (n + i) else bt x 31 := by
  unfold bt
  rw [Int32.toBitVec_shiftRight]
  show (x.toBitVec.sshiftRight ((nI n &&& 31).toBitVec.smod 32).toNat).getLsbD i = _
  rw [s_l n hn, BitVec.getLsbD_sshiftRight, BitVec.msb_eq_getLsbD_last]
  simp [hi]
theorem b_shl8 (x : Int32) {i : Nat} (hi : i < 32) : bt (x <<< ((8 : Int32) &&& 31)) i = (decide (8 ≤ i) && bt x (i - 8)) := b_shl 8 (by omega) x hi
theorem fb_xorI (a b : Nat) : nI a ^^^ nI b = nI (a ^^^ b) := by
  apply Int32.toBitVec_inj.1
  show BitVec.ofNat 32 a ^^^ BitVec.ofNat 32 b = BitVec.ofNat 32 (a ^^^ b)
  apply BitVec.eq_of_getLsbD_eq
  intro i hi
  simp [hi]
theorem fb_bit_nat (n j : Nat) : n &&& 2 ^ j = 0 ↔ n.testBit j = false := by
  constructor
  · intro h
    have h1 : (n &&& 2 ^ j).testBit j = false := by rw [h]; simp
    rw [Nat.testBit_and] at h1
    simpa using h1
  · intro h
    apply Nat.eq_of_testBit_eq
    intro i
    rw [Nat.testBit_and]
    by_cases hi : j = i
    · subst hi; simp [h]
    · first | (simp [Nat.testBit_two_pow, hi]; done) | (simp [Nat.testBit_two_pow_of_ne hi]; done)
/-- one bit of a long -/
theorem fb_bit_set (n j i : Nat) : (n ||| 2 ^ j).testBit i = (n.testBit i || decide (i = j)) := by
  rw [Nat.testBit_or]
  by_cases h : j = i
  · subst h; simp
  · have h2 : ¬ i = j := fun e => h e.symm
    first | (simp [Nat.testBit_two_pow, h, h2]; done) | (simp [Nat.testBit_two_pow_of_ne h, h2]; done)
theorem fb_bit_flip (n j i : Nat) : (n ^^^ 2 ^ j).testBit i = (n.testBit i ^^ decide (i = j)) := by
  rw [Nat.testBit_xor]
  by_cases h : j = i
  · subst h; simp
  · have h2 : ¬ i = j := fun e => h e.symm
    first | (simp [Nat.testBit_two_pow, h, h2]; done) | (simp [Nat.testBit_two_pow_of_ne h, h2]; done)
theorem fb_rng (x : Int32) : -2147483648 ≤ x.toInt ∧ x.toInt < 2147483648 := by
  have h1 := Int32.le_toInt x
  have h2 := Int32.toInt_lt x
  omega
theorem fb_bmod {z : Int} (h1 : -2147483648 ≤ z) (h2 : z < 2147483648) : z.bmod (2 ^ 32) = z := by
  rw [Int.bmod_eq_of_le (by omega) (by omega)]
theorem fb_addI {x y : Int32} (h1 : -2147483648 ≤ x.toInt + y.toInt) (h2 : x.toInt + y.toInt < 2147483648) : (x + y).toInt = x.toInt + y.toInt := by
  rw [Int32.toInt_add, fb_bmod h1 h2]
theorem fb_subI {x y : Int32} (h1 : -2147483648 ≤ x.toInt - y.toInt) (h2 : x.toInt - y.toInt < 2147483648) : (x - y).toInt = x.toInt - y.toInt := by
  rw [Int32.toInt_sub, fb_bmod h1 h2]
theorem fb_mulI {x y : Int32} (h1 : -2147483648 ≤ x.toInt * y.toInt) (h2 : x.toInt * y.toInt < 2147483648) : (x * y).toInt = x.toInt * y.toInt := by
  rw [Int32.toInt_mul, fb_bmod h1 h2]
theorem fb_negI {x : Int32} (h : x.toInt ≠ -2147483648) : (-x).toInt = -x.toInt := by
  have := fb_rng x
  rw [Int32.toInt_neg, fb_bmod (by omega) (by omega)]
theorem fb_ofI {z : Int} (h1 : -2147483648 ≤ z) (h2 : z < 2147483648) : (Int32.ofInt z).toInt = z := by
  rw [Int32.toInt_ofInt, fb_bmod h1 h2]
theorem fb_asI (x : Int32) : Int32.ofInt x.toInt = x := Int32.ofInt_toInt x

-- 60.sets.lean.txt
def dif (a b : Nat) : Nat := a ^^^ (a &&& b)
theorem dif_bit (a b i : Nat) : (dif a b).testBit i = (a.testBit i && !b.testBit i) := by
  unfold dif
  rw [Nat.testBit_xor, Nat.testBit_and]
  cases a.testBit i <;> cases b.testBit i <;> rfl
theorem bt_nI (a : Nat) {i : Nat} (hi : i < 32) : bt (nI a) i = a.testBit i := by
  show (BitVec.ofNat 32 a).getLsbD i = _
  rw [BitVec.getLsbD_ofNat, decide_eq_true hi, Bool.true_and]
theorem i_dif (a b : Nat) : nI a &&& (nI b ^^^ (-1 : Int32)) = nI (dif a b) := by
  apply b_ext
  intro i hi
  rw [b_and, b_xor, b_m1 i hi, bt_nI _ hi, bt_nI _ hi, bt_nI _ hi, dif_bit]
  cases b.testBit i <;> simp
theorem i_and31 {k : Nat} (h : k < 32) : nI k &&& 31 = nI k := (by decide +kernel : ∀ k, k < 32 → nI k &&& 31 = nI k) k h
theorem i_one {k : Nat} (h : k < 32) : (1 : Int32) <<< (nI k &&& 31) = nI (2 ^ k) := (by decide +kernel : ∀ k, k < 32 → (1 : Int32) <<< (nI k &&& 31) = nI (2 ^ k)) k h
theorem i_all {c : Nat} (h : c ≤ 8) : ((1 : Int32) <<< (nI c &&& 31)) - (1 : Int32) = nI (2 ^ c - 1) := (by decide +kernel : ∀ c, c < 9 → ((1 : Int32) <<< (nI c &&& 31)) - (1 : Int32) = nI (2 ^ c - 1)) c (by omega)
theorem i_bit (a : Nat) {k : Nat} (hk : k < 31) : (nI a >>> (nI k &&& 31)) &&& (1 : Int32) = nI (a.testBit k).toNat := by
  apply b_ext
  intro i hi
  rw [b_and, b_sshr k (by omega) _ hi, show (1 : Int32) = nI 1 from rfl, bt_nI _ hi, bt_nI _ hi]
  by_cases h0 : i = 0
  · subst h0
    rw [if_pos (by omega), bt_nI _ (by omega)]
    cases a.testBit k <;> rfl
  · have h1 : Nat.testBit 1 i = false := by
      have h2 : (2 ^ 0).testBit i = decide (0 = i) := Nat.testBit_two_pow
      rw [show (1 : Nat) = 2 ^ 0 from rfl, h2, decide_eq_false (fun e => h0 e.symm)]
    rw [h1, Bool.and_false]
    cases a.testBit k
    · simp
    · exact h1.symm
theorem has4 (a : Nat) {k : Nat} (hk : k < 31) : f_X4_has (nI a) (nI k) = if a.testBit k then 1 else 0 := by
  unfold f_X4_has
  rw [i_bit a hk]
  cases a.testBit k <;> rfl
def pcn (a : Nat) : Nat := (a.testBit 0).toNat + (a.testBit 1).toNat + (a.testBit 2).toNat + (a.testBit 3).toNat + (a.testBit 4).toNat + (a.testBit 5).toNat + (a.testBit 6).toNat + (a.testBit 7).toNat
theorem bc_pcn {a : Nat} (h : a < 256) : f_J6_bitCount_0f7a4 (nI a) = nI (pcn a) := (by decide +kernel : ∀ a, a < 256 → f_J6_bitCount_0f7a4 (nI a) = nI (pcn a)) a h
theorem pcn_le (a : Nat) : pcn a ≤ 8 := by
  unfold pcn
  have h : ∀ b : Bool, b.toNat ≤ 1 := fun b => by cases b <;> decide
  have h0 := h (a.testBit 0); have h1 := h (a.testBit 1); have h2 := h (a.testBit 2); have h3 := h (a.testBit 3); have h4 := h (a.testBit 4); have h5 := h (a.testBit 5); have h6 := h (a.testBit 6); have h7 := h (a.testBit 7)
  omega
theorem dif_lt {a b n : Nat} (h : a < 2 ^ n) : dif a b < 2 ^ n := Nat.xor_lt_two_pow h (Nat.lt_of_le_of_lt Nat.and_le_left h)
theorem or_lt {a b n : Nat} (ha : a < 2 ^ n) (hb : b < 2 ^ n) : a ||| b < 2 ^ n := Nat.or_lt_two_pow ha hb
theorem bit_lt {a n k : Nat} (h : a < 2 ^ n) (hk : n ≤ k) : a.testBit k = false := Nat.testBit_lt_two_pow (Nat.lt_of_lt_of_le h (Nat.pow_le_pow_right (by decide) hk))
theorem two_bit (k i : Nat) : (2 ^ k).testBit i = decide (k = i) := Nat.testBit_two_pow
theorem all_bit (c i : Nat) : (2 ^ c - 1).testBit i = decide (i < c) := Nat.testBit_two_pow_sub_one c i
theorem nI_zero {a : Nat} (h : a < 2 ^ 31) : nI a = 0 ↔ a = 0 := by
  rw [← nI_0, nI_eq h (by decide)]
/-- the slots of which all before them are in a set -/
def rdy (bf : Nat → Nat) (sg : Nat) : Nat → Nat
  | 0 => 0
  | c + 1 => if dif (bf c) sg = 0 then rdy bf sg c ||| 2 ^ c else rdy bf sg c
theorem rdy_bit (bf : Nat → Nat) (sg : Nat) : ∀ c i, (rdy bf sg c).testBit i = (decide (i < c) && decide (dif (bf i) sg = 0))
  | 0, i => by simp [rdy]
  | c + 1, i => by
    have ih := rdy_bit bf sg c i
    rw [rdy]
    by_cases h : dif (bf c) sg = 0
    · rw [if_pos h, Nat.testBit_or, ih, two_bit]
      by_cases hi : c = i
      · subst hi; simp [h]
      · by_cases h2 : i < c
        · simp [hi, h2, show i < c + 1 by omega]
        · simp [hi, h2, show ¬ i < c + 1 by omega]
    · rw [if_neg h, ih]
      by_cases hi : c = i
      · subst hi; simp [h]
      · by_cases h2 : i < c
        · simp [h2, show i < c + 1 by omega]
        · simp [h2, show ¬ i < c + 1 by omega]
theorem rdy_lt (bf : Nat → Nat) (sg : Nat) : ∀ c, rdy bf sg c < 2 ^ c
  | 0 => by simp [rdy]
  | c + 1 => by
    have ih := rdy_lt bf sg c
    have h2 : 2 ^ c < 2 ^ (c + 1) := Nat.pow_lt_pow_right (by decide) (by omega)
    rw [rdy]
    split
    · exact or_lt (Nat.lt_trans ih h2) h2
    · exact Nat.lt_trans ih h2
theorem nat_ext {a b : Nat} (h : ∀ i, a.testBit i = b.testBit i) : a = b := Nat.eq_of_testBit_eq h
-- 61.tell.lean.txt
theorem inb9 {i N : Nat} (h : i < N) (hN : N < 2 ^ 31) : inb (nI i) N := vp_in_nI h hN
theorem cl9 {i : Nat} (h : i < 2 ^ 31) : (nI i).toNatClampNeg = i := nI_clamp h
theorem ix8 (k j : Nat) : (8 : Int32) * nI k + nI j = nI (8 * k + j) := by
  rw [show (8 : Int32) = nI 8 from rfl, show nI 8 * nI k = nI (8 * k) from (Int32.ofNat_mul 8 k).symm, nI_add]
theorem ix50 (k j : Nat) : (50 : Int32) * nI k + nI j = nI (50 * k + j) := by
  rw [show (50 : Int32) = nI 50 from rfl, show nI 50 * nI k = nI (50 * k) from (Int32.ofNat_mul 50 k).symm, nI_add]
theorem ix50' (k : Nat) : (50 : Int32) * nI k = nI (50 * k) := (Int32.ofNat_mul 50 k).symm
theorem s1 (i : Nat) : nI i + (1 : Int32) = nI (i + 1) := nI_add i 1
theorem up_ne {α : Type} {f : Nat → α} {i j : Nat} {x : α} (h : j ≠ i) : va_up f i x j = f j := if_neg h
theorem up_eq {α : Type} {f : Nat → α} {i : Nat} {x : α} : va_up f i x i = x := if_pos rfl
theorem upd_ne {f : Nat → Int32} {i j : Nat} {x : Int32} (h : j ≠ i) : upd f i x j = f j := if_neg h
theorem upd_eq {f : Nat → Int32} {i : Nat} {x : Int32} : upd f i x i = x := if_pos rfl
abbrev SS : Type := Nat → Nat → Int32
/-- slots opened by a day's event -/
abbrev newly (bf : Nat → Nat) (sg op c j : Nat) : Prop := j < c ∧ op.testBit j = false ∧ dif (bf j) sg = 0
/-- what events tell: the signed slots, the state, the slots opened, the days of that, the reminders -/
def sgn (K sl : Nat → Nat) : Nat → Nat
  | 0 => 0
  | i + 1 => if K i = 1 ∨ K i = 2 then sgn K sl i ||| 2 ^ sl i else sgn K sl i
def endS (k : Nat) : Nat := if k = 3 then 3 else if k = 4 then 4 else 5
def sta (c : Nat) (K sl : Nat → Nat) : Nat → Nat
  | 0 => 0
  | i + 1 => if K i = 0 then 1 else if K i = 1 ∨ K i = 2 then (if sgn K sl (i + 1) = 2 ^ c - 1 then 2 else 1) else if K i = 6 then sta c K sl i else endS (K i)
def opd (c : Nat) (bf K sl : Nat → Nat) : Nat → Nat
  | 0 => 0
  | i + 1 => if K i = 0 ∨ K i = 1 ∨ K i = 2 then opd c bf K sl i ||| rdy bf (sgn K sl (i + 1)) c else opd c bf K sl i
def onn (g : Nat → Int32) (c : Nat) (bf K sl : Nat → Nat) (D : Nat → Int32) : Nat → Nat → Int32
  | 0, j => g j
  | i + 1, j => if (K i = 0 ∨ K i = 1 ∨ K i = 2) ∧ newly bf (sgn K sl (i + 1)) (opd c bf K sl i) c j then D i else onn g c bf K sl D i j
def rmd (K sl : Nat → Nat) : Nat → Nat → Nat
  | 0, _ => 0
  | i + 1, j => if K i = 6 ∧ j = sl i then rmd K sl i j + 1 else rmd K sl i j
theorem sgn_lt {K sl : Nat → Nat} {c len : Nat} (h : ∀ i, i < len → (K i = 1 ∨ K i = 2) → sl i < c) : ∀ i, i ≤ len → sgn K sl i < 2 ^ c
  | 0, _ => Nat.two_pow_pos c
  | i + 1, hi => by
    have ih := sgn_lt h i (by omega)
    rw [sgn]
    split
    · rename_i hk
      exact or_lt ih (Nat.pow_lt_pow_right (by decide) (h i (by omega) hk))
    · exact ih
theorem pu_p8 {c : Nat} (hc : c ≤ 8) : 2 ^ c ≤ 256 := Nat.pow_le_pow_right (n := 2) (by decide) hc
-- 62.inv.lean.txt
def smj (f : Nat → Nat) : Nat → Nat
  | 0 => 0
  | c + 1 => smj f c + f c
def mxr (r : Nat → Nat) (b : Nat) : Nat → Nat
  | 0 => 0
  | s + 1 => if b.testBit s then max (mxr r b s) (r s + 1) else mxr r b s
/-- the rounds of the first slots -/
def rl (bf : Nat → Nat) : Nat → Nat → Nat
  | 0, _ => 0
  | j + 1, i => if i = j then mxr (rl bf j) (bf j) j else rl bf j i
def ond (c : Nat) (bf K sl dy : Nat → Nat) : Nat → Nat → Nat
  | 0, _ => 0
  | i + 1, j => if (K i = 0 ∨ K i = 1 ∨ K i = 2) ∧ newly bf (sgn K sl (i + 1)) (opd c bf K sl i) c j then dy i else ond c bf K sl dy i j
def Wf (td c len : Nat) (bf pr K sl dy : Nat → Nat) : Prop :=
  c ≤ 8 ∧ len ≤ 49 ∧ (∀ j, j < c → bf j < 2 ^ j ∧ pr j < 8) ∧
  (∀ i, i < len → K i ≤ 6 ∧ dy i ≤ td ∧ (i = 0 ↔ K i = 0) ∧ (0 < i → sta c K sl i = 1) ∧ (K i = 1 ∨ K i = 2 ∨ K i = 6 → sl i < c ∧ (sgn K sl i).testBit (sl i) = false) ∧ (K i = 1 ∨ K i = 2 → dif (bf (sl i)) (sgn K sl i) = 0)) ∧
  (0 < len → 0 < c ∧ len = 1 + smj (rmd K sl len) c + pcn (sgn K sl len) + (if sta c K sl len ≤ 2 then 0 else 1)) ∧ ∀ j, rmd K sl len j ≤ 5
def ClsE (σ : SS) (c len pc tm : Nat) (bf pr K sl dy : Nat → Nat) (pe se : Nat → Int32) : Prop :=
  σ 10 0 = nI c ∧ σ 12 0 = nI pc ∧ σ 13 0 = nI tm ∧ σ 9 0 = nI len ∧ (∀ j, j < c → σ 0 j = nI (pr j) ∧ σ 1 j = nI (bf j) ∧ σ 2 j = nI (rl bf c j)) ∧
  (∀ i, i < len → σ 5 i = nI (K i) ∧ σ 6 i = pe i ∧ σ 7 i = se i ∧ σ 8 i = nI (dy i)) ∧
  σ 11 0 = nI (sta c K sl len) ∧ σ 15 0 = nI (sgn K sl len) ∧ σ 16 0 = nI (if sta c K sl len = 1 then dif (opd c bf K sl len) (sgn K sl len) else 0) ∧
  (∀ j, j < 8 → σ 4 j = nI (rmd K sl len j)) ∧ (∀ j, (opd c bf K sl len).testBit j = true → σ 3 j = nI (ond c bf K sl dy len j)) ∧ (0 < len → σ 14 0 = nI (dy 0))
theorem rdy_mono {bf : Nat → Nat} {a b : Nat} (h : ∀ i, a.testBit i = true → b.testBit i = true) (c : Nat) : rdy bf a c ||| rdy bf b c = rdy bf b c := by
  apply nat_ext
  intro i
  rw [Nat.testBit_or, rdy_bit, rdy_bit]
  by_cases hi : i < c
  · by_cases h1 : dif (bf i) a = 0
    · have h2 : dif (bf i) b = 0 := by
        apply nat_ext
        intro j
        have h3 : (dif (bf i) a).testBit j = false := by rw [h1]; simp
        rw [dif_bit] at h3 ⊢
        cases hb : (bf i).testBit j with
        | false => simp
        | true =>
          rw [hb] at h3
          have : b.testBit j = true := h j (by simpa using h3)
          simp [this]
      simp [h1, h2]
    · simp [h1]
  · simp [hi]
theorem opd_rdy {c : Nat} {bf K sl : Nat → Nat} (h0 : K 0 = 0) : ∀ i, 0 < i → opd c bf K sl i = rdy bf (sgn K sl i) c
  | 0, h => absurd h (by omega)
  | i + 1, _ => by
    by_cases hi : i = 0
    · subst hi
      rw [opd, if_pos (by omega), opd, Nat.zero_or]
    · have ih := opd_rdy (c := c) (bf := bf) (sl := sl) h0 i (by omega)
      rw [opd]
      by_cases hk : K i = 0 ∨ K i = 1 ∨ K i = 2
      · rw [if_pos hk, ih]
        apply rdy_mono
        intro j hj
        rw [sgn]
        split
        · rw [Nat.testBit_or, hj]; rfl
        · exact hj
      · rw [if_neg hk, ih, sgn, if_neg (by omega)]
theorem onn_ond {g : Nat → Int32} {c td len : Nat} {bf K sl dy : Nat → Nat} (hd : ∀ i, i < len → dy i ≤ td) : ∀ i, i ≤ len → ∀ j, (opd c bf K sl i).testBit j = true → onn g c bf K sl (fun i => nI (dy i)) i j = nI (ond c bf K sl dy i j) ∧ ond c bf K sl dy i j ≤ td
  | 0, _, j, h => by simp [opd] at h
  | i + 1, hi, j, h => by
    rw [onn, ond]
    by_cases hn : (K i = 0 ∨ K i = 1 ∨ K i = 2) ∧ newly bf (sgn K sl (i + 1)) (opd c bf K sl i) c j
    · rw [if_pos hn, if_pos hn]
      exact ⟨rfl, hd i (by omega)⟩
    · rw [if_neg hn, if_neg hn]
      refine onn_ond hd i (by omega) j ?_
      rw [opd] at h
      by_cases hk : K i = 0 ∨ K i = 1 ∨ K i = 2
      · rw [if_pos hk, Nat.testBit_or, rdy_bit] at h
        cases ho : (opd c bf K sl i).testBit j with
        | true => rfl
        | false =>
          rw [ho] at h
          simp at h
          exact absurd ⟨hk, h.1, ho, h.2⟩ hn
      · rw [if_neg hk] at h
        exact h
-- 63.cases.lean.txt
theorem pre_lt {n j : Nat} (hn : n < 2 ^ 31) (hj : j < 2 ^ 31) : nI n - (1 : Int32) < nI j ↔ n ≤ j := by
  cases n with
  | zero =>
    refine ⟨fun _ => Nat.zero_le _, fun _ => ?_⟩
    rw [show nI 0 - (1 : Int32) = -1 from by decide, Int32.lt_iff_toInt_lt, nI_toInt hj]
    show (-1 : Int) < _
    omega
  | succ m =>
    rw [nI_pred, nI_ltI (by omega) hj]
    omega
theorem xb_inl {α β : Type} {E : String} {k : α → Option (String ⊕ β)} : xb (some (.inl E)) k = some (.inl E) := rfl
theorem xb_inr {α β : Type} {a : α} {k : α → Option (String ⊕ β)} : xb (some (.inr a)) k = k a := rfl
theorem xn_inr {α β : Type} {a : α} {k : α → Option β} : xn (some (.inr a)) k = k a := rfl
theorem rg9 {N i : Nat} {g : Nat → Int32} (h : i < N) (hN : N < 2 ^ 31) : rg N g (nI i) = g i := by
  unfold rg
  rw [if_neg (nI_pos (by omega)), if_pos (show nI i < Int32.ofNat N from nI_lt h hN), cl9 (by omega)]
-- 64.look.lean.txt
theorem sta_le (c : Nat) (K sl : Nat → Nat) : ∀ i, sta c K sl i ≤ 5
  | 0 => Nat.zero_le _
  | i + 1 => by
    have ih := sta_le c K sl i
    rw [sta]
    unfold endS
    repeat' split
    all_goals omega
theorem Wf.sg {td c len : Nat} {bf pr K sl dy : Nat → Nat} (hw : Wf td c len bf pr K sl dy) : ∀ i, i ≤ len → sgn K sl i < 2 ^ c := sgn_lt (fun i hi h => ((hw.2.2.2.1 i hi).2.2.2.2.1 (by omega)).1)
theorem Wf.op {td c len : Nat} {bf pr K sl dy : Nat → Nat} (hw : Wf td c len bf pr K sl dy) : ∀ i, i ≤ len → opd c bf K sl i < 2 ^ c := by
  intro i hi
  cases i with
  | zero => exact Nat.two_pow_pos c
  | succ i =>
    have h0 : K 0 = 0 := ((hw.2.2.2.1 0 (by omega)).2.2.1).mp rfl
    rw [opd_rdy h0 (i + 1) (by omega)]
    exact rdy_lt _ _ _
theorem lt8 {a c : Nat} (h : a < 2 ^ c) (hc : c ≤ 8) : a < 256 := Nat.lt_of_lt_of_le h (pu_p8 hc)
theorem has4' (a : Nat) {k : Nat} (hk : k < 31) : (f_X4_has (nI a) (nI k) = 0) = (a.testBit k = false) := by
  rw [has4 a hk]
  cases a.testBit k <;> simp
-- 65.reads.lean.txt
theorem cnt_eq {c c' : Nat} {x : Int32} (h1 : x = nI c) (h2 : x = nI c') (hc : c ≤ 49) (hc' : c' ≤ 49) : c = c' := (nI_eq (by omega) (by omega)).mp (h1.symm.trans h2)
theorem sta_two {c : Nat} {K sl : Nat → Nat} : ∀ i, sta c K sl i = 2 → sgn K sl i = 2 ^ c - 1
  | 0, h => by simp [sta] at h
  | i + 1, h => by
    have ih := sta_two (c := c) (K := K) (sl := sl) i
    rw [sta] at h
    by_cases h0 : K i = 0
    · rw [if_pos h0] at h; omega
    · rw [if_neg h0] at h
      by_cases h1 : K i = 1 ∨ K i = 2
      · rw [if_pos h1] at h
        by_cases h2 : sgn K sl (i + 1) = 2 ^ c - 1
        · exact h2
        · rw [if_neg h2] at h; omega
      · rw [if_neg h1] at h
        by_cases h6 : K i = 6
        · rw [if_pos h6] at h
          rw [sgn, if_neg h1]
          exact ih h
        · rw [if_neg h6] at h
          unfold endS at h
          split at h
          · omega
          · split at h <;> omega
-- 67.hist.lean.txt
def sgc (K : Nat → Nat) : Nat → Nat
  | 0 => 0
  | i + 1 => if K i = 1 ∨ K i = 2 then sgc K i + 1 else sgc K i
set_option maxRecDepth 4000 in
theorem pcn_add {a s : Nat} (ha : a < 256) (hs : s < 8) (h : a.testBit s = false) : pcn (a ||| 2 ^ s) = pcn a + 1 := (by decide +kernel : ∀ s, s < 8 → ∀ a, a < 256 → a.testBit s = false → pcn (a ||| 2 ^ s) = pcn a + 1) s hs a ha h
set_option maxRecDepth 4000 in
theorem pcn_all {a c : Nat} (hc : c ≤ 8) (h : a < 2 ^ c) : pcn a = c ↔ a = 2 ^ c - 1 := (by decide +kernel : ∀ c, c < 9 → ∀ a, a < 256 → a < 2 ^ c → (pcn a = c ↔ a = 2 ^ c - 1)) c (by omega) a (lt8 h hc) h
set_option maxRecDepth 4000 in
theorem pcn_c {a c : Nat} (hc : c ≤ 8) (h : a < 2 ^ c) : pcn a ≤ c := (by decide +kernel : ∀ c, c < 9 → ∀ a, a < 256 → a < 2 ^ c → pcn a ≤ c) c (by omega) a (lt8 h hc) h
theorem sgc_pcn {td c len : Nat} {bf pr K sl dy : Nat → Nat} (hw : Wf td c len bf pr K sl dy) : ∀ i, i ≤ len → sgc K i = pcn (sgn K sl i)
  | 0, _ => by rw [sgc, sgn]; decide
  | i + 1, hi => by
    have ih := sgc_pcn hw i (by omega)
    rw [sgc, sgn]
    by_cases hk : K i = 1 ∨ K i = 2
    · obtain ⟨h1, h2⟩ := (hw.2.2.2.1 i (by omega)).2.2.2.2.1 (by omega)
      have hc := hw.1
      rw [if_pos hk, if_pos hk, ih, pcn_add (lt8 (hw.sg i (by omega)) hw.1) (by omega) h2]
    · rw [if_neg hk, if_neg hk, ih]
theorem signing_iff {k : Nat} (h : k ≤ 6) : f_X1_isSigning (nI k) = if k = 1 ∨ k = 2 then 1 else 0 := (by decide +kernel : ∀ k, k < 7 → f_X1_isSigning (nI k) = if k = 1 ∨ k = 2 then 1 else 0) k (by omega)
theorem with_spec {k s : Nat} (h : k ≤ 6) (hs : s ≤ 5) (b : Int32) : f_X1_stateWith (nI k) (nI s) b = if k = 0 then 1 else if k = 1 ∨ k = 2 then (if b = 0 then nI s else 2) else if k = 6 then nI s else nI (endS k) := by
  rcases (show k = 0 ∨ k = 1 ∨ k = 2 ∨ k = 3 ∨ k = 4 ∨ k = 5 ∨ k = 6 by omega) with rfl | rfl | rfl | rfl | rfl | rfl | rfl <;> (unfold f_X1_stateWith endS; simp [show nI 0 = 0 from rfl, show nI 1 = 1 from rfl, show nI 2 = 2 from rfl, show nI 3 = 3 from rfl, show nI 4 = 4 from rfl, show nI 5 = 5 from rfl, show nI 6 = 6 from rfl])
theorem state_loop {σ : SS} {td c len s : Nat} {bf pr K sl dy : Nat → Nat} (hw : Wf td c len bf pr K sl dy) (hsl : s ≤ len) (hK : ∀ i, i < len → σ 5 i = nI (K i)) :
    ∀ (m i : Nat), i + m = s → ∀ fu, m < fu → ∃ z, f_X1_stateAfter_8 fu (hs σ) (nI s) (nI c) (nI (sta c K sl i)) (nI (sgc K i)) (nI i) = some (nI (sta c K sl s), z) := by
  have hc := hw.1
  have hl := hw.2.1
  intro m
  induction m with
  | zero =>
    intro i hi fu hfu
    obtain ⟨fu, rfl⟩ : ∃ g, fu = g + 1 := ⟨fu - 1, by omega⟩
    obtain rfl : i = s := by omega
    exact ⟨_, by rw [f_X1_stateAfter_8, if_pos (nI_le (Nat.le_refl _) (by omega))]⟩
  | succ m ih =>
    intro i hi fu hfu
    obtain ⟨fu, rfl⟩ : ∃ g, fu = g + 1 := ⟨fu - 1, by omega⟩
    obtain ⟨w1, w2, w3, w4, w5, w6⟩ := hw.2.2.2.1 i (by omega)
    have hst := sta_le c K sl i
    have ih := ih (i + 1) (by omega) fu (by omega)
    have hp := sgc_pcn hw (i + 1) (by omega)
    have hsg := hw.sg (i + 1) (by omega)
    have hle := pcn_c hc hsg
    have hall := pcn_all hc hsg
    rw [f_X1_stateAfter_8, if_neg (nI_ge (by omega) (by omega))]
    have e0 : rg 49 (hs σ 0) (nI i) = nI (K i) := by rw [rg9 (by omega) (by decide)]; exact hK i (by omega)
    simp only [e0, s1]
    rw [signing_iff w1]
    by_cases hk : K i = 1 ∨ K i = 2
    · have hk0 : ¬ K i = 0 := by omega
      rw [if_pos hk, if_neg (show ¬ (1 : Int32) = 0 by decide), with_spec w1 hst, with_spec w1 hst]
      simp only [if_neg hk0, if_pos hk, if_neg (show ¬ (1 : Int32) = 0 by decide), if_true]
      have e1 : sta c K sl i = 1 := w4 (by have := w3; omega)
      rw [sgc, if_pos hk] at hp
      rw [sta, if_neg (by omega), if_pos hk, sgc, if_pos hk] at ih
      by_cases ha : sgn K sl (i + 1) = 2 ^ c - 1
      · rw [if_pos ha] at ih
        rw [if_pos (show nI (sgc K i + 1) = nI c by congr 1; have := hall.mpr ha; omega)]
        exact ih
      · rw [if_neg ha] at ih
        have hne : ¬ pcn (sgn K sl (i + 1)) = c := fun h => ha (hall.mp h)
        rw [if_neg (fun e => hne (by have := (nI_eq (by omega) (by omega)).mp e; omega)), e1]
        exact ih
    · rw [if_neg hk, if_pos rfl, with_spec w1 hst, with_spec w1 hst, if_neg hk, if_neg hk, ite_self]
      rw [sta, if_neg hk, sgc, if_neg hk] at ih
      by_cases h0 : K i = 0
      · rw [if_pos h0] at ih ⊢
        exact ih
      · rw [if_neg h0] at ih ⊢
        by_cases h6 : K i = 6
        · rw [if_pos h6] at ih ⊢
          exact ih
        · rw [if_neg h6] at ih ⊢
          exact ih
theorem state_spec {σ : SS} {td c len s : Nat} {bf pr K sl dy : Nat → Nat} (hw : Wf td c len bf pr K sl dy) (hsl : s ≤ len) (hK : ∀ i, i < len → σ 5 i = nI (K i)) : f_X1_stateAfter (hs σ) (nI s) (nI c) = some (nI (sta c K sl s)) := by
  have hl := hw.2.1
  obtain ⟨z, h⟩ := state_loop hw hsl hK s 0 (by omega) FU (by unfold FU; omega)
  unfold f_X1_stateAfter
  rw [show (0 : Int32) = nI 0 from rfl]
  have h : f_X1_stateAfter_8 FU (hs σ) (nI s) (nI c) (nI 0) (nI 0) (nI 0) = some (nI (sta c K sl s), z) := h
  rw [h]
  rfl
theorem signed_loop {σ : SS} {td c len s : Nat} {bf pr K sl dy : Nat → Nat} (hw : Wf td c len bf pr K sl dy) (hsl : s ≤ len) (hK : ∀ i, i < len → σ 5 i = nI (K i)) (hS : ∀ i, i < len → (K i = 1 ∨ K i = 2 ∨ K i = 6) → σ 7 i = nI (sl i)) :
    ∀ (m i : Nat), i + m = s → ∀ fu, m < fu → ∃ z, f_X1_signedAfter_4 fu (hs σ) (nI s) (nI (sgn K sl i)) (nI i) = some (nI (sgn K sl s), z) := by
  have hc := hw.1
  have hl := hw.2.1
  intro m
  induction m with
  | zero =>
    intro i hi fu hfu
    obtain ⟨fu, rfl⟩ : ∃ g, fu = g + 1 := ⟨fu - 1, by omega⟩
    obtain rfl : i = s := by omega
    exact ⟨_, by rw [f_X1_signedAfter_4, if_pos (nI_le (Nat.le_refl _) (by omega))]⟩
  | succ m ih =>
    intro i hi fu hfu
    obtain ⟨fu, rfl⟩ : ∃ g, fu = g + 1 := ⟨fu - 1, by omega⟩
    obtain ⟨w1, w2, w3, w4, w5, w6⟩ := hw.2.2.2.1 i (by omega)
    have ih := ih (i + 1) (by omega) fu (by omega)
    rw [f_X1_signedAfter_4, if_neg (nI_ge (by omega) (by omega))]
    have e0 : rg 49 (hs σ 0) (nI i) = nI (K i) := by rw [rg9 (by omega) (by decide)]; exact hK i (by omega)
    simp only [e0, s1]
    rw [signing_iff w1]
    rw [sgn] at ih
    by_cases hk : K i = 1 ∨ K i = 2
    · have e2 : rg 49 (hs σ 2) (nI i) = nI (sl i) := by rw [rg9 (by omega) (by decide)]; exact hS i (by omega) (by omega)
      have := (w5 (by omega)).1
      rw [if_pos hk, if_neg (by decide), e2, i_one (by omega), fa_or]
      rw [if_pos hk] at ih
      exact ih
    · rw [if_neg hk, if_pos rfl]
      rw [if_neg hk] at ih
      exact ih
theorem signed_spec {σ : SS} {td c len s : Nat} {bf pr K sl dy : Nat → Nat} (hw : Wf td c len bf pr K sl dy) (hsl : s ≤ len) (hK : ∀ i, i < len → σ 5 i = nI (K i)) (hS : ∀ i, i < len → (K i = 1 ∨ K i = 2 ∨ K i = 6) → σ 7 i = nI (sl i)) : f_X1_signedAfter (hs σ) (nI s) = some (nI (sgn K sl s)) := by
  have hl := hw.2.1
  obtain ⟨z, h⟩ := signed_loop hw hsl hK hS s 0 (by omega) FU (by unfold FU; omega)
  unfold f_X1_signedAfter
  rw [show (0 : Int32) = nI 0 from rfl]
  have h : f_X1_signedAfter_4 FU (hs σ) (nI s) (nI 0) (nI 0) = some (nI (sgn K sl s), z) := h
  rw [h]
  rfl
theorem next_loop {σ : SS} {c d : Nat} {bf : Nat → Nat} (hc : c ≤ 8) (h10 : σ 10 0 = nI c) (hbf : ∀ j, j < c → bf j < 2 ^ 8) (h1 : ∀ j, j < c → σ 1 j = nI (bf j)) :
    ∀ (m i : Nat), i + m = c → ∀ fu, m < fu → ∃ z, f_X0_nextBehind_4 fu σ (nI d) (nI (dif (rdy bf d i) d)) (nI i) = some (nI (dif (rdy bf d c) d), z) := by
  intro m
  induction m with
  | zero =>
    intro i hi fu hfu
    obtain ⟨fu, rfl⟩ : ∃ g, fu = g + 1 := ⟨fu - 1, by omega⟩
    obtain rfl : i = c := by omega
    exact ⟨_, by rw [f_X0_nextBehind_4, h10, if_pos (nI_le (Nat.le_refl _) (by omega))]⟩
  | succ m ih =>
    intro i hi fu hfu
    obtain ⟨fu, rfl⟩ : ∃ g, fu = g + 1 := ⟨fu - 1, by omega⟩
    have hic : i < c := by omega
    have ih := ih (i + 1) (by omega) fu (by omega)
    rw [f_X0_nextBehind_4, h10, if_neg (nI_ge hic (by omega)), rg9 (by omega) (by decide), h1 i hic, i_dif, s1, i_one (by omega), fa_or]
    simp only [has4' _ (show i < 31 by omega)]
    have hz : (nI (dif (bf i) d) = 0) = (dif (bf i) d = 0) := propext (nI_zero (Nat.lt_trans (dif_lt (hbf i hic)) (by decide)))
    simp only [hz]
    have key : ∀ v, dif (rdy bf d (i + 1)) d = v → ∃ z, f_X0_nextBehind_4 fu σ (nI d) (nI v) (nI (i + 1)) = some (nI (dif (rdy bf d c) d), z) := fun v e => by rw [← e]; exact ih
    by_cases hd : d.testBit i = false
    · rw [if_pos hd]
      by_cases h2 : dif (bf i) d = 0
      · rw [if_pos h2]
        refine key _ (nat_ext fun j => ?_)
        rw [dif_bit, rdy_bit, Nat.testBit_or, dif_bit, rdy_bit, two_bit]
        by_cases hj : i = j
        · subst hj; simp [h2, hd]
        · by_cases h3 : j < i
          · simp [hj, h3, show j < i + 1 by omega]
          · simp [hj, h3, show ¬ j < i + 1 by omega]
      · rw [if_neg h2]
        refine key _ (by rw [rdy, if_neg h2])
    · rw [if_neg hd]
      refine key _ (nat_ext fun j => ?_)
      rw [dif_bit, rdy_bit, dif_bit, rdy_bit]
      by_cases hj : i = j
      · subst hj
        have : d.testBit i = true := by simpa using hd
        simp [this]
      · by_cases h3 : j < i
        · simp [h3, show j < i + 1 by omega]
        · simp [h3, show ¬ j < i + 1 by omega]
theorem next_spec {σ : SS} {c : Nat} (d : Nat) {bf : Nat → Nat} (hc : c ≤ 8) (h10 : σ 10 0 = nI c) (hbf : ∀ j, j < c → bf j < 2 ^ 8) (h1 : ∀ j, j < c → σ 1 j = nI (bf j)) : f_X0_nextBehind σ (nI d) = some (nI (dif (rdy bf d c) d)) := by
  obtain ⟨z, h⟩ := next_loop (d := d) hc h10 hbf h1 c 0 (by omega) FU (by unfold FU; omega)
  unfold f_X0_nextBehind
  rw [show (0 : Int32) = nI 0 from rfl]
  have h : f_X0_nextBehind_4 FU σ (nI d) (nI 0) (nI 0) = some (nI (dif (rdy bf d c) d), z) := by
    rw [← h]; congr 2; simp [rdy, dif]
  rw [h]
  rfl
theorem Wf.b8 {td c len : Nat} {bf pr K sl dy : Nat → Nat} (hw : Wf td c len bf pr K sl dy) : ∀ j, j < c → bf j < 2 ^ 8 := fun j hj => Nat.lt_of_lt_of_le (hw.2.2.1 j hj).1 (Nat.pow_le_pow_right (by decide) (by have := hw.1; omega))
-- 68.seal.lean.txt
def sealN (a x y z w : Int32) : Int32 := ((((31 : Int32) * a + (7 : Int32) * x) + (11 : Int32) * (y + (1 : Int32))) + (13 : Int32) * (z + (1 : Int32))) + (17 : Int32) * w
def sealF (K dy : Nat → Nat) (pe se : Nat → Int32) : Nat → Int32
  | 0 => 1
  | i + 1 => sealN (sealF K dy pe se i) (nI (K i)) (pe i) (se i) (nI (dy i)) - sealN (sealF K dy pe se i) (nI (K i)) (pe i) (se i) (nI (dy i)) / (65521 : Int32) * (65521 : Int32)
theorem seal4 {σ : SS} {len s : Nat} {K dy : Nat → Nat} {pe se : Nat → Int32} (hl : len ≤ 49) (hsl : s ≤ len) (hr : ∀ i, i < len → σ 5 i = nI (K i) ∧ σ 6 i = pe i ∧ σ 7 i = se i ∧ σ 8 i = nI (dy i)) :
    ∀ (m i : Nat), i + m = s → ∀ fu, m < fu → ∃ z, f_X1_sealBehind_4 fu (hs σ) (nI s) (sealF K dy pe se i) (nI i) = some (sealF K dy pe se s, z) := by
  intro m
  induction m with
  | zero =>
    intro i hi fu hfu
    obtain ⟨fu, rfl⟩ : ∃ g, fu = g + 1 := ⟨fu - 1, by omega⟩
    obtain rfl : i = s := by omega
    exact ⟨_, by rw [f_X1_sealBehind_4, if_pos (nI_le (Nat.le_refl _) (by omega))]⟩
  | succ m ih =>
    intro i hi fu hfu
    obtain ⟨fu, rfl⟩ : ∃ g, fu = g + 1 := ⟨fu - 1, by omega⟩
    obtain ⟨a1, a2, a3, a4⟩ := hr i (by omega)
    have ih := ih (i + 1) (by omega) fu (by omega)
    rw [f_X1_sealBehind_4, if_neg (nI_ge (by omega) (by omega)), rg9 (by omega) (by decide), rg9 (by omega) (by decide), rg9 (by omega) (by decide), rg9 (by omega) (by decide), s1, show hs σ 0 i = nI (K i) from a1, show hs σ 1 i = pe i from a2, show hs σ 2 i = se i from a3, show hs σ 3 i = nI (dy i) from a4]
    exact ih
set_option maxRecDepth 4000 in
theorem share_ok : ∀ c, c < 9 → ∀ a, a < 9 → ¬ c = 0 → nN (FP.i2f (nI a)) (FP.i2f (nI c)) ∧ vf_n64 (FP.f2d (FP.fdiv (FP.i2f (nI a)) (FP.i2f (nI c)))) ∧ Op.cmpValue (FP.dcmp (FP.f2d (FP.fdiv (FP.i2f (nI a)) (FP.i2f (nI c)))) (FP.f2d (FP.fdiv (FP.i2f (nI a)) (FP.i2f (nI c))))) .l = 0 := by
  unfold vf_n64
  decide +kernel
theorem share_0 : vf_n64 (FP.f2d FP.fconst0) ∧ Op.cmpValue (FP.dcmp (FP.f2d FP.fconst0) (FP.f2d FP.fconst0)) .l = 0 := by
  unfold vf_n64
  decide +kernel
-- 71.add.lean.txt
def uN (f : Nat → Nat) (i v : Nat) : Nat → Nat := fun x => if x = i then v else f x
theorem uN_lt {f : Nat → Nat} {i v x : Nat} (h : x < i) : uN f i v x = f x := if_neg (by omega)
theorem uN_eq {f : Nat → Nat} {i v : Nat} : uN f i v i = v := if_pos rfl
theorem sgn_cong {K K' sl sl' : Nat → Nat} {n : Nat} (h : ∀ i, i < n → K' i = K i ∧ sl' i = sl i) : ∀ i, i ≤ n → sgn K' sl' i = sgn K sl i
  | 0, _ => rfl
  | i + 1, hi => by
    rw [sgn, sgn, sgn_cong h i (by omega), (h i (by omega)).1, (h i (by omega)).2]
theorem sta_cong {c : Nat} {K K' sl sl' : Nat → Nat} {n : Nat} (h : ∀ i, i < n → K' i = K i ∧ sl' i = sl i) : ∀ i, i ≤ n → sta c K' sl' i = sta c K sl i
  | 0, _ => rfl
  | i + 1, hi => by
    rw [sta, sta, sta_cong h i (by omega), (h i (by omega)).1, sgn_cong h (i + 1) hi]
theorem opd_cong {c : Nat} {bf K K' sl sl' : Nat → Nat} {n : Nat} (h : ∀ i, i < n → K' i = K i ∧ sl' i = sl i) : ∀ i, i ≤ n → opd c bf K' sl' i = opd c bf K sl i
  | 0, _ => rfl
  | i + 1, hi => by
    rw [opd, opd, opd_cong h i (by omega), (h i (by omega)).1, sgn_cong h (i + 1) hi]
theorem ond_cong {c : Nat} {bf K K' sl sl' dy dy' : Nat → Nat} {n : Nat} (h : ∀ i, i < n → K' i = K i ∧ sl' i = sl i) (hd : ∀ i, i < n → dy' i = dy i) : ∀ i, i ≤ n → ∀ j, ond c bf K' sl' dy' i j = ond c bf K sl dy i j
  | 0, _, j => rfl
  | i + 1, hi, j => by
    rw [ond, ond, ond_cong h hd i (by omega) j, (h i (by omega)).1, sgn_cong h (i + 1) hi, opd_cong h i (by omega), hd i (by omega)]
theorem rmd_cong {K K' sl sl' : Nat → Nat} {n : Nat} (h : ∀ i, i < n → K' i = K i ∧ sl' i = sl i) : ∀ i, i ≤ n → ∀ j, rmd K' sl' i j = rmd K sl i j
  | 0, _, j => rfl
  | i + 1, hi, j => by
    rw [rmd, rmd, rmd_cong h i (by omega) j, (h i (by omega)).1, (h i (by omega)).2]
theorem smj_cong {f g : Nat → Nat} : ∀ n, (∀ j, j < n → f j = g j) → smj f n = smj g n
  | 0, _ => rfl
  | n + 1, h => by rw [smj, smj, smj_cong n (fun j hj => h j (by omega)), h n (by omega)]
theorem smj_le {f : Nat → Nat} {b : Nat} (h : ∀ j, f j ≤ b) : ∀ n, smj f n ≤ b * n
  | 0 => Nat.le_refl _
  | n + 1 => by
    have := smj_le h n
    have := h n
    rw [smj, Nat.mul_succ]
    omega
theorem smj_inc {f g : Nat → Nat} {s : Nat} (hs : g s = f s + 1) (h : ∀ j, j ≠ s → g j = f j) : ∀ n, s < n → smj g n = smj f n + 1
  | 0, h0 => absurd h0 (by omega)
  | n + 1, hn => by
    rw [smj, smj]
    by_cases e : s = n
    · subst e
      rw [smj_cong s (fun j hj => h j (by omega)), hs]
      omega
    · rw [smj_inc hs h n (by omega), h n (fun q => e q.symm)]
      omega
theorem smj_0 : ∀ n, smj (fun _ => 0) n = 0
  | 0 => rfl
  | n + 1 => by rw [smj, smj_0 n]
theorem sta_one {td c len : Nat} {bf pr K sl dy : Nat → Nat} (hw : Wf td c len bf pr K sl dy) (hc : 0 < c) : ∀ i, i ≤ len → sta c K sl i = 1 → sgn K sl i ≠ 2 ^ c - 1
  | 0, _, h => by simp [sta] at h
  | i + 1, hi, h => by
    have ih := sta_one hw hc i (by omega)
    obtain ⟨w1, w2, w3, w4, w5, w6⟩ := hw.2.2.2.1 i (by omega)
    have h2 : 2 ^ 1 ≤ 2 ^ c := Nat.pow_le_pow_right (by decide) hc
    rw [sta] at h
    by_cases h0 : K i = 0
    · have : i = 0 := w3.mpr h0
      subst this
      rw [sgn, if_neg (by omega), sgn]
      omega
    · rw [if_neg h0] at h
      by_cases h1 : K i = 1 ∨ K i = 2
      · rw [if_pos h1] at h
        intro e
        rw [if_pos e] at h
        omega
      · rw [if_neg h1] at h
        rw [sgn, if_neg h1]
        by_cases h6 : K i = 6
        · rw [if_pos h6] at h
          exact ih h
        · rw [if_neg h6] at h
          unfold endS at h
          split at h
          · omega
          · split at h <;> omega
/-- room for one event more while the envelope isn't ended -/
theorem Wf.room {td c len : Nat} {bf pr K sl dy : Nat → Nat} (hw : Wf td c len bf pr K sl dy) (hc : 0 < c) (hs : len = 0 ∨ sta c K sl len = 1) : len ≤ 48 := by
  rcases hs with h | hs
  · omega
  · have h0 : 0 < len := by
      rcases Nat.eq_zero_or_pos len with h | h
      · subst h; simp [sta] at hs
      · exact h
    obtain ⟨-, h1⟩ := hw.2.2.2.2.1 h0
    rw [hs, if_pos (by decide)] at h1
    have h2 := smj_le hw.2.2.2.2.2 c
    have h3 := hw.sg len (Nat.le_refl _)
    have h4 := pcn_c hw.1 h3
    have h5 : pcn (sgn K sl len) ≠ c := fun e => sta_one hw hc len (Nat.le_refl _) hs ((pcn_all hw.1 h3).mp e)
    have := hw.1
    omega
theorem Wf.add {td c len : Nat} {bf pr K sl dy : Nat → Nat} (hw : Wf td c len bf pr K sl dy) {kd sv dv : Nat} (hc : 0 < c) (h6 : kd ≤ 6) (h0 : len = 0 ↔ kd = 0) (hs : 0 < len → sta c K sl len = 1) (hv : kd = 1 ∨ kd = 2 ∨ kd = 6 → sv < c ∧ (sgn K sl len).testBit sv = false) (ho : kd = 1 ∨ kd = 2 → dif (bf sv) (sgn K sl len) = 0) (hd : dv ≤ td) (hr : kd = 6 → rmd K sl len sv < 5) :
    Wf td c (len + 1) bf pr (uN K len kd) (uN sl len sv) (uN dy len dv) := by
  have hroom := hw.room hc (by rcases Nat.eq_zero_or_pos len with h | h; exact Or.inl h; exact Or.inr (hs h))
  have cg : ∀ i, i < len → uN K len kd i = K i ∧ uN sl len sv i = sl i := fun i hi => ⟨uN_lt hi, uN_lt hi⟩
  have eS := sgn_cong cg
  have eT := sta_cong (c := c) cg
  have eR := rmd_cong cg
  have hl := Nat.le_refl len
  refine ⟨hw.1, by omega, hw.2.2.1, fun i hi => ?_, fun _ => ⟨hc, ?_⟩, fun j => ?_⟩
  · by_cases hil : i = len
    · subst hil
      rw [uN_eq, uN_eq, uN_eq, eT _ hl, eS _ hl]
      exact ⟨h6, hd, h0, hs, hv, ho⟩
    · have hil : i < len := by omega
      rw [uN_lt hil, uN_lt hil, uN_lt hil, eT _ (by omega), eS _ (by omega)]
      exact hw.2.2.2.1 i hil
  · rcases Nat.eq_zero_or_pos len with h | h
    · subst h
      have hk : kd = 0 := h0.mp rfl
      subst hk
      have e1 : sta c (uN K 0 0) (uN sl 0 sv) (0 + 1) = 1 := by rw [sta, uN_eq, if_pos rfl]
      have e2 : sgn (uN K 0 0) (uN sl 0 sv) (0 + 1) = 0 := by rw [sgn, uN_eq, if_neg (by omega)]; rfl
      have e3 : smj (rmd (uN K 0 0) (uN sl 0 sv) (0 + 1)) c = 0 := by
        rw [smj_cong (g := fun _ => 0) c (fun j _ => by rw [rmd, uN_eq, if_neg (by omega)]; rfl), smj_0]
      rw [e1, e2, e3]
      decide
    · have hst := hs h
      have hk : ¬ kd = 0 := fun e => by have := h0.mpr e; omega
      obtain ⟨-, hcnt⟩ := hw.2.2.2.2.1 h
      rw [hst, if_pos (by decide)] at hcnt
      have hsg := hw.sg len hl
      rcases (show (kd = 1 ∨ kd = 2) ∨ kd = 6 ∨ (kd = 3 ∨ kd = 4 ∨ kd = 5) by omega) with h1 | h1 | h1
      · obtain ⟨v1, v2⟩ := hv (by omega)
        have e2 : sgn (uN K len kd) (uN sl len sv) (len + 1) = sgn K sl len ||| 2 ^ sv := by rw [sgn, uN_eq, uN_eq, if_pos h1, eS _ hl]
        have e1 : sta c (uN K len kd) (uN sl len sv) (len + 1) ≤ 2 := by
          rw [sta, uN_eq, if_neg hk, if_pos h1]
          split <;> omega
        have e3 : smj (rmd (uN K len kd) (uN sl len sv) (len + 1)) c = smj (rmd K sl len) c := smj_cong c (fun j _ => by rw [rmd, uN_eq, if_neg (by omega), eR _ hl])
        rw [if_pos e1, e2, e3, pcn_add (lt8 hsg hw.1) (by have := hw.1; omega) v2]
        omega
      · obtain ⟨v1, v2⟩ := hv (by omega)
        subst h1
        have e2 : sgn (uN K len 6) (uN sl len sv) (len + 1) = sgn K sl len := by rw [sgn, uN_eq, if_neg (by omega), eS _ hl]
        have e1 : sta c (uN K len 6) (uN sl len sv) (len + 1) ≤ 2 := by
          rw [sta, uN_eq, if_neg (by omega), if_neg (by omega), if_pos rfl, eT _ hl]
          omega
        have e3 : smj (rmd (uN K len 6) (uN sl len sv) (len + 1)) c = smj (rmd K sl len) c + 1 := by
          refine smj_inc (s := sv) ?_ (fun j hj => ?_) c v1
          · rw [rmd, uN_eq, uN_eq, if_pos ⟨rfl, rfl⟩, eR _ hl]
          · rw [rmd, uN_eq, uN_eq, if_neg (fun q => hj q.2), eR _ hl]
        rw [if_pos e1, e2, e3]
        omega
      · have e2 : sgn (uN K len kd) (uN sl len sv) (len + 1) = sgn K sl len := by rw [sgn, uN_eq, if_neg (by omega), eS _ hl]
        have e1 : ¬ sta c (uN K len kd) (uN sl len sv) (len + 1) ≤ 2 := by
          rw [sta, uN_eq, if_neg hk, if_neg (by omega), if_neg (by omega)]
          unfold endS
          split
          · omega
          · split <;> omega
        have e3 : smj (rmd (uN K len kd) (uN sl len sv) (len + 1)) c = smj (rmd K sl len) c := smj_cong c (fun j _ => by rw [rmd, uN_eq, if_neg (by omega), eR _ hl])
        rw [if_neg e1, e2, e3]
        omega
  · have := hw.2.2.2.2.2 j
    rw [rmd, uN_eq, uN_eq, eR _ hl]
    split
    · rename_i q
      rw [q.2]
      have := hr q.1
      omega
    · exact this
-- 72.note.lean.txt
theorem rs9 {N i : Nat} {g : Nat → Int32} {x : Int32} (h : i < N) (hN : N < 2 ^ 31) : rs N g (nI i) x = upd g i x := by
  unfold rs
  rw [if_neg (nI_pos (by omega)), if_neg (show ¬ Int32.ofNat N ≤ nI i from nI_ge h hN), cl9 (by omega)]
/-- the class's event -/
def AD (σ : SS) (len : Nat) (a b d e : Int32) : SS := hp σ (f_X1_add (hs σ) a b d e)
theorem AD_spec {σ : SS} {len : Nat} (h9 : σ 9 0 = nI len) (hl : len < 49) (a b d e : Int32) : (∀ x, x < 5 ∨ 9 < x → AD σ len a b d e x = σ x) ∧ AD σ len a b d e 5 = upd (σ 5) len a ∧ AD σ len a b d e 6 = upd (σ 6) len b ∧ AD σ len a b d e 7 = upd (σ 7) len d ∧ AD σ len a b d e 8 = upd (σ 8) len e ∧ AD σ len a b d e 9 0 = nI (len + 1) := by
  have h4 : hs σ 4 0 = nI len := h9
  have e0 : f_X1_add (hs σ) a b d e = va_up (va_up (va_up (va_up (va_up (hs σ) 0 (upd (hs σ 0) len a)) 1 (upd (hs σ 1) len b)) 2 (upd (hs σ 2) len d)) 3 (upd (hs σ 3) len e)) 4 (fun _ => nI (len + 1)) := by
    unfold f_X1_add
    rw [h4, if_pos (show nI len < 49 from nI_lt (b := 49) hl (by decide))]
    simp only [lt, up_ne (show (4 : Nat) ≠ 0 by decide), up_ne (show (4 : Nat) ≠ 1 by decide), up_ne (show (4 : Nat) ≠ 2 by decide), up_ne (show (4 : Nat) ≠ 3 by decide), up_ne (show (1 : Nat) ≠ 0 by decide), up_ne (show (2 : Nat) ≠ 0 by decide), up_ne (show (2 : Nat) ≠ 1 by decide), up_ne (show (3 : Nat) ≠ 0 by decide), up_ne (show (3 : Nat) ≠ 1 by decide), up_ne (show (3 : Nat) ≠ 2 by decide), h4, rs9 hl (show 49 < 2 ^ 31 by decide), s1]
  unfold AD hp
  rw [e0]
  refine ⟨fun x hx => if_neg (by omega), ?_, ?_, ?_, ?_, ?_⟩
  · rw [if_pos (by decide)]; show va_up _ 4 _ 0 = _; rw [up_ne (by decide), up_ne (by decide), up_ne (by decide), up_ne (by decide), up_eq]; rfl
  · rw [if_pos (by decide)]; show va_up _ 4 _ 1 = _; rw [up_ne (by decide), up_ne (by decide), up_ne (by decide), up_eq]; rfl
  · rw [if_pos (by decide)]; show va_up _ 4 _ 2 = _; rw [up_ne (by decide), up_ne (by decide), up_eq]; rfl
  · rw [if_pos (by decide)]; show va_up _ 4 _ 3 = _; rw [up_ne (by decide), up_eq]; rfl
  · rw [if_pos (by decide)]; show (va_up (va_up (va_up (va_up (va_up (hs σ) 0 (upd (hs σ 0) len a)) 1 (upd (hs σ 1) len b)) 2 (upd (hs σ 2) len d)) 3 (upd (hs σ 3) len e)) 4 (fun _ => nI (len + 1)) : SS) 4 0 = _; rw [up_eq]
-- 73.finish.lean.txt
set_option maxRecDepth 4000 in
theorem pcn_rest {a c : Nat} (hc : c ≤ 8) (h : a < 2 ^ c) : pcn (dif (2 ^ c - 1) a) + pcn a = c := (by decide +kernel : ∀ c, c < 9 → ∀ a, a < 256 → a < 2 ^ c → pcn (dif (2 ^ c - 1) a) + pcn a = c) c (by omega) a (lt8 h hc) h
theorem nI_sub {a b : Nat} (h : b ≤ a) : nI a - nI b = nI (a - b) := by
  have h1 : nI (a - b) + nI b = nI a := by rw [nI_add]; congr 1; omega
  rw [← h1, Int32.add_sub_cancel]
theorem sta_pos {c len : Nat} {K sl : Nat → Nat} (h : sta c K sl len = 1) : 0 < len := by
  rcases Nat.eq_zero_or_pos len with e | e
  · subst e; simp [sta] at h
  · exact e
-- 75.drafts.lean.txt
theorem sta_zero {td c len : Nat} {bf pr K sl dy : Nat → Nat} (hw : Wf td c len bf pr K sl dy) (h : sta c K sl len = 0) : len = 0 := by
  cases len with
  | zero => rfl
  | succ i =>
    exfalso
    obtain ⟨w1, w2, w3, w4, -⟩ := hw.2.2.2.1 i (by omega)
    rw [sta] at h
    by_cases h0 : K i = 0
    · rw [if_pos h0] at h; omega
    · rw [if_neg h0] at h
      by_cases h1 : K i = 1 ∨ K i = 2
      · rw [if_pos h1] at h
        by_cases h2 : sgn K sl (i + 1) = 2 ^ c - 1
        · rw [if_pos h2] at h; omega
        · rw [if_neg h2] at h; omega
      · rw [if_neg h1] at h
        by_cases h6 : K i = 6
        · rw [if_pos h6] at h
          have h3 : ¬ i = 0 := fun e => h0 (w3.mp e)
          have := w4 (by omega)
          omega
        · rw [if_neg h6] at h
          unfold endS at h
          split at h
          · omega
          · split at h <;> omega
theorem nodraft0 {σ : SS} (h : σ 11 0 = nI 0) : f_X4_refuseNoDraft σ = some (.inr ()) := by
  unfold f_X4_refuseNoDraft
  rw [h, if_pos nI_0]
theorem nodraft1 {σ : SS} {s : Nat} (h : σ 11 0 = nI s) (hs : s ≤ 5) (h0 : ¬ s = 0) : f_X4_refuseNoDraft σ = some (.inl ISE) := by
  unfold f_X4_refuseNoDraft
  rw [h, if_neg (fun e => h0 ((nI_zero (by omega)).mp e))]
  rfl
-- 76.slots.lean.txt
theorem mxr_le {r : Nat → Nat} {m : Nat} (b : Nat) (h : ∀ s, r s ≤ m) : ∀ i, mxr r b i ≤ m + 1
  | 0 => Nat.zero_le _
  | i + 1 => by
    have ih := mxr_le b h i
    have := h i
    rw [mxr]
    split
    · exact Nat.max_le.mpr ⟨ih, by omega⟩
    · exact ih
theorem rl_le (bf : Nat → Nat) : ∀ j i, rl bf j i ≤ j
  | 0, i => Nat.le_refl _
  | j + 1, i => by
    rw [rl]
    split
    · exact mxr_le _ (rl_le bf j) j
    · exact Nat.le_succ_of_le (rl_le bf j i)
theorem rl_cong {bf bf' : Nat → Nat} : ∀ n, (∀ j, j < n → bf' j = bf j) → rl bf' n = rl bf n
  | 0, _ => rfl
  | n + 1, h => by
    funext i
    rw [rl, rl, rl_cong n (fun j hj => h j (by omega)), h n (by omega)]
theorem mx_nI {a b : Nat} (ha : a < 2 ^ 31) (hb : b < 2 ^ 31) : mx (nI a) (nI b) = nI (max a b) := by
  unfold mx
  by_cases h : a < b
  · rw [if_pos (nI_lt h hb), Nat.max_eq_right (by omega)]
  · rw [if_neg (nI_nlt (by omega) ha), Nat.max_eq_left (by omega)]
theorem append_loop {σ : SS} {c b : Nat} {r : Nat → Nat} (x1 : Int32) (hc : c ≤ 8) (h10 : σ 10 0 = nI c) (h2 : ∀ j, j < c → σ 2 j = nI (r j)) (hr : ∀ s, r s ≤ 8) :
    ∀ (m i : Nat), i + m = c → ∀ fu, m < fu → ∃ z, f_X0_append_5 fu σ x1 (nI b) (nI (mxr r b i)) (nI i) = some (nI (mxr r b c), z) := by
  intro m
  induction m with
  | zero =>
    intro i hi fu hfu
    obtain ⟨fu, rfl⟩ : ∃ g, fu = g + 1 := ⟨fu - 1, by omega⟩
    obtain rfl : i = c := by omega
    exact ⟨_, by rw [f_X0_append_5, h10, if_pos (nI_le (Nat.le_refl _) (by omega))]⟩
  | succ m ih =>
    intro i hi fu hfu
    obtain ⟨fu, rfl⟩ : ∃ g, fu = g + 1 := ⟨fu - 1, by omega⟩
    have hic : i < c := by omega
    have ih := ih (i + 1) (by omega) fu (by omega)
    have hb := mxr_le b hr i
    have hr := hr i
    rw [f_X0_append_5, h10, if_neg (nI_ge hic (by omega)), rg9 (by omega) (by decide), h2 i hic, s1, s1, mx_nI (by omega) (by omega)]
    simp only [has4' _ (show i < 31 by omega)]
    rw [mxr] at ih
    by_cases hd : b.testBit i = false
    · rw [if_pos hd]
      rw [hd, if_neg (by decide)] at ih
      exact ih
    · have hd' : b.testBit i = true := by simpa using hd
      rw [if_neg hd]
      rw [hd', if_pos rfl] at ih
      exact ih
theorem dif_all {b c : Nat} : dif b (2 ^ c - 1) = 0 ↔ b < 2 ^ c := by
  constructor
  · intro h
    refine Nat.lt_pow_two_of_testBit b (fun i hi => ?_)
    have h1 : (dif b (2 ^ c - 1)).testBit i = false := by rw [h]; exact Nat.zero_testBit i
    rw [dif_bit, all_bit, decide_eq_false (by omega)] at h1
    simpa using h1
  · intro h
    apply nat_ext
    intro i
    rw [dif_bit, all_bit, Nat.zero_testBit]
    by_cases hi : i < c
    · simp [hi]
    · rw [bit_lt h (by omega)]; rfl
theorem cnt_mono (p : Nat → Bool) {i : Nat} : ∀ n, i ≤ n → fa_cnt p i ≤ fa_cnt p n
  | 0, h => by
    obtain rfl : i = 0 := by omega
    exact Nat.le_refl _
  | n + 1, h => by
    by_cases e : i = n + 1
    · subst e; exact Nat.le_refl _
    · have h2 := cnt_mono p (i := i) n (by omega)
      rw [fa_cnt]
      omega
theorem pcn_cnt (q : Nat) : pcn q = fa_cnt (fun s => q.testBit s) 8 := by
  have h : ∀ b : Bool, b.toNat = if b = true then 1 else 0 := fun b => by cases b <;> rfl
  unfold pcn
  simp only [h, fa_cnt, Nat.zero_add]
-- 77.opens.lean.txt
theorem openN_loop {σ0 : SS} {c fr : Nat} (d : Int32) (hc : c ≤ 8) (h10 : σ0 10 0 = nI c) :
    ∀ (m i : Nat) (σ : SS), i + m = c → ∀ fu, m < fu → (∀ x, x ≠ 3 → σ x = σ0 x) → (∀ j, σ 3 j = if j < i ∧ fr.testBit j = true then d else σ0 3 j) →
      ∃ σ' z, f_X0_openNext_18 fu σ d (nI fr) (nI i) = some (σ', z) ∧ (∀ x, x ≠ 3 → σ' x = σ0 x) ∧ ∀ j, σ' 3 j = if j < c ∧ fr.testBit j = true then d else σ0 3 j := by
  intro m
  induction m with
  | zero =>
    intro i σ hi fu hfu ha hb
    obtain ⟨fu, rfl⟩ : ∃ g, fu = g + 1 := ⟨fu - 1, by omega⟩
    obtain rfl : i = c := by omega
    exact ⟨σ, nI i, by rw [f_X0_openNext_18, ha 10 (by decide), h10, if_pos (nI_le (Nat.le_refl _) (by omega))], ha, hb⟩
  | succ m ih =>
    intro i σ hi fu hfu ha hb
    obtain ⟨fu, rfl⟩ : ∃ g, fu = g + 1 := ⟨fu - 1, by omega⟩
    have hic : i < c := by omega
    rw [f_X0_openNext_18, ha 10 (by decide), h10, if_neg (nI_ge hic (by omega)), s1]
    simp only [has4' _ (show i < 31 by omega)]
    cases hf : fr.testBit i with
    | false =>
      rw [if_pos rfl]
      refine ih (i + 1) σ (by omega) fu (by omega) ha (fun j => ?_)
      rw [hb j]
      by_cases hj : j = i
      · subst hj
        rw [if_neg (fun h => by have := h.1; omega), if_neg (fun h => by rw [hf] at h; cases h.2)]
      · by_cases h1 : j < i ∧ fr.testBit j = true
        · rw [if_pos h1, if_pos ⟨by have := h1.1; omega, h1.2⟩]
        · rw [if_neg h1, if_neg (fun h => h1 ⟨by have := h.1; omega, h.2⟩)]
    | true =>
      rw [if_neg (by decide)]
      simp only [lt]
      refine ih (i + 1) _ (by omega) fu (by omega) (fun x hx => by rw [up_ne hx, ha x hx]) (fun j => ?_)
      rw [up_eq, rs9 (show i < 8 by omega) (by decide)]
      by_cases hj : j = i
      · subst hj
        rw [upd_eq, if_pos ⟨by omega, hf⟩]
      · rw [upd_ne hj, hb j]
        by_cases h1 : j < i ∧ fr.testBit j = true
        · rw [if_pos h1, if_pos ⟨by have := h1.1; omega, h1.2⟩]
        · rw [if_neg h1, if_neg (fun h => h1 ⟨by have := h.1; omega, h.2⟩)]
theorem openNext_spec {σ : SS} {c sg op : Nat} {bf : Nat → Nat} (d : Int32) (hc : c ≤ 8) (h10 : σ 10 0 = nI c) (hbf : ∀ j, j < c → bf j < 2 ^ 8) (h1 : ∀ j, j < c → σ 1 j = nI (bf j)) (h15 : σ 15 0 = nI sg) (h16 : σ 16 0 = nI op) :
    ∃ σ', f_X0_openNext σ d = some (nI (pcn (dif (dif (rdy bf sg c) sg) op)), σ') ∧ (∀ x, x ≠ 3 → x ≠ 16 → σ' x = σ x) ∧ σ' 16 0 = nI (op ||| dif (dif (rdy bf sg c) sg) op) ∧ ∀ j, σ' 3 j = if j < c ∧ (dif (dif (rdy bf sg c) sg) op).testBit j = true then d else σ 3 j := by
  obtain ⟨σ2, z, l1, l2, l3⟩ := openN_loop (σ0 := σ) (fr := dif (dif (rdy bf sg c) sg) op) d hc h10 c 0 σ (by omega) FU (by unfold FU; omega) (fun _ _ => rfl) (fun j => by rw [if_neg (fun h => by have := h.1; omega)])
  refine ⟨va_up σ2 16 (fun _ => nI (op ||| dif (dif (rdy bf sg c) sg) op)), ?_, fun x h3 h16 => by rw [up_ne h16, l2 x h3], by rw [up_eq], fun j => by rw [up_ne (by decide), l3 j]⟩
  unfold f_X0_openNext
  have l1 : f_X0_openNext_18 FU σ d (nI (dif (dif (rdy bf sg c) sg) op)) 0 = some (σ2, z) := l1
  rw [h15, next_spec sg hc h10 hbf h1, Option.bind_some, h16, i_dif, l1, Option.bind_some]
  simp only [lt, l2 16 (by decide), h16, fa_or]
  rw [bc_pcn (lt8 (dif_lt (dif_lt (rdy_lt bf sg c))) hc)]
theorem rdy_sub {bf : Nat → Nat} {a b : Nat} (h : ∀ i, a.testBit i = true → b.testBit i = true) (c j : Nat) (hj : (rdy bf a c).testBit j = true) : (rdy bf b c).testBit j = true := by
  rw [← rdy_mono h c, Nat.testBit_or, hj]
  rfl
theorem sg_rdy {td c len : Nat} {bf pr K sl dy : Nat → Nat} (hw : Wf td c len bf pr K sl dy) : ∀ i, i ≤ len → ∀ j, (sgn K sl i).testBit j = true → (rdy bf (sgn K sl i) c).testBit j = true
  | 0, _, j, h => by rw [sgn, Nat.zero_testBit] at h; cases h
  | i + 1, hi, j, h => by
    have ih := sg_rdy hw i (by omega) j
    rw [sgn] at h ⊢
    by_cases hk : K i = 1 ∨ K i = 2
    · rw [if_pos hk] at h ⊢
      have hsub : ∀ q, (sgn K sl i).testBit q = true → (sgn K sl i ||| 2 ^ sl i).testBit q = true := fun q hq => by rw [Nat.testBit_or, hq]; rfl
      rw [Nat.testBit_or, two_bit] at h
      cases hb : (sgn K sl i).testBit j with
      | true => exact rdy_sub hsub c j (ih hb)
      | false =>
        rw [hb] at h
        have hj : sl i = j := by simpa using h
        subst hj
        obtain ⟨-, -, -, -, w5, w6⟩ := hw.2.2.2.1 i (by omega)
        refine rdy_sub hsub c _ ?_
        rw [rdy_bit, decide_eq_true (w5 (by omega)).1, decide_eq_true (w6 hk)]
        rfl
    · rw [if_neg hk] at h ⊢
      exact ih h
set_option maxHeartbeats 1000000 in
theorem open_both {c len pc tm : Nat} {σ1 : SS} {bf pr K sl dy : Nat → Nat} {pe se : Nat → Int32} (hc : c ≤ 8) (hbf : ∀ j, j < c → bf j < 2 ^ 8) (hkd : K len = 0 ∨ K len = 1 ∨ K len = 2) (hsub : ∀ j, (sgn K sl (len + 1)).testBit j = true → (opd c bf K sl len).testBit j = true) (hst : sta c K sl (len + 1) = 1 ∨ sta c K sl (len + 1) = 2) (hop : opd c bf K sl (len + 1) < 2 ^ c)
    (c10 : σ1 10 0 = nI c) (c12 : σ1 12 0 = nI pc) (c13 : σ1 13 0 = nI tm) (c9 : σ1 9 0 = nI (len + 1)) (cr : ∀ j, j < c → σ1 0 j = nI (pr j) ∧ σ1 1 j = nI (bf j) ∧ σ1 2 j = nI (rl bf c j)) (ce : ∀ i, i < len + 1 → σ1 5 i = nI (K i) ∧ σ1 6 i = pe i ∧ σ1 7 i = se i ∧ σ1 8 i = nI (dy i))
    (c11 : σ1 11 0 = nI (sta c K sl (len + 1))) (c15 : σ1 15 0 = nI (sgn K sl (len + 1))) (c16 : σ1 16 0 = nI (dif (opd c bf K sl len) (sgn K sl (len + 1)))) (c4 : ∀ j, j < 8 → σ1 4 j = nI (rmd K sl (len + 1) j)) (c3 : ∀ j, (opd c bf K sl len).testBit j = true → σ1 3 j = nI (ond c bf K sl dy len j)) (c14 : σ1 14 0 = nI (dy 0)) :
    ∃ σ', f_X0_openNext σ1 (nI (dy len)) = some (nI (pcn (dif (dif (rdy bf (sgn K sl (len + 1)) c) (sgn K sl (len + 1))) (dif (opd c bf K sl len) (sgn K sl (len + 1))))), σ') ∧ ClsE σ' c (len + 1) pc tm bf pr K sl dy pe se := by
  obtain ⟨σ', e1, e2, e3, e4⟩ := openNext_spec (nI (dy len)) hc c10 hbf (fun j hj => (cr j hj).2.1) c15 c16
  have eo : opd c bf K sl (len + 1) = opd c bf K sl len ||| rdy bf (sgn K sl (len + 1)) c := by rw [opd, if_pos hkd]
  refine ⟨σ', e1, ?_, ?_, ?_, ?_, fun j hj => ?_, fun i hi => ?_, ?_, ?_, ?_, fun j hj => ?_, fun j hj => ?_, fun _ => ?_⟩
  · rw [e2 10 (by decide) (by decide)]; exact c10
  · rw [e2 12 (by decide) (by decide)]; exact c12
  · rw [e2 13 (by decide) (by decide)]; exact c13
  · rw [e2 9 (by decide) (by decide)]; exact c9
  · rw [e2 0 (by decide) (by decide), e2 1 (by decide) (by decide), e2 2 (by decide) (by decide)]; exact cr j hj
  · rw [e2 5 (by decide) (by decide), e2 6 (by decide) (by decide), e2 7 (by decide) (by decide), e2 8 (by decide) (by decide)]; exact ce i hi
  · rw [e2 11 (by decide) (by decide)]; exact c11
  · rw [e2 15 (by decide) (by decide)]; exact c15
  · rw [e3]
    congr 1
    have e5 : dif (opd c bf K sl len) (sgn K sl (len + 1)) ||| dif (dif (rdy bf (sgn K sl (len + 1)) c) (sgn K sl (len + 1))) (dif (opd c bf K sl len) (sgn K sl (len + 1))) = dif (opd c bf K sl (len + 1)) (sgn K sl (len + 1)) := by
      apply nat_ext
      intro j
      rw [eo, Nat.testBit_or, dif_bit, dif_bit, dif_bit, dif_bit, dif_bit, Nat.testBit_or]
      cases (opd c bf K sl len).testBit j <;> cases (sgn K sl (len + 1)).testBit j <;> cases (rdy bf (sgn K sl (len + 1)) c).testBit j <;> rfl
    rw [e5]
    rcases hst with h | h
    · rw [h, if_pos rfl]
    · rw [h, if_neg (by decide), sta_two (len + 1) h]
      exact dif_all.mpr hop
  · rw [e2 4 (by decide) (by decide)]; exact c4 j hj
  · rw [e4 j, dif_bit, dif_bit, dif_bit, rdy_bit]
    rw [eo, Nat.testBit_or, rdy_bit] at hj
    have hn : newly bf (sgn K sl (len + 1)) (opd c bf K sl len) c j ↔ (opd c bf K sl len).testBit j = false := by
      constructor
      · intro h; exact h.2.1
      · intro h
        rw [h] at hj
        simp at hj
        exact ⟨hj.1, h, hj.2⟩
    rw [ond]
    by_cases ho : (opd c bf K sl len).testBit j = true
    · have h1 : ¬ ((K len = 0 ∨ K len = 1 ∨ K len = 2) ∧ newly bf (sgn K sl (len + 1)) (opd c bf K sl len) c j) := fun h => by
        have := hn.mp h.2
        rw [ho] at this
        cases this
      have h2 : ¬ (j < c ∧ (decide (j < c) && decide (dif (bf j) (sgn K sl (len + 1)) = 0) && !(sgn K sl (len + 1)).testBit j && !((opd c bf K sl len).testBit j && !(sgn K sl (len + 1)).testBit j)) = true) := by
        rintro ⟨-, h⟩
        rw [ho] at h
        cases hs : (sgn K sl (len + 1)).testBit j <;> simp [hs] at h
      rw [if_neg h1, if_neg h2]
      exact c3 j ho
    · have ho : (opd c bf K sl len).testBit j = false := by simpa using ho
      have hs : (sgn K sl (len + 1)).testBit j = false := by
        cases hs : (sgn K sl (len + 1)).testBit j with
        | false => rfl
        | true => have := hsub j hs; rw [ho] at this; cases this
      have h2 := hn.mpr ho
      have h3 : j < c ∧ (decide (j < c) && decide (dif (bf j) (sgn K sl (len + 1)) = 0) && !(sgn K sl (len + 1)).testBit j && !((opd c bf K sl len).testBit j && !(sgn K sl (len + 1)).testBit j)) = true := ⟨h2.1, by simp [h2.1, h2.2.2, hs, ho]⟩
      have h4 : (K len = 0 ∨ K len = 1 ∨ K len = 2) ∧ newly bf (sgn K sl (len + 1)) (opd c bf K sl len) c j := ⟨hkd, h2⟩
      rw [if_pos h3, if_pos h4]
  · rw [e2 14 (by decide) (by decide)]; exact c14
theorem cls_ev {σ : SS} {len : Nat} {K dy : Nat → Nat} {pe se : Nat → Int32} (kd sv dv : Nat) (b d : Int32) {σ2 : SS} (e5 : σ2 5 = upd (σ 5) len (nI kd)) (e6 : σ2 6 = upd (σ 6) len b) (e7 : σ2 7 = upd (σ 7) len d) (e8 : σ2 8 = upd (σ 8) len (nI dv)) (ce : ∀ i, i < len → σ 5 i = nI (K i) ∧ σ 6 i = pe i ∧ σ 7 i = se i ∧ σ 8 i = nI (dy i)) :
    ∀ i, i < len + 1 → σ2 5 i = nI (uN K len kd i) ∧ σ2 6 i = upd pe len b i ∧ σ2 7 i = upd se len d i ∧ σ2 8 i = nI (uN dy len dv i) := by
  intro i hi
  rw [e5, e6, e7, e8]
  by_cases e : i = len
  · subst e
    rw [upd_eq, upd_eq, upd_eq, upd_eq, upd_eq, upd_eq, uN_eq, uN_eq]
    exact ⟨rfl, rfl, rfl, rfl⟩
  · rw [upd_ne e, upd_ne e, upd_ne e, upd_ne e, upd_ne e, upd_ne e, uN_lt (by omega), uN_lt (by omega)]
    exact ce i (by omega)
-- 79.remind.lean.txt
theorem Wf.mono {td td2 c len : Nat} {bf pr K sl dy : Nat → Nat} (hw : Wf td c len bf pr K sl dy) (h : td ≤ td2) : Wf td2 c len bf pr K sl dy := by
  obtain ⟨w1, w2, w3, w4, w5, w6⟩ := hw
  exact ⟨w1, w2, w3, fun i hi => ⟨(w4 i hi).1, Nat.le_trans (w4 i hi).2.1 h, (w4 i hi).2.2⟩, w5, w6⟩
theorem canR {σ : SS} {i pc op rm : Nat} (hi : i < 8) (h12 : σ 12 0 = nI pc) (hp0 : 0 < pc) (hp : pc ≤ 30) (h16 : σ 16 0 = nI op) (h4 : σ 4 i = nI rm) (hrm : rm ≤ 5) : f_X0_canRemind σ (nI i) = if op.testBit i = true ∧ rm < 5 then 1 else 0 := by
  unfold f_X0_canRemind
  rw [h12, if_neg (nI_nle hp0 (by omega)), h16, rg9 hi (by decide), h4]
  simp only [has4' _ (show i < 31 by omega)]
  cases hb : op.testBit i with
  | false => rw [if_pos rfl, if_neg (fun h => by cases h.1)]
  | true =>
    rw [if_neg (by decide)]
    by_cases h5 : rm < 5
    · rw [if_neg (show ¬ (5 : Int32) ≤ nI rm from nI_ge (b := 5) h5 (by decide)), if_pos ⟨rfl, h5⟩]
    · rw [if_pos (show (5 : Int32) ≤ nI rm from nI_le (a := 5) (by omega) (by omega)), if_neg (fun h => h5 h.2)]
theorem daysP {σ : SS} {i pc on D : Nat} (hi : i < 8) (h12 : σ 12 0 = nI pc) (hp0 : 0 < pc) (hp : pc ≤ 30) (h3 : σ 3 i = nI on) (hon : on ≤ D) (hD : D < 2 ^ 31) : f_X0_daysToPace σ (nI i) (nI D) = some (nI (pc - (D - on) % pc)) := by
  unfold f_X0_daysToPace
  have hm := Nat.mod_lt (D - on) hp0
  rw [h12, if_pos (show (0 : Int32) < nI pc from nI_lt (a := 0) hp0 (by omega)), if_pos (nI_ne0 hp0 (by omega)), rg9 hi (by decide), h3, nI_sub hon, pk_rem (by omega) hp0 (by omega), nI_sub (by omega)]
theorem remind_no {σ : SS} {c : Nat} (x : Int32) (hc : c ≤ 8) (h10 : σ 10 0 = nI c) (h12 : σ 12 0 = nI 0) : ∀ (m i : Nat) (v : Int32), i + m = c → ∀ fu, m < fu → ∃ z, f_X0_remind_4 fu σ x v (nI i) = some (σ, v, z) := by
  intro m
  induction m with
  | zero =>
    intro i v hi fu hfu
    obtain ⟨fu, rfl⟩ : ∃ g, fu = g + 1 := ⟨fu - 1, by omega⟩
    obtain rfl : i = c := by omega
    exact ⟨nI i, by rw [f_X0_remind_4, h10, if_pos (nI_le (Nat.le_refl _) (by omega))]⟩
  | succ m ih =>
    intro i v hi fu hfu
    obtain ⟨fu, rfl⟩ : ∃ g, fu = g + 1 := ⟨fu - 1, by omega⟩
    obtain ⟨z, hz⟩ := ih (i + 1) v (by omega) fu (by omega)
    refine ⟨z, ?_⟩
    have e : f_X0_canRemind σ (nI i) = 0 := by
      unfold f_X0_canRemind
      rw [h12, if_pos (show nI 0 ≤ 0 by decide)]
    rw [f_X0_remind_4, h10, if_neg (nI_ge (by omega) (by omega)), e, if_pos rfl, s1]
    exact hz
-- 80.pass.lean.txt
theorem std_at {p : Nat} (hp : p < 8) : f_X4_standinOf (nI p) = some (.inr p) := by
  unfold f_X4_standinOf
  rw [if_neg (nI_pos (by omega)), if_pos (show nI p < 8 from nI_lt (b := 8) hp (by decide)), cl9 (by omega)]
theorem env_at {n k : Nat} (hk : k < n) (hn : n ≤ 6) : f_X4_envelopeAt n (nI k) = some (.inr k) := by
  unfold f_X4_envelopeAt
  rw [if_neg (nI_pos (by omega)), if_neg (nI_ge hk (by omega)), cl9 (by omega)]
theorem day12 {n : Nat} {σ : Nat → SS} {t : SS} : ∀ (m i : Nat) (s : SS), i + m = 8 → ∀ fu, m < fu → (∀ x, x < 3 → s x = t x) → (∀ p, p < 8 → s (3 + p) = if p < i then upd (t (3 + p)) 4 0 else t (3 + p)) →
    ∃ s' z, f_X4_passOneDay_12 fu n s σ (nI i) = some (s', σ, z) ∧ (∀ x, x < 3 → s' x = t x) ∧ ∀ p, p < 8 → s' (3 + p) = upd (t (3 + p)) 4 0 := by
  intro m
  induction m with
  | zero =>
    intro i s hi fu hfu ha hb
    obtain ⟨fu, rfl⟩ : ∃ g, fu = g + 1 := ⟨fu - 1, by omega⟩
    obtain rfl : i = 8 := by omega
    refine ⟨s, nI 8, by rw [f_X4_passOneDay_12, if_pos (by decide)], ha, fun p hp => ?_⟩
    rw [hb p hp, if_pos hp]
  | succ m ih =>
    intro i s hi fu hfu ha hb
    obtain ⟨fu, rfl⟩ : ∃ g, fu = g + 1 := ⟨fu - 1, by omega⟩
    have hi8 : i < 8 := by omega
    rw [f_X4_passOneDay_12, if_neg (show ¬ (8 : Int32) ≤ nI i from nI_ge (b := 8) hi8 (by decide)), std_at hi8, xn_inr, s1]
    simp only [lt]
    refine ih (i + 1) _ (by omega) fu (by omega) (fun x hx => by rw [up_ne (by omega), ha x hx]) (fun p hp => ?_)
    by_cases e : p = i
    · subst e
      rw [up_eq, hb p hp, if_neg (by omega), if_pos (by omega)]
    · rw [up_ne (by omega), hb p hp]
      by_cases h : p < i
      · rw [if_pos h, if_pos (by omega)]
      · rw [if_neg h, if_neg (by omega)]
-- 81.next.lean.txt
theorem behind_no {σ : SS} {c : Nat} (x : Int32) (hc : c ≤ 8) (h10 : σ 10 0 = nI c) (h12 : σ 12 0 = nI 0) : ∀ (m i : Nat) (v : Int32), i + m = c → ∀ fu, m < fu → ∃ z, f_X0_reminderBehind_4 fu σ x v (nI i) = some (v, z) := by
  intro m
  induction m with
  | zero =>
    intro i v hi fu hfu
    obtain ⟨fu, rfl⟩ : ∃ g, fu = g + 1 := ⟨fu - 1, by omega⟩
    obtain rfl : i = c := by omega
    exact ⟨nI i, by rw [f_X0_reminderBehind_4, h10, if_pos (nI_le (Nat.le_refl _) (by omega))]⟩
  | succ m ih =>
    intro i v hi fu hfu
    obtain ⟨fu, rfl⟩ : ∃ g, fu = g + 1 := ⟨fu - 1, by omega⟩
    obtain ⟨z, hz⟩ := ih (i + 1) v (by omega) fu (by omega)
    refine ⟨z, ?_⟩
    have e : f_X0_canRemind σ (nI i) = 0 := by
      unfold f_X0_canRemind
      rw [h12, if_pos (show nI 0 ≤ 0 by decide)]
    rw [f_X0_reminderBehind_4, h10, if_neg (nI_ge (by omega) (by omega)), e, if_pos rfl, s1]
    exact hz
theorem mn_le {x v : Int32} : mn x v = if x ≤ v then x else v := by
  unfold mn
  by_cases h : x ≤ v
  · rw [if_pos h, if_neg (fun h2 => (fa_of_lt h2).2.1 h)]
  · rw [if_neg h, if_pos (fa_of_nle h)]
theorem on_next {on pc td : Nat} (hp : 0 < pc) (h : on ≤ td) : on + pc * ((td - on) / pc + 1) = td + (pc - (td - on) % pc) := by
  have h1 := Nat.div_add_mod (td - on) pc
  have h2 := Nat.mod_lt (td - on) hp
  rw [Nat.mul_add, Nat.mul_one]
  omega
-- 82.rounds.lean.txt
def dnl (bf : Nat → Nat) : Nat → Nat → Nat
  | now, 0 => now
  | now, i + 1 => dnl bf (if now.testBit i = true then now ||| bf i else now) i
theorem dnl_lt {bf : Nat → Nat} {n : Nat} : ∀ (i now : Nat), (∀ j, j < i → bf j < 2 ^ n) → now < 2 ^ n → dnl bf now i < 2 ^ n
  | 0, now, _, h => h
  | i + 1, now, hb, h => by
    rw [dnl]
    refine dnl_lt i _ (fun j hj => hb j (by omega)) ?_
    split
    · exact or_lt h (hb i (by omega))
    · exact h
theorem dnl_or {bf : Nat → Nat} {j : Nat} : ∀ (i now : Nat), i ≤ j → dnl bf (now ||| 2 ^ j) i = dnl bf now i ||| 2 ^ j
  | 0, now, _ => rfl
  | i + 1, now, hi => by
    have hb : (now ||| 2 ^ j).testBit i = now.testBit i := by
      rw [Nat.testBit_or, two_bit, decide_eq_false (by omega), Bool.or_false]
    rw [dnl, dnl, hb]
    by_cases h : now.testBit i = true
    · rw [if_pos h, if_pos h, ← dnl_or i _ (by omega)]
      congr 1
      rw [Nat.or_assoc, Nat.or_assoc, Nat.or_comm (2 ^ j)]
    · rw [if_neg h, if_neg h]
      exact dnl_or i now (by omega)
theorem dnl_up {bf : Nat → Nat} {j : Nat} : ∀ i, j < i → dnl bf (2 ^ j) i = dnl bf (bf j) j ||| 2 ^ j
  | 0, h => absurd h (by omega)
  | i + 1, h => by
    rw [dnl, two_bit]
    by_cases e : j = i
    · subst e
      rw [if_pos (by simp), Nat.or_comm]
      exact dnl_or j _ (Nat.le_refl _)
    · rw [if_neg (by simp [e])]
      exact dnl_up i (by omega)
theorem ahead4 {σ : SS} {c : Nat} {bf : Nat → Nat} (x1 : Int32) (hc : c ≤ 8) (h1 : ∀ j, j < c → σ 1 j = nI (bf j)) :
    ∀ (i now : Nat), i ≤ c → ∀ fu, i < fu → ∃ z, f_X0_aheadOf_13 fu σ x1 (nI now) (nI i + (-1 : Int32)) = some (nI (dnl bf now i), z) := by
  intro i
  induction i with
  | zero =>
    intro now hi fu hfu
    obtain ⟨fu, rfl⟩ : ∃ g, fu = g + 1 := ⟨fu - 1, by omega⟩
    exact ⟨_, by rw [f_X0_aheadOf_13, if_pos (show nI 0 + (-1 : Int32) < 0 by decide), dnl]⟩
  | succ i ih =>
    intro now hi fu hfu
    obtain ⟨fu, rfl⟩ : ∃ g, fu = g + 1 := ⟨fu - 1, by omega⟩
    rw [pk_m1, f_X0_aheadOf_13, if_neg (nI_pos (by omega)), rg9 (by omega) (by decide), h1 i (by omega), fa_or]
    simp only [has4' _ (show i < 31 by omega)]
    rw [dnl]
    by_cases hb : now.testBit i = false
    · rw [if_pos hb, if_neg (by rw [hb]; decide)]
      exact ih now (by omega) fu (by omega)
    · rw [if_neg hb, if_pos (by simpa using hb)]
      exact ih _ (by omega) fu (by omega)
theorem sub_m1 (x : Int32) : x - (1 : Int32) = x + (-1 : Int32) := Int32.sub_eq_add_neg x 1
/-- the slots before those of a set -/
def unl (bf : Nat → Nat) (B : Nat) : Nat → Nat
  | 0 => 0
  | n + 1 => if B.testBit n = true then unl bf B n ||| bf n else unl bf B n
theorem unl_bit {bf : Nat → Nat} {B q : Nat} : ∀ n, (unl bf B n).testBit q = true ↔ ∃ s, s < n ∧ B.testBit s = true ∧ (bf s).testBit q = true
  | 0 => by
    rw [unl, Nat.zero_testBit]
    exact ⟨fun h => absurd h (by decide), fun h => by obtain ⟨s, h, -⟩ := h; omega⟩
  | n + 1 => by
    have ih := unl_bit (bf := bf) (B := B) (q := q) n
    rw [unl]
    by_cases h : B.testBit n = true
    · rw [if_pos h, Nat.testBit_or, Bool.or_eq_true, ih]
      constructor
      · rintro (⟨s, h1, h2⟩ | h1)
        · exact ⟨s, by omega, h2⟩
        · exact ⟨n, by omega, h, h1⟩
      · rintro ⟨s, h1, h2, h3⟩
        by_cases e : s = n
        · subst e; exact Or.inr h3
        · exact Or.inl ⟨s, by omega, h2, h3⟩
    · rw [if_neg h, ih]
      constructor
      · rintro ⟨s, h1, h2⟩
        exact ⟨s, by omega, h2⟩
      · rintro ⟨s, h1, h2, h3⟩
        have e : s ≠ n := fun e => h (e ▸ h2)
        exact ⟨s, by omega, h2, h3⟩
theorem mxr_iff {r : Nat → Nat} {b x : Nat} : ∀ i, mxr r b i ≤ x ↔ ∀ s, s < i → b.testBit s = true → r s + 1 ≤ x
  | 0 => ⟨fun _ s h => absurd h (by omega), fun _ => Nat.zero_le _⟩
  | i + 1 => by
    have ih := mxr_iff (r := r) (b := b) (x := x) i
    rw [mxr]
    by_cases h : b.testBit i = true
    · rw [if_pos h, Nat.max_le, ih]
      constructor
      · rintro ⟨h1, h2⟩ s hs hb
        by_cases e : s = i
        · subst e; exact h2
        · exact h1 s (by omega) hb
      · intro h1
        exact ⟨fun s hs hb => h1 s (by omega) hb, h1 i (by omega) h⟩
    · rw [if_neg h, ih]
      constructor
      · intro h1 s hs hb
        have e : s ≠ i := fun e => h (e ▸ hb)
        exact h1 s (by omega) hb
      · intro h1 s hs hb
        exact h1 s (by omega) hb
theorem mxr_ext {r r' : Nat → Nat} {b i n : Nat} (h : ∀ s, b.testBit s = true → (s < i ↔ s < n) ∧ r s = r' s) : mxr r b i = mxr r' b n := by
  have h1 : ∀ x, mxr r b i ≤ x ↔ mxr r' b n ≤ x := by
    intro x
    rw [mxr_iff, mxr_iff]
    constructor
    · intro g s hs hb
      rw [← (h s hb).2]
      exact g s ((h s hb).1.mpr hs) hb
    · intro g s hs hb
      rw [(h s hb).2]
      exact g s ((h s hb).1.mp hs) hb
  have a := (h1 (mxr r' b n)).mpr (Nat.le_refl _)
  have b := (h1 (mxr r b i)).mp (Nat.le_refl _)
  omega
theorem rl_old {bf : Nat → Nat} {q a : Nat} (h : q < a) : ∀ b, a ≤ b → rl bf b q = rl bf a q
  | 0, h2 => absurd h2 (by omega)
  | b + 1, h2 => by
    by_cases e : a = b + 1
    · rw [e]
    · rw [rl, if_neg (by omega)]
      exact rl_old h b (by omega)
theorem rl_at {bf : Nat → Nat} {c s : Nat} (hs : s < c) (hb : bf s < 2 ^ s) : rl bf c s = mxr (rl bf c) (bf s) c := by
  rw [rl_old (show s < s + 1 by omega) c (by omega), rl, if_pos rfl]
  refine mxr_ext (fun q hq => ?_)
  have hqs : q < s := by
    rcases Nat.lt_or_ge q s with h | h
    · exact h
    · rw [bit_lt hb h] at hq; cases hq
  exact ⟨⟨fun _ => by omega, fun _ => hqs⟩, (rl_old hqs c (by omega)).symm⟩
theorem mxr_step {bf : Nat → Nat} {c B : Nat} (hbf : ∀ j, j < c → bf j < 2 ^ j) (hB : B < 2 ^ c) (h0 : ¬ B = 0) (hc : c ≤ 8) : mxr (rl bf c) B c = mxr (rl bf c) (unl bf B 8) c + 1 := by
  have h1 : ∀ x, mxr (rl bf c) B c ≤ x + 1 ↔ mxr (rl bf c) (unl bf B 8) c ≤ x := by
    intro x
    rw [mxr_iff, mxr_iff]
    constructor
    · intro h q hq hu
      obtain ⟨s, hs, hb, hbq⟩ := (unl_bit 8).mp hu
      have hsc : s < c := by
        rcases Nat.lt_or_ge s c with h | h
        · exact h
        · rw [bit_lt hB h] at hb; cases hb
      have h2 := h s hsc hb
      rw [rl_at hsc (hbf s hsc)] at h2
      exact (mxr_iff (x := x) c).mp (by omega) q hq hbq
    · intro h s hs hb
      have h2 : mxr (rl bf c) (bf s) c ≤ x := (mxr_iff c).mpr (fun q hq hbq => h q hq ((unl_bit 8).mpr ⟨s, by omega, hb, hbq⟩))
      rw [← rl_at hs (hbf s hs)] at h2
      omega
  have h2 : 0 < mxr (rl bf c) B c := by
    rcases Nat.eq_zero_or_pos (mxr (rl bf c) B c) with h | h
    · exfalso
      apply h0
      apply nat_ext
      intro s
      rw [Nat.zero_testBit]
      cases hb : B.testBit s with
      | false => rfl
      | true =>
        have hsc : s < c := by
          rcases Nat.lt_or_ge s c with h | h
          · exact h
          · rw [bit_lt hB h] at hb; cases hb
        have := (mxr_iff (r := rl bf c) (x := 0) c).mp (by omega) s hsc hb
        omega
    · exact h
  have a := (h1 (mxr (rl bf c) B c - 1)).mp (by omega)
  have b := (h1 (mxr (rl bf c) (unl bf B 8) c)).mpr (Nat.le_refl _)
  omega
-- 83.orders.lean.txt
/-- the counts after the first slots of one set -/
def stp (bf : Nat → Nat) (s : Nat) (A : Nat → Nat) : Nat → Nat → Nat
  | 0 => A
  | k + 1 => if s.testBit k = false ∧ dif (bf k) s = 0 then (fun x => if x = s ||| 2 ^ k then stp bf s A k x + A s else stp bf s A k x) else stp bf s A k
def dp (bf : Nat → Nat) (c fr : Nat) : Nat → Nat → Nat
  | 0 => fun x => if x = fr then 1 else 0
  | s + 1 => stp bf s (dp bf c fr s) c
theorem or_ne {s k : Nat} (h : s.testBit k = false) : s ||| 2 ^ k ≠ s := by
  intro e
  have h2 : (s ||| 2 ^ k).testBit k = true := by rw [Nat.testBit_or, two_bit]; simp
  rw [e, h] at h2
  cases h2
theorem or_gt {s k : Nat} (h : s.testBit k = false) : s < s ||| 2 ^ k := by
  have h1 : s ≤ s ||| 2 ^ k := Nat.left_le_or
  have h2 := or_ne h
  omega
theorem stp_self {bf : Nat → Nat} {s : Nat} {A : Nat → Nat} : ∀ k, stp bf s A k s = A s
  | 0 => rfl
  | k + 1 => by
    rw [stp]
    by_cases h : s.testBit k = false ∧ dif (bf k) s = 0
    · rw [if_pos h]
      show (if s = s ||| 2 ^ k then stp bf s A k s + A s else stp bf s A k s) = A s
      rw [if_neg (fun e => or_ne h.1 e.symm)]
      exact stp_self k
    · rw [if_neg h]
      exact stp_self k
theorem stp_at {bf : Nat → Nat} {s k : Nat} {A : Nat → Nat} (h : s.testBit k = false ∧ dif (bf k) s = 0) (x : Nat) : stp bf s A (k + 1) x = if x = s ||| 2 ^ k then stp bf s A k x + A s else stp bf s A k x := by
  rw [stp, if_pos h]
theorem stp_no {bf : Nat → Nat} {s k : Nat} {A : Nat → Nat} (h : ¬ (s.testBit k = false ∧ dif (bf k) s = 0)) : stp bf s A (k + 1) = stp bf s A k := by
  rw [stp, if_neg h]
theorem stp_zero {bf : Nat → Nat} {s : Nat} {A : Nat → Nat} (h0 : A s = 0) : ∀ k, stp bf s A k = A
  | 0 => rfl
  | k + 1 => by
    funext x
    by_cases h : s.testBit k = false ∧ dif (bf k) s = 0
    · rw [stp_at h, h0, stp_zero h0 k]
      split <;> rfl
    · rw [stp_no h, stp_zero h0 k]
theorem stp_nI {bf : Nat → Nat} {s : Nat} {A : Nat → Nat} (h0 : nI (A s) = 0) (x : Nat) : ∀ k, nI (stp bf s A k x) = nI (A x)
  | 0 => rfl
  | k + 1 => by
    by_cases h : s.testBit k = false ∧ dif (bf k) s = 0
    · rw [stp_at h]
      by_cases e : x = s ||| 2 ^ k
      · rw [if_pos e, ← nI_add, h0, Int32.add_zero]
        exact stp_nI h0 x k
      · rw [if_neg e]
        exact stp_nI h0 x k
    · rw [stp_no h]
      exact stp_nI h0 x k
theorem stp_far {bf : Nat → Nat} {s c : Nat} {A : Nat → Nat} (hs : 2 ^ c - 1 ≤ s) : ∀ k, k ≤ c → stp bf s A k (2 ^ c - 1) = A (2 ^ c - 1)
  | 0, _ => rfl
  | k + 1, hk => by
    have ih := stp_far (bf := bf) (A := A) hs k (by omega)
    by_cases h : s.testBit k = false ∧ dif (bf k) s = 0
    · have h1 := or_gt h.1
      rw [stp_at h, if_neg (by omega)]
      exact ih
    · rw [stp_no h]
      exact ih
theorem dp_pre {bf : Nat → Nat} {c fr : Nat} : ∀ s, s ≤ fr → dp bf c fr s = dp bf c fr 0
  | 0, _ => rfl
  | s + 1, h => by
    have ih := dp_pre (bf := bf) (c := c) (fr := fr) s (by omega)
    show stp bf s (dp bf c fr s) c = _
    rw [ih]
    refine stp_zero ?_ c
    show (if s = fr then 1 else 0) = 0
    rw [if_neg (by omega)]
theorem dp_post {bf : Nat → Nat} {c fr : Nat} : ∀ m, dp bf c fr (2 ^ c - 1 + m) (2 ^ c - 1) = dp bf c fr (2 ^ c - 1) (2 ^ c - 1)
  | 0 => rfl
  | m + 1 => by
    show stp bf (2 ^ c - 1 + m) (dp bf c fr (2 ^ c - 1 + m)) c (2 ^ c - 1) = _
    rw [stp_far (by omega) c (Nat.le_refl _)]
    exact dp_post m
-- the reference
theorem cls8 {σ0 : SS} {fr al : Nat} (hal : al < 256) : ∀ (m i : Nat) (σ : SS), i + m = al + 1 → fr ≤ i → ∀ fu, m < fu → (∀ x, x ≠ 17 → σ x = σ0 x) → (∀ x, fr ≤ x → x < i → σ 17 x = 0) →
    ∃ σ' z, f_X0_ordersBehind_8 fu σ (nI fr) (nI al) (nI i) = some (σ', z) ∧ (∀ x, x ≠ 17 → σ' x = σ0 x) ∧ ∀ x, fr ≤ x → x ≤ al → σ' 17 x = 0 := by
  intro m
  induction m with
  | zero =>
    intro i σ hi hfr fu hfu ha hb
    obtain ⟨fu, rfl⟩ : ∃ g, fu = g + 1 := ⟨fu - 1, by omega⟩
    exact ⟨σ, nI i, by rw [f_X0_ordersBehind_8, if_pos (nI_lt (by omega) (by omega))], ha, fun x h1 h2 => hb x h1 (by omega)⟩
  | succ m ih =>
    intro i σ hi hfr fu hfu ha hb
    obtain ⟨fu, rfl⟩ : ∃ g, fu = g + 1 := ⟨fu - 1, by omega⟩
    rw [f_X0_ordersBehind_8, if_neg (nI_nlt (by omega) (by omega)), s1, rs9 (show i < 256 by omega) (by decide)]
    simp only [lt]
    refine ih (i + 1) _ (by omega) (by omega) fu (by omega) (fun x hx => by rw [up_ne hx, ha x hx]) (fun x h1 h2 => ?_)
    rw [up_eq]
    by_cases e : x = i
    · subst e
      exact upd_eq
    · rw [upd_ne e]
      exact hb x h1 (by omega)
theorem cls70z {σ : SS} {c : Nat} (x1 x3 x4 x5 : Int32) (hc : c ≤ 8) (h10 : σ 10 0 = nI c) : ∀ (m i : Nat), i + m = c → ∀ fu, m < fu → ∃ z, f_X0_ordersBehind_70 fu σ x1 x3 x4 x5 (nI 0) (nI i) = some (σ, z) := by
  intro m
  induction m with
  | zero =>
    intro i hi fu hfu
    obtain ⟨fu, rfl⟩ : ∃ g, fu = g + 1 := ⟨fu - 1, by omega⟩
    obtain rfl : i = c := by omega
    exact ⟨_, by rw [f_X0_ordersBehind_70, h10, if_pos (nI_le (Nat.le_refl _) (by omega))]⟩
  | succ m ih =>
    intro i hi fu hfu
    obtain ⟨fu, rfl⟩ : ∃ g, fu = g + 1 := ⟨fu - 1, by omega⟩
    obtain ⟨z, hz⟩ := ih (i + 1) (by omega) fu (by omega)
    refine ⟨z, ?_⟩
    rw [f_X0_ordersBehind_70, h10, if_neg (nI_ge (by omega) (by omega)), s1]
    simp only [has4' _ (show i < 31 by omega)]
    rw [if_pos (Nat.zero_testBit i)]
    exact hz
theorem cls70 {σ0 : SS} {c s fr : Nat} {bf A : Nat → Nat} (x1 x3 : Int32) (hc : c ≤ 8) (h10 : σ0 10 0 = nI c) (hs : s < 2 ^ c) (hfr : fr ≤ s) :
    ∀ (m i : Nat) (σ : SS), i + m = c → ∀ fu, m < fu → (∀ x, x ≠ 17 → σ x = σ0 x) → (∀ x, fr ≤ x → x < 2 ^ c → σ 17 x = nI (stp bf s A i x)) →
    ∃ σ' z, f_X0_ordersBehind_70 fu σ x1 x3 (nI s) (nI (A s)) (nI (dif (rdy bf s c) s)) (nI i) = some (σ', z) ∧ (∀ x, x ≠ 17 → σ' x = σ0 x) ∧ ∀ x, fr ≤ x → x < 2 ^ c → σ' 17 x = nI (stp bf s A c x) := by
  have hp := pu_p8 hc
  intro m
  induction m with
  | zero =>
    intro i σ hi fu hfu ha hb
    obtain ⟨fu, rfl⟩ : ∃ g, fu = g + 1 := ⟨fu - 1, by omega⟩
    obtain rfl : i = c := by omega
    exact ⟨σ, nI i, by rw [f_X0_ordersBehind_70, ha 10 (by decide), h10, if_pos (nI_le (Nat.le_refl _) (by omega))], ha, hb⟩
  | succ m ih =>
    intro i σ hi fu hfu ha hb
    obtain ⟨fu, rfl⟩ : ∃ g, fu = g + 1 := ⟨fu - 1, by omega⟩
    have hic : i < c := by omega
    have hbit : (dif (rdy bf s c) s).testBit i = false ↔ ¬ (s.testBit i = false ∧ dif (bf i) s = 0) := by
      rw [dif_bit, rdy_bit]
      by_cases hd : dif (bf i) s = 0 <;> cases s.testBit i <;> simp [hic, hd]
    rw [f_X0_ordersBehind_70, ha 10 (by decide), h10, if_neg (nI_ge hic (by omega)), s1, i_one (show i < 32 by omega), fa_or]
    simp only [has4' _ (show i < 31 by omega)]
    by_cases hn : (dif (rdy bf s c) s).testBit i = false
    · rw [if_pos hn]
      exact ih (i + 1) σ (by omega) fu (by omega) ha (fun x h1 h2 => by rw [stp_no (hbit.mp hn)]; exact hb x h1 h2)
    · have hcd : s.testBit i = false ∧ dif (bf i) s = 0 := Classical.byContradiction fun h => hn (hbit.mpr h)
      have hor : s ||| 2 ^ i < 2 ^ c := or_lt hs (Nat.pow_lt_pow_right (by decide) hic)
      have hgt := or_gt hcd.1
      rw [if_neg hn, rs9 (show s ||| 2 ^ i < 256 by omega) (by decide), rg9 (show s ||| 2 ^ i < 256 by omega) (by decide)]
      simp only [lt]
      refine ih (i + 1) _ (by omega) fu (by omega) (fun x hx => by rw [up_ne hx, ha x hx]) (fun x h1 h2 => ?_)
      rw [up_eq, stp_at hcd]
      by_cases e : x = s ||| 2 ^ i
      · subst e
        rw [upd_eq, if_pos rfl, hb _ (by omega) hor, nI_add]
      · rw [upd_ne e, if_neg e]
        exact hb x h1 h2
theorem cls36 {σ0 : SS} {c fr : Nat} {bf : Nat → Nat} (hc : c ≤ 8) (h10 : σ0 10 0 = nI c) (hbf : ∀ j, j < c → bf j < 2 ^ 8) (h1 : ∀ j, j < c → σ0 1 j = nI (bf j)) :
    ∀ (m i : Nat) (σ : SS), i + m = 2 ^ c - 1 → fr ≤ i → ∀ fu, m < fu → (∀ x, x ≠ 17 → σ x = σ0 x) → (∀ x, fr ≤ x → x < 2 ^ c → σ 17 x = nI (dp bf c fr i x)) →
    ∃ σ' z, f_X0_ordersBehind_36 fu σ (nI fr) (nI (2 ^ c - 1)) (nI i) = some (σ', z) ∧ (∀ x, x ≠ 17 → σ' x = σ0 x) ∧ ∀ x, fr ≤ x → x < 2 ^ c → σ' 17 x = nI (dp bf c fr (2 ^ c - 1) x) := by
  have hp := pu_p8 hc
  have hpos := Nat.two_pow_pos c
  intro m
  induction m with
  | zero =>
    intro i σ hi hfr fu hfu ha hb
    obtain ⟨fu, rfl⟩ : ∃ g, fu = g + 1 := ⟨fu - 1, by omega⟩
    obtain rfl : i = 2 ^ c - 1 := by omega
    exact ⟨σ, nI (2 ^ c - 1), by rw [f_X0_ordersBehind_36, if_pos (nI_le (Nat.le_refl _) (by omega))], ha, hb⟩
  | succ m ih =>
    intro i σ hi hfr fu hfu ha hb
    obtain ⟨fu, rfl⟩ : ∃ g, fu = g + 1 := ⟨fu - 1, by omega⟩
    have hi2 : i < 2 ^ c := by omega
    rw [f_X0_ordersBehind_36, if_neg (nI_ge (by omega) (by omega)), rg9 (show i < 256 by omega) (by decide), hb i hfr hi2, s1]
    by_cases h0 : nI (dp bf c fr i i) = 0
    · obtain ⟨z, hz⟩ := cls70z (σ := σ) (nI fr) (nI (2 ^ c - 1)) (nI i) (nI (dp bf c fr i i)) hc (by rw [ha 10 (by decide)]; exact h10) c 0 (by omega) FU (by unfold FU; omega)
      have hz : f_X0_ordersBehind_70 FU σ (nI fr) (nI (2 ^ c - 1)) (nI i) (nI (dp bf c fr i i)) 0 0 = some (σ, z) := hz
      rw [if_pos h0, hz, Option.bind_some]
      exact ih (i + 1) σ (by omega) (by omega) fu (by omega) ha (fun x h1 h2 => by rw [dp, stp_nI h0]; exact hb x h1 h2)
    · obtain ⟨σ2, z2, l1, l2, l3⟩ := cls70 (σ0 := σ0) (bf := bf) (A := dp bf c fr i) (nI fr) (nI (2 ^ c - 1)) hc h10 hi2 hfr c 0 σ (by omega) FU (by unfold FU; omega) ha hb
      have l1 : f_X0_ordersBehind_70 FU σ (nI fr) (nI (2 ^ c - 1)) (nI i) (nI (dp bf c fr i i)) (nI (dif (rdy bf i c) i)) 0 = some (σ2, z2) := l1
      rw [if_neg h0, next_spec i hc (by rw [ha 10 (by decide)]; exact h10) hbf (fun j hj => by rw [ha 1 (by decide)]; exact h1 j hj), Option.bind_some, l1, Option.bind_some]
      exact ih (i + 1) σ2 (by omega) (by omega) fu (by omega) l2 l3
theorem behind_spec {σ : SS} {c fr : Nat} {bf : Nat → Nat} (hc : c ≤ 8) (h10 : σ 10 0 = nI c) (hbf : ∀ j, j < c → bf j < 2 ^ 8) (h1 : ∀ j, j < c → σ 1 j = nI (bf j)) (hfr : fr < 2 ^ c) :
    ∃ σ', f_X0_ordersBehind σ (nI fr) = some (nI (dp bf c fr (2 ^ c - 1) (2 ^ c - 1)), σ') ∧ ∀ x, x ≠ 17 → σ' x = σ x := by
  have hp := pu_p8 hc
  have hpos := Nat.two_pow_pos c
  have hall : f_X0_allSlots σ = nI (2 ^ c - 1) := by unfold f_X0_allSlots; rw [h10, i_all hc]
  obtain ⟨σ1, z1, b1, b2, b3⟩ := cls8 (σ0 := σ) (fr := fr) (al := 2 ^ c - 1) (by omega) (2 ^ c - fr) fr σ (by omega) (Nat.le_refl _) FU (by unfold FU; omega) (fun _ _ => rfl) (fun x h1 h2 => absurd h2 (by omega))
  obtain ⟨σ2, z2, a1, a2, a3⟩ := cls36 (σ0 := σ) (fr := fr) (bf := bf) hc h10 hbf h1 (2 ^ c - 1 - fr) fr (va_up σ1 17 (upd (σ1 17) fr 1)) (by omega) (Nat.le_refl _) FU (by unfold FU; omega) (fun x hx => by rw [up_ne hx, b2 x hx]) (fun x h1 h2 => by
    rw [up_eq, dp_pre fr (Nat.le_refl _)]
    show _ = nI (if x = fr then 1 else 0)
    by_cases e : x = fr
    · subst e
      rw [upd_eq, if_pos rfl]
      rfl
    · rw [upd_ne e, if_neg e, b3 x h1 (by omega)]
      rfl)
  refine ⟨σ2, ?_, a2⟩
  unfold f_X0_ordersBehind
  rw [hall, b1, Option.bind_some, rs9 (show fr < 256 by omega) (by decide)]
  simp only [lt]
  rw [a1, Option.bind_some]
  show some (rg 256 (σ2 17) (nI (2 ^ c - 1)), σ2) = _
  rw [rg9 (show 2 ^ c - 1 < 256 by omega) (by decide), a3 _ (by omega) (by omega)]
-- the calls
theorem ClsE.ways {σ σ' : SS} {c len pc tm : Nat} {bf pr K sl dy : Nat → Nat} {pe se : Nat → Int32} (h : ClsE σ c len pc tm bf pr K sl dy pe se) (g : ∀ x, x ≠ 17 → σ' x = σ x) : ClsE σ' c len pc tm bf pr K sl dy pe se := by
  obtain ⟨c10, c12, c13, c9, cr, ce, c11, c15, c16, c4, c3, c14⟩ := h
  refine ⟨by rw [g 10 (by decide)]; exact c10, by rw [g 12 (by decide)]; exact c12, by rw [g 13 (by decide)]; exact c13, by rw [g 9 (by decide)]; exact c9, fun j hj => ?_, fun i hi => ?_, by rw [g 11 (by decide)]; exact c11, by rw [g 15 (by decide)]; exact c15, by rw [g 16 (by decide)]; exact c16, fun j hj => ?_, fun j hj => ?_, fun h => ?_⟩
  · rw [g 0 (by decide), g 1 (by decide), g 2 (by decide)]; exact cr j hj
  · rw [g 5 (by decide), g 6 (by decide), g 7 (by decide), g 8 (by decide)]; exact ce i hi
  · rw [g 4 (by decide)]; exact c4 j hj
  · rw [g 3 (by decide)]; exact c3 j hj
  · rw [g 14 (by decide)]; exact c14 h
-- 84.byall.lean.txt
/-- in how many ways m slots more can be signed behind a set -/
def tr (bf : Nat → Nat) (c : Nat) : Nat → Nat → Nat
  | 0, _ => 1
  | m + 1, s => smj (fun k => if s.testBit k = false ∧ dif (bf k) s = 0 then tr bf c m (s ||| 2 ^ k) else 0) c
theorem try30 {σ : SS} {c s m : Nat} {bf : Nat → Nat} {rec : Int32 → Int32 → Option Int32} (x1 : Int32) (d : Nat) (hc : c ≤ 8) (h10 : σ 10 0 = nI c) (hx1 : x1 = nI s) (hrec : ∀ i, i < c → (s.testBit i = false ∧ dif (bf i) s = 0) → rec (nI (s ||| 2 ^ i)) (nI (d + 1)) = some (nI (tr bf c m (s ||| 2 ^ i)))) :
    ∀ (q i : Nat), i + q = c → ∀ fu, q < fu → ∃ z, f_X4_countByTrying_30 rec fu σ x1 (nI d) (nI (dif (rdy bf s c) s)) (nI (smj (fun k => if s.testBit k = false ∧ dif (bf k) s = 0 then tr bf c m (s ||| 2 ^ k) else 0) i)) (nI i) = some (nI (smj (fun k => if s.testBit k = false ∧ dif (bf k) s = 0 then tr bf c m (s ||| 2 ^ k) else 0) c), z) := by
  subst hx1
  intro q
  induction q with
  | zero =>
    intro i hi fu hfu
    obtain ⟨fu, rfl⟩ : ∃ g, fu = g + 1 := ⟨fu - 1, by omega⟩
    obtain rfl : i = c := by omega
    exact ⟨_, by rw [f_X4_countByTrying_30, h10, if_pos (nI_le (Nat.le_refl _) (by omega))]⟩
  | succ q ih =>
    intro i hi fu hfu
    obtain ⟨fu, rfl⟩ : ∃ g, fu = g + 1 := ⟨fu - 1, by omega⟩
    have hic : i < c := by omega
    obtain ⟨z, hz⟩ := ih (i + 1) (by omega) fu (by omega)
    refine ⟨z, ?_⟩
    have hbit : (dif (rdy bf s c) s).testBit i = false ↔ ¬ (s.testBit i = false ∧ dif (bf i) s = 0) := by
      rw [dif_bit, rdy_bit]
      by_cases hd : dif (bf i) s = 0 <;> cases s.testBit i <;> simp [hic, hd]
    rw [f_X4_countByTrying_30, h10, if_neg (nI_ge hic (by omega)), s1, s1, i_one (show i < 32 by omega), fa_or]
    simp only [has4' _ (show i < 31 by omega)]
    rw [smj] at hz
    by_cases hn : (dif (rdy bf s c) s).testBit i = false
    · rw [if_pos hn]
      rw [if_neg (hbit.mp hn), Nat.add_zero] at hz
      exact hz
    · have hcd : s.testBit i = false ∧ dif (bf i) s = 0 := Classical.byContradiction fun h => hn (hbit.mpr h)
      rw [if_pos hcd] at hz
      rw [if_neg hn, hrec i hic hcd, Option.bind_some, nI_add]
      exact hz
theorem try_spec {σ : SS} {c : Nat} {bf : Nat → Nat} (hc : c ≤ 8) (h10 : σ 10 0 = nI c) (hbf : ∀ j, j < c → bf j < 2 ^ 8) (h1 : ∀ j, j < c → σ 1 j = nI (bf j)) :
    ∀ (m d s N : Nat), d + m = c → m < N → f_X4_countByTrying σ N (nI s) (nI d) = some (nI (tr bf c m s)) := by
  intro m
  induction m with
  | zero =>
    intro d s N hd hN
    obtain ⟨N, rfl⟩ : ∃ g, N = g + 1 := ⟨N - 1, by omega⟩
    obtain rfl : d = c := by omega
    rw [f_X4_countByTrying, h10, if_neg (nI_nlt (Nat.le_refl _) (by omega)), tr]
    rfl
  | succ m ih =>
    intro d s N hd hN
    obtain ⟨N, rfl⟩ : ∃ g, N = g + 1 := ⟨N - 1, by omega⟩
    obtain ⟨z, hz⟩ := try30 (σ := σ) (s := s) (m := m) (bf := bf) (rec := f_X4_countByTrying σ N) (nI s) d hc h10 rfl (fun i hi _ => ih (d + 1) (s ||| 2 ^ i) N (by omega) (by omega)) c 0 (by omega) FU (by unfold FU; omega)
    have hz : f_X4_countByTrying_30 (f_X4_countByTrying σ N) FU σ (nI s) (nI d) (nI (dif (rdy bf s c) s)) 0 0 = some (nI (tr bf c (m + 1) s), z) := hz
    rw [f_X4_countByTrying, h10, if_pos (nI_lt (by omega) (by omega)), if_pos (show nI d < 8 from nI_lt (b := 8) (by omega) (by decide)), next_spec s hc h10 hbf h1, Option.bind_some, hz]
    rfl
theorem smj_point {f g : Nat → Nat} {p v : Nat} (h1 : g p = f p + v) (h2 : ∀ x, x ≠ p → g x = f x) : ∀ n, p < n → smj g n = smj f n + v
  | 0, h => absurd h (by omega)
  | n + 1, h => by
    rw [smj, smj]
    by_cases e : p = n
    · subst e
      rw [h1, smj_cong p (fun x hx => h2 x (by omega)), Nat.add_assoc]
    · rw [smj_point h1 h2 n (by omega), h2 n (fun q => e q.symm)]
      omega
def TT (bf : Nat → Nat) (c s : Nat) : Nat := tr bf c (c - pcn s) s
theorem TT_step {bf : Nat → Nat} {c s : Nat} (hc : c ≤ 8) (hs : s < 2 ^ c) (hne : s ≠ 2 ^ c - 1) : TT bf c s = smj (fun k => if s.testBit k = false ∧ dif (bf k) s = 0 then TT bf c (s ||| 2 ^ k) else 0) c := by
  have h1 := pcn_c hc hs
  have h2 : pcn s ≠ c := fun e => hne ((pcn_all hc hs).mp e)
  have h3 : c - pcn s = c - pcn s - 1 + 1 := by omega
  unfold TT
  rw [h3, tr]
  refine smj_cong c (fun k hk => ?_)
  by_cases h : s.testBit k = false ∧ dif (bf k) s = 0
  · rw [if_pos h, if_pos h, pcn_add (lt8 hs hc) (by omega) h.1]
    congr 1
  · rw [if_neg h, if_neg h]
theorem sum_in {bf A : Nat → Nat} {c s : Nat} (hs : s < 2 ^ c) : ∀ i, i ≤ c → smj (fun x => if s < x then stp bf s A i x * TT bf c x else 0) (2 ^ c) = smj (fun x => if s < x then A x * TT bf c x else 0) (2 ^ c) + A s * smj (fun k => if s.testBit k = false ∧ dif (bf k) s = 0 then TT bf c (s ||| 2 ^ k) else 0) i
  | 0, _ => rfl
  | i + 1, hi => by
    have ih := sum_in (bf := bf) (A := A) hs i (by omega)
    rw [smj]
    by_cases h : s.testBit i = false ∧ dif (bf i) s = 0
    · have hor : s ||| 2 ^ i < 2 ^ c := or_lt hs (Nat.pow_lt_pow_right (by decide) (by omega))
      have hgt := or_gt h.1
      rw [if_pos h, Nat.mul_add, ← Nat.add_assoc, ← ih]
      refine smj_point (p := s ||| 2 ^ i) ?_ (fun x hx => ?_) _ hor
      · show (if s < s ||| 2 ^ i then stp bf s A (i + 1) (s ||| 2 ^ i) * TT bf c (s ||| 2 ^ i) else 0) = (if s < s ||| 2 ^ i then stp bf s A i (s ||| 2 ^ i) * TT bf c (s ||| 2 ^ i) else 0) + A s * TT bf c (s ||| 2 ^ i)
        rw [if_pos hgt, if_pos hgt, stp_at h, if_pos rfl, Nat.add_mul]
      · show (if s < x then stp bf s A (i + 1) x * TT bf c x else 0) = (if s < x then stp bf s A i x * TT bf c x else 0)
        rw [stp_at h, if_neg hx]
    · rw [if_neg h, Nat.add_zero, stp_no h]
      exact ih
theorem sum_inv {bf : Nat → Nat} {c : Nat} (hc : c ≤ 8) : ∀ s, s ≤ 2 ^ c - 1 → smj (fun x => if s ≤ x then dp bf c 0 s x * TT bf c x else 0) (2 ^ c) = TT bf c 0
  | 0, _ => by
    rw [smj_point (f := fun _ => 0) (p := 0) (v := TT bf c 0) ?_ (fun x hx => ?_) _ (Nat.two_pow_pos c), smj_0, Nat.zero_add]
    · show (if 0 ≤ 0 then (if 0 = 0 then 1 else 0) * TT bf c 0 else 0) = 0 + TT bf c 0
      rw [if_pos (Nat.le_refl _), if_pos rfl, Nat.one_mul, Nat.zero_add]
    · show (if 0 ≤ x then (if x = 0 then 1 else 0) * TT bf c x else 0) = 0
      rw [if_neg hx, Nat.zero_mul, ite_self]
  | s + 1, h => by
    have ih := sum_inv (bf := bf) hc s (by omega)
    have hpos := Nat.two_pow_pos c
    have hs : s < 2 ^ c := by omega
    have h1 := sum_in (bf := bf) (A := dp bf c 0 s) hs c (Nat.le_refl _)
    rw [← TT_step hc hs (by omega)] at h1
    have h2 : smj (fun x => if s ≤ x then dp bf c 0 s x * TT bf c x else 0) (2 ^ c) = smj (fun x => if s < x then dp bf c 0 s x * TT bf c x else 0) (2 ^ c) + dp bf c 0 s s * TT bf c s := by
      refine smj_point (p := s) ?_ (fun x hx => ?_) _ hs
      · show (if s ≤ s then dp bf c 0 s s * TT bf c s else 0) = (if s < s then dp bf c 0 s s * TT bf c s else 0) + dp bf c 0 s s * TT bf c s
        rw [if_pos (Nat.le_refl _), if_neg (Nat.lt_irrefl _), Nat.zero_add]
      · show (if s ≤ x then dp bf c 0 s x * TT bf c x else 0) = (if s < x then dp bf c 0 s x * TT bf c x else 0)
        by_cases e : s < x
        · rw [if_pos (by omega), if_pos e]
        · rw [if_neg (by omega), if_neg e]
    rw [← ih, h2, ← h1]
    refine smj_cong _ (fun x _ => ?_)
    show (if s + 1 ≤ x then dp bf c 0 (s + 1) x * TT bf c x else 0) = (if s < x then stp bf s (dp bf c 0 s) c x * TT bf c x else 0)
    rfl
theorem orders_eq {bf : Nat → Nat} {c : Nat} (hc : c ≤ 8) : dp bf c 0 (2 ^ c - 1) (2 ^ c - 1) = tr bf c c 0 := by
  have hpos := Nat.two_pow_pos c
  have h := sum_inv (bf := bf) hc (2 ^ c - 1) (Nat.le_refl _)
  have h0 : TT bf c 0 = tr bf c c 0 := by
    unfold TT
    rw [show pcn 0 = 0 by decide, Nat.sub_zero]
  have h1 : TT bf c (2 ^ c - 1) = 1 := by
    unfold TT
    rw [(pcn_all hc (show 2 ^ c - 1 < 2 ^ c by omega)).mpr rfl, Nat.sub_self, tr]
  have h2 : smj (fun x => if 2 ^ c - 1 ≤ x then dp bf c 0 (2 ^ c - 1) x * TT bf c x else 0) (2 ^ c) = smj (fun x => if x = 2 ^ c - 1 then dp bf c 0 (2 ^ c - 1) (2 ^ c - 1) else 0) (2 ^ c) := by
    refine smj_cong _ (fun x hx => ?_)
    by_cases e : x = 2 ^ c - 1
    · rw [e, if_pos (Nat.le_refl _), if_pos rfl, h1, Nat.mul_one]
    · rw [if_neg (by omega), if_neg e]
  have h3 : smj (fun x => if x = 2 ^ c - 1 then dp bf c 0 (2 ^ c - 1) (2 ^ c - 1) else 0) (2 ^ c) = smj (fun _ => 0) (2 ^ c) + dp bf c 0 (2 ^ c - 1) (2 ^ c - 1) := smj_point (p := 2 ^ c - 1) (by rw [if_pos rfl, Nat.zero_add]) (fun x hx => if_neg hx) _ (by omega)
  rw [h2, h3, smj_0, Nat.zero_add, h0] at h
  exact h