/-! BITS of longs, and how many there are (the first rows: kit/laws/BITS.to-paste, COUNTS.to-paste) -/
/-! ===== Int64 as an unsigned number: uN x ===== -/
def uN (x : Int64) : Nat := x.toUInt64.toNat
theorem uN_lt (x : Int64) : uN x < 18446744073709551616 := x.toUInt64.toNat_lt
theorem uN_inj {x y : Int64} (h : uN x = uN y) : x = y := congrArg UInt64.toInt64 (UInt64.toNat_inj.mp h)
theorem uN_add (x y : Int64) : uN (x + y) = (uN x + uN y) % 18446744073709551616 := by
  show (x.toUInt64 + y.toUInt64).toNat = _
  exact UInt64.toNat_add _ _
theorem uN_mul (x y : Int64) : uN (x * y) = (uN x * uN y) % 18446744073709551616 := by
  show (x.toUInt64 * y.toUInt64).toNat = _
  exact UInt64.toNat_mul _ _
theorem uN_shl (x : Int64) : uN (x <<< ((1 : Int32).toInt64 &&& 63)) = (2 * uN x) % 18446744073709551616 := by
  have h : (((1 : Int32).toInt64 &&& 63).toBitVec.smod 64).toNat = 1 := by decide
  show (x.toBitVec <<< (((1 : Int32).toInt64 &&& 63).toBitVec.smod 64).toNat).toNat = _
  rw [h, BitVec.toNat_shiftLeft, Nat.shiftLeft_eq, Nat.mul_comm]
  rfl
theorem uN_shr (x : Int64) (s : UInt64) : uN (x.toUInt64 >>> s).toInt64 = uN x / 2 ^ (s.toNat % 64) := by
  show (x.toUInt64 >>> s).toNat = _
  rw [UInt64.toNat_shiftRight, Nat.shiftRight_eq_div_pow]
  rfl
theorem uN_s32 (x : Int64) : uN (x.toUInt64 >>> ((32 : Int32).toInt64.toUInt64 &&& Int64.toUInt64 63)).toInt64 = uN x / 4294967296 := by
  have h : ((32 : Int32).toInt64.toUInt64 &&& Int64.toUInt64 63).toNat % 64 = 32 := by decide
  rw [uN_shr, h]
theorem uN_s63 (x : Int64) : uN (x.toUInt64 >>> ((63 : Int32).toInt64.toUInt64 &&& Int64.toUInt64 63)).toInt64 = uN x / 9223372036854775808 := by
  have h : ((63 : Int32).toInt64.toUInt64 &&& Int64.toUInt64 63).toNat % 64 = 63 := by decide
  rw [uN_shr, h]
theorem uN_lo (x : Int64) : uN (x &&& 4294967295) = uN x % 4294967296 := by
  show (x.toUInt64 &&& Int64.toUInt64 4294967295).toNat = _
  rw [UInt64.toNat_and]
  exact Nat.and_two_pow_sub_one_eq_mod _ 32
theorem uN_bit (x : Int64) : (x &&& 1) = 0 ↔ uN x % 2 = 0 := by
  have h : uN (x &&& 1) = uN x % 2 := by
    show (x.toUInt64 &&& Int64.toUInt64 1).toNat = _
    rw [UInt64.toNat_and]
    exact Nat.and_two_pow_sub_one_eq_mod _ 1
  rw [← h]
  exact ⟨fun z => by rw [z]; rfl, fun z => uN_inj (z.trans rfl)⟩
theorem uN_or {x y : Int64} (hy : uN y < 2) : uN ((x <<< ((1 : Int32).toInt64 &&& 63)) ||| y) = (2 * uN x) % 18446744073709551616 + uN y := by
  have h1 : uN ((x <<< ((1 : Int32).toInt64 &&& 63)) ||| y) = uN (x <<< ((1 : Int32).toInt64 &&& 63)) ||| uN y := UInt64.toNat_or _ _
  have h2 : (2 * uN x) % 18446744073709551616 = 2 ^ 1 * (uN x % 9223372036854775808) := by omega
  rw [h1, uN_shl, h2]
  exact (Nat.two_pow_add_eq_or_of_lt (i := 1) hy _).symm
theorem nat_xor {a : Nat} (h : a < 18446744073709551616) : a ^^^ 2 ^ 63 = (a + 9223372036854775808) % 18446744073709551616 := by
  have h1 : (a ^^^ 2 ^ 63) % 2 ^ 63 = a % 2 ^ 63 := by rw [Nat.xor_mod_two_pow, Nat.mod_self, Nat.xor_zero]
  have h2 : (a ^^^ 2 ^ 63) / 2 ^ 63 = (a / 2 ^ 63) ^^^ 1 := by rw [Nat.xor_div_two_pow, Nat.div_self (Nat.two_pow_pos 63)]
  have h3 : a / 2 ^ 63 = 0 ∨ a / 2 ^ 63 = 1 := by omega
  generalize a ^^^ 2 ^ 63 = t at h1 h2
  rcases h3 with h3 | h3
  · rw [h3] at h2
    have h2 : t / 2 ^ 63 = 1 := h2
    omega
  · rw [h3] at h2
    have h2 : t / 2 ^ 63 = 0 := h2
    omega
theorem uN_xor (x : Int64) : uN (x ^^^ (-9223372036854775808)) = (uN x + 9223372036854775808) % 18446744073709551616 := by
  rw [← nat_xor (uN_lt x)]
  exact UInt64.toNat_xor _ _
theorem uN_int (x : Int64) : x.toInt = if 2 * uN x < 18446744073709551616 then (uN x : Int) else (uN x : Int) - 18446744073709551616 := BitVec.toInt_eq_toNat_cond _
theorem uN_le (x y : Int64) : (x ^^^ (-9223372036854775808)) ≤ (y ^^^ (-9223372036854775808)) ↔ uN x ≤ uN y := by
  have hx := uN_lt x
  have hy := uN_lt y
  rw [Int64.le_iff_toInt_le, uN_int, uN_int, uN_xor, uN_xor]
  omega
theorem uN_sk (x : Int64) {k : Nat} (hk : k < 64) : uN (x.toUInt64 >>> ((nI k).toInt64.toUInt64 &&& Int64.toUInt64 63)).toInt64 = uN x / 2 ^ k := by
  have h : ((nI k).toInt64.toUInt64 &&& Int64.toUInt64 63).toNat % 64 = k := by
    rw [nI_l (by omega), UInt64.toNat_and]
    have e : (lN k).toUInt64.toNat = k % 2 ^ 64 := rfl
    have e2 : (Int64.toUInt64 63).toNat = 2 ^ 6 - 1 := by decide
    rw [e, e2, Nat.and_two_pow_sub_one_eq_mod]
    omega
  rw [uN_shr, h]
def fb_ct (p : Nat → Bool) : Nat → Nat
  | 0 => 0
  | n + 1 => fb_ct p n + (if p n then 1 else 0)
theorem fb_ct_succ (p : Nat → Bool) (n : Nat) : fb_ct p (n + 1) = fb_ct p n + (if p n then 1 else 0) := rfl
theorem fb_ct_le (p : Nat → Bool) : ∀ n, fb_ct p n ≤ n
  | 0 => Nat.le_refl _
  | n + 1 => by
    have h := fb_ct_le p n
    rw [fb_ct_succ]
    split <;> omega
theorem fb_ct_step (p : Nat → Bool) (m : Nat) : ∀ n, fb_ct p m ≤ fb_ct p (m + n)
  | 0 => Nat.le_refl _
  | n + 1 => by
    have h := fb_ct_step p m n
    show fb_ct p m ≤ fb_ct p (m + n + 1)
    rw [fb_ct_succ]
    omega
theorem fb_ct_mono (p : Nat → Bool) {m n : Nat} (h : m ≤ n) : fb_ct p m ≤ fb_ct p n := by
  have := fb_ct_step p m (n - m)
  rwa [Nat.add_sub_cancel' h] at this
theorem fb_ct_cong {p q : Nat → Bool} : ∀ {n : Nat}, (∀ k, k < n → p k = q k) → fb_ct p n = fb_ct q n
  | 0, _ => rfl
  | n + 1, h => by
    rw [fb_ct_succ, fb_ct_succ, fb_ct_cong (fun k hk => h k (by omega)), h n (by omega)]
/-- one place changed -/
theorem fb_ct_out (p : Nat → Bool) (b : Bool) {i n : Nat} (h : n ≤ i) : fb_ct (fun k => if k = i then b else p k) n = fb_ct p n :=
  fb_ct_cong fun k hk => if_neg (by omega)
theorem fb_ct_upd (p : Nat → Bool) (b : Bool) {i : Nat} : ∀ {n : Nat}, i < n → fb_ct (fun k => if k = i then b else p k) n + (if p i then 1 else 0) = fb_ct p n + (if b then 1 else 0)
  | 0, h => absurd h (Nat.not_lt_zero i)
  | n + 1, h => by
    rw [fb_ct_succ, fb_ct_succ]
    rcases Nat.lt_or_ge i n with q | q
    · have := fb_ct_upd p b q
      have e : (if n = i then b else p n) = p n := if_neg (by omega)
      rw [e]
      omega
    · have e : i = n := by omega
      subst e
      rw [fb_ct_out p b (Nat.le_refl _)]
      simp only [if_true]
      omega
theorem fb_ct_sub {p q : Nat → Bool} : ∀ {n : Nat}, (∀ k, k < n → p k = true → q k = true) → fb_ct p n ≤ fb_ct q n
  | 0, _ => Nat.le_refl _
  | n + 1, h => by
    have h1 := fb_ct_sub (n := n) (p := p) (q := q) (fun k hk => h k (by omega))
    have h2 := h n (by omega)
    rw [fb_ct_succ, fb_ct_succ]
    cases hp : p n <;> cases hq : q n <;> simp_all <;> omega
theorem fb_ct_or {p q : Nat → Bool} : ∀ {n : Nat}, (∀ k, k < n → ¬ (p k = true ∧ q k = true)) → fb_ct (fun k => p k || q k) n = fb_ct p n + fb_ct q n
  | 0, _ => rfl
  | n + 1, h => by
    have h1 := fb_ct_or (n := n) (p := p) (q := q) (fun k hk => h k (by omega))
    have h2 := h n (by omega)
    rw [fb_ct_succ, fb_ct_succ, fb_ct_succ, h1]
    cases hp : p n <;> cases hq : q n <;> simp_all <;> omega
theorem fb_ct_not (p : Nat → Bool) : ∀ n, fb_ct p n + fb_ct (fun k => !p k) n = n
  | 0 => rfl
  | n + 1 => by
    have h := fb_ct_not p n
    rw [fb_ct_succ, fb_ct_succ]
    cases p n <;> simp <;> omega
theorem fb_ct_split (p : Nat → Bool) (m : Nat) : ∀ n, fb_ct p (m + n) = fb_ct p m + fb_ct (fun k => p (m + k)) n
  | 0 => rfl
  | n + 1 => by
    have h := fb_ct_split p m n
    show fb_ct p (m + n + 1) = _
    rw [fb_ct_succ, fb_ct_succ, h, Nat.add_assoc]
theorem fb_ct_zero {p : Nat → Bool} : ∀ {n : Nat}, fb_ct p n = 0 ↔ ∀ k, k < n → p k = false
  | 0 => ⟨fun _ k hk => absurd hk (Nat.not_lt_zero k), fun _ => rfl⟩
  | n + 1 => by
    have h := fb_ct_zero (p := p) (n := n)
    rw [fb_ct_succ]
    constructor
    · intro e k hk
      have e1 : fb_ct p n = 0 := by omega
      rcases Nat.lt_or_ge k n with q | q
      · exact h.mp e1 k q
      · have ek : k = n := by omega
        subst ek
        cases hp : p k
        · rfl
        · simp [hp] at e
    · intro a
      rw [h.mpr (fun k hk => a k (by omega)), a n (by omega)]
      rfl
theorem fb_ct_pos {p : Nat → Bool} {n : Nat} : 0 < fb_ct p n ↔ ∃ k, k < n ∧ p k = true := by
  constructor
  · intro h
    refine Classical.byContradiction fun hx => ?_
    have := fb_ct_zero.mpr (fun k hk => by
      cases hp : p k
      · rfl
      · exact absurd ⟨k, hk, hp⟩ hx : ∀ k, k < n → p k = false)
    omega
  · rintro ⟨k, hk, hp⟩
    rcases Nat.eq_zero_or_pos (fb_ct p n) with e | e
    · have := fb_ct_zero.mp e k hk
      rw [this] at hp
      cases hp
    · exact e
theorem fb_ct_all {p : Nat → Bool} {n : Nat} : fb_ct p n = n ↔ ∀ k, k < n → p k = true := by
  have h := fb_ct_not p n
  constructor
  · intro e k hk
    have z : fb_ct (fun k => !p k) n = 0 := by omega
    have := fb_ct_zero.mp z k hk
    cases hp : p k
    · simp [hp] at this
    · rfl
  · intro a
    have z : fb_ct (fun k => !p k) n = 0 := fb_ct_zero.mpr (fun k hk => by simp [a k hk])
    omega
/-- the k-th place with the property -/
theorem fb_ct_kth {p : Nat → Bool} {k : Nat} : ∀ {n : Nat}, k < fb_ct p n → ∃ i, i < n ∧ p i = true ∧ fb_ct p i = k
  | 0, h => absurd h (Nat.not_lt_zero k)
  | n + 1, h => by
    rcases Nat.lt_or_ge k (fb_ct p n) with q | q
    · obtain ⟨i, h1, h2⟩ := fb_ct_kth q
      exact ⟨i, by omega, h2⟩
    · rw [fb_ct_succ] at h
      cases hp : p n
      · simp [hp] at h; omega
      · simp [hp] at h
        exact ⟨n, by omega, hp, by omega⟩
theorem fb_ct_kth_one {p : Nat → Bool} {i j : Nat} (hi : p i = true) (hj : p j = true) (e : fb_ct p i = fb_ct p j) : i = j := by
  have key : ∀ a b : Nat, a < b → p a = true → fb_ct p a < fb_ct p b := by
    intro a b hab ha
    have h := fb_ct_mono p (show a + 1 ≤ b from hab)
    rw [fb_ct_succ, ha] at h
    simp at h
    omega
  rcases Nat.lt_trichotomy i j with q | q | q
  · have := key i j q hi; omega
  · exact q
  · have := key j i q hj; omega
theorem uN_and (x y : Int64) : uN (x &&& y) = uN x &&& uN y := UInt64.toNat_and _ _
theorem uN_orr (x y : Int64) : uN (x ||| y) = uN x ||| uN y := UInt64.toNat_or _ _
theorem uN_xorr (x y : Int64) : uN (x ^^^ y) = uN x ^^^ uN y := UInt64.toNat_xor _ _
theorem uN_sub {x y : Int64} (h : uN y ≤ uN x) : uN (x - y) = uN x - uN y := by
  have e : x = (x - y) + y := by
    have := Int64.sub_add_cancel x y
    exact this.symm
  have h1 := uN_add (x - y) y
  rw [← e] at h1
  have := uN_lt (x - y)
  have := uN_lt x
  have := uN_lt y
  omega
theorem k_shr_n (x : Int64) {n : Nat} (hn : n < 64) : uN (k_shr x n) = uN x / 2 ^ n := uN_sk x hn
/-- bytes side by side -/
def k_LN (f : Nat → Nat) : Nat → Nat → Nat
  | 0, _ => 0
  | k + 1, X => 256 * k_LN f k (X / 256) + f (X % 256)
def k_mk (c : Nat) : Nat → Nat
  | 0 => 0
  | k + 1 => 256 * k_mk c k + c
theorem k_tb {a b : Nat} (hb : b < 256) (i : Nat) : (256 * a + b).testBit i = if i < 8 then b.testBit i else a.testBit (i - 8) := Nat.testBit_two_pow_mul_add a (i := 8) hb i
theorem k_lane {a b m c s : Nat} (hb : b < 256) (hs : s ≤ 8) (hc : c < 2 ^ (8 - s)) : ((256 * a + b) / 2 ^ s) &&& (256 * m + c) = 256 * ((a / 2 ^ s) &&& m) + ((b / 2 ^ s) &&& c) := by
  have hc2 : c < 256 := Nat.lt_of_lt_of_le hc (Nat.pow_le_pow_right (by omega) (by omega) : 2 ^ (8 - s) ≤ 2 ^ 8)
  have hl : (b / 2 ^ s) &&& c < 256 := Nat.lt_of_le_of_lt Nat.and_le_right hc2
  apply Nat.eq_of_testBit_eq
  intro i
  rw [Nat.testBit_and, Nat.testBit_div_two_pow, k_tb hb, k_tb hc2, k_tb hl]
  by_cases hi : i < 8
  · simp only [hi, if_true, Nat.testBit_and, Nat.testBit_div_two_pow]
    by_cases his : i + s < 8
    · simp [his]
    · have hci : c.testBit i = false := Nat.testBit_lt_two_pow (Nat.lt_of_lt_of_le hc (Nat.pow_le_pow_right (by omega) (by omega)))
      simp [hci]
  · have h9 : ¬ i + s < 8 := by omega
    simp only [hi, h9, if_false, Nat.testBit_and, Nat.testBit_div_two_pow]
    rw [show i - 8 + s = i + s - 8 by omega]
theorem k_LN_and {c s : Nat} (hs : s ≤ 8) (hc : c < 2 ^ (8 - s)) : ∀ k X, (X / 2 ^ s) &&& k_mk c k = k_LN (fun b => (b / 2 ^ s) &&& c) k X := by
  intro k
  induction k with
  | zero => intro X; simp [k_mk, k_LN]
  | succ k ih =>
    intro X
    have hX : X = 256 * (X / 256) + X % 256 := by omega
    simp only [k_mk, k_LN]
    rw [← ih (X / 256)]
    conv => lhs; rw [hX]
    exact k_lane (Nat.mod_lt _ (by omega)) hs hc
theorem k_LN_id : ∀ k X, X < 256 ^ k → k_LN (fun b => b) k X = X := by
  intro k
  induction k with
  | zero => intro X h; simp at h; simp [k_LN, h]
  | succ k ih =>
    intro X h
    rw [Nat.pow_succ] at h
    simp only [k_LN]
    rw [ih (X / 256) (by omega)]
    omega
theorem k_LN_lt {f : Nat → Nat} (hf : ∀ b, b < 256 → f b < 256) : ∀ k X, k_LN f k X < 256 ^ k := by
  intro k
  induction k with
  | zero => intro X; simp [k_LN]
  | succ k ih =>
    intro X
    have h1 := ih (X / 256)
    have h2 := hf (X % 256) (Nat.mod_lt _ (by omega))
    simp only [k_LN]
    rw [Nat.pow_succ]
    omega
theorem k_LN_comp {f g : Nat → Nat} (hf : ∀ b, b < 256 → f b < 256) : ∀ k X, k_LN g k (k_LN f k X) = k_LN (fun b => g (f b)) k X := by
  intro k
  induction k with
  | zero => intro X; rfl
  | succ k ih =>
    intro X
    have h2 := hf (X % 256) (Nat.mod_lt _ (by omega))
    simp only [k_LN]
    rw [show (256 * k_LN f k (X / 256) + f (X % 256)) / 256 = k_LN f k (X / 256) by omega, show (256 * k_LN f k (X / 256) + f (X % 256)) % 256 = f (X % 256) by omega, ih]
theorem k_LN_add (f g : Nat → Nat) : ∀ k X, k_LN f k X + k_LN g k X = k_LN (fun b => f b + g b) k X := by
  intro k
  induction k with
  | zero => intro X; rfl
  | succ k ih => intro X; simp only [k_LN]; rw [← ih]; omega
theorem k_LN_sub {f g : Nat → Nat} (h : ∀ b, b < 256 → g b ≤ f b) : ∀ k X, k_LN g k X ≤ k_LN f k X ∧ k_LN f k X - k_LN g k X = k_LN (fun b => f b - g b) k X := by
  intro k
  induction k with
  | zero => intro X; exact ⟨Nat.le_refl _, rfl⟩
  | succ k ih =>
    intro X
    have h1 := ih (X / 256)
    have h2 := h (X % 256) (Nat.mod_lt _ (by omega))
    simp only [k_LN]
    rw [← h1.2]
    omega
theorem k_LN_cong {f g : Nat → Nat} (h : ∀ b, b < 256 → f b = g b) : ∀ k X, k_LN f k X = k_LN g k X := by
  intro k
  induction k with
  | zero => intro X; rfl
  | succ k ih => intro X; simp only [k_LN]; rw [ih, h _ (Nat.mod_lt _ (by omega))]
/-- nibbles joined -/
theorem k_nib {f : Nat → Nat} (hf : ∀ b, b < 256 → f b / 16 ≤ 4 ∧ f b % 16 ≤ 4) : ∀ k X, (k_LN f k X + k_LN f k X / 16) &&& k_mk 15 k = k_LN (fun b => f b / 16 + f b % 16) k X := by
  intro k
  induction k with
  | zero => intro X; simp [k_mk, k_LN]
  | succ k ih =>
    intro X
    have h1 := hf (X % 256) (Nat.mod_lt _ (by omega))
    have h16 : k_LN f k (X / 256) % 16 ≤ 4 := by
      cases k with
      | zero => simp [k_LN]
      | succ k =>
        have h3 := hf (X / 256 % 256) (Nat.mod_lt _ (by omega))
        simp only [k_LN]
        omega
    simp only [k_mk, k_LN]
    rw [← ih (X / 256)]
    generalize k_LN f k (X / 256) = Y at h16 ⊢
    generalize f (X % 256) = b at h1 ⊢
    have e : 256 * Y + b + (256 * Y + b) / 16 = 256 * (Y + Y / 16) + (16 * (Y % 16) + b + b / 16) := by omega
    rw [e]
    have hl := k_lane (a := Y + Y / 16) (b := 16 * (Y % 16) + b + b / 16) (m := k_mk 15 k) (c := 15) (s := 0) (by omega) (by omega) (by decide)
    simp only [Nat.pow_zero, Nat.div_one] at hl
    rw [hl]
    have : (16 * (Y % 16) + b + b / 16) &&& 15 = (16 * (Y % 16) + b + b / 16) % 16 := Nat.and_two_pow_sub_one_eq_mod _ 4
    rw [this]
    omega
def k_p8 (b : Nat) : Nat := let c := b - (b / 2 &&& 85); let d := (c &&& 51) + (c / 4 &&& 51); d / 16 + d % 16
set_option maxRecDepth 20000 in
theorem k_p8_ok : ∀ b, b < 256 → k_p8 b = fb_ct b.testBit 8 ∧ k_p8 b ≤ 8 ∧ (b / 2 &&& 85) ≤ b ∧ (let c := b - (b / 2 &&& 85); c < 256 ∧ (c &&& 51) + (c / 4 &&& 51) < 256 ∧ ((c &&& 51) + (c / 4 &&& 51)) / 16 ≤ 4 ∧ ((c &&& 51) + (c / 4 &&& 51)) % 16 ≤ 4) := by decide +kernel
def k_S8 : Nat → Nat → Nat
  | 0, _ => 0
  | k + 1, X => k_S8 k (X / 256) + k_p8 (X % 256)
theorem k_S8_ct : ∀ k X, k_S8 k X = fb_ct X.testBit (8 * k) := by
  intro k
  induction k with
  | zero => intro X; rfl
  | succ k ih =>
    intro X
    have hX : X = 256 * (X / 256) + X % 256 := by omega
    have hm : X % 256 < 256 := Nat.mod_lt _ (by omega)
    simp only [k_S8]
    rw [ih, (k_p8_ok _ hm).1, show 8 * (k + 1) = 8 + 8 * k by omega, fb_ct_split, Nat.add_comm]
    congr 1
    · apply fb_ct_cong
      intro i hi
      conv => rhs; rw [hX]
      rw [k_tb hm, if_pos hi]
    · apply fb_ct_cong
      intro i hi
      conv => rhs; rw [hX]
      rw [k_tb hm, if_neg (by omega), show 8 + i - 8 = i by omega]
set_option maxHeartbeats 2000000 in
/-- Long.bitCount counts the bits -/
theorem k_pc_ct (x : Int64) : k_pc x = nI (fb_ct (uN x).testBit 64) := by
  have hX : uN x < 256 ^ 8 := uN_lt x
  have hp := k_p8_ok
  -- the first three lines
  have h1 : uN (k_pc1 x) = k_LN (fun b => b - (b / 2 &&& 85)) 8 (uN x) := by
    unfold k_pc1
    have e : uN (k_shr x 1 &&& 6148914691236517205) = k_LN (fun b => b / 2 ^ 1 &&& 85) 8 (uN x) := by
      rw [uN_and, k_shr_n x (by omega), ← k_LN_and (s := 1) (c := 85) (by omega) (by decide)]
      rfl
    have hs := k_LN_sub (f := fun b => b) (g := fun b => b / 2 ^ 1 &&& 85) (fun b hb => (hp b hb).2.2.1) 8 (uN x)
    rw [k_LN_id 8 _ hX] at hs
    rw [uN_sub (by rw [e]; exact hs.1), e, hs.2]
  have h2 : uN (k_pc2 (k_pc1 x)) = k_LN (fun b => ((b - (b / 2 &&& 85)) &&& 51) + ((b - (b / 2 &&& 85)) / 4 &&& 51)) 8 (uN x) := by
    unfold k_pc2
    have hf1 : ∀ b, b < 256 → b - (b / 2 &&& 85) < 256 := fun b hb => by omega
    have ea : uN (k_pc1 x &&& 3689348814741910323) = k_LN (fun b => (b - (b / 2 &&& 85)) &&& 51) 8 (uN x) := by
      have h0 := k_LN_and (s := 0) (c := 51) (by omega) (by decide) 8 (uN (k_pc1 x))
      simp only [Nat.pow_zero, Nat.div_one] at h0
      rw [uN_and, show uN (3689348814741910323 : Int64) = k_mk 51 8 from rfl, h0, h1, k_LN_comp hf1]
    have eb : uN (k_shr (k_pc1 x) 2 &&& 3689348814741910323) = k_LN (fun b => (b - (b / 2 &&& 85)) / 4 &&& 51) 8 (uN x) := by
      have h0 := k_LN_and (s := 2) (c := 51) (by omega) (by decide) 8 (uN (k_pc1 x))
      rw [uN_and, k_shr_n _ (by omega), show uN (3689348814741910323 : Int64) = k_mk 51 8 from rfl, h0, h1, k_LN_comp hf1]
    have hlt := k_LN_lt (f := fun b => ((b - (b / 2 &&& 85)) &&& 51) + ((b - (b / 2 &&& 85)) / 4 &&& 51)) (fun b hb => (hp b hb).2.2.2.2.1) 8 (uN x)
    rw [uN_add, ea, eb, k_LN_add]
    exact Nat.mod_eq_of_lt hlt
  have h3 : uN (k_pc3 (k_pc2 (k_pc1 x))) = k_LN k_p8 8 (uN x) := by
    unfold k_pc3
    have hlt := k_LN_lt (f := fun b => ((b - (b / 2 &&& 85)) &&& 51) + ((b - (b / 2 &&& 85)) / 4 &&& 51)) (fun b hb => (hp b hb).2.2.2.2.1) 8 (uN x)
    have hn := k_nib (f := fun b => ((b - (b / 2 &&& 85)) &&& 51) + ((b - (b / 2 &&& 85)) / 4 &&& 51)) (fun b hb => (hp b hb).2.2.2.2.2) 8 (uN x)
    have e : uN (k_pc2 (k_pc1 x) + k_shr (k_pc2 (k_pc1 x)) 4) = uN (k_pc2 (k_pc1 x)) + uN (k_pc2 (k_pc1 x)) / 16 := by
      rw [uN_add, k_shr_n _ (by omega)]
      apply Nat.mod_eq_of_lt
      -- the top byte is at most 68
      have hb : uN (k_pc2 (k_pc1 x)) < 256 ^ 7 * 69 := by
        rw [h2]
        have key : ∀ k X, k_LN (fun b => ((b - (b / 2 &&& 85)) &&& 51) + ((b - (b / 2 &&& 85)) / 4 &&& 51)) (k + 1) X < 256 ^ k * 69 := by
          intro k
          induction k with
          | zero =>
            intro X
            have := (hp (X % 256) (Nat.mod_lt _ (by omega))).2.2.2.2.2
            simp only [k_LN]
            omega
          | succ k ih =>
            intro X
            have h9 := ih (X / 256)
            have := (hp (X % 256) (Nat.mod_lt _ (by omega))).2.2.2.2.1
            rw [k_LN, Nat.pow_succ]
            omega
        exact key 7 _
      have : (2 : Nat) ^ 4 = 16 := rfl
      omega
    rw [uN_and, e, show uN (1085102592571150095 : Int64) = k_mk 15 8 from rfl, h2, hn]
    rfl
  generalize hy : k_pc3 (k_pc2 (k_pc1 x)) = y at h3
  have hS : k_S8 8 (uN x) = fb_ct (uN x).testBit 64 := k_S8_ct 8 (uN x)
  rw [← hS]
  have hb : ∀ z, k_p8 (z % 256) ≤ 8 := fun z => (hp _ (Nat.mod_lt _ (by omega))).2.1
  have h4 : k_pc x = (k_pcs 32 (k_pcs 16 (k_pcs 8 y))).toInt32 &&& nI 127 := by unfold k_pc; rw [hy]
  rw [h4]
  simp only [k_LN, k_S8] at h3 ⊢
  have g0 := hb (uN x)
  have g1 := hb (uN x / 256)
  have g2 := hb (uN x / 256 / 256)
  have g3 := hb (uN x / 256 / 256 / 256)
  have g4 := hb (uN x / 256 / 256 / 256 / 256)
  have g5 := hb (uN x / 256 / 256 / 256 / 256 / 256)
  have g6 := hb (uN x / 256 / 256 / 256 / 256 / 256 / 256)
  have g7 := hb (uN x / 256 / 256 / 256 / 256 / 256 / 256 / 256)
  generalize k_p8 (uN x % 256) = e0 at *
  generalize k_p8 (uN x / 256 % 256) = e1 at *
  generalize k_p8 (uN x / 256 / 256 % 256) = e2 at *
  generalize k_p8 (uN x / 256 / 256 / 256 % 256) = e3 at *
  generalize k_p8 (uN x / 256 / 256 / 256 / 256 % 256) = e4 at *
  generalize k_p8 (uN x / 256 / 256 / 256 / 256 / 256 % 256) = e5 at *
  generalize k_p8 (uN x / 256 / 256 / 256 / 256 / 256 / 256 % 256) = e6 at *
  generalize k_p8 (uN x / 256 / 256 / 256 / 256 / 256 / 256 / 256 % 256) = e7 at *
  have a8 : uN (k_pcs 8 y) = uN y + uN y / 256 := by
    unfold k_pcs
    rw [uN_add, k_shr_n _ (by omega)]
    exact Nat.mod_eq_of_lt (by omega)
  have a16 : uN (k_pcs 16 (k_pcs 8 y)) = uN (k_pcs 8 y) + uN (k_pcs 8 y) / 65536 := by
    unfold k_pcs at a8 ⊢
    rw [uN_add, k_shr_n _ (by omega)]
    exact Nat.mod_eq_of_lt (by omega)
  have a32 : uN (k_pcs 32 (k_pcs 16 (k_pcs 8 y))) = uN (k_pcs 16 (k_pcs 8 y)) + uN (k_pcs 16 (k_pcs 8 y)) / 4294967296 := by
    unfold k_pcs at a8 a16 ⊢
    rw [uN_add, k_shr_n _ (by omega)]
    exact Nat.mod_eq_of_lt (by omega)
  generalize hw : k_pcs 32 (k_pcs 16 (k_pcs 8 y)) = w at a32
  have hm : w.toInt32 &&& nI 127 = nI (uN w % 128) := by
    have h9 : w.toInt32.toBitVec.toNat = uN w % 2 ^ 32 := by
      show (w.toBitVec.signExtend 32).toNat = w.toBitVec.toNat % 2 ^ 32
      rw [BitVec.signExtend_eq_setWidth_of_le _ (by omega)]
      rfl
    have h10 := pk_and w.toInt32 (m := nI 127) 7 (by decide)
    rw [h10, h9]
    congr 1
    omega
  rw [hm]
  congr 1
  have b8 : uN y / 256 = e1 + 256 * e2 + 65536 * e3 + 16777216 * e4 + 4294967296 * e5 + 1099511627776 * e6 + 281474976710656 * e7 := by clear a8 a16 a32 hm; omega
  have c8 : uN (k_pcs 8 y) = (e0 + e1) + 256 * (e1 + e2) + 65536 * (e2 + e3) + 16777216 * (e3 + e4) + 4294967296 * (e4 + e5) + 1099511627776 * (e5 + e6) + 281474976710656 * (e6 + e7) + 72057594037927936 * e7 := by rw [a8, b8]; clear a8 a16 a32 hm b8; omega
  have b16 : uN (k_pcs 8 y) / 65536 = (e2 + e3) + 256 * (e3 + e4) + 65536 * (e4 + e5) + 16777216 * (e5 + e6) + 4294967296 * (e6 + e7) + 1099511627776 * e7 := by rw [c8]; clear a8 a16 a32 hm b8 c8; omega
  have c16 : uN (k_pcs 16 (k_pcs 8 y)) = (e0 + e1 + e2 + e3) + 256 * (e1 + e2 + e3 + e4) + 65536 * (e2 + e3 + e4 + e5) + 16777216 * (e3 + e4 + e5 + e6) + 4294967296 * (e4 + e5 + e6 + e7) + 1099511627776 * (e5 + e6 + e7) + 281474976710656 * (e6 + e7) + 72057594037927936 * e7 := by rw [a16, b16, c8]; clear a8 a16 a32 hm b8 c8 b16; omega
  have b32 : uN (k_pcs 16 (k_pcs 8 y)) / 4294967296 = (e4 + e5 + e6 + e7) + 256 * (e5 + e6 + e7) + 65536 * (e6 + e7) + 16777216 * e7 := by rw [c16]; clear a8 a16 a32 hm b8 c8 b16 c16; omega
  rw [a32, b32, c16]
  clear a8 a16 a32 hm b8 c8 b16 c16 b32
  omega
