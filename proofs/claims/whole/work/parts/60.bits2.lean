/-! BITS BY PLACE: sets of squares -/
def w_b (x : Int64) (i : Nat) : Bool := (uN x).testBit i
theorem w_b_ge (x : Int64) {i : Nat} (h : 64 ≤ i) : w_b x i = false :=
  Nat.testBit_lt_two_pow (Nat.lt_of_lt_of_le (uN_lt x) (show 2 ^ 64 ≤ 2 ^ i from Nat.pow_le_pow_right (by decide) h))
theorem w_b_ext {x y : Int64} (h : ∀ i, i < 64 → w_b x i = w_b y i) : x = y := by
  apply uN_inj
  apply Nat.eq_of_testBit_eq
  intro i
  by_cases hi : i < 64
  · exact h i hi
  · exact (w_b_ge x (i := i) (by omega)).trans (w_b_ge y (i := i) (by omega)).symm
theorem w_b_and (x y : Int64) (i : Nat) : w_b (x &&& y) i = (w_b x i && w_b y i) := by unfold w_b; rw [uN_and, Nat.testBit_and]
theorem w_b_or (x y : Int64) (i : Nat) : w_b (x ||| y) i = (w_b x i || w_b y i) := by unfold w_b; rw [uN_orr, Nat.testBit_or]
theorem w_b_xor (x y : Int64) (i : Nat) : w_b (x ^^^ y) i = (w_b x i ^^ w_b y i) := by unfold w_b; rw [uN_xorr, Nat.testBit_xor]
theorem w_b_m1 {i : Nat} (h : i < 64) : w_b (-1) i = true := by
  unfold w_b
  rw [show uN (-1) = 2 ^ 64 - 1 by decide, Nat.testBit_two_pow_sub_one]
  simpa using h
theorem w_b_not (x : Int64) {i : Nat} (h : i < 64) : w_b (x ^^^ (-1)) i = !(w_b x i) := by rw [w_b_xor, w_b_m1 h, Bool.xor_true]
theorem w_b_0 (i : Nat) : w_b 0 i = false := by
  unfold w_b
  rw [show uN 0 = 0 from rfl]
  exact Nat.zero_testBit i
theorem w_b_all {i : Nat} (h : i < 64) : w_b 1152921504606846975 i = decide (i < 60) := by
  unfold w_b
  rw [show uN 1152921504606846975 = 2 ^ 60 - 1 by decide, Nat.testBit_two_pow_sub_one]
theorem w_b_shr (x : Int64) {n : Nat} (hn : n < 64) (i : Nat) : w_b (k_shr x n) i = w_b x (n + i) := by
  unfold w_b
  rw [k_shr_n x hn, Nat.testBit_div_two_pow, Nat.add_comm]
theorem w_sm : ∀ n, n < 64 → (((nI n).toInt64 &&& 63).toBitVec.smod 64).toNat = n := by decide +kernel
theorem w_b_shl (x : Int64) {n : Nat} (hn : n < 64) {i : Nat} (hi : i < 64) : w_b (k_shl x n) i = (decide (n ≤ i) && w_b x (i - n)) := by
  unfold w_b
  have e : uN (k_shl x n) = (uN x <<< n) % 2 ^ 64 := by
    show (x.toBitVec <<< (((nI n).toInt64 &&& 63).toBitVec.smod 64).toNat).toNat = _
    rw [w_sm n hn, BitVec.toNat_shiftLeft]
    rfl
  rw [e, Nat.testBit_mod_two_pow, Nat.testBit_shiftLeft]
  simp [hi]
theorem w_b_only {i : Nat} (hi : i < 64) (j : Nat) : w_b (k_only i) j = decide (j = i) := by
  by_cases hj : j < 64
  · unfold k_only
    rw [w_b_shl _ hi hj]
    unfold w_b
    rw [show uN (Int64.ofNat 1) = 2 ^ 0 from rfl, Nat.testBit_two_pow, ← Bool.decide_and]
    exact decide_eq_decide.mpr (by omega)
  · rw [w_b_ge _ (by omega)]
    exact (decide_eq_false (by omega)).symm
theorem w_has (x : Int64) {i : Nat} (hi : i < 64) : k_has x i = w_b x i := by
  unfold k_has
  cases h : w_b x i with
  | true =>
    refine decide_eq_true (fun q => ?_)
    have := congrArg (fun z => w_b z i) q
    simp only [w_b_and, w_b_only hi, h, w_b_0] at this
    simp at this
  | false =>
    refine decide_eq_false (fun q => q (w_b_ext (fun j hj => ?_)))
    rw [w_b_and, w_b_only hi, w_b_0]
    by_cases e : j = i
    · rw [e, h]; rfl
    · rw [decide_eq_false e, Bool.and_false]
/-- no bit from 60 on -/
def w_ok (x : Int64) : Prop := ∀ i, 60 ≤ i → w_b x i = false
theorem w_pc {x : Int64} (h : w_ok x) : k_pc x = nI (fb_ct (w_b x) 60) := by
  rw [k_pc_ct]
  have e : fb_ct (w_b x) (60 + 4) = fb_ct (w_b x) 60 + fb_ct (fun k => w_b x (60 + k)) 4 := fb_ct_split _ _ _
  rw [fb_ct_zero.mpr (fun k _ => h (60 + k) (by omega)), Nat.add_zero] at e
  exact congrArg nI e
theorem w_ok_and {x y : Int64} (h : w_ok x) : w_ok (x &&& y) := fun i hi => by rw [w_b_and, h i hi, Bool.false_and]
theorem w_ok_and' {x y : Int64} (h : w_ok y) : w_ok (x &&& y) := fun i hi => by rw [w_b_and, h i hi, Bool.and_false]
theorem w_ok_or {x y : Int64} (h : w_ok x) (h2 : w_ok y) : w_ok (x ||| y) := fun i hi => by rw [w_b_or, h i hi, h2 i hi]; rfl
theorem w_ok_only {i : Nat} (hi : i < 60) : w_ok (k_only i) := fun j hj => by rw [w_b_only (by omega)]; exact decide_eq_false (by omega)
theorem w_ok_0 : w_ok 0 := fun j _ => w_b_0 j
theorem w_ok_ext {x y : Int64} (hx : w_ok x) (hy : w_ok y) (h : ∀ i, i < 60 → w_b x i = w_b y i) : x = y :=
  w_b_ext (fun i _ => by
    by_cases hi : i < 60
    · exact h i hi
    · rw [hx i (by omega), hy i (by omega)])
set_option maxRecDepth 20000 in
theorem w_b_row : ∀ l, l < 10 → ∀ r, r < 10 → l ≤ r → ∀ i, i < 64 → w_b (k_row l r) i = decide (l ≤ i ∧ i ≤ r) := by decide +kernel
theorem w_b_rect {l r t : Nat} (hl : l ≤ r) (hr : r < 10) : ∀ n, t + n ≤ 6 → ∀ s, s < 64 → w_b (k_rect l r t n) s = decide (l ≤ s % 10 ∧ s % 10 ≤ r ∧ t ≤ s / 10 ∧ s / 10 < t + n) := by
  intro n
  induction n with
  | zero =>
    intro _ s hs
    rw [k_rect, show Int64.ofNat 0 = 0 from rfl, w_b_0]
    exact (decide_eq_false (by omega)).symm
  | succ n ih =>
    intro hn s hs
    rw [k_rect, w_b_or, ih (by omega) s hs, w_b_shl _ (by omega) hs, w_b_row l (by omega) r hr hl _ (by omega), ← Bool.decide_and, ← Bool.decide_or]
    exact decide_eq_decide.mpr (by omega)
theorem w_b_rc {a b s : Nat} (ha : a < 60) (hb : b < 60) (hs : s < 64) : w_b (k_rc a b) s = (decide (s < 60) && k_in a b s) := by
  unfold k_rc k_in
  rw [w_b_rect (by omega) (by omega) _ (by omega) s hs]
  simp only [← Bool.decide_and]
  exact decide_eq_decide.mpr (by omega)
theorem w_ok_rc {a b : Nat} (ha : a < 60) (hb : b < 60) : w_ok (k_rc a b) := fun i hi => by
  by_cases h : i < 64
  · rw [w_b_rc ha hb h, decide_eq_false (by omega), Bool.false_and]
  · exact w_b_ge _ (by omega)
theorem w_b_ar {a k s : Nat} (ha : a < 60) (hs : s < 60) : w_b (k_ar a k) s = decide (k_apN a s ≤ k ∧ ¬ s = a) := by
  unfold k_ar
  have e1 : (10 * (a / 10 - k) + (a % 10 - k)) % 10 = a % 10 - k := by omega
  have e2 : (10 * (a / 10 - k) + (a % 10 - k)) / 10 = a / 10 - k := by omega
  have e3 : (10 * min 5 (a / 10 + k) + min 9 (a % 10 + k)) % 10 = min 9 (a % 10 + k) := by omega
  have e4 : (10 * min 5 (a / 10 + k) + min 9 (a % 10 + k)) / 10 = min 5 (a / 10 + k) := by omega
  rw [w_b_and, w_b_rc (by omega) (by omega) (by omega), w_b_not _ (by omega), w_b_only (by omega)]
  unfold k_in k_apN
  rw [e1, e2, e3, e4]
  simp only [← Bool.decide_and, ← decide_not]
  exact decide_eq_decide.mpr (by omega)
theorem w_ok_ar {a k : Nat} (ha : a < 60) : w_ok (k_ar a k) := w_ok_and (w_ok_rc (by omega) (by omega))
theorem y_nb4 (q : Nat → Bool) (s : Nat) : y_nb q s 4 = ((decide (10 ≤ s) && q (s - 10)) || (decide (0 < s % 10) && q (s - 1)) || (decide (s % 10 < 9) && q (s + 1)) || (decide (s < 50) && q (s + 10))) := by
  simp only [y_nb, k_any, Bool.false_or]
  have e0 : (k_bd s 0).elim false q = (decide (10 ≤ s) && q (s - 10)) := by
    unfold k_bd; by_cases h : 10 ≤ s <;> simp [h]
  have e1 : (k_bd s 1).elim false q = (decide (0 < s % 10) && q (s - 1)) := by
    unfold k_bd; by_cases h : 0 < s % 10 <;> simp [h]
  have e2 : (k_bd s 2).elim false q = (decide (s % 10 < 9) && q (s + 1)) := by
    unfold k_bd; by_cases h : s % 10 < 9 <;> simp [h]
  have e3 : (k_bd s 3).elim false q = (decide (s < 50) && q (s + 10)) := by
    unfold k_bd; by_cases h : s < 50 <;> simp [h]
  rw [e0, e1, e2, e3]
theorem w_c1 : ∀ i, i < 60 → w_b (-577024252550054401) i = decide (i % 10 < 9) := by decide +kernel
theorem w_c2 : ∀ i, i < 60 → w_b (-1127000493261826) i = decide (0 < i % 10) := by decide +kernel
theorem w_b_bes {x : Int64} (hx : w_ok x) {s : Nat} (hs : s < 60) : w_b (k_bes x) s = y_nb (w_b x) s 4 := by
  unfold k_bes
  rw [w_b_and, w_b_or, w_b_or, w_b_or, w_b_shl _ (by omega) (by omega), w_b_shr _ (by omega), w_b_shl _ (by omega) (by omega), w_b_shr _ (by omega), w_b_and, w_b_and, w_b_all (by omega), decide_eq_true hs, Bool.and_true, y_nb4]
  have a1 : (decide (1 ≤ s) && (w_b x (s - 1) && w_b (-577024252550054401) (s - 1))) = (decide (0 < s % 10) && w_b x (s - 1)) := by
    rw [w_c1 _ (by omega), Bool.and_comm (w_b x (s - 1)), ← Bool.and_assoc, ← Bool.decide_and]
    rw [show decide (1 ≤ s ∧ (s - 1) % 10 < 9) = decide (0 < s % 10) from decide_eq_decide.mpr (by omega)]
  have a2 : (w_b x (1 + s) && w_b (-1127000493261826) (1 + s)) = (decide (s % 10 < 9) && w_b x (s + 1)) := by
    by_cases h : 1 + s < 60
    · rw [w_c2 _ h, Bool.and_comm, Nat.add_comm, show decide (0 < (s + 1) % 10) = decide (s % 10 < 9) from decide_eq_decide.mpr (by omega)]
    · rw [Nat.add_comm, hx (s + 1) (by omega), Bool.false_and, Bool.and_false]
  have a3 : w_b x (10 + s) = (decide (s < 50) && w_b x (s + 10)) := by
    by_cases h : s < 50
    · rw [decide_eq_true h, Bool.true_and, Nat.add_comm]
    · rw [decide_eq_false h, Bool.false_and]; exact hx _ (by omega)
  rw [a1, a2, a3]
  generalize (decide (10 ≤ s) && w_b x (s - 10)) = p
  generalize (decide (0 < s % 10) && w_b x (s - 1)) = q
  generalize (decide (s % 10 < 9) && w_b x (s + 1)) = r
  generalize (decide (s < 50) && w_b x (s + 10)) = t
  cases p <;> cases q <;> cases r <;> cases t <;> rfl
theorem w_ok_bes (x : Int64) : w_ok (k_bes x) := fun i hi => by
  by_cases h : i < 64
  · unfold k_bes
    rw [w_b_and, w_b_all h, decide_eq_false (by omega), Bool.and_false]
  · exact w_b_ge _ (by omega)
/-! LANDS: the uses of the squares; a use of 5 and more is none at all -/
def w_fu (f : Nat → Int64) (U : Nat → Nat) : Prop := ∀ v, v < 5 → w_ok (f v) ∧ ∀ s, s < 60 → w_b (f v) s = decide (U s = v)
theorem w_fu_ok {f : Nat → Int64} {U : Nat → Nat} (h : w_fu f U) {v : Nat} (hv : v < 5) : w_ok (f v) := (h v hv).1
theorem w_fu_b {f : Nat → Int64} {U : Nat → Nat} (h : w_fu f U) {v s : Nat} (hv : v < 5) (hs : s < 60) : w_b (f v) s = decide (U s = v) := (h v hv).2 s hs
theorem w_fu_has {f : Nat → Int64} {U : Nat → Nat} (h : w_fu f U) {v s : Nat} (hv : v < 5) (hs : s < 60) : k_has (f v) s = decide (U s = v) := by rw [w_has _ (by omega), w_fu_b h hv hs]
theorem w_fu_cong {f : Nat → Int64} {U V : Nat → Nat} (h : w_fu f U) (e : ∀ s, s < 60 → U s = V s) : w_fu f V := fun v hv => ⟨w_fu_ok h hv, fun s hs => by rw [w_fu_b h hv hs, e s hs]⟩
theorem w_fu_upto {f g : Nat → Int64} {U : Nat → Nat} (h : w_fu f U) : w_fu (k_upto f g 5) U := fun v hv => by rw [k_upto_lt f g hv]; exact h v hv
theorem w_fu_eq {f g : Nat → Int64} {U : Nat → Nat} (h : w_fu f U) (h2 : w_fu g U) {v : Nat} (hv : v < 5) : f v = g v :=
  w_ok_ext (w_fu_ok h hv) (w_fu_ok h2 hv) (fun s hs => by rw [w_fu_b h hv hs, w_fu_b h2 hv hs])
theorem k_updL_s (f : Nat → Int64) (i : Nat) (x : Int64) : vp_updL f i x i = x := by unfold vp_updL; simp
theorem k_updL_n (f : Nat → Int64) {i j : Nat} (x : Int64) (h : ¬ j = i) : vp_updL f i x j = f j := by unfold vp_updL; simp [h]
theorem w_fu_lift {f : Nat → Int64} {U : Nat → Nat} (h : w_fu f U) (x : Int64) {c : Nat} (hc : 5 ≤ c) : w_fu (k_lift f x) (fun s => if w_b x s then c else U s) := fun v hv => by
  unfold k_lift
  rw [k_upto_lt _ f hv]
  refine ⟨w_ok_and (w_fu_ok h hv), fun s hs => ?_⟩
  rw [w_b_and, w_fu_b h hv hs, w_b_not _ (by omega)]
  cases hb : w_b x s with
  | true => simp [hb]; omega
  | false => simp [hb]
theorem w_fu_put {f : Nat → Int64} {U : Nat → Nat} (h : w_fu f U) {x : Int64} (hx : w_ok x) {u : Nat} (hu : u < 5) : w_fu (k_put f x u) (fun s => if w_b x s then u else U s) := fun v hv => by
  unfold k_put
  have hl := w_fu_lift h x (c := 9) (by omega)
  by_cases e : v = u
  · subst e
    rw [k_updL_s]
    refine ⟨w_ok_or (w_fu_ok hl hv) hx, fun s hs => ?_⟩
    rw [w_b_or, w_fu_b hl hv hs]
    cases hb : w_b x s <;> simp [hb]
  · rw [k_updL_n _ _ e]
    refine ⟨w_fu_ok hl hv, fun s hs => ?_⟩
    rw [w_fu_b hl hv hs]
    cases hb : w_b x s with
    | true => simp [hb]; omega
    | false => simp [hb]
theorem k_lift_ge (f : Nat → Int64) (x : Int64) {j : Nat} (h : 5 ≤ j) : k_lift f x j = f j := k_upto_ge _ f h
theorem k_put_ge (f : Nat → Int64) (x : Int64) {u j : Nat} (hu : u < 5) (h : 5 ≤ j) : k_put f x u j = f j := by
  unfold k_put
  rw [k_updL_n _ _ (by omega), k_lift_ge f x h]
/-- a square that was lifted, put and lifted again -/
theorem w_put_lift {f : Nat → Int64} {U : Nat → Nat} (h : w_fu f U) {a u : Nat} (ha : a < 60) (hu : u < 5) (hU : 5 ≤ U a) : k_lift (k_put f (k_only a) u) (k_only a) = f := by
  funext j
  by_cases hj : j < 5
  · have h1 := w_fu_lift (w_fu_put h (w_ok_only ha) hu) (k_only a) hU
    refine w_fu_eq (w_fu_cong h1 (fun s hs => ?_)) h hj
    simp only [w_b_only (show a < 64 by omega)]
    by_cases e : s = a
    · simp [e]
    · simp [e]
  · rw [k_lift_ge _ _ (by omega), k_put_ge _ _ hu (by omega)]
