/-! SETS OF LINES as bits of an int; the search's judge -/
def w_i (x : Int32) (i : Nat) : Bool := x.toBitVec.getLsbD i
theorem w_i_ext {x y : Int32} (h : ∀ i, i < 32 → w_i x i = w_i y i) : x = y := Int32.toBitVec_inj.mp (BitVec.eq_of_getLsbD_eq (fun i hi => h i hi))
theorem w_i_or (x y : Int32) (i : Nat) : w_i (x ||| y) i = (w_i x i || w_i y i) := by unfold w_i; rw [Int32.toBitVec_or, BitVec.getLsbD_or]
theorem w_i_0 (i : Nat) : w_i 0 i = false := BitVec.getLsbD_zero
theorem w_i_one : ∀ n, n < 14 → ∀ i, i < 32 → w_i (nI 1 <<< (nI n &&& 31)) i = decide (i = n) := by decide +kernel
theorem w_i_bits (p : Nat → Bool) : ∀ m, m ≤ 14 → ∀ i, i < 32 → w_i (k_bits p m) i = (decide (i < m) && p i)
  | 0, _, i, _ => by rw [k_bits, nI_0, w_i_0, decide_eq_false (by omega), Bool.false_and]
  | m + 1, hm, i, hi => by
    rw [k_bits]
    by_cases e : i = m
    · subst e
      rw [decide_eq_true (show i < i + 1 by omega), Bool.true_and]
      cases hp : p i with
      | true => rw [if_pos rfl, w_i_or, w_i_one i (by omega) i hi, decide_eq_true rfl, Bool.or_true]
      | false => rw [if_neg (by decide), w_i_bits p i (by omega) i hi, decide_eq_false (by omega), Bool.false_and]
    · rw [show decide (i < m + 1) = decide (i < m) from decide_eq_decide.mpr (by omega)]
      cases hp : p m with
      | true => rw [if_pos rfl, w_i_or, w_i_one m (by omega) i hi, decide_eq_false e, Bool.or_false, w_i_bits p m (by omega) i hi]
      | false => rw [if_neg (by decide), w_i_bits p m (by omega) i hi]
theorem k_bits_cong {p q : Nat → Bool} {m : Nat} (hm : m ≤ 14) (h : ∀ i, i < m → p i = q i) : k_bits p m = k_bits q m := w_i_ext (fun i hi => by
  rw [w_i_bits p m hm i hi, w_i_bits q m hm i hi]
  by_cases e : i < m
  · rw [h i e]
  · rw [decide_eq_false e, Bool.false_and, Bool.false_and])
theorem k_bits_or {p q : Nat → Bool} {m : Nat} (hm : m ≤ 14) : k_bits p m ||| k_bits q m = k_bits (fun i => p i || q i) m := w_i_ext (fun i hi => by
  rw [w_i_or, w_i_bits p m hm i hi, w_i_bits q m hm i hi, w_i_bits _ m hm i hi, Bool.and_or_distrib_left])
theorem k_bits_0 {p : Nat → Bool} {m : Nat} (hm : m ≤ 14) : k_bits p m = 0 ↔ ∀ i, i < m → p i = false := by
  constructor
  · intro h i hi
    have := congrArg (fun z => w_i z i) h
    simp only [w_i_bits p m hm i (by omega), w_i_0, decide_eq_true hi, Bool.true_and] at this
    exact this
  · intro h
    refine w_i_ext (fun i hi => ?_)
    rw [w_i_bits p m hm i hi, w_i_0]
    by_cases e : i < m
    · rw [h i e, Bool.and_false]
    · rw [decide_eq_false e, Bool.false_and]
theorem k_bits_1 {p : Nat → Bool} {m a : Nat} (hm : m ≤ 14) (ha : a < 14) : k_bits p m = nI 1 <<< (nI a &&& 31) ↔ (a < m ∧ ∀ i, i < m → p i = decide (i = a)) := by
  constructor
  · intro h
    have hb : ∀ i, i < 32 → (decide (i < m) && p i) = decide (i = a) := fun i hi => by rw [← w_i_bits p m hm i hi, h, w_i_one a ha i hi]
    have h1 : a < m := by
      have := hb a (by omega)
      rw [decide_eq_true (rfl : a = a), Bool.and_eq_true, decide_eq_true_eq] at this
      exact this.1
    exact ⟨h1, fun i hi => by have := hb i (by omega); rw [decide_eq_true hi, Bool.true_and] at this; exact this⟩
  · rintro ⟨h1, h2⟩
    refine w_i_ext (fun i hi => ?_)
    rw [w_i_bits p m hm i hi, w_i_one a ha i hi]
    by_cases e : i < m
    · rw [decide_eq_true e, Bool.true_and, h2 i e]
    · rw [decide_eq_false e, Bool.false_and]
      exact (decide_eq_false (by omega)).symm
theorem k_ipc_0 : k_ipc 0 ≤ nI 1 := by decide +kernel
theorem k_ipc_1 : ∀ a, a < 14 → k_ipc (nI 1 <<< (nI a &&& 31)) ≤ nI 1 := by decide +kernel
/-- two of them -/
def w_two (p : Nat → Bool) (m : Nat) : Prop := ∃ i j, i < m ∧ j < m ∧ ¬ i = j ∧ p i = true ∧ p j = true
theorem k_ipc_two {p : Nat → Bool} {m : Nat} (hm : m ≤ 14) (h : ¬ k_ipc (k_bits p m) ≤ nI 1) : w_two p m := by
  refine Classical.byContradiction (fun hn => h ?_)
  by_cases h0 : ∀ i, i < m → p i = false
  · rw [(k_bits_0 hm).mpr h0]; exact k_ipc_0
  · obtain ⟨a, ha⟩ := Classical.not_forall.mp h0
    obtain ⟨ha, hp⟩ := Classical.not_imp.mp ha
    have hp : p a = true := by cases hq : p a with
      | true => rfl
      | false => exact absurd hq hp
    rw [(k_bits_1 (a := a) hm (by omega)).mpr ⟨ha, fun i hi => ?_⟩]
    · exact k_ipc_1 a (by omega)
    · by_cases e : i = a
      · rw [e, hp, decide_eq_true rfl]
      · rw [decide_eq_false e]
        cases hq : p i with
        | false => rfl
        | true => exact absurd ⟨i, a, hi, ha, e, hq, hp⟩ hn
theorem k_jw_v (wo br : Int32) (W : Nat → Int32) : ∀ n a, k_jw wo br W n a = if a < n ∧ br = nI 1 <<< (nI a &&& 31) then (if W a < wo then wo else W a) else W a
  | 0, a => by rw [k_jw, if_neg (by omega)]
  | n + 1, a => by
    rw [k_jw]
    by_cases e : a = n
    · subst e
      have h0 : k_jw wo br W a a = W a := by rw [k_jw_v wo br W a a, if_neg (by omega)]
      by_cases hb : br = nI 1 <<< (nI a &&& 31)
      · rw [if_pos (show a < a + 1 ∧ br = nI 1 <<< (nI a &&& 31) from ⟨by omega, hb⟩), if_pos hb, h0]; simp [upd]
      · rw [if_neg hb, if_neg (fun q => hb q.2), h0]
    · have h1 : k_jw wo br W n a = if a < n + 1 ∧ br = nI 1 <<< (nI a &&& 31) then (if W a < wo then wo else W a) else W a := by
        rw [k_jw_v wo br W n a]
        by_cases hc : a < n ∧ br = nI 1 <<< (nI a &&& 31)
        · rw [if_pos hc, if_pos (show a < n + 1 ∧ br = nI 1 <<< (nI a &&& 31) from ⟨by omega, hc.2⟩)]
        · rw [if_neg hc, if_neg (fun q => hc ⟨by omega, q.2⟩)]
      split
      · rw [← h1]; simp [upd, e]
      · exact h1
theorem k_jd_two {p : Nat → Bool} {m : Nat} (hm : m ≤ 14) (h : w_two p m) (F : Nat → Int64) (wo : Int32) (S : kS) : k_jd F wo (k_bits p m) S = S := by
  obtain ⟨i, j, hi, hj, hij, hpi, hpj⟩ := h
  have h0 : ¬ k_bits p m = 0 := fun q => by
    have := (k_bits_0 hm).mp q i hi
    rw [hpi] at this
    exact absurd this (by decide)
  have h1 : k_jw wo (k_bits p m) S.2.2.2 14 = S.2.2.2 := by
    funext a
    rw [k_jw_v, if_neg]
    rintro ⟨ha, q⟩
    have := (k_bits_1 hm ha).mp q
    have e1 := this.2 i hi
    have e2 := this.2 j hj
    rw [hpi] at e1
    rw [hpj] at e2
    have e1 := of_decide_eq_true e1.symm
    have e2 := of_decide_eq_true e2.symm
    omega
  unfold k_jd
  rw [if_neg (fun q => h0 q.1), h1]
