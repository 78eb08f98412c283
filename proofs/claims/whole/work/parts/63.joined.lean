/-! JOINED AND FAR -/
theorem w_low {x : Int64} {a : Nat} (h1 : w_b x a = true) (h2 : ∀ j, j < a → w_b x j = false) : x &&& -x = k_only a := by
  have ha : a < 64 := Nat.lt_of_not_le (fun h => by rw [w_b_ge x h] at h1; exact absurd h1 (by decide))
  have hX := uN_lt x
  unfold w_b at h1 h2
  have hm : uN x % 2 ^ a = 0 := by
    apply Nat.eq_of_testBit_eq
    intro j
    rw [Nat.testBit_mod_two_pow, Nat.zero_testBit]
    by_cases hj : j < a
    · rw [h2 j hj, Bool.and_false]
    · rw [decide_eq_false hj, Bool.false_and]
  have hX2 : 2 ^ a * (uN x / 2 ^ a) = uN x := Nat.mul_div_cancel' (Nat.dvd_of_mod_eq_zero hm)
  have hodd : (uN x / 2 ^ a) % 2 = 1 := by
    have e : (uN x / 2 ^ a).testBit 0 = true := by rw [Nat.testBit_div_two_pow, Nat.zero_add]; exact h1
    rw [Nat.testBit_zero] at e
    exact of_decide_eq_true e
  obtain ⟨m, hm2⟩ : ∃ m, uN x / 2 ^ a = 2 * m + 1 := ⟨uN x / 2 ^ a / 2, by omega⟩
  rw [hm2] at hX2
  have hp : 0 < 2 ^ a := Nat.two_pow_pos a
  have hY : uN x = 2 ^ a * (2 * m) + (2 ^ a - 1) + 1 := by
    rw [← hX2, Nat.mul_add, Nat.mul_one]; omega
  have hneg : uN (-x) = 2 ^ 64 - uN x := by
    show (-x.toUInt64).toNat = _
    rw [UInt64.toNat_neg]
    show (2 ^ 64 - uN x) % 2 ^ 64 = _
    refine Nat.mod_eq_of_lt ?_
    omega
  refine w_b_ext (fun i hi => ?_)
  rw [w_b_and, w_b_only ha]
  unfold w_b
  rw [hneg]
  have e1 : (2 ^ 64 - uN x).testBit i = !((2 ^ a * (2 * m) + (2 ^ a - 1)).testBit i) := by
    rw [hY, Nat.testBit_two_pow_sub_succ (by omega), decide_eq_true hi, Bool.true_and]
  have e2 : (uN x).testBit i = if i < a then false else (2 * m + 1).testBit (i - a) := by
    have := Nat.testBit_two_pow_mul_add (2 * m + 1) (i := a) (b := 0) hp i
    rw [Nat.add_zero, hX2, Nat.zero_testBit] at this
    exact this
  rw [e1, e2, Nat.testBit_two_pow_mul_add (2 * m) (i := a) (b := 2 ^ a - 1) (by omega) i]
  by_cases hia : i < a
  · rw [if_pos hia, Bool.false_and]
    exact (decide_eq_false (by omega)).symm
  · rw [if_neg hia, if_neg hia]
    by_cases e : i = a
    · rw [e, Nat.sub_self, Nat.testBit_zero, Nat.testBit_zero, decide_eq_true (show (2 * m + 1) % 2 = 1 by omega), decide_eq_false (show ¬ (2 * m) % 2 = 1 by omega), decide_eq_true rfl]
      rfl
    · obtain ⟨j, hj⟩ : ∃ j, i - a = j + 1 := ⟨i - a - 1, by omega⟩
      rw [hj, Nat.testBit_succ, Nat.testBit_succ, show (2 * m + 1) / 2 = m by omega, show 2 * m / 2 = m by omega, decide_eq_false e]
      cases m.testBit j <;> rfl
theorem w_gr {a : Nat} (ha : a < 60) {o : Int64} (ho : w_ok o) : ∀ n, w_ok (k_gr (k_only a) o n) ∧ ∀ s, s < 60 → w_b (k_gr (k_only a) o n) s = y_rk (w_b o) a n s
  | 0 => ⟨w_ok_only ha, fun s hs => by rw [k_gr, w_b_only (by omega)]; rfl⟩
  | n + 1 => by
    obtain ⟨h1, h2⟩ := w_gr ha ho n
    refine ⟨w_ok_or h1 (w_ok_and (w_ok_bes _)), fun s hs => ?_⟩
    rw [k_gr, k_grow, w_b_or, w_b_and, w_b_bes h1 hs, h2 s hs, y_nb_cong hs h2, y_rk_s, Bool.and_comm (w_b o s)]
theorem y_rk_cong {p q : Nat → Bool} {a : Nat} (h : ∀ s, s < 60 → p s = q s) : ∀ k s, s < 60 → y_rk p a k s = y_rk q a k s
  | 0, _, _ => rfl
  | k + 1, s, hs => by rw [y_rk_s, y_rk_s, y_rk_cong h k s hs, h s hs, y_nb_cong hs (y_rk_cong h k)]
theorem y_rk_op {p : Nat → Bool} {a : Nat} (ha : p a = true) : ∀ k s, y_rk p a k s = true → p s = true
  | 0, s, h => by rw [show s = a from of_decide_eq_true h]; exact ha
  | k + 1, s, h => by
    rw [y_rk_s, Bool.or_eq_true, Bool.and_eq_true] at h
    rcases h with h | h
    · exact y_rk_op ha k s h
    · exact h.1
theorem k_jo_0 : k_jo 0 = true := by decide +kernel
theorem w_jo {x : Int64} (hx : w_ok x) {u : Nat → Int32} {c : Int32} (h : ∀ s, s < 60 → w_b x s = decide (u s = c)) : k_jo x = y_jnb u c := by
  cases hft : y_ft u c 60 with
  | none =>
    have h0 : x = 0 := w_ok_ext hx w_ok_0 (fun s hs => by rw [h s hs, w_b_0]; exact decide_eq_false (y_ft_none hft s hs))
    rw [h0, k_jo_0]
    unfold y_jnb
    rw [hft]
    rfl
  | some a =>
    obtain ⟨h1, h2, h3⟩ := y_ft_some hft
    have hlow : x &&& -x = k_only a := w_low (by rw [h a h1]; exact decide_eq_true h2) (fun j hj => by rw [h j (by omega)]; exact decide_eq_false (h3 j hj))
    unfold k_jo y_jnb
    rw [hlow, hft]
    show _ = k_all (fun s => !(decide (u s = c)) || y_rk (fun s => decide (u s = c)) a 59 s) 60
    obtain ⟨g1, g2⟩ := w_gr h1 hx 60
    have hc := y_rk_cong (a := a) h
    by_cases hq : k_gr (k_only a) x 60 = x
    · rw [decide_eq_true hq]
      refine (k_all_iff.mpr (fun s hs => ?_)).symm
      cases hs1 : decide (u s = c) with
      | false => rfl
      | true =>
        rw [Bool.not_true, Bool.false_or]
        refine y_rk_59 h1 hs (k := 60) ?_
        rw [← hc 60 s hs, ← g2 s hs, hq, h s hs]
        exact hs1
    · rw [decide_eq_false hq]
      cases hall : k_all (fun s => !(decide (u s = c)) || y_rk (fun s => decide (u s = c)) a 59 s) 60 with
      | false => rfl
      | true =>
        refine absurd (w_ok_ext g1 hx (fun s hs => ?_)) hq
        have hs1 := k_all_iff.mp hall s hs
        rw [g2 s hs, hc 60 s hs, h s hs]
        cases hs2 : decide (u s = c) with
        | true =>
          rw [hs2, Bool.not_true, Bool.false_or] at hs1
          exact y_rk_mono hs1 1
        | false =>
          cases hs3 : y_rk (fun s => decide (u s = c)) a 60 s with
          | false => rfl
          | true =>
            have := y_rk_op (p := fun s => decide (u s = c)) (decide_eq_true h2) 60 s hs3
            rw [hs2] at this
            exact absurd this (by decide)
theorem k_bd_sym {s t w : Nat} (hs : s < 60) (hw : w < 4) (h : k_bd s w = some t) : k_bd t (3 - w) = some s := by
  unfold k_bd at h
  rcases (show w = 0 ∨ w = 1 ∨ w = 2 ∨ w = 3 by omega) with e | e | e | e
  · subst e
    simp only at h
    split at h
    · cases h
      show (if s - 10 < 50 then some (s - 10 + 10) else none) = some s
      rw [if_pos (by omega), show s - 10 + 10 = s by omega]
    · cases h
  · subst e
    simp only at h
    split at h
    · cases h
      show (if (s - 1) % 10 < 9 then some (s - 1 + 1) else none) = some s
      rw [if_pos (by omega), show s - 1 + 1 = s by omega]
    · cases h
  · subst e
    simp only at h
    split at h
    · cases h
      show (if 0 < (s + 1) % 10 then some (s + 1 - 1) else none) = some s
      rw [if_pos (by omega), show s + 1 - 1 = s by omega]
    · cases h
  · subst e
    simp only at h
    split at h
    · cases h
      show (if 10 ≤ s + 10 then some (s + 10 - 10) else none) = some s
      rw [if_pos (by omega), show s + 10 - 10 = s by omega]
    · cases h
theorem y_nb_iff {q : Nat → Bool} {s : Nat} : y_nb q s 4 = true ↔ ∃ w t, w < 4 ∧ k_bd s w = some t ∧ q t = true := by
  unfold y_nb
  rw [k_any_iff]
  constructor
  · rintro ⟨w, hw, h⟩
    cases hb : k_bd s w with
    | none => rw [hb] at h; exact absurd (show false = true from h) (by decide)
    | some t => rw [hb] at h; exact ⟨w, t, hw, hb, h⟩
  · rintro ⟨w, t, hw, hb, h⟩
    exact ⟨w, hw, by rw [hb]; exact h⟩
theorem w_ds {u : Nat → Int32} {gt : Nat} : ∀ d, d ≤ 60 → ∀ s, s < 60 → ∀ e, e ≤ d → (y_ds u gt d s ≤ e ↔ y_rk (fun s => !(decide (u s = nI 4))) gt e s = true)
  | 0, _, s, hs, e, he => by
    rw [show e = 0 by omega, y_ds, y_rk]
    by_cases h : s = gt
    · rw [if_pos h]; simp [h]
    · rw [if_neg h]; simp [h]
  | d + 1, hd, s, hs, e, he => by
    have ih := w_ds (u := u) (gt := gt) d (by omega)
    by_cases hc : y_ds u gt d s = 1000 ∧ ¬ u s = nI 4 ∧ k_any (fun t => decide (y_ds u gt d t = d) && k_any (fun w => decide (k_bd t w = some s)) 4) 60 = true
    · rw [y_ds, if_pos hc]
      by_cases h2 : e = d + 1
      · subst h2
        refine iff_of_true (Nat.le_refl _) ?_
        rw [y_rk_s, Bool.or_eq_true, Bool.and_eq_true]
        refine Or.inr ⟨by simpa using hc.2.1, ?_⟩
        obtain ⟨t, ht, h3⟩ := k_any_iff.mp hc.2.2
        rw [Bool.and_eq_true, decide_eq_true_eq, k_any_iff] at h3
        obtain ⟨h3, w, hw, h4⟩ := h3
        rw [decide_eq_true_eq] at h4
        exact y_nb_iff.mpr ⟨3 - w, t, by omega, k_bd_sym ht hw h4, (ih t ht d (Nat.le_refl _)).mp (by omega)⟩
      · have := ih s hs e (by omega)
        rw [hc.1] at this
        rw [← this]
        omega
    · rw [y_ds, if_neg hc]
      by_cases h2 : e = d + 1
      · subst h2
        rcases y_ds_le u gt d s with h3 | h3
        · rw [h3]
          refine iff_of_false (by omega) (fun h4 => ?_)
          have h5 : y_rk (fun s => !(decide (u s = nI 4))) gt d s = false := by
            rw [← Bool.not_eq_true, ← ih s hs d (Nat.le_refl _)]; omega
          rw [y_rk_s, h5, Bool.false_or, Bool.and_eq_true] at h4
          obtain ⟨h6, h7⟩ := h4
          obtain ⟨w, t, hw, hb, h8⟩ := y_nb_iff.mp h7
          have ht := k_bd_lt hs hb
          have h9 := (ih t ht d (Nat.le_refl _)).mpr h8
          refine hc ⟨h3, by simpa using h6, k_any_iff.mpr ⟨t, ht, ?_⟩⟩
          rw [Bool.and_eq_true, decide_eq_true_eq, k_any_iff]
          refine ⟨?_, 3 - w, by omega, decide_eq_true (k_bd_sym hs hw hb)⟩
          refine Nat.le_antisymm h9 (Nat.le_of_not_lt (fun hlt => ?_))
          have h10 := (ih t ht (d - 1) (by omega)).mp (by omega)
          have h11 : y_rk (fun s => !(decide (u s = nI 4))) gt (d - 1 + 1) s = true := by
            rw [y_rk_s, Bool.or_eq_true, Bool.and_eq_true]
            exact Or.inr ⟨h6, y_nb_iff.mpr ⟨w, t, hw, hb, h10⟩⟩
          rw [show d - 1 + 1 = d by omega, h5] at h11
          exact absurd h11 (by decide)
        · refine iff_of_true (by omega) ?_
          exact y_rk_mono ((ih s hs d (Nat.le_refl _)).mp h3) 1
      · exact ih s hs e (by omega)
theorem y_mx_iff {u : Nat → Int32} {D : Nat → Nat} {j : Nat} : ∀ {n : Nat}, y_mx u D n ≤ j ↔ ∀ s, s < n → u s = nI 1 → D s ≤ j
  | 0 => ⟨fun _ s hs => absurd hs (by omega), fun _ => Nat.zero_le _⟩
  | n + 1 => by
    rw [y_mx]
    by_cases h : u n = nI 1
    · rw [if_pos h]
      constructor
      · intro h1 s hs h2
        by_cases e : s = n
        · subst e; omega
        · exact y_mx_iff.mp (show y_mx u D n ≤ j by omega) s (by omega) h2
      · intro h1
        have h5 : y_mx u D n ≤ j := y_mx_iff.mpr (fun s hs h2 => h1 s (by omega) h2)
        have := h1 n (by omega) h
        omega
    · rw [if_neg h]
      constructor
      · intro h1 s hs h2
        by_cases e : s = n
        · subst e; exact absurd h2 h
        · exact y_mx_iff.mp h1 s (by omega) h2
      · intro h1
        exact y_mx_iff.mpr (fun s hs h2 => h1 s (by omega) h2)
theorem k_st_first {g r o : Int64} {M : Nat} (h : ∀ j, j < 60 → (g &&& (k_gr r o j ^^^ (-1)) = 0 ↔ M ≤ j)) : ∀ n i, i + n = 60 → i ≤ M → k_st g r o n i = if M < 60 then nI M else -nI 1
  | 0, i, hi, hM => by rw [k_st, if_neg (by omega)]
  | n + 1, i, hi, hM => by
    rw [k_st]
    by_cases e : M ≤ i
    · rw [if_pos ((h i (by omega)).mpr e), if_pos (by omega), show i = M by omega]
    · rw [if_neg (fun q => e ((h i (by omega)).mp q)), k_st_first h n (i + 1) (by omega) (by omega)]
theorem w_far {f : Nat → Int64} {U : Nat → Nat} (hf : w_fu f U) (hU : ∀ s, s < 60 → U s < 1000) {gt : Nat} (hg : gt < 60) : k_st (f 1) (k_only gt) (1152921504606846975 &&& (f 4 ^^^ (-1))) 60 0 = y_fr (fun s => nI (U s)) gt := by
  have ho : w_ok (1152921504606846975 &&& (f 4 ^^^ (-1))) := fun i hi => by
    by_cases h : i < 64
    · rw [w_b_and, w_b_all h, decide_eq_false (by omega), Bool.false_and]
    · exact w_b_ge _ (by omega)
  have hop : ∀ s, s < 60 → w_b (1152921504606846975 &&& (f 4 ^^^ (-1))) s = !(decide (nI (U s) = nI 4)) := fun s hs => by
    have := hU s hs
    rw [w_b_and, w_b_all (by omega), decide_eq_true hs, Bool.true_and, w_b_not _ (by omega), w_fu_b hf (by omega) hs]
    exact congrArg Bool.not (decide_eq_decide.mpr (nI_eq (by omega) (by omega)).symm)
  have hds := w_ds (u := fun s => nI (U s)) (gt := gt) 60 (Nat.le_refl _)
  have hM : ∀ j, j < 60 → (f 1 &&& (k_gr (k_only gt) (1152921504606846975 &&& (f 4 ^^^ (-1))) j ^^^ (-1)) = 0 ↔ y_mx (fun s => nI (U s)) (y_ds (fun s => nI (U s)) gt 60) 60 ≤ j) := fun j hj => by
    rw [y_mx_iff]
    obtain ⟨g1, g2⟩ := w_gr hg ho j
    constructor
    · intro h s hs hu
      rw [hds s hs j (by omega), ← y_rk_cong hop j s hs, ← g2 s hs]
      have h1 := congrArg (fun z => w_b z s) h
      have := hU s hs
      simp only [w_b_and, w_b_0] at h1
      rw [w_b_not _ (by omega), w_fu_b hf (by omega) hs, decide_eq_true ((nI_eq (by omega) (by omega)).mp hu), Bool.true_and] at h1
      simpa using h1
    · intro h
      refine w_ok_ext (w_ok_and (w_fu_ok hf (by omega))) w_ok_0 (fun s hs => ?_)
      rw [w_b_and, w_b_0, w_b_not _ (by omega), w_fu_b hf (by omega) hs]
      by_cases e : U s = 1
      · have := (hds s hs j (by omega)).mp (h s hs (by rw [e]))
        rw [← y_rk_cong hop j s hs, ← g2 s hs] at this
        rw [this, Bool.not_true, Bool.and_false]
      · rw [decide_eq_false e, Bool.false_and]
  rw [k_st_first hM 60 0 (by omega) (by omega)]
  unfold y_fr
  have h59 : ∀ s, s < 60 → y_ds (fun s => nI (U s)) gt 60 s = 1000 ∨ y_ds (fun s => nI (U s)) gt 60 s ≤ 59 := fun s hs => by
    rcases y_ds_le (fun s => nI (U s)) gt 60 s with h | h
    · exact Or.inl h
    · exact Or.inr ((hds s hs 59 (by omega)).mpr (y_rk_59 hg hs ((hds s hs 60 (Nat.le_refl _)).mp h)))
  by_cases h : y_mx (fun s => nI (U s)) (y_ds (fun s => nI (U s)) gt 60) 60 < 60
  · rw [if_pos h, if_neg (by omega)]
  · rw [if_neg h]
    have h1000 : y_mx (fun s => nI (U s)) (y_ds (fun s => nI (U s)) gt 60) 60 = 1000 := by
      refine Nat.le_antisymm (y_mx_iff.mpr (fun s hs _ => by rcases h59 s hs with h | h <;> omega)) (Nat.le_of_not_lt (fun hlt => ?_))
      refine h (Nat.lt_succ_of_le (y_mx_iff.mpr (fun s hs hu => ?_)))
      rcases h59 s hs with h2 | h2
      · have := y_mx_iff.mp (Nat.le_refl (y_mx (fun s => nI (U s)) (y_ds (fun s => nI (U s)) gt 60) 60)) s hs hu
        omega
      · exact h2
    rw [if_pos h1000]
