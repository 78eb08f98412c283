/-! THE SEARCH of the class: all ways, in their order -/
def w_LN (q : Nat → kL) (m : Nat) (aK aO aT aH aW aS aL : Nat → Int32) : Prop := m ≤ 14 ∧ ∀ i, i < m → (k_lok (q i) ∧ w_nb (q i)) ∧ y_LR (q i) aK aO aT aH aW aS aL i
def w_W (q : Nat → kL) (m : Nat) (so : Nat → Int32) (F : Nat → Int64) : Int32 := k_sum (fun i => k_lw (q i) F so) m
def w_lf (q : Nat → kL) (m : Nat) (so : Nat → Int32) (F : Nat → Int64) (S : kS) : kS := k_jd F (w_W q m so F) (k_bits (fun i => k_br (q i) F) m) S
def w_fold (q : Nat → kL) (m : Nat) (so : Nat → Int32) (sqs : Nat → Nat) (cnt : Nat) : Nat → (Nat → Int64) → kS → kS
  | 0, F, S => w_lf q m so F S
  | n + 1, F, S => w_fold q m so sqs cnt n (k_put F (k_only (sqs (cnt - (n + 1)))) 4) (w_fold q m so sqs cnt n (k_put F (k_only (sqs (cnt - (n + 1)))) 3) (w_fold q m so sqs cnt n (k_put F (k_only (sqs (cnt - (n + 1)))) 2) (w_fold q m so sqs cnt n (k_put F (k_only (sqs (cnt - (n + 1)))) 1) S)))
/-- the last n squares are lifted -/
def w_H (U : Nat → Nat) (sqs : Nat → Nat) (cnt n : Nat) : Prop := n ≤ cnt ∧ (∀ s, s < 60 → U s < 1000) ∧ ∀ j, j < n → sqs (cnt - n + j) < 60 ∧ 5 ≤ U (sqs (cnt - n + j)) ∧ ∀ i, i < j → ¬ sqs (cnt - n + i) = sqs (cnt - n + j)
theorem w_H0 {U : Nat → Nat} {sqs : Nat → Nat} {cnt n : Nat} (h : w_H U sqs cnt (n + 1)) : sqs (cnt - (n + 1)) < 60 ∧ 5 ≤ U (sqs (cnt - (n + 1))) := ⟨(h.2.2 0 (by omega)).1, (h.2.2 0 (by omega)).2.1⟩
theorem w_Hs {U : Nat → Nat} {sqs : Nat → Nat} {cnt n v : Nat} (h : w_H U sqs cnt (n + 1)) (hv : v < 1000) : w_H (fun s => if s = sqs (cnt - (n + 1)) then v else U s) sqs cnt n := by
  obtain ⟨h1, h2, h3⟩ := h
  refine ⟨by omega, fun s hs => ?_, fun j hj => ?_⟩
  · show (if s = sqs (cnt - (n + 1)) then v else U s) < 1000
    split
    · exact hv
    · exact h2 s hs
  · have e : cnt - n + j = cnt - (n + 1) + (j + 1) := by omega
    obtain ⟨a1, a2, a3⟩ := h3 (j + 1) (by omega)
    rw [e]
    refine ⟨a1, ?_, fun i hi => ?_⟩
    · have := a3 0 (by omega)
      show 5 ≤ (if sqs (cnt - (n + 1) + (j + 1)) = sqs (cnt - (n + 1)) then v else U (sqs (cnt - (n + 1) + (j + 1))))
      rw [if_neg (fun q => this q.symm)]
      exact a2
    · rw [show cnt - n + i = cnt - (n + 1) + (i + 1) by omega]
      exact a3 (i + 1) (by omega)
theorem w_fu_put1 {F : Nat → Int64} {U : Nat → Nat} (hf : w_fu F U) {s v : Nat} (hs : s < 60) (hv : v < 5) : w_fu (k_put F (k_only s) v) (fun t => if t = s then v else U t) := w_fu_cong (w_fu_put hf (w_ok_only hs) hv) (fun t _ => by
  rw [w_b_only (by omega)]
  by_cases e : t = s <;> simp [e])
section
variable {q : Nat → kL} {m : Nat} {so : Nat → Int32} {sqs : Nat → Nat} {cnt : Nat} {aK aO aT aH aW aS aL : Nat → Int32}
theorem w_W_put (hL : w_LN q m aK aO aT aH aW aS aL) {F : Nat → Int64} {U : Nat → Nat} (hf : w_fu F U) (hU : ∀ s, s < 60 → U s < 1000) {s v : Nat} (hs : s < 60) (hv : v < 5) (hUs : 5 ≤ U s) : w_W q m so (k_put F (k_only s) v) = w_W q m so F + k_sum (fun i => k_lwp (q i) F so s v) m := by
  unfold w_W
  rw [← k_sum_add]
  refine k_sum_cong (fun i hi => ?_)
  obtain ⟨⟨hq, -⟩, hr⟩ := hL.2 i hi
  have h9 := hU s hs
  have hU2 : ∀ t, t < 60 → (if t = s then v else U t) < 1000 := fun t ht => by
    split
    · omega
    · exact hU t ht
  rw [w_lw hq hr (w_fu_put1 hf hs hv) hU2, w_lw hq hr hf hU, w_lwp hq hr hf hU hs hv hUs]
  have e : (fun t => nI (if t = s then v else U t)) = upd (fun t => nI (U t)) s (nI v) := by
    funext t
    by_cases e : t = s <;> simp [upd, e]
  rw [e, y_ad_put hs]
  · show ¬ aO i = nI (U s)
    rw [hr.2.1]
    have := hq.2.1
    exact fun h => by have := (nI_eq (by omega) (by omega)).mp h; omega
  · intro h0
    show ¬ aT i = nI (U s)
    have hk := (w_kind hr hq (j := 0) (by omega)).mp (h0.trans nI_0.symm)
    rw [(hr.2.2.1 hk).1]
    have := hq.2.2.1
    exact fun h => by have := (nI_eq (by omega) (by omega)).mp h; omega
theorem w_bp_put (hL : w_LN q m aK aO aT aH aW aS aL) {F : Nat → Int64} {U : Nat → Nat} (hf : w_fu F U) {s v i : Nat} (hs : s < 60) (hv : v < 5) (hUs : 5 ≤ U s) (hi : i < m) : k_bp (q i) (k_put F (k_only s) v) = (k_bp (q i) F || k_bpp (q i) F s v) := by
  obtain ⟨⟨hq, -⟩, hr⟩ := hL.2 i hi
  rw [Bool.eq_iff_iff, Bool.or_eq_true, w_bp hq (w_fu_put1 hf hs hv), w_bp hq hf, w_bpp hq hf hs hv, w_near_put hs hq.2.1 hq.2.2.1 hUs]
  constructor
  · rintro ⟨h1, h2 | h2⟩
    · exact Or.inl ⟨h1, h2⟩
    · exact Or.inr ⟨h1, h2⟩
  · rintro (⟨h1, h2⟩ | ⟨h1, h2⟩)
    · exact ⟨h1, Or.inl h2⟩
    · exact ⟨h1, Or.inr h2⟩
theorem w_bp_br {x : kL} {F : Nat → Int64} (h : k_bp x F = true) : k_br x F = true := by
  have h2 : x.1 = 2 := (of_decide_eq_true h).1
  unfold k_br
  rw [if_pos h2]
  exact h
theorem w_br_or (x : kL) (F : Nat → Int64) : (k_bp x F || k_bw x F) = k_br x F := by
  unfold k_br
  by_cases h : x.1 = 2
  · rw [if_pos h]
    have : k_bw x F = false := by unfold k_bw; rw [if_neg (by omega), if_neg (by omega), if_neg (by omega)]
    rw [this, Bool.or_false]
  · rw [if_neg h]
    have : k_bp x F = false := decide_eq_false (fun q => h q.1)
    rw [this, Bool.false_or]
theorem w_fold_two (hL : w_LN q m aK aO aT aH aW aS aL) : ∀ n {F : Nat → Int64} {U : Nat → Nat} (S : kS), w_fu F U → w_H U sqs cnt n → w_two (fun i => k_bp (q i) F) m → w_fold q m so sqs cnt n F S = S
  | 0, F, U, S, hf, hH, h => by
    obtain ⟨i, j, hi, hj, hij, h1, h2⟩ := h
    exact k_jd_two hL.1 ⟨i, j, hi, hj, hij, w_bp_br h1, w_bp_br h2⟩ F _ S
  | n + 1, F, U, S, hf, hH, h => by
    have h0 := w_H0 hH
    have key : ∀ v S, v < 5 → w_fold q m so sqs cnt n (k_put F (k_only (sqs (cnt - (n + 1)))) v) S = S := fun v S hv => by
      refine w_fold_two hL n S (w_fu_put1 hf h0.1 hv) (w_Hs hH (by omega)) ?_
      obtain ⟨i, j, hi, hj, hij, h1, h2⟩ := h
      simp only at h1 h2
      exact ⟨i, j, hi, hj, hij, by simp only; rw [w_bp_put hL hf h0.1 hv h0.2 hi, h1, Bool.true_or], by simp only; rw [w_bp_put hL hf h0.1 hv h0.2 hj, h2, Bool.true_or]⟩
    rw [w_fold, key 4 _ (by omega), key 3 _ (by omega), key 2 _ (by omega), key 1 _ (by omega)]
theorem w_pf_s (n : Nat) (wo br : Int32) (S : (Nat → Int64) × kS) : k_pf q m so sqs cnt (n + 1) wo br S = if k_ipc br ≤ nI 1 then k_one q m so sqs cnt n wo br 4 (k_one q m so sqs cnt n wo br 3 (k_one q m so sqs cnt n wo br 2 (k_one q m so sqs cnt n wo br 1 S))) else S := rfl
theorem w_pf (hL : w_LN q m aK aO aT aH aW aS aL) : ∀ n {F : Nat → Int64} {U : Nat → Nat} (S : kS), w_fu F U → w_H U sqs cnt n → k_pf q m so sqs cnt n (w_W q m so F) (k_bits (fun i => k_bp (q i) F) m) (F, S) = (F, w_fold q m so sqs cnt n F S)
  | 0, F, U, S, hf, hH => by
    rw [k_pf]
    by_cases h : k_ipc (k_bits (fun i => k_bp (q i) F) m) ≤ nI 1
    · rw [if_pos h]
      show (F, k_jd F (w_W q m so F) (k_bits (fun i => k_bp (q i) F) m ||| k_bits (fun i => k_bw (q i) F) m) S) = _
      rw [k_bits_or hL.1, k_bits_cong hL.1 (fun i _ => w_br_or (q i) F)]
      rfl
    · rw [if_neg h, w_fold_two hL 0 S hf hH (k_ipc_two hL.1 h)]
  | n + 1, F, U, S, hf, hH => by
    rw [w_pf_s]
    by_cases h : k_ipc (k_bits (fun i => k_bp (q i) F) m) ≤ nI 1
    · rw [if_pos h]
      have h0 := w_H0 hH
      have key : ∀ v S, v < 5 → k_one q m so sqs cnt n (w_W q m so F) (k_bits (fun i => k_bp (q i) F) m) v (F, S) = (F, w_fold q m so sqs cnt n (k_put F (k_only (sqs (cnt - (n + 1)))) v) S) := fun v S hv => by
        have ih := w_pf hL n S (w_fu_put1 hf h0.1 hv) (w_Hs hH (v := v) (by omega))
        rw [w_W_put hL hf hH.2.1 h0.1 hv h0.2, k_bits_cong hL.1 (fun i hi => w_bp_put hL hf h0.1 hv h0.2 hi), ← k_bits_or hL.1] at ih
        unfold k_one
        simp only
        rw [ih]
        simp only
        rw [w_put_lift hf h0.1 hv h0.2]
      rw [key 1 S (by omega), key 2 _ (by omega), key 3 _ (by omega), key 4 _ (by omega)]
      rfl
    · rw [if_neg h, w_fold_two hL (n + 1) S hf hH (k_ipc_two hL.1 h)]
end
/-! the ways by their numbers -/
def w_it (J : Nat → kS → kS) : Nat → kS → kS
  | 0, S => S
  | c + 1, S => J c (w_it J c S)
theorem w_it_add (J : Nat → kS → kS) (a : Nat) : ∀ b S, w_it J (a + b) S = w_it (fun c => J (a + c)) b (w_it J a S)
  | 0, _ => rfl
  | b + 1, S => by
    show J (a + b) (w_it J (a + b) S) = J (a + b) (w_it (fun c => J (a + c)) b (w_it J a S))
    rw [w_it_add J a b S]
theorem w_it_cong {J J' : Nat → kS → kS} : ∀ {n : Nat} (S : kS), (∀ c S, c < n → J c S = J' c S) → w_it J n S = w_it J' n S
  | 0, _, _ => rfl
  | n + 1, S, h => by rw [w_it, w_it, w_it_cong S (fun c S hc => h c S (by omega)), h n _ (by omega)]
def w_F (sqs : Nat → Nat) (cnt : Nat) : Nat → (Nat → Int64) → Nat → (Nat → Int64)
  | 0, F, _ => F
  | n + 1, F, c => w_F sqs cnt n (k_put F (k_only (sqs (cnt - (n + 1)))) (1 + c / 4 ^ n)) (c % 4 ^ n)
theorem w_fold_it {q : Nat → kL} {m : Nat} {so : Nat → Int32} {sqs : Nat → Nat} {cnt : Nat} : ∀ n (F : Nat → Int64) (S : kS), w_fold q m so sqs cnt n F S = w_it (fun c => w_lf q m so (w_F sqs cnt n F c)) (4 ^ n) S
  | 0, F, S => rfl
  | n + 1, F, S => by
    have hp : 0 < 4 ^ n := Nat.pow_pos (by omega)
    have e : 4 ^ (n + 1) = 4 ^ n + 4 ^ n + 4 ^ n + 4 ^ n := by rw [Nat.pow_succ]; omega
    have key : ∀ o v S, o = v * 4 ^ n → w_fold q m so sqs cnt n (k_put F (k_only (sqs (cnt - (n + 1)))) (v + 1)) S = w_it (fun c => w_lf q m so (w_F sqs cnt (n + 1) F (o + c))) (4 ^ n) S := fun o v S ho => by
      rw [w_fold_it n]
      refine w_it_cong S (fun c S hc => ?_)
      show _ = w_lf q m so (w_F sqs cnt n (k_put F (k_only (sqs (cnt - (n + 1)))) (1 + (o + c) / 4 ^ n)) ((o + c) % 4 ^ n)) S
      have e1 : (o + c) / 4 ^ n = v := by rw [ho, Nat.mul_comm, Nat.mul_add_div hp, Nat.div_eq_of_lt hc, Nat.add_zero]
      have e2 : (o + c) % 4 ^ n = c := by rw [ho, Nat.mul_comm, Nat.mul_add_mod, Nat.mod_eq_of_lt hc]
      rw [e1, e2, Nat.add_comm 1 v]
    rw [e, w_it_add, w_it_add, w_it_add, w_fold]
    rw [key (4 ^ n + 4 ^ n + 4 ^ n) 3 _ (by omega), key (4 ^ n + 4 ^ n) 2 _ (by omega), key (4 ^ n) 1 _ (by omega), key 0 0 _ (by omega)]
    simp only [Nat.zero_add]
theorem y_dg_s {n c i : Nat} (hi : i < n) : y_dg n (c % 4 ^ n) i = y_dg (n + 1) c (i + 1) := by
  unfold y_dg
  rw [show n + 1 - 1 - (i + 1) = n - 1 - i by omega, show 4 ^ n = 4 ^ (n - 1 - i) * (4 * 4 ^ i) by rw [← Nat.pow_succ', ← Nat.pow_add]; congr 1; omega, Nat.mod_mul_right_div_self, Nat.mod_mod_of_dvd _ (Nat.dvd_mul_right 4 _)]
theorem y_dg_0 {n c : Nat} (hc : c < 4 ^ (n + 1)) : y_dg (n + 1) c 0 = 1 + c / 4 ^ n := by
  unfold y_dg
  have : c / 4 ^ n < 4 := Nat.div_lt_of_lt_mul (by rw [← Nat.pow_succ]; exact hc)
  rw [show n + 1 - 1 - 0 = n by omega, Nat.mod_eq_of_lt this]
theorem w_F_fu {sqs : Nat → Nat} {cnt : Nat} : ∀ n {F : Nat → Int64} {U V : Nat → Nat} {c : Nat}, w_fu F U → w_H U sqs cnt n → c < 4 ^ n → (∀ i, i < n → V (sqs (cnt - n + i)) = y_dg n c i) → (∀ s, s < 60 → (∀ i, i < n → ¬ s = sqs (cnt - n + i)) → V s = U s) → w_fu (w_F sqs cnt n F c) V
  | 0, F, U, V, c, hf, hH, hc, h1, h2 => w_fu_cong hf (fun s hs => (h2 s hs (fun i hi => absurd hi (by omega))).symm)
  | n + 1, F, U, V, c, hf, hH, hc, h1, h2 => by
    have h0 := w_H0 hH
    have hd := y_dg_0 hc
    have hb := y_dg_b (n + 1) c 0
    have hn := hH.1
    have hp : 0 < 4 ^ n := Nat.pow_pos (by omega)
    rw [w_F]
    refine w_F_fu n (w_fu_put1 hf h0.1 (by omega)) (w_Hs hH (by omega)) (Nat.mod_lt _ hp) (fun i hi => ?_) (fun s hs hn2 => ?_)
    · rw [y_dg_s hi, show cnt - n + i = cnt - (n + 1) + (i + 1) by omega]
      exact h1 (i + 1) (by omega)
    · by_cases e : s = sqs (cnt - (n + 1))
      · simp only [e, if_true]
        rw [← hd]
        exact h1 0 (by omega)
      · simp only [if_neg e]
        refine h2 s hs (fun i hi => ?_)
        by_cases e2 : i = 0
        · rw [e2]; exact e
        · rw [show cnt - (n + 1) + i = cnt - n + (i - 1) by omega]
          exact hn2 (i - 1) (by omega)
