/-! YEARS, LAWS COUNTED, THE FIRST BROKEN ONE; NUMBERS IN AND OUT OF THEIR SPANS -/
section
variable {aK aO aT aH aW aS aL : Nat → Int32} {q : Nat → kL} {m : Nat}
theorem y_ys_s (ls : Nat) (u nx : Nat → Int32) : ∀ n, y_ys aK aO aT aH aS aL ls u nx (n + 1) = y_ys aK aO aT aH aS aL ls (k_upto (y_ny aK aO aT aH aS aL ls u) u 60) (k_upto (y_ny aK aO aT aH aS aL ls u) nx 60) n
  | 0 => rfl
  | n + 1 => by
    rw [y_ys, y_ys_s ls u nx n]
    rfl
theorem w_grown (hL : w_LN q m aK aO aT aH aW aS aL) {f : Nat → Int64} {U : Nat → Nat} (hf : w_fu f U) (hU : ∀ s, s < 60 → U s < 5) : k_upto (y_ny aK aO aT aH aS aL m (fun s => nI (U s))) (fun s => nI (U s)) 60 = fun s => nI (if s < 60 then w_fm (fun i => k_go (q i) f s) (fun i => (q i).2.2.2.1) (U s) m 0 else U s) := by
  have hU2 : ∀ s, s < 60 → U s < 1000 := fun s hs => by have := hU s hs; omega
  funext s
  by_cases hs : s < 60
  · rw [k_upto_lt _ _ hs, if_pos hs]
    unfold y_ny
    have hp : ∀ i, i < m → k_go (q i) f s = y_gr aK aO aH aS aL (fun s => nI (U s)) i s := fun i hi => w_go (hL.2 i hi).1.1 (hL.2 i hi).2 hf hU2 hs
    rw [y_nv_fm (w := fun i => (q i).2.2.2.1) (x := U s) (N := m) (fun i hi h => ?_) m (Nat.le_refl _), Nat.sub_self]
    · exact congrArg nI (w_fm_cong m 0 (fun j _ hj => (hp j (by omega)).symm))
    · have h2 := hp i hi
      rw [h] at h2
      have h6 : (q i).1 = 6 := (of_decide_eq_true h2).1
      exact ((hL.2 i hi).2.2.2.2.2.2.2.2 h6).1
  · rw [k_upto_ge _ _ (by omega), if_neg hs]
theorem w_years (hL : w_LN q m aK aO aT aH aW aS aL) : ∀ k (f nx : Nat → Int64) (yr : Nat) (U : Nat → Nat) (ny : Nat → Int32), w_fu f U → (∀ s, s < 60 → U s < 5) → yr ≤ 1000 → ∃ U' : Nat → Nat, w_fu (k_yr q m k (f, nx, yr)).1 U' ∧ (∀ s, s < 60 → U' s < 5) ∧ (y_ys aK aO aT aH aS aL m (fun s => nI (U s)) ny (min k (1000 - yr))).1 = (fun s => nI (U' s)) ∧ (k_yr q m k (f, nx, yr)).2.2 = yr + min k (1000 - yr)
  | 0, f, nx, yr, U, ny, hf, hU, hy => ⟨U, hf, hU, by rw [show min 0 (1000 - yr) = 0 by omega]; rfl, by rw [show min 0 (1000 - yr) = 0 by omega]; rfl⟩
  | k + 1, f, nx, yr, U, ny, hf, hU, hy => by
    rw [k_yr]
    by_cases h : yr < 1000
    · rw [if_pos h]
      have hU2 : ∀ s, s < 60 → U s < 1000 := fun s hs => by have := hU s hs; omega
      have hg := w_g60 (q := q) (f := f) (m := m) (w_fu_upto (g := nx) hf) (fun j hj => (hL.2 j hj).1.1.2.2.2.1) 60 (Nat.le_refl _)
      have hlt : ∀ s, s < 60 → (if s < 60 then w_fm (fun i => k_go (q i) f s) (fun i => (q i).2.2.2.1) (U s) m 0 else U s) < 5 := fun s hs => by
        rw [if_pos hs]
        exact w_fm_lt (hU s hs) m 0 (fun j _ hj => (hL.2 j (by omega)).1.1.2.2.2.1)
      obtain ⟨U', a1, a2, a3, a4⟩ := w_years hL k _ (k_g60 q f (k_upto f nx 5) m 60) (yr + 1) _ (k_upto (y_ny aK aO aT aH aS aL m (fun s => nI (U s))) ny 60) (w_fu_upto (g := f) hg) hlt (by omega)
      refine ⟨U', a1, a2, ?_, ?_⟩
      · rw [show min (k + 1) (1000 - yr) = min k (1000 - (yr + 1)) + 1 by omega, y_ys_s, w_grown hL hf hU]
        exact a3
      · rw [a4]; omega
    · rw [if_neg h]
      exact ⟨U, hf, hU, by rw [show min (k + 1) (1000 - yr) = 0 by omega]; rfl, by show yr = _; omega⟩
theorem w_laws (hL : w_LN q m aK aO aT aH aW aS aL) : ∀ k, k ≤ m → k_laws q k = nI (y_lws aK k)
  | 0, _ => rfl
  | k + 1, hk => by
    rw [k_laws, y_lws, w_laws hL k (by omega), w_isl (hL.2 k (by omega)).1.1 (hL.2 k (by omega)).2]
    cases y_isl aK k with
    | true => rw [if_pos rfl, if_pos rfl, nI_add]
    | false => rw [if_neg (by decide), if_neg (by decide), Nat.add_zero]
theorem w_fb (hL : w_LN q m aK aO aT aH aW aS aL) {f : Nat → Int64} {U : Nat → Nat} (hf : w_fu f U) (hU : ∀ s, s < 60 → U s < 1000) : ∀ n i, i + n ≤ m → k_fb q f n i = y_fb (fun k => y_hb (q k).1 aO aT aS aL (fun s => nI (U s)) k) n i
  | 0, _, _ => rfl
  | n + 1, i, hi => by
    rw [k_fb, y_fb, w_hb (hL.2 i (by omega)).1.1 (hL.2 i (by omega)).2 hf hU, w_fb hL hf hU n (i + 1) (by omega)]
    cases y_hb (q i).1 aO aT aS aL (fun s => nI (U s)) i with
    | true => rfl
    | false => rfl
theorem w_worths (hL : w_LN q m aK aO aT aH aW aS aL) {so : Nat → Int32} {f : Nat → Int64} {U : Nat → Nat} (hf : w_fu f U) (hU : ∀ s, s < 60 → U s < 1000) : k_sum (fun i => k_lw (q i) f so) m = k_sum (fun k => y_ad aK aO aT aW aS so (fun s => nI (U s)) k 60) m := k_sum_cong (fun i hi => w_lw (hL.2 i hi).1.1 (hL.2 i hi).2 hf hU)
end
theorem w_rg (x : Int32) {m : Nat} (hm : m < 2 ^ 31) : (∃ a, a < m ∧ x = nI a) ∨ (x < 0 ∨ ¬ x < nI m) := by
  by_cases h0 : x < 0
  · exact Or.inr (Or.inl h0)
  · obtain ⟨j, hj, rfl⟩ := nI_of h0
    by_cases h1 : j < m
    · exact Or.inl ⟨j, h1, rfl⟩
    · exact Or.inr (Or.inr (nI_nlt (by omega) (by omega)))
theorem w_imf {x : Int32} {m : Nat} (hm : m ≤ 1000) (h : x < 0 ∨ ¬ x < nI m) : k_im x (nI 0) (nI m - nI 1) = false := by
  unfold k_im
  rcases h with h | h
  · rw [nI_0, decide_eq_true h]; rfl
  · by_cases h0 : x < nI 0
    · rw [decide_eq_true h0]; rfl
    · have h1 : nI m - nI 1 < x := by
        by_cases e : m = 0
        · subst e
          exact Int32.lt_of_lt_of_le (show nI 0 - nI 1 < nI 0 by decide) (Int32.not_lt.mp h0)
        · rw [show nI m - nI 1 = nI (m - 1) from pk_sub (by omega)]
          exact Int32.lt_of_lt_of_le (nI_lt (by omega) (by omega)) (Int32.not_lt.mp h)
      rw [decide_eq_true h1, Bool.not_true, Bool.and_false]
theorem w_imf1 {x : Int32} {m : Nat} (hm : m < 1000) (h : x < 0 ∨ ¬ x < nI (m + 1)) : k_im x (nI 0) (nI m) = false := by
  have := w_imf (x := x) (m := m + 1) (by omega) h
  rwa [show nI (m + 1) - nI 1 = nI m from (pk_sub (by omega)).trans (by rw [Nat.add_sub_cancel])] at this
theorem w_imt {a m : Nat} (ha : a ≤ m) (hm : m < 1000) : k_im (nI a) (nI 0) (nI m) = true := by
  rw [k_imN (by omega) (by omega) (by omega), decide_eq_true (Nat.zero_le a), decide_eq_true ha]; rfl
theorem w_nqt {x : Int32} (h : x < 0 ∨ ¬ x < nI 60) : k_nq x = true := by unfold k_nq; rw [w_imf1 (m := 59) (by omega) h]; rfl
/-- a plan's number or none -/
theorem w_rgp (x : Int32) {m : Nat} (hm : m ≤ 1000) : (∃ a : Option Nat, (∀ i, a = some i → i < m) ∧ x = k_on a ∧ k_im x (-nI 1) (nI m - nI 1) = true) ∨ (x ≠ -nI 1 ∧ (x < 0 ∨ ¬ x < nI m) ∧ k_im x (-nI 1) (nI m - nI 1) = false) := by
  have hsub : ¬ nI m - nI 1 < -nI 1 := by
    by_cases e : m = 0
    · subst e; decide
    · rw [show nI m - nI 1 = nI (m - 1) from pk_sub (by omega)]
      exact fun h => absurd (Int32.lt_trans h (show -nI 1 < nI 0 by decide)) (by rw [nI_0]; exact nI_pos (by omega))
  by_cases h1 : x = -nI 1
  · refine Or.inl ⟨none, (fun i h => by cases h), h1, ?_⟩
    rw [h1]
    unfold k_im
    rw [decide_eq_false Int32.lt_irrefl, decide_eq_false hsub]; rfl
  · rcases w_rg x (m := m) (by omega) with ⟨a, ha, rfl⟩ | h
    · refine Or.inl ⟨some a, (fun i h => by cases h; exact ha), rfl, ?_⟩
      unfold k_im
      rw [decide_eq_false (fun h => absurd (Int32.lt_trans h (show -nI 1 < nI 0 by decide)) (by rw [nI_0]; exact nI_pos (by omega))), decide_eq_false (fun h => ?_)]
      · rfl
      · rw [show nI m - nI 1 = nI (m - 1) from pk_sub (by omega)] at h
        exact nI_nlt (show a ≤ m - 1 by omega) (by omega) h
    · refine Or.inr ⟨h1, h, ?_⟩
      unfold k_im
      rcases h with h | h
      · rw [decide_eq_true (show x < -nI 1 from ?_)]
        · rfl
        · have h2 : x ≤ -1 := by
            rw [Int32.le_iff_toInt_le]
            have h3 := Int32.lt_iff_toInt_lt.mp h
            have e0 : (0 : Int32).toInt = 0 := by decide
            have e1 : (-1 : Int32).toInt = -1 := by decide
            rw [e0] at h3; rw [e1]; omega
          rcases Int32.lt_or_eq_of_le h2 with h4 | h4
          · exact h4
          · exact absurd h4 h1
      · have h2 : nI m - nI 1 < x := by
          by_cases e : m = 0
          · subst e
            exact Int32.lt_of_lt_of_le (show nI 0 - nI 1 < nI 0 by decide) (Int32.not_lt.mp h)
          · rw [show nI m - nI 1 = nI (m - 1) from pk_sub (by omega)]
            exact Int32.lt_of_lt_of_le (nI_lt (by omega) (by omega)) (Int32.not_lt.mp h)
        rw [decide_eq_true h2, Bool.not_true, Bool.and_false]
