/-! THE READERS AGREE -/
theorem k_sbf_stop {g : Nat → Int32} {n : Nat} : ∀ f p, n ≤ p + f → ¬ (k_sbf g n f p < n ∧ k_at g n (k_sbf g n f p) = nI 32)
  | 0, p, h => fun q => by have := q.1; rw [k_sbf] at this; omega
  | f + 1, p, h => by
    rw [k_sbf]
    split
    · exact k_sbf_stop f (p + 1) (by omega)
    · assumption
theorem k_sb_idem (g : Nat → Int32) (n p : Nat) : k_sb g n (k_sb g n p) = k_sb g n p := by
  have h := k_sbf_stop (g := g) (n := n) (n - p) p (by omega)
  show k_sbf g n (n - k_sb g n p) (k_sb g n p) = k_sb g n p
  unfold k_sb
  cases n - k_sbf g n (n - p) p with
  | zero => rfl
  | succ f => rw [k_sbf, if_neg h]
section
variable {g : Nat → Int32} {n p : Nat}
theorem w_swb_i (si : Nat) : k_swb g n (k_sb g n p) si = k_swb g n p si := by unfold k_swb; rw [k_sb_idem]
theorem w_wp_i : y_wp g n (k_sb g n p) = y_wp g n p := by unfold y_wp; rw [k_sb_idem]
theorem w_np_i : y_np g n (k_sb g n p) = y_np g n p := by unfold y_np; rw [k_sb_idem]
theorem w_nok_i (lo hi : Nat) : k_nok g n (k_sb g n p) lo hi = k_nok g n p lo hi := by unfold k_nok; rw [k_sb_idem]
theorem w_num_i (lo hi : Nat) : y_num g n (k_sb g n p) lo hi = y_num g n p lo hi := by unfold y_num k_nu; rw [w_nok_i, k_sb_idem]
theorem w_uq_i : y_uq g n (k_sb g n p) = y_uq g n p := by unfold y_uq; simp only [w_swb_i]
theorem w_swp (si : Nat) : k_swp g n p si = if k_swb g n p si then y_wp g n p else k_sb g n p := by
  unfold k_swp
  cases h : k_swb g n p si with
  | false => rfl
  | true =>
    unfold k_swb at h
    rw [Bool.and_eq_true, decide_eq_true_eq] at h
    rw [if_pos rfl, if_pos rfl]
    unfold y_wp
    rw [h.1]
theorem w_tx {i j : Nat} (h : m_tx i = m_tx j) : k_swb g n p i = k_swb g n p j := by unfold k_swb; rw [h]
theorem w_excl {i j : Nat} (h : (m_tx i).length ≠ (m_tx j).length) (hi : k_swb g n p i = true) : k_swb g n p j = false := by
  unfold k_swb at hi ⊢
  rw [Bool.and_eq_true, decide_eq_true_eq] at hi
  rw [decide_eq_false (fun q => h (hi.1.symm.trans q)), Bool.false_and]
theorem w_t3 : k_swb g n p 3 = k_swb g n p 26 := w_tx (by decide +kernel)
theorem w_t4 : k_swb g n p 4 = k_swb g n p 27 := w_tx (by decide +kernel)
theorem w_t5 : k_swb g n p 5 = k_swb g n p 28 := w_tx (by decide +kernel)
theorem w_t6 : k_swb g n p 6 = k_swb g n p 29 := w_tx (by decide +kernel)
theorem w_t7 : k_swb g n p 7 = k_swb g n p 30 := w_tx (by decide +kernel)
theorem w_t8 : k_swb g n p 8 = k_swb g n p 31 := w_tx (by decide +kernel)
theorem w_t9 : k_swb g n p 9 = k_swb g n p 33 := w_tx (by decide +kernel)
theorem w_t10 : k_swb g n p 10 = k_swb g n p 34 := w_tx (by decide +kernel)
theorem w_t11 : k_swb g n p 11 = k_swb g n p 35 := w_tx (by decide +kernel)
theorem w_t12 : k_swb g n p 12 = k_swb g n p 32 := w_tx (by decide +kernel)
theorem w_t13 : k_swb g n p 13 = k_swb g n p 36 := w_tx (by decide +kernel)
theorem w_t14 : k_swb g n p 14 = k_swb g n p 37 := w_tx (by decide +kernel)
theorem w_t15 : k_swb g n p 15 = k_swb g n p 38 := w_tx (by decide +kernel)
theorem w_t16 : k_swb g n p 16 = k_swb g n p 39 := w_tx (by decide +kernel)
theorem w_t17 : k_swb g n p 17 = k_swb g n p 40 := w_tx (by decide +kernel)
theorem w_t18 : k_swb g n p 18 = k_swb g n p 41 := w_tx (by decide +kernel)
theorem w_ru (w : Int32) : k_ru g n (p, w) = (y_uq g n p).elim (0, k_sb g n p, k_rf w (k_sb g n p)) (fun v => (v, y_wp g n p, w)) := by
  unfold k_ru y_uq
  simp only [w_swp, w_t4, w_t5, w_t6, w_t7, w_t8]
  cases h0 : k_swb g n p 27 with
  | true => simp
  | false =>
    cases h1 : k_swb g n p 28 with
    | true => simp [w_swb_i, w_wp_i, h1]
    | false =>
      cases h2 : k_swb g n p 29 with
      | true => simp [w_swb_i, w_wp_i, k_sb_idem, h1, h2]
      | false =>
        cases h3 : k_swb g n p 30 with
        | true => simp [w_swb_i, w_wp_i, k_sb_idem, h1, h2, h3]
        | false =>
          cases h4 : k_swb g n p 31 with
          | true => simp [w_swb_i, w_wp_i, k_sb_idem, h1, h2, h3, h4]
          | false => simp [w_swb_i, w_wp_i, k_sb_idem, h1, h2, h3, h4]
theorem w_nr (lo hi : Nat) (w : Int32) : k_nr g n lo hi (p, w) = (y_num g n p lo hi).elim (k_sb g n p, k_rf w (k_sb g n p)) (fun _ => (y_np g n p, w)) := by
  unfold k_nr y_num
  cases h : k_nok g n p lo hi with
  | true => rfl
  | false => rfl
theorem w_nu {lo hi m : Nat} (h : y_num g n p lo hi = some m) : k_nu g n p lo hi = m := by
  unfold y_num at h
  split at h
  · cases h; rfl
  · cases h
theorem w_rw (si : Nat) (w : Int32) : k_rw g n si (p, w) = if k_swb g n p si then (y_wp g n p, w) else (k_sb g n p, k_rf w (k_sb g n p)) := by
  unfold k_rw
  simp only [w_swp]
  cases h : k_swb g n p si with
  | true => rfl
  | false => rfl
theorem k_rf_1 (p : Nat) : k_rf (-nI 1) p = nI p := if_pos rfl
theorem k_rf_w {w : Int32} (h : w ≠ -nI 1) (p : Nat) : k_rf w p = w := if_neg h
theorem k_ru_w {R : kR} (h : R.2 ≠ -nI 1) : (k_ru g n R).2.2 = R.2 := by
  obtain ⟨p, w⟩ := R
  rw [w_ru]
  cases y_uq g n p with
  | none => exact k_rf_w h _
  | some v => rfl
theorem k_nr_w {lo hi : Nat} {R : kR} (h : R.2 ≠ -nI 1) : (k_nr g n lo hi R).2 = R.2 := by
  obtain ⟨p, w⟩ := R
  rw [w_nr]
  cases y_num g n p lo hi with
  | none => exact k_rf_w h _
  | some v => rfl
theorem k_rw_w {si : Nat} {R : kR} (h : R.2 ≠ -nI 1) : (k_rw g n si R).2 = R.2 := by
  obtain ⟨p, w⟩ := R
  rw [w_rw]
  cases k_swb g n p si with
  | false => exact k_rf_w h _
  | true => rfl
theorem nI_m1 {e : Nat} (h : e ≤ 400) : nI e ≠ -nI 1 := fun q => by
  have := nI_pos (n := e) (by omega)
  rw [q] at this
  exact absurd this (by decide)
/-- what both say of a line -/
def w_ag (res : (Nat × kL) ⊕ Nat) (T : kL × kR) : Prop := match res with
  | .inl x => T = (x.2, (x.1, -nI 1))
  | .inr e => T.2.2 = nI e ∧ e ≤ 400
def k_rlawT (g : Nat → Int32) (n : Nat) (q : kL) (U : Nat × kR) : kL × kR :=
  if k_swb g n U.2.1 9 then
    ((2, U.1, (k_ru g n (k_step g n 9 U.2)).1, q.2.2.2.1, k_nu g n (k_ru g n (k_step g n 9 U.2)).2.1 1 5, q.2.2.2.2.2), k_nr g n 1 5 (k_ru g n (k_step g n 9 U.2)).2)
  else if k_swb g n (k_step g n 9 U.2).1 10 then ((3, U.1, q.2.2.1, q.2.2.2.1, q.2.2.2.2.1, q.2.2.2.2.2.1, nI (k_nu g n (k_step g n 10 (k_step g n 9 U.2)).1 0 99)), k_nr g n 0 99 (k_step g n 10 (k_step g n 9 U.2)))
  else if k_swb g n (k_step g n 10 (k_step g n 9 U.2)).1 11 then ((4, U.1, q.2.2.1, q.2.2.2.1, q.2.2.2.2.1, q.2.2.2.2.2.1, nI (k_nu g n (k_step g n 11 (k_step g n 10 (k_step g n 9 U.2))).1 0 99)), k_nr g n 0 99 (k_step g n 11 (k_step g n 10 (k_step g n 9 U.2))))
  else if k_swb g n (k_step g n 11 (k_step g n 10 (k_step g n 9 U.2))).1 12 then ((5, U.1, q.2.2), k_step g n 12 (k_step g n 11 (k_step g n 10 (k_step g n 9 U.2))))
  else ((q.1, U.1, q.2.2), k_refuse (k_step g n 12 (k_step g n 11 (k_step g n 10 (k_step g n 9 U.2)))))
theorem k_rlawT_w {q : kL} {U : Nat × kR} (h : U.2.2 ≠ -nI 1) : (k_rlawT g n q U).2.2 = U.2.2 := by
  unfold k_rlawT
  split
  · rw [k_nr_w (by rw [k_ru_w (R := k_step g n 9 U.2) h]; exact h)]
    exact k_ru_w (R := k_step g n 9 U.2) h
  · split
    · exact k_nr_w (R := k_step g n 10 (k_step g n 9 U.2)) h
    · split
      · exact k_nr_w (R := k_step g n 11 (k_step g n 10 (k_step g n 9 U.2))) h
      · split
        · rfl
        · exact k_rf_w h _
theorem w_law (hn : n ≤ 400) (hp : p ≤ n) (q : kL) : w_ag (y_plaw g n p q) (k_rlaw g n q (p, -nI 1)) := by
  have hsb : ∀ {x}, x ≤ n → k_sb g n x ≤ 400 := fun h => by have := (k_sb_le (g := g) h).2; omega
  rw [show k_rlaw g n q (p, -nI 1) = k_rlawT g n q (k_ru g n (p, -nI 1)) from rfl, w_ru]
  unfold y_plaw
  cases hU : y_uq g n p with
  | none =>
    refine ⟨?_, hsb hp⟩
    rw [k_rlawT_w]
    · exact k_rf_1 _
    · show k_rf (-nI 1) (k_sb g n p) ≠ -nI 1
      rw [k_rf_1]; exact nI_m1 (hsb hp)
  | some v =>
    have hp1 : y_wp g n p ≤ n := y_wp_le hp
    simp only [Option.elim]
    unfold k_rlawT k_step
    simp only [w_swp, w_t9, w_t10, w_t11, w_t12]
    generalize y_wp g n p = p1 at hp1
    cases h1 : k_swb g n p1 32 with
    | true =>
      have e1 : k_swb g n p1 33 = false := w_excl (by decide +kernel) h1
      have e2 : k_swb g n p1 34 = false := w_excl (by decide +kernel) h1
      have e3 : k_swb g n p1 35 = false := w_excl (by decide +kernel) h1
      simp [w_swb_i, w_wp_i, k_sb_idem, e1, e2, e3, h1, w_ag]
    | false =>
      cases h2 : k_swb g n p1 33 with
      | true =>
        have hp2 : y_wp g n p1 ≤ n := y_wp_le hp1
        simp only [if_true, Bool.false_eq_true, if_false, w_ru]
        cases hV : y_uq g n (y_wp g n p1) with
        | none =>
          simp only [Option.elim]
          refine ⟨?_, hsb hp2⟩
          rw [k_rf_1]
          exact k_nr_w (R := (_, nI (k_sb g n (y_wp g n p1)))) (nI_m1 (hsb hp2))
        | some w =>
          have hp3 : y_wp g n (y_wp g n p1) ≤ n := y_wp_le hp2
          simp only [Option.elim, w_nr]
          cases hN : y_num g n (y_wp g n (y_wp g n p1)) 1 5 with
          | none => exact ⟨k_rf_1 _, hsb hp3⟩
          | some m => simp [w_ag, w_nu hN]
      | false =>
        cases h3 : k_swb g n p1 34 with
        | true =>
          have hp2 : y_wp g n p1 ≤ n := y_wp_le hp1
          simp only [if_true, Bool.false_eq_true, if_false, w_swb_i, w_wp_i, h3, w_nr]
          cases hN : y_num g n (y_wp g n p1) 0 99 with
          | none => exact ⟨k_rf_1 _, hsb hp2⟩
          | some m => simp [w_ag, w_nu hN]
        | false =>
          cases h4 : k_swb g n p1 35 with
          | true =>
            have hp2 : y_wp g n p1 ≤ n := y_wp_le hp1
            simp only [if_true, Bool.false_eq_true, if_false, w_swb_i, w_wp_i, k_sb_idem, h3, h4, w_nr]
            cases hN : y_num g n (y_wp g n p1) 0 99 with
            | none => exact ⟨k_rf_1 _, hsb hp2⟩
            | some m => simp [w_ag, w_nu hN]
          | false =>
            simp only [if_true, Bool.false_eq_true, if_false, w_swb_i, w_wp_i, k_sb_idem, h1, h3, h4]
            exact ⟨k_rf_1 _, hsb hp1⟩
theorem k_rf_ne {w : Int32} {x : Nat} (hx : x ≤ 400) : k_rf w x ≠ -nI 1 := by
  unfold k_rf
  split
  · exact nI_m1 hx
  · assumption
theorem k_rgrow_w {q : kL} {R : kR} (h : R.2 ≠ -nI 1) : (k_rgrow g n q R).2.2 = R.2 := by
  have h1 := k_ru_w (g := g) (n := n) h
  have h2 := k_rw_w (g := g) (n := n) (si := 14) (R := (k_ru g n R).2) (by rw [h1]; exact h)
  have h3 := k_ru_w (g := g) (n := n) (R := k_rw g n 14 (k_ru g n R).2) (by rw [h2, h1]; exact h)
  have h4 := k_rw_w (g := g) (n := n) (si := 15) (R := (k_ru g n (k_rw g n 14 (k_ru g n R).2)).2) (by rw [h3, h2, h1]; exact h)
  have h5 := k_ru_w (g := g) (n := n) (R := k_rw g n 15 (k_ru g n (k_rw g n 14 (k_ru g n R).2)).2) (by rw [h4, h3, h2, h1]; exact h)
  have h6 := k_rw_w (g := g) (n := n) (si := 16) (R := (k_ru g n (k_rw g n 15 (k_ru g n (k_rw g n 14 (k_ru g n R).2)).2)).2) (by rw [h5, h4, h3, h2, h1]; exact h)
  show (k_nr g n 1 60 (k_nr g n 1 5 (k_rw g n 16 (k_ru g n (k_rw g n 15 (k_ru g n (k_rw g n 14 (k_ru g n R).2)).2)).2))).2 = R.2
  rw [k_nr_w (by rw [k_nr_w (by rw [h6, h5, h4, h3, h2, h1]; exact h), h6, h5, h4, h3, h2, h1]; exact h), k_nr_w (by rw [h6, h5, h4, h3, h2, h1]; exact h), h6, h5, h4, h3, h2, h1]
end
