/-! THE READERS AGREE: growth, worth, lines, the whole text -/
section
variable {g : Nat → Int32} {n p : Nat}
theorem w_grow (hn : n ≤ 400) (hp : p ≤ n) (q : kL) : w_ag (y_pgrow g n p q) (k_rgrow g n q (p, -nI 1)) := by
  have hsb : ∀ {x}, x ≤ n → k_sb g n x ≤ 400 := fun h => by have := (k_sb_le (g := g) h).2; omega
  rw [show k_rgrow g n q (p, -nI 1) = ((6, (k_ru g n (p, -nI 1)).1, (k_ru g n (k_rw g n 15 (k_ru g n (k_rw g n 14 (k_ru g n (p, -nI 1)).2)).2)).1, (k_ru g n (k_rw g n 14 (k_ru g n (p, -nI 1)).2)).1, k_nu g n (k_rw g n 16 (k_ru g n (k_rw g n 15 (k_ru g n (k_rw g n 14 (k_ru g n (p, -nI 1)).2)).2)).2).1 1 5, q.2.2.2.2.2.1, nI (k_nu g n (k_nr g n 1 5 (k_rw g n 16 (k_ru g n (k_rw g n 15 (k_ru g n (k_rw g n 14 (k_ru g n (p, -nI 1)).2)).2)).2)).1 1 60)), k_nr g n 1 60 (k_nr g n 1 5 (k_rw g n 16 (k_ru g n (k_rw g n 15 (k_ru g n (k_rw g n 14 (k_ru g n (p, -nI 1)).2)).2)).2))) from rfl]
  -- the end, from any of the places
  have s5 : ∀ R : kR, R.2 ≠ -nI 1 → (k_nr g n 1 60 (k_nr g n 1 5 R)).2 = R.2 := fun R h => by rw [k_nr_w (by rw [k_nr_w h]; exact h), k_nr_w h]
  have s4 : ∀ R : kR, R.2 ≠ -nI 1 → (k_nr g n 1 60 (k_nr g n 1 5 (k_rw g n 16 R))).2 = R.2 := fun R h => by rw [s5 _ (by rw [k_rw_w h]; exact h), k_rw_w h]
  have s3 : ∀ R : kR, R.2 ≠ -nI 1 → (k_nr g n 1 60 (k_nr g n 1 5 (k_rw g n 16 (k_ru g n R).2))).2 = R.2 := fun R h => by rw [s4 _ (by rw [k_ru_w h]; exact h), k_ru_w h]
  have s2 : ∀ R : kR, R.2 ≠ -nI 1 → (k_nr g n 1 60 (k_nr g n 1 5 (k_rw g n 16 (k_ru g n (k_rw g n 15 R)).2))).2 = R.2 := fun R h => by rw [s3 _ (by rw [k_rw_w h]; exact h), k_rw_w h]
  have s1 : ∀ R : kR, R.2 ≠ -nI 1 → (k_nr g n 1 60 (k_nr g n 1 5 (k_rw g n 16 (k_ru g n (k_rw g n 15 (k_ru g n R).2)).2))).2 = R.2 := fun R h => by rw [s2 _ (by rw [k_ru_w h]; exact h), k_ru_w h]
  have s0 : ∀ R : kR, R.2 ≠ -nI 1 → (k_nr g n 1 60 (k_nr g n 1 5 (k_rw g n 16 (k_ru g n (k_rw g n 15 (k_ru g n (k_rw g n 14 R)).2)).2))).2 = R.2 := fun R h => by rw [s1 _ (by rw [k_rw_w h]; exact h), k_rw_w h]
  unfold y_pgrow
  rw [w_ru]
  cases hU : y_uq g n p with
  | none =>
    simp only [Option.elim, k_rf_1]
    exact ⟨s0 (_, nI (k_sb g n p)) (nI_m1 (hsb hp)), hsb hp⟩
  | some v =>
    have hp1 : y_wp g n p ≤ n := y_wp_le hp
    simp only [Option.elim]
    generalize y_wp g n p = p1 at hp1
    rw [w_rw (p := p1) 14 (-nI 1), w_t14]
    cases h1 : k_swb g n p1 37 with
    | false =>
      simp only [Bool.false_eq_true, if_false, k_rf_1]
      exact ⟨s1 (_, nI (k_sb g n p1)) (nI_m1 (hsb hp1)), hsb hp1⟩
    | true =>
      have hp2 : y_wp g n p1 ≤ n := y_wp_le hp1
      simp only [if_true]
      generalize y_wp g n p1 = p2 at hp2
      rw [w_ru (p := p2) (-nI 1)]
      cases hV : y_uq g n p2 with
      | none =>
        simp only [Option.elim, k_rf_1]
        exact ⟨s2 (_, nI (k_sb g n p2)) (nI_m1 (hsb hp2)), hsb hp2⟩
      | some w =>
        have hp3 : y_wp g n p2 ≤ n := y_wp_le hp2
        simp only [Option.elim]
        generalize y_wp g n p2 = p3 at hp3
        rw [w_rw (p := p3) 15 (-nI 1), w_t15]
        cases h2 : k_swb g n p3 38 with
        | false =>
          simp only [Bool.false_eq_true, if_false, k_rf_1]
          exact ⟨s3 (_, nI (k_sb g n p3)) (nI_m1 (hsb hp3)), hsb hp3⟩
        | true =>
          have hp4 : y_wp g n p3 ≤ n := y_wp_le hp3
          simp only [if_true]
          generalize y_wp g n p3 = p4 at hp4
          rw [w_ru (p := p4) (-nI 1)]
          cases hW : y_uq g n p4 with
          | none =>
            simp only [Option.elim, k_rf_1]
            exact ⟨s4 (_, nI (k_sb g n p4)) (nI_m1 (hsb hp4)), hsb hp4⟩
          | some x =>
            have hp5 : y_wp g n p4 ≤ n := y_wp_le hp4
            simp only [Option.elim]
            generalize y_wp g n p4 = p5 at hp5
            rw [w_rw (p := p5) 16 (-nI 1), w_t16]
            cases h3 : k_swb g n p5 39 with
            | false =>
              simp only [Bool.false_eq_true, if_false, k_rf_1]
              exact ⟨s5 (_, nI (k_sb g n p5)) (nI_m1 (hsb hp5)), hsb hp5⟩
            | true =>
              have hp6 : y_wp g n p5 ≤ n := y_wp_le hp5
              simp only [if_true]
              generalize y_wp g n p5 = p6 at hp6
              rw [w_nr (p := p6) 1 5 (-nI 1)]
              cases hN : y_num g n p6 1 5 with
              | none =>
                simp only [Option.elim, k_rf_1]
                exact ⟨k_nr_w (R := (_, nI (k_sb g n p6))) (nI_m1 (hsb hp6)), hsb hp6⟩
              | some m =>
                have hp7 : y_np g n p6 ≤ n := y_np_le hp6
                simp only [Option.elim]
                rw [w_nr (p := y_np g n p6) 1 60 (-nI 1)]
                cases hO : y_num g n (y_np g n p6) 1 60 with
                | none => exact ⟨k_rf_1 _, hsb hp7⟩
                | some o => simp [w_ag, w_nu hN, w_nu hO]
def k_rwT (g : Nat → Int32) (n : Nat) (q : kL) (v : Nat) (nu : Int32) (Rn : kR) : kL × kR :=
  if k_swb g n Rn.1 16 then
    ((0, v, (k_ru g n (k_step g n 16 Rn)).1, q.2.2.2.1, k_nu g n (k_ru g n (k_step g n 16 Rn)).2.1 1 5, q.2.2.2.2.2.1, nu), k_nr g n 1 5 (k_ru g n (k_step g n 16 Rn)).2)
  else if k_swb g n (k_step g n 16 Rn).1 18 then ((1, v, q.2.2.1, q.2.2.2.1, q.2.2.2.2.1, k_nu g n (k_step g n 18 (k_step g n 16 Rn)).1 0 9, nu), k_nr g n 0 9 (k_step g n 18 (k_step g n 16 Rn)))
  else ((q.1, v, q.2.2.1, q.2.2.2.1, q.2.2.2.2.1, q.2.2.2.2.2.1, nu), k_refuse (k_step g n 18 (k_step g n 16 Rn)))
theorem k_rwT_w {q : kL} {v : Nat} {nu : Int32} {R : kR} (h : R.2 ≠ -nI 1) : (k_rwT g n q v nu R).2.2 = R.2 := by
  unfold k_rwT
  split
  · rw [k_nr_w (by rw [k_ru_w (R := k_step g n 16 R) h]; exact h)]
    exact k_ru_w (R := k_step g n 16 R) h
  · split
    · exact k_nr_w (R := k_step g n 18 (k_step g n 16 R)) h
    · exact k_rf_w h _
theorem w_w2 (hn : n ≤ 400) (hp : p ≤ n) (q : kL) (v : Nat) (nu : Int32) : w_ag (y_pw2 g n p v q nu) (k_rwT g n q v nu (p, -nI 1)) := by
  have hsb : ∀ {x}, x ≤ n → k_sb g n x ≤ 400 := fun h => by have := (k_sb_le (g := g) h).2; omega
  have hp1 : y_wp g n p ≤ n := y_wp_le hp
  unfold y_pw2 k_rwT k_step
  simp only [w_swp, w_t16, w_t18]
  cases h1 : k_swb g n p 39 with
  | true =>
    simp only [if_true, w_ru]
    cases hV : y_uq g n (y_wp g n p) with
    | none =>
      simp only [Option.elim]
      refine ⟨?_, hsb hp1⟩
      rw [k_rf_1]
      exact k_nr_w (R := (_, nI (k_sb g n (y_wp g n p)))) (nI_m1 (hsb hp1))
    | some w =>
      have hp2 : y_wp g n (y_wp g n p) ≤ n := y_wp_le hp1
      simp only [Option.elim, w_nr]
      cases hN : y_num g n (y_wp g n (y_wp g n p)) 1 5 with
      | none => exact ⟨k_rf_1 _, hsb hp2⟩
      | some m => simp [w_ag, w_nu hN]
  | false =>
    simp only [Bool.false_eq_true, if_false, w_swb_i, w_wp_i, k_sb_idem]
    cases h2 : k_swb g n p 41 with
    | true =>
      simp only [if_true, w_nr]
      cases hN : y_num g n (y_wp g n p) 0 9 with
      | none => exact ⟨k_rf_1 _, hsb hp1⟩
      | some m => simp [w_ag, w_nu hN]
    | false =>
      simp only [Bool.false_eq_true, if_false]
      exact ⟨k_rf_1 _, hsb hp⟩
theorem k_rl_one {a b : Nat} (h : ¬ k_rl g n a b p = 0) : ¬ k_at g n p < nI a ∧ ¬ nI b < k_at g n p := by
  unfold k_rl at h
  cases n with
  | zero => exact absurd rfl h
  | succ f =>
    rw [k_rlf] at h
    split at h
    · rename_i h2
      exact h2.2
    · exact absurd rfl h
theorem k_rl_none {a b : Nat} (h : k_at g n p < nI a ∨ nI b < k_at g n p) : k_rl g n a b p = 0 := by
  refine Classical.byContradiction (fun q => ?_)
  have := k_rl_one q
  rcases h with h | h
  · exact this.1 h
  · exact this.2 h
theorem w_worth (hn : n ≤ 400) (hp : p ≤ n) (q : kL) : w_ag ((y_uq g n p).elim (.inr (k_sb g n p)) fun v => y_pworth g n (y_wp g n p) v q) (k_rworth g n q (p, -nI 1)) := by
  have hsb : ∀ {x}, x ≤ n → k_sb g n x ≤ 400 := fun h => by have := (k_sb_le (g := g) h).2; omega
  rw [show k_rworth g n q (p, -nI 1) = k_rwT g n q (k_ru g n (p, -nI 1)).1 ((if k_swb g n (k_ru g n (p, -nI 1)).2.1 17 then -nI 1 else nI 1) * nI (k_nu g n (k_step g n 17 (k_ru g n (p, -nI 1)).2).1 0 99)) (k_nr g n 0 99 (k_step g n 17 (k_ru g n (p, -nI 1)).2)) from rfl, w_ru]
  cases hU : y_uq g n p with
  | none =>
    simp only [Option.elim, k_rf_1]
    refine ⟨?_, hsb hp⟩
    have h1 : (k_nr g n 0 99 (k_step g n 17 (k_sb g n p, nI (k_sb g n p)))).2 = nI (k_sb g n p) := k_nr_w (R := k_step g n 17 (k_sb g n p, nI (k_sb g n p))) (nI_m1 (hsb hp))
    rw [k_rwT_w (by rw [h1]; exact nI_m1 (hsb hp)), h1]
  | some v =>
    have hp1 : y_wp g n p ≤ n := y_wp_le hp
    simp only [Option.elim]
    generalize y_wp g n p = p1 at hp1
    unfold y_pworth k_step
    simp only [w_swp, w_t17]
    cases h1 : k_swb g n p1 40 with
    | true =>
      have hp2 : y_wp g n p1 ≤ n := y_wp_le hp1
      simp only [if_true, w_nr]
      cases hN : y_num g n (y_wp g n p1) 0 99 with
      | none =>
        simp only [Option.elim, k_rf_1]
        exact ⟨k_rwT_w (R := (_, nI (k_sb g n (y_wp g n p1)))) (nI_m1 (hsb hp2)), hsb hp2⟩
      | some m =>
        simp only [Option.elim]
        rw [w_nu hN]
        exact w_w2 hn (y_np_le hp2) q v _
    | false =>
      simp only [Bool.false_eq_true, if_false, w_nr, w_num_i, w_np_i, k_sb_idem]
      by_cases h2 : k_rl g n 97 122 (k_sb g n p1) = 0
      · have e : y_wp g n p1 = k_sb g n p1 := by unfold y_wp; rw [h2, Nat.add_zero]
        rw [if_pos h2, e, w_num_i, w_np_i, k_sb_idem]
        cases hN : y_num g n p1 0 99 with
        | none =>
          simp only [Option.elim, k_rf_1]
          exact ⟨k_rwT_w (R := (_, nI (k_sb g n p1))) (nI_m1 (hsb hp1)), hsb hp1⟩
        | some m =>
          simp only [Option.elim]
          rw [show k_nu g n (k_sb g n p1) 0 99 = m from w_nu (by rw [w_num_i]; exact hN)]
          exact w_w2 hn (y_np_le hp1) q v _
      · rw [if_neg h2]
        have h3 := k_rl_one h2
        have h4 : k_rl g n 48 57 (k_sb g n p1) = 0 := k_rl_none (Or.inr (Int32.lt_of_lt_of_le (show nI 57 < nI 97 by decide) (Int32.not_lt.mp h3.1)))
        have h5 : y_num g n p1 0 99 = none := by
          unfold y_num
          rw [if_neg]
          unfold k_nok
          rw [h4]
          simp
        rw [h5]
        simp only [Option.elim, k_rf_1]
        exact ⟨k_rwT_w (R := (_, nI (k_sb g n p1))) (nI_m1 (hsb hp1)), hsb hp1⟩
theorem w_line (hn : n ≤ 400) (hp : p ≤ n) (q : kL) : w_ag (y_pline g n p q) (k_rline g n q (p, -nI 1)) := by
  have hp1 : y_wp g n p ≤ n := y_wp_le hp
  have hs1 : k_sb g n p ≤ n := (k_sb_le (g := g) hp).2
  unfold y_pline k_rline k_step
  simp only [w_swp, w_t3, w_t13]
  cases h1 : k_swb g n p 26 with
  | true => simp only [if_true]; exact w_law hn hp1 q
  | false =>
    simp only [Bool.false_eq_true, if_false, w_swb_i, w_wp_i, k_sb_idem]
    cases h2 : k_swb g n p 36 with
    | true => simp only [if_true]; exact w_grow hn hp1 q
    | false =>
      simp only [Bool.false_eq_true, if_false]
      have := w_worth (g := g) hn hs1 q
      rw [w_uq_i, k_sb_idem, w_wp_i] at this
      exact this
theorem k_at_m1 (hby : ∀ p, p < 400 → k_isb (g p)) (hn : n ≤ 400) : k_at g n p = -nI 1 ↔ n ≤ p := by
  unfold k_at
  by_cases h : p < n
  · rw [if_pos h]
    refine iff_of_false (fun q => ?_) (by omega)
    rcases k_isb_c (hby p (by omega)) with ⟨b, hb, -, e⟩ | ⟨b, -, hb, -, e⟩
    · rw [e] at q; exact nI_m1 (by omega) q
    · rw [e] at q; exact nI_m1 (by omega) q
  · rw [if_neg h]
    exact iff_of_true rfl (by omega)
def w_end (T : Nat × Bool × kR × (Nat → kL)) (g : Nat → Int32) (n : Nat) : kR := if T.2.1 then k_refuse (k_sb g n T.2.2.1.1, T.2.2.1.2) else T.2.2.1
def w_agA (res : (Nat × (Nat → kL)) ⊕ Nat) (T : Nat × Bool × kR × (Nat → kL)) (g : Nat → Int32) (n : Nat) : Prop := match res with
  | .inl x => T.1 = x.1 ∧ T.2.2.2 = x.2 ∧ (w_end T g n).2 = -nI 1
  | .inr e => (w_end T g n).2 = nI e ∧ e ≤ 400
theorem w_ril (hby : ∀ p, p < 400 → k_isb (g p)) (hn : n ≤ 400) : ∀ f i p (Q : Nat → kL), p ≤ n → w_agA (y_ra g n f i p Q) (k_ril g n f i (p, -nI 1) Q true) g n
  | 0, i, p, Q, hp => ⟨k_rf_1 _, by have := (k_sb_le (g := g) hp).2; omega⟩
  | f + 1, i, p, Q, hp => by
    have hl := w_line (g := g) hn hp (Q i)
    rw [y_ra, k_ril, if_pos rfl]
    cases hres : y_pline g n p (Q i) with
    | inr e =>
      rw [hres] at hl
      obtain ⟨h1, h2⟩ := hl
      have hne : (k_rline g n (Q i) (p, -nI 1)).2.2 ≠ -nI 1 := by rw [h1]; exact nI_m1 h2
      have hrs : k_rs g n (k_rline g n (Q i) (p, -nI 1)).2 = (false, (k_sb g n (k_rline g n (Q i) (p, -nI 1)).2.1, (k_rline g n (Q i) (p, -nI 1)).2.2)) := by unfold k_rs; rw [if_pos (Or.inl hne)]
      simp only
      rw [hrs]
      refine ⟨?_, h2⟩
      cases f with
      | zero => exact h1
      | succ f => exact h1
    | inl x =>
      rw [hres] at hl
      have hl : k_rline g n (Q i) (p, -nI 1) = (x.2, (x.1, -nI 1)) := hl
      have hx := y_pline_le hp hres
      have hsb := (k_sb_le (g := g) hx).2
      simp only
      rw [hl]
      simp only
      by_cases c1 : k_sb g n x.1 = n
      · have hrs : k_rs g n (x.1, -nI 1) = (false, (k_sb g n x.1, -nI 1)) := by unfold k_rs; rw [if_pos (Or.inr ((k_at_m1 hby hn).mpr (by simp only; omega)))]
        rw [hrs, if_pos c1]
        cases f with
        | zero => exact ⟨rfl, rfl, rfl⟩
        | succ f => exact ⟨rfl, rfl, rfl⟩
      · rw [if_neg c1]
        have hna : ¬ ((x.1, -nI 1).2 ≠ -nI 1 ∨ k_at g n (k_sb g n (x.1, -nI 1).1) = -nI 1) := by
          rintro (h | h)
          · exact h rfl
          · have := (k_at_m1 hby hn).mp h
            simp only at this
            omega
        by_cases c2 : k_at g n (k_sb g n x.1) = nI 59
        · have hrs : k_rs g n (x.1, -nI 1) = (true, (k_sb g n x.1 + 1, -nI 1)) := by unfold k_rs; rw [if_neg hna, if_pos c2]
          rw [hrs, if_pos c2]
          exact w_ril hby hn f (i + 1) _ _ (by omega)
        · have hrs : k_rs g n (x.1, -nI 1) = (false, (k_sb g n x.1, nI (k_sb g n x.1))) := by unfold k_rs; rw [if_neg hna, if_neg c2]; rfl
          rw [hrs, if_neg c2]
          cases f with
          | zero => exact ⟨rfl, by omega⟩
          | succ f => exact ⟨rfl, by omega⟩
theorem w_ri (hby : ∀ p, p < 400 → k_isb (g p)) (hn : n ≤ 400) (Q : Nat → kL) : match y_rb g n Q with
  | .inl x => (k_ri g n Q).2.1.2 = -nI 1 ∧ (k_ri g n Q).1 = x.1 ∧ (k_ri g n Q).2.2 = x.2
  | .inr e => (k_ri g n Q).2.1.2 = nI e ∧ (k_ri g n Q).2.1.2 ≠ -nI 1 := by
  have hsb := (k_sb_le (g := g) (n := n) (p := 0) (by omega)).2
  have hk : k_ri g n Q = ((k_ri0 g n Q).1, w_end (k_ri0 g n Q) g n, (k_ri0 g n Q).2.2.2) := rfl
  rw [hk]
  unfold y_rb
  by_cases c : k_sb g n 0 = n
  · rw [if_pos c]
    have e : k_ri0 g n Q = (0, false, (k_sb g n 0, -nI 1), Q) := by
      unfold k_ri0
      rw [decide_eq_false (fun h => h ((k_at_m1 hby hn).mpr (by omega)))]
      rfl
    rw [e]
    exact ⟨rfl, rfl, rfl⟩
  · rw [if_neg c]
    have e : k_ri0 g n Q = k_ril g n 14 0 (k_sb g n 0, -nI 1) Q true := by
      unfold k_ri0
      rw [show decide (k_at g n (k_sb g n 0) ≠ -nI 1) = true from decide_eq_true (p := k_at g n (k_sb g n 0) ≠ -nI 1) (fun h => by have := (k_at_m1 hby hn).mp h; omega)]
    rw [e]
    have h := w_ril hby hn 14 0 (k_sb g n 0) Q hsb
    cases hres : y_ra g n 14 0 (k_sb g n 0) Q with
    | inl x =>
      rw [hres] at h
      exact ⟨h.2.2, h.1, h.2.1⟩
    | inr e =>
      rw [hres] at h
      exact ⟨h.1, fun q => nI_m1 h.2 (h.1.symm.trans q)⟩
/-! the lines stay lines -/
theorem k_ru_lt (R : kR) : (k_ru g n R).1 < 5 := by
  obtain ⟨p, w⟩ := R
  rw [w_ru]
  cases h : y_uq g n p with
  | none => exact Nat.zero_lt_succ _
  | some v => exact y_uq_lt h
theorem w_lok {q : kL} (hq : k_lok q) (R : kR) : k_lok (k_rline g n q R).1 := by
  obtain ⟨q1, q2, q3, q4, q5, q6, q7⟩ := hq
  have hu := fun R => k_ru_lt (g := g) (n := n) R
  have n1 := fun p => k_nu_ok (g := g) (n := n) (p := p) (lo := 1) (hi := 5) (by omega) (by omega)
  have n2 := fun p => k_nu_ok (g := g) (n := n) (p := p) (lo := 0) (hi := 9) (by omega) (by omega)
  unfold k_rline
  simp only
  split
  · unfold k_rlaw
    simp only
    split
    · exact ⟨Nat.le_of_ble_eq_true rfl, hu _, hu _, q4, (n1 _).2.1, q6, fun _ => (n1 _).1⟩
    · split
      · exact ⟨Nat.le_of_ble_eq_true rfl, hu _, q3, q4, q5, q6, fun h => by cases h⟩
      · split
        · exact ⟨Nat.le_of_ble_eq_true rfl, hu _, q3, q4, q5, q6, fun h => by cases h⟩
        · split
          · exact ⟨Nat.le_of_ble_eq_true rfl, hu _, q3, q4, q5, q6, fun h => by cases h⟩
          · exact ⟨q1, hu _, q3, q4, q5, q6, q7⟩
  · split
    · unfold k_rgrow
      simp only
      exact ⟨Nat.le_of_ble_eq_true rfl, hu _, hu _, hu _, (n1 _).2.1, q6, fun h => by cases h⟩
    · unfold k_rworth
      simp only
      split
      · exact ⟨Nat.le_of_ble_eq_true rfl, hu _, hu _, q4, (n1 _).2.1, q6, fun h => by cases h⟩
      · split
        · exact ⟨Nat.le_of_ble_eq_true rfl, hu _, q3, q4, q5, (n2 _).2.1, fun h => by cases h⟩
        · exact ⟨q1, hu _, q3, q4, q5, q6, q7⟩
theorem w_lok_ril : ∀ f i (R : kR) (Q : Nat → kL) (b : Bool), i + f = 14 → (∀ j, j < 14 → k_lok (Q j)) → (∀ j, j < 14 → k_lok ((k_ril g n f i R Q b).2.2.2 j)) ∧ (k_ril g n f i R Q b).1 ≤ 14
  | 0, i, R, Q, b, hi, h => ⟨h, by show i ≤ 14; omega⟩
  | f + 1, i, R, Q, b, hi, h => by
    rw [k_ril]
    split
    · refine w_lok_ril f (i + 1) _ _ _ (by omega) (fun j hj => ?_)
      unfold k_uq
      split
      · exact w_lok (h i (by omega)) R
      · exact h j hj
    · exact ⟨h, by show i ≤ 14; omega⟩
theorem w_lok_ri {Q : Nat → kL} (h : ∀ j, j < 14 → k_lok (Q j)) : (∀ j, j < 14 → k_lok ((k_ri g n Q).2.2 j)) ∧ (k_ri g n Q).1 ≤ 14 := w_lok_ril 14 0 _ Q _ rfl h
end
