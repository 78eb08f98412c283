/-! A LINE'S NUMBER IS SMALL -/
theorem w_nb_n : ∀ m, m ≤ 99 → (-99 ≤ (nI 1 * nI m).toInt ∧ (nI 1 * nI m).toInt ≤ 99) ∧ (-99 ≤ (-nI 1 * nI m).toInt ∧ (-nI 1 * nI m).toInt ≤ 99) := by
  have h : ∀ m, m < 100 → (-99 ≤ (nI 1 * nI m).toInt ∧ (nI 1 * nI m).toInt ≤ 99) ∧ (-99 ≤ (-nI 1 * nI m).toInt ∧ (-nI 1 * nI m).toInt ≤ 99) := by decide +kernel
  exact fun m hm => h m (by omega)
section
variable {g : Nat → Int32} {n p : Nat} {q : kL} {x : Nat × kL}
theorem w_nb_pw2 {v : Nat} {y : Int32} (hy : -99 ≤ y.toInt ∧ y.toInt ≤ 99) (h : y_pw2 g n p v q y = .inl x) : w_nb x.2 := by
  unfold y_pw2 at h
  split at h
  · obtain ⟨a, -, h⟩ := k_el h
    obtain ⟨b, -, h⟩ := k_el h
    cases h
    exact fun _ => hy
  · split at h
    · obtain ⟨b, -, h⟩ := k_el h
      cases h
      exact fun _ => hy
    · cases h
theorem w_nb_pworth {v : Nat} (h : y_pworth g n p v q = .inl x) : w_nb x.2 := by
  unfold y_pworth at h
  split at h
  · obtain ⟨b, hb, h⟩ := k_el h
    exact w_nb_pw2 (w_nb_n b (y_num_b (by omega) (by omega) hb).2).2 h
  · split at h
    · obtain ⟨b, hb, h⟩ := k_el h
      exact w_nb_pw2 (w_nb_n b (y_num_b (by omega) (by omega) hb).2).1 h
    · cases h
theorem w_nb_2 {q : kL} (h : 2 ≤ q.1) : w_nb q := fun h1 => absurd h1 (by omega)
theorem w_nb_plaw (h : y_plaw g n p q = .inl x) : w_nb x.2 := by
  unfold y_plaw at h
  obtain ⟨a, -, h⟩ := k_el h
  split at h
  · cases h
    exact w_nb_2 (Nat.le_of_ble_eq_true rfl)
  · split at h
    · obtain ⟨b, -, h⟩ := k_el h
      obtain ⟨c, -, h⟩ := k_el h
      cases h
      exact w_nb_2 (Nat.le_of_ble_eq_true rfl)
    · split at h
      · obtain ⟨b, -, h⟩ := k_el h
        cases h
        exact w_nb_2 (Nat.le_of_ble_eq_true rfl)
      · split at h
        · obtain ⟨b, -, h⟩ := k_el h
          cases h
          exact w_nb_2 (Nat.le_of_ble_eq_true rfl)
        · cases h
theorem w_nb_pgrow (h : y_pgrow g n p q = .inl x) : w_nb x.2 := by
  unfold y_pgrow at h
  obtain ⟨a, -, h⟩ := k_el h
  simp only at h
  split at h
  · obtain ⟨b, -, h⟩ := k_el h
    split at h
    · obtain ⟨c, -, h⟩ := k_el h
      split at h
      · obtain ⟨e, -, h⟩ := k_el h
        obtain ⟨f, -, h⟩ := k_el h
        cases h
        exact w_nb_2 (Nat.le_of_ble_eq_true rfl)
      · cases h
    · cases h
  · cases h
theorem w_nb_pline (h : y_pline g n p q = .inl x) : w_nb x.2 := by
  unfold y_pline at h
  split at h
  · exact w_nb_plaw h
  · split at h
    · exact w_nb_pgrow h
    · obtain ⟨a, -, h⟩ := k_el h
      exact w_nb_pworth h
theorem w_nb_uq {Q : Nat → kL} {i : Nat} {y : kL} (hQ : ∀ j, j < i → w_nb (Q j)) (hy : w_nb y) : ∀ j, j < i + 1 → w_nb (k_uq Q i y j) := fun j hj => by
  unfold k_uq
  split
  · exact hy
  · exact hQ j (by omega)
theorem w_nb_ra : ∀ f i p (Q : Nat → kL) {x : Nat × (Nat → kL)}, (∀ j, j < i → w_nb (Q j)) → y_ra g n f i p Q = .inl x → ∀ j, j < x.1 → w_nb (x.2 j)
  | 0, _, _, _, _, _, h => by cases h
  | f + 1, i, p, Q, x, hQ, h => by
    rw [y_ra] at h
    split at h
    · cases h
    · rename_i y hy
      split at h
      · cases h
        exact w_nb_uq hQ (w_nb_pline hy)
      · split at h
        · exact w_nb_ra f (i + 1) _ _ (w_nb_uq hQ (w_nb_pline hy)) h
        · cases h
theorem w_nb_rb {Q : Nat → kL} {x : Nat × (Nat → kL)} (h : y_rb g n Q = .inl x) : ∀ j, j < x.1 → w_nb (x.2 j) := by
  unfold y_rb at h
  split at h
  · cases h
    exact fun j hj => absurd hj (Nat.not_lt_zero j)
  · exact w_nb_ra _ _ _ _ (fun j hj => absurd hj (Nat.not_lt_zero j)) h
end
