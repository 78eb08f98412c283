/-! THE MODEL: readAll, book (written by wip/gen_model14.py) -/
def y_ra (g : Nat → Int32) (n : Nat) : Nat → Nat → Nat → (Nat → kL) → (Nat × (Nat → kL)) ⊕ Nat
  | 0, _, p, _ => .inr (k_sb g n p)
  | f + 1, i, p, Q => match y_pline g n p (Q i) with
    | .inr e => .inr e
    | .inl x => if k_sb g n x.1 = n then .inl (i + 1, k_uq Q i x.2) else if k_at g n (k_sb g n x.1) = nI 59 then y_ra g n f (i + 1) (k_sb g n x.1 + 1) (k_uq Q i x.2) else .inr (k_sb g n x.1)
def y_rb (g : Nat → Int32) (n : Nat) (Q : Nat → kL) : (Nat × (Nat → kL)) ⊕ Nat := if k_sb g n 0 = n then .inl (0, Q) else y_ra g n 14 0 (k_sb g n 0) Q
theorem k_el {o : Option Nat} {e : Nat} {f : Nat → (Nat × kL) ⊕ Nat} {x : Nat × kL} (h : o.elim (.inr e) f = .inl x) : ∃ a, o = some a ∧ f a = .inl x := by
  cases o with
  | none => cases h
  | some a => exact ⟨a, rfl, h⟩
theorem y_pw2_le {g : Nat → Int32} {n p v : Nat} {q : kL} {y : Int32} {x : Nat × kL} (hp : p ≤ n) (h : y_pw2 g n p v q y = .inl x) : x.1 ≤ n := by
  unfold y_pw2 at h
  split at h
  · obtain ⟨a, -, h⟩ := k_el h
    obtain ⟨b, -, h⟩ := k_el h
    cases h
    exact y_np_le (y_wp_le (y_wp_le hp))
  · split at h
    · obtain ⟨b, -, h⟩ := k_el h
      cases h
      exact y_np_le (y_wp_le hp)
    · cases h
theorem y_pworth_le {g : Nat → Int32} {n p v : Nat} {q : kL} {x : Nat × kL} (hp : p ≤ n) (h : y_pworth g n p v q = .inl x) : x.1 ≤ n := by
  unfold y_pworth at h
  split at h
  · obtain ⟨b, -, h⟩ := k_el h
    exact y_pw2_le (y_np_le (y_wp_le hp)) h
  · split at h
    · obtain ⟨b, -, h⟩ := k_el h
      exact y_pw2_le (y_np_le (y_wp_le hp)) h
    · cases h
theorem y_plaw_le {g : Nat → Int32} {n p : Nat} {q : kL} {x : Nat × kL} (hp : p ≤ n) (h : y_plaw g n p q = .inl x) : x.1 ≤ n := by
  unfold y_plaw at h
  obtain ⟨a, -, h⟩ := k_el h
  split at h
  · cases h
    exact y_wp_le (y_wp_le hp)
  · split at h
    · obtain ⟨b, -, h⟩ := k_el h
      obtain ⟨c, -, h⟩ := k_el h
      cases h
      exact y_np_le (y_wp_le (y_wp_le (y_wp_le hp)))
    · split at h
      · obtain ⟨b, -, h⟩ := k_el h
        cases h
        exact y_np_le (y_wp_le (y_wp_le hp))
      · split at h
        · obtain ⟨b, -, h⟩ := k_el h
          cases h
          exact y_np_le (y_wp_le (y_wp_le hp))
        · cases h
theorem y_pgrow_le {g : Nat → Int32} {n p : Nat} {q : kL} {x : Nat × kL} (hp : p ≤ n) (h : y_pgrow g n p q = .inl x) : x.1 ≤ n := by
  unfold y_pgrow at h
  obtain ⟨a, -, h⟩ := k_el h
  simp only at h
  split at h
  · obtain ⟨b, -, h⟩ := k_el h
    split at h
    · obtain ⟨c, -, h⟩ := k_el h
      split at h
      · obtain ⟨e, -, h⟩ := k_el h
        obtain ⟨f, -, h⟩ := k_el h
        cases h
        exact y_np_le (y_np_le (y_wp_le (y_wp_le (y_wp_le (y_wp_le (y_wp_le (y_wp_le hp)))))))
      · cases h
    · cases h
  · cases h
theorem y_pline_le {g : Nat → Int32} {n p : Nat} {q : kL} {x : Nat × kL} (hp : p ≤ n) (h : y_pline g n p q = .inl x) : x.1 ≤ n := by
  unfold y_pline at h
  split at h
  · exact y_plaw_le (y_wp_le hp) h
  · split at h
    · exact y_pgrow_le (y_wp_le hp) h
    · obtain ⟨a, -, h⟩ := k_el h
      exact y_pworth_le (y_wp_le hp) h
theorem y_ra_le {g : Nat → Int32} {n : Nat} : ∀ f i p Q {x : Nat × (Nat → kL)}, y_ra g n f i p Q = .inl x → x.1 ≤ i + f
  | 0, _, _, _, _, h => by cases h
  | f + 1, i, p, Q, x, h => by
    rw [y_ra] at h
    split at h
    · cases h
    · split at h
      · cases h
        show i + 1 ≤ _
        omega
      · split at h
        · have := y_ra_le f (i + 1) _ _ h
          omega
        · cases h
theorem y_rb_le {g : Nat → Int32} {n : Nat} {Q : Nat → kL} {x : Nat × (Nat → kL)} (h : y_rb g n Q = .inl x) : x.1 ≤ 14 := by
  unfold y_rb at h
  split at h
  · cases h
    exact Nat.zero_le _
  · have := y_ra_le _ _ _ _ h
    omega
def y_AG (bK bO bT bH bW bS bL kk oo tt hh ww ss ll : Nat → Int32) : Prop := ∀ j, j < 14 → kk j = bK j ∧ oo j = bO j ∧ tt j = bT j ∧ hh j = bH j ∧ ww j = bW j ∧ ss j = bS j ∧ ll j = bL j
def y_AQ (res : (Nat × (Nat → kL)) ⊕ Nat) (v : Option Value) (kk oo tt hh ww ss ll : Nat → Int32) (bb : Nat) : Prop := match res with
  | .inl x => v = some (.int (nI x.1)) ∧ ∀ i, i < x.1 → y_LR (x.2 i) kk oo tt hh ww ss ll (14 + i)
  | .inr e => v = some (.int (-nI 1)) ∧ bb = e
theorem y_LR_c {q : kL} {aK aO aT aH aW aS aL kk oo tt hh ww ss ll : Nat → Int32} {i j : Nat} (h : kk j = aK i ∧ oo j = aO i ∧ tt j = aT i ∧ hh j = aH i ∧ ww j = aW i ∧ ss j = aS i ∧ ll j = aL i) (hq : y_LR q aK aO aT aH aW aS aL i) : y_LR q kk oo tt hh ww ss ll j := by
  unfold y_LR at hq ⊢
  rw [h.1, h.2.1, h.2.2.1, h.2.2.2.1, h.2.2.2.2.1, h.2.2.2.2.2.1, h.2.2.2.2.2.2]
  exact hq
theorem y_AG_t {bK bO bT bH bW bS bL aK aO aT aH aW aS aL kk oo tt hh ww ss ll : Nat → Int32} {k : Nat} (hk : 14 ≤ k) (h : y_AG bK bO bT bH bW bS bL aK aO aT aH aW aS aL) (h2 : ∀ j, ¬ j = k → kk j = aK j ∧ oo j = aO j ∧ tt j = aT j ∧ hh j = aH j ∧ ww j = aW j ∧ ss j = aS j ∧ ll j = aL j) : y_AG bK bO bT bH bW bS bL kk oo tt hh ww ss ll := fun j hj => by
  obtain ⟨a1, a2, a3, a4, a5, a6, a7⟩ := h2 j (by omega)
  rw [a1, a2, a3, a4, a5, a6, a7]
  exact h j hj
theorem y_LR_t {aK aO aT aH aW aS aL kk oo tt hh ww ss ll : Nat → Int32} {i : Nat} {Q : Nat → kL} {x : kL} (h : ∀ j, j < i → y_LR (Q j) aK aO aT aH aW aS aL (14 + j)) (h2 : ∀ j, ¬ j = 14 + i → kk j = aK j ∧ oo j = aO j ∧ tt j = aT j ∧ hh j = aH j ∧ ww j = aW j ∧ ss j = aS j ∧ ll j = aL j) (h3 : y_LR x kk oo tt hh ww ss ll (14 + i)) : ∀ j, j < i + 1 → y_LR (k_uq Q i x j) kk oo tt hh ww ss ll (14 + j) := fun j hj => by
  by_cases e : j = i
  · subst e
    unfold k_uq
    rw [if_pos rfl]
    exact h3
  · unfold k_uq
    rw [if_neg e]
    exact y_LR_c (h2 (14 + j) (by omega)) (h j (by omega))
theorem y_ia_c {g : Nat → Int32} {n p c : Nat} : y_ia g n p c c = decide (p < n ∧ k_at g n p = nI c) := by
  unfold y_ia
  refine decide_eq_decide.mpr ⟨fun ⟨h1, h2, h3⟩ => ⟨h1, ?_⟩, fun ⟨h1, h2⟩ => ⟨h1, by rw [h2]; exact Int32.lt_irrefl, by rw [h2]; exact Int32.lt_irrefl⟩⟩
  exact Int32.le_antisymm (Int32.not_lt.mp h3) (Int32.not_lt.mp h2)
section
variable {l : Launch} {E : mE} {N : Nat} {xs : Nat → Int32} {d : Nat} {tg : Bool} {Z : mH} {h : mH}
variable {th : Int32} {u : Nat → Int32} {so : Nat → Int32} {fz : Nat → Bool} {fs : Nat} {gt : Nat} {yr : Nat} {aK : Nat → Int32} {aO : Nat → Int32} {aT : Nat → Int32} {aH : Nat → Int32} {aW : Nat → Int32} {aS : Nat → Int32} {aL : Nat → Int32} {ls : Nat} {pl : Nat → Int32} {ps : Nat} {tp : Nat → Int32} {td : Nat} {pt : Nat} {en : Nat} {bg : Nat} {fa : Int32} {fv : Nat → Int32} {mt : Nat → Bool} {nx : Nat → Int32} {pL : Nat → Nat} {sg : Nat → Int32} {bo : Nat → Int32} {wa : Nat → Int32} {gv : Nat → Int32} {bw : Int32} {of : Nat → Int32} {o : mH}
set_option maxHeartbeats 4000000 in
set_option maxRecDepth 100000 in
theorem y_raL (hZ : Z.length = 70) (hby : ∀ p, p < 400 → k_isb (tp p)) (hen : en ≤ 400) {bK bO bT bH bW bS bL : Nat → Int32} : ∀ (f i pt bg : Nat) (Q : Nat → kL) (aK aO aT aH aW aS aL : Nat → Int32), i + f = 14 → pt ≤ en → y_AG bK bO bT bH bW bS bL aK aO aT aH aW aS aL → (∀ j, j < i → y_LR (Q j) aK aO aT aH aW aS aL (14 + j)) → m_J l (m_EX E N xs) E mM_X9_readAll (d + 9) 0 0 (fun v H tg' => tg' = tg ∧ (∃ (kk oo tt hh ww ss ll : Nat → Int32) (pp bb : Nat), H = (Z ++ k_M th u so fz fs gt yr kk oo tt hh ww ss ll ls pl ps tp td pp en bb fa fv mt nx pL sg bo wa gv bw of o) ∧ y_AG bK bO bT bH bW bS bL kk oo tt hh ww ss ll ∧ y_AQ (y_ra tp en f i pt Q) v kk oo tt hh ww ss ll bb)) m_no tg 0 0 (37, [some (.ref 70), some (.int (nI i))], [], (Z ++ k_M th u so fz fs gt yr aK aO aT aH aW aS aL ls pl ps tp td pt en bg fa fv mt nx pL sg bo wa gv bw of o)) := by
  have hM := mM_X9_readAll_ok
  intro f
  induction f with
  | zero =>
    intro i pt bg Q aK aO aT aH aW aS aL hi hpt hAG hLR
    have e14 : i = 14 := by omega
    subst e14
    refine m_J_run hM 2 rfl ⟨trivial, trivial, trivial⟩ ?_
    refine m_cV1 hZ hM rfl kw_X9_204 rfl rfl rfl (y_readLine14 hZ hby hen hpt) k_Ml (Nat.le_of_ble_eq_true rfl) ?_
    refine m_J_run hM 1 rfl ⟨trivial, trivial⟩ ?_
    refine m_J_if (fun hc => absurd hc (by first | decide | (rw [show 0 = 0 by omega]; decide))) (fun _ => ?_)
    refine m_J_run hM 1 rfl ⟨trivial, trivial⟩ ?_
    exact m_J_iret hM rfl rfl (rfl) (Nat.le_of_ble_eq_true rfl) (Nat.le_of_ble_eq_true rfl) (⟨rfl, _, _, _, _, _, _, _, _, _, rfl, hAG, ⟨rfl, rfl⟩⟩)
  | succ f ih =>
    intro i pt bg Q aK aO aT aH aW aS aL hi hpt hAG hLR
    refine m_J_run hM 2 rfl ⟨trivial, trivial, trivial⟩ ?_
    refine m_cVp1 hZ hM rfl kw_X9_204 rfl rfl rfl (y_readLine hZ hby hen (n9 := i) (Q i) hpt (by omega)) (Nat.le_of_ble_eq_true rfl) (fun v9 h9 hp9 => ?_)
    obtain ⟨kk, oo, tt, hh, ww, ss, ll, pp, bb, rfl, hR1, hR2⟩ := hp9
    refine ⟨k_le k_Ml, ?_⟩
    cases hres : y_pline tp en pt (Q i) with
    | inr e =>
      rw [hres] at hR2
      obtain ⟨rfl, he⟩ := hR2
      refine m_J_eqH (H' := (Z ++ k_M th u so fz fs gt yr kk oo tt hh ww ss ll ls pl ps tp td pp en bb fa fv mt nx pL sg bo wa gv bw of o)) rfl ?_
      refine m_J_run hM 1 rfl ⟨trivial, trivial⟩ ?_
      refine m_J_if (fun hc => absurd hc (by first | decide | (rw [show 0 = 0 by omega]; decide))) (fun _ => ?_)
      refine m_J_run hM 1 rfl ⟨trivial, trivial⟩ ?_
      exact m_J_iret hM rfl rfl (rfl) (Nat.le_of_ble_eq_true rfl) (Nat.le_of_ble_eq_true rfl) (⟨rfl, kk, oo, tt, hh, ww, ss, ll, pp, bb, rfl, y_AG_t (by omega) hAG hR1, by rw [show y_ra tp en (f + 1) i pt Q = .inr e by simp [y_ra, hres]]; exact ⟨rfl, he⟩⟩)
    | inl x =>
      rw [hres] at hR2
      obtain ⟨rfl, hp, hl⟩ := hR2
      subst hp
      refine m_J_eqH (H' := (Z ++ k_M th u so fz fs gt yr kk oo tt hh ww ss ll ls pl ps tp td x.1 en bb fa fv mt nx pL sg bo wa gv bw of o)) rfl ?_
      have hx := y_pline_le hpt hres
      have hsb := (k_sb_le (g := tp) hx).2
      have hAG2 := y_AG_t (by omega) hAG hR1
      have hLR2 := y_LR_t hLR hR1 hl
      refine m_J_run hM 1 rfl ⟨trivial, trivial⟩ ?_
      refine m_J_if (fun _ => ?_) (fun hc => absurd (nI_ne0 (by omega) (by omega)) hc)
      refine m_J_run hM 1 rfl ⟨trivial, trivial⟩ ?_
      refine m_cV0 hZ hM rfl kw_X9_132 rfl rfl rfl (y_blanks hZ hby hen (by omega)) k_Ml (Nat.le_of_ble_eq_true rfl) ?_
      refine m_J_run hM 1 rfl ⟨trivial, trivial⟩ ?_
      refine m_J_getf hM rfl rfl (kZ hZ 0 rfl) (rfl) ?_
      refine m_J_run hM 1 rfl ⟨trivial, trivial⟩ ?_
      refine m_J_getf hM rfl rfl (kZ hZ 0 rfl) (rfl) ?_
      refine m_J_run hM 1 rfl ⟨trivial, trivial⟩ ?_
      refine m_J_if (fun h2 => ?_) (fun h2 => ?_)
      ·
        rw [nI_eq (by omega) (by omega)] at h2
        have hlt : k_sb tp en x.1 < en := by omega
        refine m_J_run hM 3 rfl ⟨trivial, trivial, trivial, trivial⟩ ?_
        refine m_cV2 hZ hM rfl kw_X9_125 rfl rfl rfl (y_isAt hZ hby hen (by omega) (by omega) (by omega)) k_Ml (Nat.le_of_ble_eq_true rfl) ?_
        cases h3 : y_ia tp en (k_sb tp en x.1) 59 59 with
        | false =>
          refine m_J_run hM 1 rfl ⟨trivial, trivial⟩ ?_
          refine m_J_if (fun hc => absurd hc (by decide)) (fun _ => ?_)
          rw [y_ia_c] at h3
          have h4 : ¬ k_at tp en (k_sb tp en x.1) = nI 59 := fun h => absurd ⟨hlt, h⟩ (of_decide_eq_false h3)
          refine m_J_run hM 1 rfl ⟨trivial, trivial⟩ ?_
          exact m_J_iret hM rfl rfl (rfl) (Nat.le_of_ble_eq_true rfl) (Nat.le_of_ble_eq_true rfl) (⟨rfl, kk, oo, tt, hh, ww, ss, ll, _, _, rfl, hAG2, by rw [show y_ra tp en (f + 1) i pt Q = .inr (k_sb tp en x.1) by simp [y_ra, hres, h2, h4]]; exact ⟨rfl, rfl⟩⟩)
        | true =>
          refine m_J_run hM 1 rfl ⟨trivial, trivial⟩ ?_
          refine m_J_if (fun _ => ?_) (fun hc => absurd (by decide) hc)
          rw [y_ia_c] at h3
          have h4 := (of_decide_eq_true h3).2
          refine m_J_run hM 2 rfl ⟨trivial, trivial, trivial⟩ ?_
          refine m_J_getf hM rfl rfl (kZ hZ 0 rfl) (rfl) ?_
          refine m_J_run hM 2 rfl ⟨trivial, trivial, trivial⟩ ?_
          rw [nI_add (k_sb tp en x.1) 1]
          refine m_J_putf hM rfl rfl (kZ hZ 0 rfl) (rfl) ?_
          refine m_J_eqH (H' := (Z ++ k_M th u so fz fs gt yr kk oo tt hh ww ss ll ls pl ps tp td ((k_sb tp en x.1) + 1) en (k_sb tp en x.1) fa fv mt nx pL sg bo wa gv bw of o)) (kZs hZ 0 rfl) ?_
          refine m_J_run hM 2 rfl ⟨trivial, trivial, trivial⟩ ?_
          rw [nI_add i 1]
          rw [show y_ra tp en (f + 1) i pt Q = y_ra tp en f (i + 1) (k_sb tp en x.1 + 1) (k_uq Q i x.2) by simp [y_ra, hres, h2, h4]]
          exact ih (i + 1) _ _ _ _ _ _ _ _ _ _ (by omega) (by omega) hAG2 hLR2
      ·
        rw [nI_eq (by omega) (by omega)] at h2
        have h2 := Classical.not_not.mp h2
        refine m_J_run hM 3 rfl ⟨trivial, trivial, trivial, trivial⟩ ?_
        rw [nI_add i 1]
        exact m_J_iret hM rfl rfl (rfl) (Nat.le_of_ble_eq_true rfl) (Nat.le_of_ble_eq_true rfl) (⟨rfl, kk, oo, tt, hh, ww, ss, ll, _, _, rfl, hAG2, by rw [show y_ra tp en (f + 1) i pt Q = .inl (i + 1, k_uq Q i x.2) by simp [y_ra, hres, h2]]; exact ⟨rfl, hLR2⟩⟩)
set_option maxHeartbeats 4000000 in
set_option maxRecDepth 100000 in
theorem y_readAll (hZ : Z.length = 70) (hby : ∀ p, p < 400 → k_isb (tp p)) (htd : td ≤ 400) (Q : Nat → kL) : m_Sp l (m_EX E N xs) E mM_X9_readAll (d + 9) 0 0 [.ref 70] (Z ++ k_M th u so fz fs gt yr aK aO aT aH aW aS aL ls pl ps tp td pt en bg fa fv mt nx pL sg bo wa gv bw of o) tg (fun v H tg' => tg' = tg ∧ (∃ (kk oo tt hh ww ss ll : Nat → Int32) (pp bb : Nat), H = (Z ++ k_M th u so fz fs gt yr kk oo tt hh ww ss ll ls pl ps tp 0 pp td bb fa fv mt nx pL sg bo wa gv bw of o) ∧ y_AG aK aO aT aH aW aS aL kk oo tt hh ww ss ll ∧ y_AQ (y_rb tp td Q) v kk oo tt hh ww ss ll bb)) m_no := by
  have hM := mM_X9_readAll_ok
  refine m_Sp_of (by decide) (Nat.le_of_ble_eq_true rfl) ?_
  have hen := htd
  have hsb := (k_sb_le (g := tp) (n := td) (p := 0) (by omega)).2
  refine m_J_run hM 2 rfl ⟨trivial, trivial, trivial⟩ ?_
  refine m_J_getf hM rfl rfl (kZ hZ 0 rfl) (rfl) ?_
  refine m_J_putf hM rfl rfl (kZ hZ 0 rfl) (rfl) ?_
  refine m_J_eqH (H' := (Z ++ k_M th u so fz fs gt yr aK aO aT aH aW aS aL ls pl ps tp td pt td bg fa fv mt nx pL sg bo wa gv bw of o)) (kZs hZ 0 rfl) ?_
  refine m_J_run hM 2 rfl ⟨trivial, trivial, trivial⟩ ?_
  refine m_J_putf hM rfl rfl (kZ hZ 0 rfl) (rfl) ?_
  refine m_J_eqH (H' := (Z ++ k_M th u so fz fs gt yr aK aO aT aH aW aS aL ls pl ps tp 0 pt td bg fa fv mt nx pL sg bo wa gv bw of o)) (kZs hZ 0 rfl) ?_
  refine m_J_run hM 2 rfl ⟨trivial, trivial, trivial⟩ ?_
  refine m_J_putf hM rfl rfl (kZ hZ 0 rfl) (rfl) ?_
  refine m_J_eqH (H' := (Z ++ k_M th u so fz fs gt yr aK aO aT aH aW aS aL ls pl ps tp 0 0 td bg fa fv mt nx pL sg bo wa gv bw of o)) (kZs hZ 0 rfl) ?_
  refine m_J_run hM 1 rfl ⟨trivial, trivial⟩ ?_
  refine m_cV0 hZ hM rfl kw_X9_132 rfl rfl rfl (y_blanks hZ hby hen (by omega)) k_Ml (Nat.le_of_ble_eq_true rfl) ?_
  refine m_J_run hM 1 rfl ⟨trivial, trivial⟩ ?_
  refine m_J_getf hM rfl rfl (kZ hZ 0 rfl) (rfl) ?_
  refine m_J_run hM 1 rfl ⟨trivial, trivial⟩ ?_
  refine m_J_getf hM rfl rfl (kZ hZ 0 rfl) (rfl) ?_
  refine m_J_run hM 1 rfl ⟨trivial, trivial⟩ ?_
  refine m_J_if (fun h1 => ?_) (fun h1 => ?_)
  ·
    rw [nI_eq (by omega) (by omega)] at h1
    refine m_J_run hM 2 rfl ⟨trivial, trivial, trivial⟩ ?_
    rw [show y_rb tp td Q = y_ra tp td 14 0 (k_sb tp td 0) Q by simp [y_rb, h1]]
    exact y_raL hZ hby htd 14 0 _ _ Q _ _ _ _ _ _ _ rfl hsb (fun j _ => ⟨rfl, rfl, rfl, rfl, rfl, rfl, rfl⟩) (fun j hj => absurd hj (Nat.not_lt_zero j))
  ·
    rw [nI_eq (by omega) (by omega)] at h1
    have h1 := Classical.not_not.mp h1
    refine m_J_run hM 1 rfl ⟨trivial, trivial⟩ ?_
    exact m_J_iret hM rfl rfl (rfl) (Nat.le_of_ble_eq_true rfl) (Nat.le_of_ble_eq_true rfl) (⟨rfl, _, _, _, _, _, _, _, _, _, rfl, fun j _ => ⟨rfl, rfl, rfl, rfl, rfl, rfl, rfl⟩, by rw [show y_rb tp td Q = .inl (0, Q) by simp [y_rb, h1]]; exact ⟨rfl, fun i hi => absurd hi (Nat.not_lt_zero i)⟩⟩)
set_option maxHeartbeats 4000000 in
set_option maxRecDepth 100000 in
theorem y_book_x (hZ : Z.length = 70) (hby : ∀ p, p < 400 → k_isb (tp p)) (htd : td ≤ 400) (Q : Nat → kL) {e : Nat} (hres : y_rb tp td Q = .inr e) : m_Sp l (m_EX E N xs) E mM_X9_book (d + 10) 0 0 [.ref 70] (Z ++ k_M th u so fz fs gt yr aK aO aT aH aW aS aL ls pl ps tp td pt en bg fa fv mt nx pL sg bo wa gv bw of o) tg (fun v H tg' => tg' = tg ∧ (v = some (.int (nI 0)) ∧ ∃ (kk oo tt hh ww ss ll : Nat → Int32) (pp bb : Nat), H = (Z ++ k_M (nI 1) u so fz fs gt yr kk oo tt hh ww ss ll ls pl ps tp 0 pp td bb (nI e) fv mt nx pL sg bo wa gv bw of o) ∧ y_AG aK aO aT aH aW aS aL kk oo tt hh ww ss ll)) m_no := by
  have hM := mM_X9_book_ok
  refine m_Sp_of (by decide) (Nat.le_of_ble_eq_true rfl) ?_
  refine m_J_run hM 2 rfl ⟨trivial, trivial, trivial⟩ ?_
  refine m_J_putf hM rfl rfl (kZ hZ 0 rfl) (rfl) ?_
  refine m_J_eqH (H' := (Z ++ k_M (nI 0) u so fz fs gt yr aK aO aT aH aW aS aL ls pl ps tp td pt en bg fa fv mt nx pL sg bo wa gv bw of o)) (kZs hZ 0 rfl) ?_
  refine m_J_run hM 1 rfl ⟨trivial, trivial⟩ ?_
  refine m_cVp0 hZ hM rfl kw_X9_207 rfl rfl rfl (y_readAll hZ hby htd Q) (Nat.le_of_ble_eq_true rfl) (fun v9 h9 hp9 => ?_)
  obtain ⟨kk, oo, tt, hh, ww, ss, ll, pp, bb, rfl, hAG, hR2⟩ := hp9
  refine ⟨k_le k_Ml, ?_⟩
  rw [hres] at hR2
  obtain ⟨rfl, he⟩ := hR2
  subst he
  refine m_J_eqH (H' := (Z ++ k_M (nI 0) u so fz fs gt yr kk oo tt hh ww ss ll ls pl ps tp 0 pp td bb fa fv mt nx pL sg bo wa gv bw of o)) rfl ?_
  refine m_J_run hM 4 rfl ⟨trivial, trivial, trivial, trivial, trivial⟩ ?_
  refine m_J_if (fun hc => absurd hc (by decide)) (fun _ => ?_)
  refine m_J_run hM 1 rfl ⟨trivial, trivial⟩ ?_
  refine m_J_getf hM rfl rfl (kZ hZ 0 rfl) (rfl) ?_
  refine m_J_run hM 1 rfl ⟨trivial, trivial⟩ ?_
  refine m_J_putf hM rfl rfl (kZ hZ 0 rfl) (rfl) ?_
  refine m_J_eqH (H' := (Z ++ k_M (nI 0) u so fz fs gt yr kk oo tt hh ww ss ll ls pl ps tp 0 pp td bb (nI bb) fv mt nx pL sg bo wa gv bw of o)) (kZs hZ 0 rfl) ?_
  refine m_J_run hM 3 rfl ⟨trivial, trivial, trivial, trivial⟩ ?_
  refine m_J_if (fun hc => absurd hc (by decide)) (fun _ => ?_)
  refine m_J_run hM 3 rfl ⟨trivial, trivial, trivial, trivial⟩ ?_
  refine m_cV2 hZ hM rfl kw_X9_99 rfl rfl rfl (y_tif hZ (b := true) (x := nI 1)) k_Ml (Nat.le_of_ble_eq_true rfl) ?_
  refine m_J_eqH (H' := (Z ++ k_M (nI 1) u so fz fs gt yr kk oo tt hh ww ss ll ls pl ps tp 0 pp td bb (nI bb) fv mt nx pL sg bo wa gv bw of o)) rfl ?_
  refine m_J_run hM 1 rfl ⟨trivial, trivial⟩ ?_
  refine m_J_if (fun hc => absurd hc (by decide)) (fun _ => ?_)
  refine m_J_run hM 1 rfl ⟨trivial, trivial⟩ ?_
  exact m_J_iret hM rfl rfl (rfl) (Nat.le_of_ble_eq_true rfl) (Nat.le_of_ble_eq_true rfl) (⟨rfl, rfl, _, _, _, _, _, _, _, _, _, rfl, hAG⟩)
set_option maxHeartbeats 4000000 in
set_option maxRecDepth 100000 in
theorem y_book (hZ : Z.length = 70) (hby : ∀ p, p < 400 → k_isb (tp p)) (htd : td ≤ 400) (Q : Nat → kL) {x : Nat × (Nat → kL)} (hres : y_rb tp td Q = .inl x) : m_Sp l (m_EX E N xs) E mM_X9_book (d + 10) 0 0 [.ref 70] (Z ++ k_M th u so fz fs gt yr aK aO aT aH aW aS aL ls pl ps tp td pt en bg fa fv mt nx pL sg bo wa gv bw of o) tg (fun v H tg' => tg' = tg ∧ (v = some (.int (nI x.1)) ∧ ∃ (kk oo tt hh ww ss ll : Nat → Int32) (pp bb : Nat), H = (Z ++ k_M (nI 0) u so fz fs gt yr kk oo tt hh ww ss ll x.1 pl ps tp 0 pp td bb (-nI 1) fv mt nx pL sg bo wa gv bw of o) ∧ ∀ i, i < x.1 → y_LR (x.2 i) kk oo tt hh ww ss ll i)) m_no := by
  have hM := mM_X9_book_ok
  refine m_Sp_of (by decide) (Nat.le_of_ble_eq_true rfl) ?_
  have hx := y_rb_le hres
  refine m_J_run hM 2 rfl ⟨trivial, trivial, trivial⟩ ?_
  refine m_J_putf hM rfl rfl (kZ hZ 0 rfl) (rfl) ?_
  refine m_J_eqH (H' := (Z ++ k_M (nI 0) u so fz fs gt yr aK aO aT aH aW aS aL ls pl ps tp td pt en bg fa fv mt nx pL sg bo wa gv bw of o)) (kZs hZ 0 rfl) ?_
  refine m_J_run hM 1 rfl ⟨trivial, trivial⟩ ?_
  refine m_cVp0 hZ hM rfl kw_X9_207 rfl rfl rfl (y_readAll hZ hby htd Q) (Nat.le_of_ble_eq_true rfl) (fun v9 h9 hp9 => ?_)
  obtain ⟨kk, oo, tt, hh, ww, ss, ll, pp, bb, rfl, hAG, hR2⟩ := hp9
  refine ⟨k_le k_Ml, ?_⟩
  rw [hres] at hR2
  obtain ⟨rfl, hLR⟩ := hR2
  refine m_J_eqH (H' := (Z ++ k_M (nI 0) u so fz fs gt yr kk oo tt hh ww ss ll ls pl ps tp 0 pp td bb fa fv mt nx pL sg bo wa gv bw of o)) rfl ?_
  refine m_J_run hM 4 rfl ⟨trivial, trivial, trivial, trivial, trivial⟩ ?_
  refine m_J_if (fun _ => ?_) (fun hc => absurd (nI_pos' (by omega)) hc)
  refine m_J_run hM 1 rfl ⟨trivial, trivial⟩ ?_
  refine m_J_putf hM rfl rfl (kZ hZ 0 rfl) (rfl) ?_
  refine m_J_eqH (H' := (Z ++ k_M (nI 0) u so fz fs gt yr kk oo tt hh ww ss ll ls pl ps tp 0 pp td bb (-nI 1) fv mt nx pL sg bo wa gv bw of o)) (kZs hZ 0 rfl) ?_
  refine m_J_run hM 3 rfl ⟨trivial, trivial, trivial, trivial⟩ ?_
  refine m_J_if (fun _ => ?_) (fun hc => absurd (nI_pos' (by omega)) hc)
  refine m_J_run hM 2 rfl ⟨trivial, trivial, trivial⟩ ?_
  refine m_cV2 hZ hM rfl kw_X9_99 rfl rfl rfl (y_tif hZ (b := false) (x := nI 1)) k_Ml (Nat.le_of_ble_eq_true rfl) ?_
  refine m_J_eqH (H' := (Z ++ k_M (nI 0) u so fz fs gt yr kk oo tt hh ww ss ll ls pl ps tp 0 pp td bb (-nI 1) fv mt nx pL sg bo wa gv bw of o)) rfl ?_
  refine m_J_run hM 1 rfl ⟨trivial, trivial⟩ ?_
  refine m_J_if (fun _ => ?_) (fun hc => absurd (by decide) hc)
  refine m_J_run hM 2 rfl ⟨trivial, trivial, trivial⟩ ?_
  refine m_J_putf hM rfl rfl (kZ hZ 0 rfl) (rfl) ?_
  refine m_J_eqH (H' := (Z ++ k_M (nI 0) u so fz fs gt yr kk oo tt hh ww ss ll x.1 pl ps tp 0 pp td bb (-nI 1) fv mt nx pL sg bo wa gv bw of o)) (kZs hZ 0 rfl) ?_
  refine m_J_run hM 2 rfl ⟨trivial, trivial, trivial⟩ ?_
  have LP : ∀ (n9 j : Nat), j + n9 = x.1 → m_J l (m_EX E N xs) E mM_X9_book (d + 10) 0 0 (fun v H tg' => tg' = tg ∧ (v = some (.int (nI x.1)) ∧ ∃ (kk oo tt hh ww ss ll : Nat → Int32) (pp bb : Nat), H = (Z ++ k_M (nI 0) u so fz fs gt yr kk oo tt hh ww ss ll x.1 pl ps tp 0 pp td bb (-nI 1) fv mt nx pL sg bo wa gv bw of o) ∧ ∀ i, i < x.1 → y_LR (x.2 i) kk oo tt hh ww ss ll i)) m_no tg 0 0 (52, [some (.ref 70), some (.int (nI x.1)), some (.int (nI j))], [], (Z ++ k_M (nI 0) u so fz fs gt yr (k_upto (fun j9 => kk (14 + j9)) kk j) (k_upto (fun j9 => oo (14 + j9)) oo j) (k_upto (fun j9 => tt (14 + j9)) tt j) (k_upto (fun j9 => hh (14 + j9)) hh j) (k_upto (fun j9 => ww (14 + j9)) ww j) (k_upto (fun j9 => ss (14 + j9)) ss j) (k_upto (fun j9 => ll (14 + j9)) ll j) x.1 pl ps tp 0 pp td bb (-nI 1) fv mt nx pL sg bo wa gv bw of o)) := by
    intro n9
    induction n9 with
    | zero =>
      intro j  hi 
      have e9 : j = x.1 := by omega
      rw [e9]
      refine m_J_run hM 3 rfl ⟨trivial, trivial, trivial, trivial⟩ ?_
      refine m_J_if (fun _ => ?_) (fun hc => absurd (nI_le (by omega) (by omega)) hc)
      refine m_J_run hM 1 rfl ⟨trivial, trivial⟩ ?_
      exact m_J_iret hM rfl rfl (rfl) (Nat.le_of_ble_eq_true rfl) (Nat.le_of_ble_eq_true rfl) (⟨rfl, rfl, _, _, _, _, _, _, _, _, _, rfl, fun i hi9 => y_LR_c (i := 14 + i) ⟨k_upto_lt _ _ hi9, k_upto_lt _ _ hi9, k_upto_lt _ _ hi9, k_upto_lt _ _ hi9, k_upto_lt _ _ hi9, k_upto_lt _ _ hi9, k_upto_lt _ _ hi9⟩ (hLR i hi9)⟩)
    | succ n9 ih =>
      intro j  hi 
      refine m_J_run hM 3 rfl ⟨trivial, trivial, trivial, trivial⟩ ?_
      refine m_J_if (fun hc => absurd hc (nI_ge (by omega) (by omega))) (fun _ => ?_)
      refine m_J_run hM 1 rfl ⟨trivial, trivial⟩ ?_
      refine m_J_getf hM rfl rfl (kZ hZ 0 rfl) (rfl) ?_
      refine m_J_run hM 2 rfl ⟨trivial, trivial, trivial⟩ ?_
      refine m_J_getf hM rfl rfl (kZ hZ 0 rfl) (rfl) ?_
      refine m_J_run hM 3 rfl ⟨trivial, trivial, trivial, trivial⟩ ?_
      rw [nI_add 14 j]
      refine m_ialdN hM rfl (kZ hZ 4 rfl) (by omega) (by omega) ?_
      refine m_iastN hM rfl (kZ hZ 4 rfl) (by omega) (by omega) ?_
      refine m_J_eqH (H' := (Z ++ k_M (nI 0) u so fz fs gt yr (upd (k_upto (fun j9 => kk (14 + j9)) kk j) j ((k_upto (fun j9 => kk (14 + j9)) kk j) (14 + j))) (k_upto (fun j9 => oo (14 + j9)) oo j) (k_upto (fun j9 => tt (14 + j9)) tt j) (k_upto (fun j9 => hh (14 + j9)) hh j) (k_upto (fun j9 => ww (14 + j9)) ww j) (k_upto (fun j9 => ss (14 + j9)) ss j) (k_upto (fun j9 => ll (14 + j9)) ll j) x.1 pl ps tp 0 pp td bb (-nI 1) fv mt nx pL sg bo wa gv bw of o)) (kZs hZ 4 (rfl)) ?_
      refine m_J_run hM 1 rfl ⟨trivial, trivial⟩ ?_
      refine m_J_getf hM rfl rfl (kZ hZ 0 rfl) (rfl) ?_
      refine m_J_run hM 2 rfl ⟨trivial, trivial, trivial⟩ ?_
      refine m_J_getf hM rfl rfl (kZ hZ 0 rfl) (rfl) ?_
      refine m_J_run hM 3 rfl ⟨trivial, trivial, trivial, trivial⟩ ?_
      rw [nI_add 14 j]
      refine m_ialdN hM rfl (kZ hZ 5 rfl) (by omega) (by omega) ?_
      refine m_iastN hM rfl (kZ hZ 5 rfl) (by omega) (by omega) ?_
      refine m_J_eqH (H' := (Z ++ k_M (nI 0) u so fz fs gt yr (upd (k_upto (fun j9 => kk (14 + j9)) kk j) j ((k_upto (fun j9 => kk (14 + j9)) kk j) (14 + j))) (upd (k_upto (fun j9 => oo (14 + j9)) oo j) j ((k_upto (fun j9 => oo (14 + j9)) oo j) (14 + j))) (k_upto (fun j9 => tt (14 + j9)) tt j) (k_upto (fun j9 => hh (14 + j9)) hh j) (k_upto (fun j9 => ww (14 + j9)) ww j) (k_upto (fun j9 => ss (14 + j9)) ss j) (k_upto (fun j9 => ll (14 + j9)) ll j) x.1 pl ps tp 0 pp td bb (-nI 1) fv mt nx pL sg bo wa gv bw of o)) (kZs hZ 5 (rfl)) ?_
      refine m_J_run hM 1 rfl ⟨trivial, trivial⟩ ?_
      refine m_J_getf hM rfl rfl (kZ hZ 0 rfl) (rfl) ?_
      refine m_J_run hM 2 rfl ⟨trivial, trivial, trivial⟩ ?_
      refine m_J_getf hM rfl rfl (kZ hZ 0 rfl) (rfl) ?_
      refine m_J_run hM 3 rfl ⟨trivial, trivial, trivial, trivial⟩ ?_
      rw [nI_add 14 j]
      refine m_ialdN hM rfl (kZ hZ 6 rfl) (by omega) (by omega) ?_
      refine m_iastN hM rfl (kZ hZ 6 rfl) (by omega) (by omega) ?_
      refine m_J_eqH (H' := (Z ++ k_M (nI 0) u so fz fs gt yr (upd (k_upto (fun j9 => kk (14 + j9)) kk j) j ((k_upto (fun j9 => kk (14 + j9)) kk j) (14 + j))) (upd (k_upto (fun j9 => oo (14 + j9)) oo j) j ((k_upto (fun j9 => oo (14 + j9)) oo j) (14 + j))) (upd (k_upto (fun j9 => tt (14 + j9)) tt j) j ((k_upto (fun j9 => tt (14 + j9)) tt j) (14 + j))) (k_upto (fun j9 => hh (14 + j9)) hh j) (k_upto (fun j9 => ww (14 + j9)) ww j) (k_upto (fun j9 => ss (14 + j9)) ss j) (k_upto (fun j9 => ll (14 + j9)) ll j) x.1 pl ps tp 0 pp td bb (-nI 1) fv mt nx pL sg bo wa gv bw of o)) (kZs hZ 6 (rfl)) ?_
      refine m_J_run hM 1 rfl ⟨trivial, trivial⟩ ?_
      refine m_J_getf hM rfl rfl (kZ hZ 0 rfl) (rfl) ?_
      refine m_J_run hM 2 rfl ⟨trivial, trivial, trivial⟩ ?_
      refine m_J_getf hM rfl rfl (kZ hZ 0 rfl) (rfl) ?_
      refine m_J_run hM 3 rfl ⟨trivial, trivial, trivial, trivial⟩ ?_
      rw [nI_add 14 j]
      refine m_ialdN hM rfl (kZ hZ 7 rfl) (by omega) (by omega) ?_
      refine m_iastN hM rfl (kZ hZ 7 rfl) (by omega) (by omega) ?_
      refine m_J_eqH (H' := (Z ++ k_M (nI 0) u so fz fs gt yr (upd (k_upto (fun j9 => kk (14 + j9)) kk j) j ((k_upto (fun j9 => kk (14 + j9)) kk j) (14 + j))) (upd (k_upto (fun j9 => oo (14 + j9)) oo j) j ((k_upto (fun j9 => oo (14 + j9)) oo j) (14 + j))) (upd (k_upto (fun j9 => tt (14 + j9)) tt j) j ((k_upto (fun j9 => tt (14 + j9)) tt j) (14 + j))) (upd (k_upto (fun j9 => hh (14 + j9)) hh j) j ((k_upto (fun j9 => hh (14 + j9)) hh j) (14 + j))) (k_upto (fun j9 => ww (14 + j9)) ww j) (k_upto (fun j9 => ss (14 + j9)) ss j) (k_upto (fun j9 => ll (14 + j9)) ll j) x.1 pl ps tp 0 pp td bb (-nI 1) fv mt nx pL sg bo wa gv bw of o)) (kZs hZ 7 (rfl)) ?_
      refine m_J_run hM 1 rfl ⟨trivial, trivial⟩ ?_
      refine m_J_getf hM rfl rfl (kZ hZ 0 rfl) (rfl) ?_
      refine m_J_run hM 2 rfl ⟨trivial, trivial, trivial⟩ ?_
      refine m_J_getf hM rfl rfl (kZ hZ 0 rfl) (rfl) ?_
      refine m_J_run hM 3 rfl ⟨trivial, trivial, trivial, trivial⟩ ?_
      rw [nI_add 14 j]
      refine m_ialdN hM rfl (kZ hZ 8 rfl) (by omega) (by omega) ?_
      refine m_iastN hM rfl (kZ hZ 8 rfl) (by omega) (by omega) ?_
      refine m_J_eqH (H' := (Z ++ k_M (nI 0) u so fz fs gt yr (upd (k_upto (fun j9 => kk (14 + j9)) kk j) j ((k_upto (fun j9 => kk (14 + j9)) kk j) (14 + j))) (upd (k_upto (fun j9 => oo (14 + j9)) oo j) j ((k_upto (fun j9 => oo (14 + j9)) oo j) (14 + j))) (upd (k_upto (fun j9 => tt (14 + j9)) tt j) j ((k_upto (fun j9 => tt (14 + j9)) tt j) (14 + j))) (upd (k_upto (fun j9 => hh (14 + j9)) hh j) j ((k_upto (fun j9 => hh (14 + j9)) hh j) (14 + j))) (upd (k_upto (fun j9 => ww (14 + j9)) ww j) j ((k_upto (fun j9 => ww (14 + j9)) ww j) (14 + j))) (k_upto (fun j9 => ss (14 + j9)) ss j) (k_upto (fun j9 => ll (14 + j9)) ll j) x.1 pl ps tp 0 pp td bb (-nI 1) fv mt nx pL sg bo wa gv bw of o)) (kZs hZ 8 (rfl)) ?_
      refine m_J_run hM 1 rfl ⟨trivial, trivial⟩ ?_
      refine m_J_getf hM rfl rfl (kZ hZ 0 rfl) (rfl) ?_
      refine m_J_run hM 2 rfl ⟨trivial, trivial, trivial⟩ ?_
      refine m_J_getf hM rfl rfl (kZ hZ 0 rfl) (rfl) ?_
      refine m_J_run hM 3 rfl ⟨trivial, trivial, trivial, trivial⟩ ?_
      rw [nI_add 14 j]
      refine m_ialdN hM rfl (kZ hZ 9 rfl) (by omega) (by omega) ?_
      refine m_iastN hM rfl (kZ hZ 9 rfl) (by omega) (by omega) ?_
      refine m_J_eqH (H' := (Z ++ k_M (nI 0) u so fz fs gt yr (upd (k_upto (fun j9 => kk (14 + j9)) kk j) j ((k_upto (fun j9 => kk (14 + j9)) kk j) (14 + j))) (upd (k_upto (fun j9 => oo (14 + j9)) oo j) j ((k_upto (fun j9 => oo (14 + j9)) oo j) (14 + j))) (upd (k_upto (fun j9 => tt (14 + j9)) tt j) j ((k_upto (fun j9 => tt (14 + j9)) tt j) (14 + j))) (upd (k_upto (fun j9 => hh (14 + j9)) hh j) j ((k_upto (fun j9 => hh (14 + j9)) hh j) (14 + j))) (upd (k_upto (fun j9 => ww (14 + j9)) ww j) j ((k_upto (fun j9 => ww (14 + j9)) ww j) (14 + j))) (upd (k_upto (fun j9 => ss (14 + j9)) ss j) j ((k_upto (fun j9 => ss (14 + j9)) ss j) (14 + j))) (k_upto (fun j9 => ll (14 + j9)) ll j) x.1 pl ps tp 0 pp td bb (-nI 1) fv mt nx pL sg bo wa gv bw of o)) (kZs hZ 9 (rfl)) ?_
      refine m_J_run hM 1 rfl ⟨trivial, trivial⟩ ?_
      refine m_J_getf hM rfl rfl (kZ hZ 0 rfl) (rfl) ?_
      refine m_J_run hM 2 rfl ⟨trivial, trivial, trivial⟩ ?_
      refine m_J_getf hM rfl rfl (kZ hZ 0 rfl) (rfl) ?_
      refine m_J_run hM 3 rfl ⟨trivial, trivial, trivial, trivial⟩ ?_
      rw [nI_add 14 j]
      refine m_ialdN hM rfl (kZ hZ 10 rfl) (by omega) (by omega) ?_
      refine m_iastN hM rfl (kZ hZ 10 rfl) (by omega) (by omega) ?_
      refine m_J_eqH (H' := (Z ++ k_M (nI 0) u so fz fs gt yr (upd (k_upto (fun j9 => kk (14 + j9)) kk j) j ((k_upto (fun j9 => kk (14 + j9)) kk j) (14 + j))) (upd (k_upto (fun j9 => oo (14 + j9)) oo j) j ((k_upto (fun j9 => oo (14 + j9)) oo j) (14 + j))) (upd (k_upto (fun j9 => tt (14 + j9)) tt j) j ((k_upto (fun j9 => tt (14 + j9)) tt j) (14 + j))) (upd (k_upto (fun j9 => hh (14 + j9)) hh j) j ((k_upto (fun j9 => hh (14 + j9)) hh j) (14 + j))) (upd (k_upto (fun j9 => ww (14 + j9)) ww j) j ((k_upto (fun j9 => ww (14 + j9)) ww j) (14 + j))) (upd (k_upto (fun j9 => ss (14 + j9)) ss j) j ((k_upto (fun j9 => ss (14 + j9)) ss j) (14 + j))) (upd (k_upto (fun j9 => ll (14 + j9)) ll j) j ((k_upto (fun j9 => ll (14 + j9)) ll j) (14 + j))) x.1 pl ps tp 0 pp td bb (-nI 1) fv mt nx pL sg bo wa gv bw of o)) (kZs hZ 10 (rfl)) ?_
      refine m_J_run hM 2 rfl ⟨trivial, trivial, trivial⟩ ?_
      rw [nI_add j 1]
      have h9 := ih (j + 1) (by omega)
      rw [show k_upto (fun j9 => kk (14 + j9)) kk (j + 1) = upd (k_upto (fun j9 => kk (14 + j9)) kk j) j ((k_upto (fun j9 => kk (14 + j9)) kk j) (14 + j)) by rw [k_upto_ge _ _ (show j ≤ 14 + j by omega)]; exact (k_upto_I (fun j9 => kk (14 + j9)) kk j).symm] at h9
      rw [show k_upto (fun j9 => oo (14 + j9)) oo (j + 1) = upd (k_upto (fun j9 => oo (14 + j9)) oo j) j ((k_upto (fun j9 => oo (14 + j9)) oo j) (14 + j)) by rw [k_upto_ge _ _ (show j ≤ 14 + j by omega)]; exact (k_upto_I (fun j9 => oo (14 + j9)) oo j).symm] at h9
      rw [show k_upto (fun j9 => tt (14 + j9)) tt (j + 1) = upd (k_upto (fun j9 => tt (14 + j9)) tt j) j ((k_upto (fun j9 => tt (14 + j9)) tt j) (14 + j)) by rw [k_upto_ge _ _ (show j ≤ 14 + j by omega)]; exact (k_upto_I (fun j9 => tt (14 + j9)) tt j).symm] at h9
      rw [show k_upto (fun j9 => hh (14 + j9)) hh (j + 1) = upd (k_upto (fun j9 => hh (14 + j9)) hh j) j ((k_upto (fun j9 => hh (14 + j9)) hh j) (14 + j)) by rw [k_upto_ge _ _ (show j ≤ 14 + j by omega)]; exact (k_upto_I (fun j9 => hh (14 + j9)) hh j).symm] at h9
      rw [show k_upto (fun j9 => ww (14 + j9)) ww (j + 1) = upd (k_upto (fun j9 => ww (14 + j9)) ww j) j ((k_upto (fun j9 => ww (14 + j9)) ww j) (14 + j)) by rw [k_upto_ge _ _ (show j ≤ 14 + j by omega)]; exact (k_upto_I (fun j9 => ww (14 + j9)) ww j).symm] at h9
      rw [show k_upto (fun j9 => ss (14 + j9)) ss (j + 1) = upd (k_upto (fun j9 => ss (14 + j9)) ss j) j ((k_upto (fun j9 => ss (14 + j9)) ss j) (14 + j)) by rw [k_upto_ge _ _ (show j ≤ 14 + j by omega)]; exact (k_upto_I (fun j9 => ss (14 + j9)) ss j).symm] at h9
      rw [show k_upto (fun j9 => ll (14 + j9)) ll (j + 1) = upd (k_upto (fun j9 => ll (14 + j9)) ll j) j ((k_upto (fun j9 => ll (14 + j9)) ll j) (14 + j)) by rw [k_upto_ge _ _ (show j ≤ 14 + j by omega)]; exact (k_upto_I (fun j9 => ll (14 + j9)) ll j).symm] at h9
      exact h9
  refine m_J_eqH (H' := (Z ++ k_M (nI 0) u so fz fs gt yr (k_upto (fun j9 => kk (14 + j9)) kk 0) (k_upto (fun j9 => oo (14 + j9)) oo 0) (k_upto (fun j9 => tt (14 + j9)) tt 0) (k_upto (fun j9 => hh (14 + j9)) hh 0) (k_upto (fun j9 => ww (14 + j9)) ww 0) (k_upto (fun j9 => ss (14 + j9)) ss 0) (k_upto (fun j9 => ll (14 + j9)) ll 0) x.1 pl ps tp 0 pp td bb (-nI 1) fv mt nx pL sg bo wa gv bw of o)) (by rw [k_upto_0, k_upto_0, k_upto_0, k_upto_0, k_upto_0, k_upto_0, k_upto_0]) ?_
  exact LP x.1 0  (by omega)
end
