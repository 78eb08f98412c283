/-! THE MODEL: far, joined, holds, broken (written by wip/gen_model5.py) -/
theorem k_le {Z B B1 : mH} (h : B.length = B1.length) : (Z ++ B).length ≤ (Z ++ B1).length := by rw [List.length_append, List.length_append, h]; exact Nat.le_refl _
theorem k_maxM {a b : Nat} (ha : a < 100000) (hb : b < 100000) : (if nI a < nI b then nI b else nI a) = nI (max a b) := by
  by_cases h : a < b
  · rw [if_pos (nI_lt h (by omega)), Nat.max_eq_right (by omega)]
  · rw [if_neg (nI_nlt (by omega) (by omega)), Nat.max_eq_left (by omega)]
/-- is one of the squares t below n, by its ways below w at the last, beside o and p -/
def k_any (p : Nat → Bool) : Nat → Bool
  | 0 => false
  | n + 1 => k_any p n || p n
theorem k_any_iff {p : Nat → Bool} : ∀ {n : Nat}, k_any p n = true ↔ ∃ i, i < n ∧ p i = true := by
  intro n
  induction n with
  | zero => simp [k_any]
  | succ n ih =>
    rw [k_any, Bool.or_eq_true, ih]
    constructor
    · rintro (⟨i, hi, hp⟩ | hp)
      · exact ⟨i, by omega, hp⟩
      · exact ⟨n, by omega, hp⟩
    · rintro ⟨i, hi, hp⟩
      by_cases e : i = n
      · rw [e] at hp; exact Or.inr hp
      · exact Or.inl ⟨i, by omega, hp⟩
def y_ds (u : Nat → Int32) (gt : Nat) : Nat → Nat → Nat
  | 0, s => if s = gt then 0 else 1000
  | d + 1, s => if y_ds u gt d s = 1000 ∧ ¬ u s = nI 4 ∧ k_any (fun t => decide (y_ds u gt d t = d) && k_any (fun w => decide (k_bd t w = some s)) 4) 60 = true then d + 1 else y_ds u gt d s
/-- the pass d + 1 as far as square s, way w -/
def y_dp (u : Nat → Int32) (gt d s w o : Nat) : Nat := if y_ds u gt d o = 1000 ∧ ¬ u o = nI 4 ∧ ((k_any (fun t => decide (y_ds u gt d t = d) && k_any (fun w => decide (k_bd t w = some o)) 4) s || (decide (y_ds u gt d s = d) && k_any (fun w => decide (k_bd s w = some o)) w)) = true) then d + 1 else y_ds u gt d o
theorem y_ds_le (u : Nat → Int32) (gt : Nat) : ∀ d s, y_ds u gt d s = 1000 ∨ y_ds u gt d s ≤ d := by
  intro d
  induction d with
  | zero => intro s; rw [y_ds]; split <;> simp
  | succ d ih => intro s; rw [y_ds]; split; · exact Or.inr (Nat.le_refl _)
                 · rcases ih s with h | h; · exact Or.inl h
                   · exact Or.inr (by omega)
theorem y_dp_0 (u : Nat → Int32) (gt d o : Nat) : y_dp u gt d 0 0 o = y_ds u gt d o := by unfold y_dp; rw [if_neg]; rintro ⟨-, -, h⟩; simp [k_any] at h
theorem y_dp_4 (u : Nat → Int32) (gt d s o : Nat) : y_dp u gt d s 4 o = y_dp u gt d (s + 1) 0 o := by unfold y_dp; simp only [k_any]; simp
theorem y_dp_n (u : Nat → Int32) (gt d s o : Nat) (h : ¬ y_ds u gt d s = d) : y_dp u gt d s 0 o = y_dp u gt d (s + 1) 0 o := by unfold y_dp; simp only [k_any]; simp [h]
theorem y_dp_60 (u : Nat → Int32) (gt d o : Nat) : y_dp u gt d 60 0 o = y_ds u gt (d + 1) o := by rw [y_ds]; unfold y_dp; rw [show k_any (fun w => decide (k_bd 60 w = some o)) 0 = false from rfl, Bool.and_false, Bool.or_false]
theorem y_dp_w (u : Nat → Int32) (gt d s w o : Nat) (h : ¬ k_bd s w = some o) : y_dp u gt d s (w + 1) o = y_dp u gt d s w o := by unfold y_dp; simp only [k_any]; simp [h]
theorem y_dp_v (u : Nat → Int32) (gt d s w t o : Nat) (hb : k_bd s w = some t) (h : ¬ o = t) : y_dp u gt d s (w + 1) o = y_dp u gt d s w o := y_dp_w u gt d s w o (by rw [hb]; exact fun q => h (Option.some.inj q).symm)
theorem y_dp_g (u : Nat → Int32) (gt d s w o : Nat) (h : ¬ (y_ds u gt d o = 1000 ∧ ¬ u o = nI 4)) : y_dp u gt d s w o = y_ds u gt d o := by unfold y_dp; rw [if_neg]; exact fun q => h ⟨q.1, q.2.1⟩
theorem y_dp_h (u : Nat → Int32) (gt d s w o : Nat) (h1 : y_dp u gt d s w o ≠ 1000) (h2 : y_ds u gt d o = 1000 ∧ ¬ u o = nI 4) : y_dp u gt d s (w + 1) o = y_dp u gt d s w o := by
  unfold y_dp at h1 ⊢
  by_cases hc : (k_any (fun t => decide (y_ds u gt d t = d) && k_any (fun w => decide (k_bd t w = some o)) 4) s || (decide (y_ds u gt d s = d) && k_any (fun w => decide (k_bd s w = some o)) w)) = true
  · have hc2 : (k_any (fun t => decide (y_ds u gt d t = d) && k_any (fun w => decide (k_bd t w = some o)) 4) s || (decide (y_ds u gt d s = d) && k_any (fun w => decide (k_bd s w = some o)) (w + 1))) = true := by
      rw [show k_any (fun w => decide (k_bd s w = some o)) (w + 1) = (k_any (fun w => decide (k_bd s w = some o)) w || decide (k_bd s w = some o)) from rfl]
      rw [Bool.or_eq_true, Bool.and_eq_true] at hc ⊢
      rcases hc with hc | hc
      · exact Or.inl hc
      · exact Or.inr ⟨hc.1, by rw [hc.2, Bool.true_or]⟩
    rw [if_pos ⟨h2.1, h2.2, hc2⟩, if_pos ⟨h2.1, h2.2, hc⟩]
  · rw [if_neg (fun q => hc q.2.2), h2.1] at h1
    exact absurd rfl h1
theorem y_dp_s (u : Nat → Int32) (gt d s w o : Nat) (hd : y_ds u gt d s = d) (hb : k_bd s w = some o) (h : y_ds u gt d o = 1000 ∧ ¬ u o = nI 4) : y_dp u gt d s (w + 1) o = d + 1 := by
  unfold y_dp
  refine if_pos ⟨h.1, h.2, ?_⟩
  rw [show k_any (fun w => decide (k_bd s w = some o)) (w + 1) = (k_any (fun w => decide (k_bd s w = some o)) w || decide (k_bd s w = some o)) from rfl]
  rw [decide_eq_true hb, decide_eq_true hd, Bool.or_true, Bool.and_true, Bool.or_true]
theorem y_dp_le (u : Nat → Int32) (gt d s w o : Nat) (hd : d < 60) : y_dp u gt d s w o ≤ 1000 := by
  unfold y_dp
  split
  · omega
  · rcases y_ds_le u gt d o with h | h <;> omega
theorem y_dp_1000 {u : Nat → Int32} {gt d s w o : Nat} (hd : d < 60) (h : y_dp u gt d s w o = 1000) : y_ds u gt d o = 1000 := by
  unfold y_dp at h
  split at h
  · omega
  · exact h
def y_mx (u : Nat → Int32) (D : Nat → Nat) : Nat → Nat
  | 0 => 0
  | n + 1 => if u n = nI 1 then max (y_mx u D n) (D n) else y_mx u D n
theorem y_mx_le {u : Nat → Int32} {D : Nat → Nat} (h : ∀ s, D s ≤ 1000) : ∀ n, y_mx u D n ≤ 1000 := by
  intro n
  induction n with
  | zero => exact Nat.zero_le _
  | succ n ih => rw [y_mx]; have := h n; split <;> omega
def y_fr (u : Nat → Int32) (gt : Nat) : Int32 := if y_mx u (y_ds u gt 60) 60 = 1000 then -nI 1 else nI (y_mx u (y_ds u gt 60) 60)
theorem y_dp_nx {u : Nat → Int32} {gt d s w o : Nat} (hd : d < 60) (hb : k_bd s w = some o) (h : ¬ (y_dp u gt d s w o = 1000 ∧ ¬ u o = nI 4)) (j : Nat) : y_dp u gt d s w j = y_dp u gt d s (w + 1) j := by
  by_cases hj : j = o
  · rw [hj]
    by_cases h2 : y_ds u gt d o = 1000 ∧ ¬ u o = nI 4
    · exact (y_dp_h u gt d s w o (fun q => h ⟨q, h2.2⟩) h2).symm
    · rw [y_dp_g _ _ _ _ _ _ h2, y_dp_g _ _ _ _ _ _ h2]
  · rw [y_dp_w]
    rw [hb]
    exact fun q => hj (by injection q with q; exact q.symm)
section
variable {l : Launch} {E : mE} {N : Nat} {xs : Nat → Int32} {d : Nat} {tg : Bool} {Z : mH} {h : mH}
variable {th : Int32} {u : Nat → Int32} {so : Nat → Int32} {fz : Nat → Bool} {fs : Nat} {gt : Nat} {yr : Nat} {aK : Nat → Int32} {aO : Nat → Int32} {aT : Nat → Int32} {aH : Nat → Int32} {aW : Nat → Int32} {aS : Nat → Int32} {aL : Nat → Int32} {ls : Nat} {pl : Nat → Int32} {ps : Nat} {tp : Nat → Int32} {td : Nat} {pt : Nat} {en : Nat} {bg : Nat} {fa : Int32} {fv : Nat → Int32} {mt : Nat → Bool} {nx : Nat → Int32} {pL : Nat → Nat} {sg : Nat → Int32} {bo : Nat → Int32} {wa : Nat → Int32} {gv : Nat → Int32} {bw : Int32} {of : Nat → Int32} {o : mH}
set_option maxHeartbeats 2000000 in
theorem y_far (hZ : Z.length = 70) (hg : gt < 60) : m_Sp l (m_EX E N xs) E mM_X9_far (d + 1) 0 0 [.ref 70] (Z ++ k_M th u so fz fs gt yr aK aO aT aH aW aS aL ls pl ps tp td pt en bg fa fv mt nx pL sg bo wa gv bw of o) tg (fun v H tg' => tg' = tg ∧ (v = some (.int (y_fr u gt)) ∧ ∃ q : Nat → Int32, H = (Z ++ k_M (nI 0) u so fz fs gt yr aK aO aT aH aW aS aL ls pl ps tp td pt en bg fa fv mt nx pL sg bo wa gv bw q o))) m_no := by
  have hM := mM_X9_far_ok
  refine m_Sp_of (by decide) (Nat.le_of_ble_eq_true rfl) ?_
  refine m_J_run hM 2 rfl ⟨trivial, trivial, trivial⟩ ?_
  refine m_J_putf hM rfl rfl (kZ hZ 0 rfl) (rfl) ?_
  refine m_J_eqH (H' := (Z ++ k_M (nI 0) u so fz fs gt yr aK aO aT aH aW aS aL ls pl ps tp td pt en bg fa fv mt nx pL sg bo wa gv bw of o)) (kZs hZ 0 rfl) ?_
  refine m_J_run hM 2 rfl ⟨trivial, trivial, trivial⟩ ?_
  have LP : ∀ (n9 s : Nat) (q : Nat → Int32), s + n9 = 60 → (∀ j, j < s → q j = nI (y_ds u gt 0 j)) → m_J l (m_EX E N xs) E mM_X9_far (d + 1) 0 0 (fun v H tg' => tg' = tg ∧ (v = some (.int (y_fr u gt)) ∧ ∃ q : Nat → Int32, H = (Z ++ k_M (nI 0) u so fz fs gt yr aK aO aT aH aW aS aL ls pl ps tp td pt en bg fa fv mt nx pL sg bo wa gv bw q o))) m_no tg 0 0 (7, [some (.ref 70), some (.int (nI s)), none, none, none], [], (Z ++ k_M (nI 0) u so fz fs gt yr aK aO aT aH aW aS aL ls pl ps tp td pt en bg fa fv mt nx pL sg bo wa gv bw q o)) := by
    intro n9
    induction n9 with
    | zero =>
      intro s q hi hq
      have e9 : s = 60 := by omega
      rw [e9] at hq ⊢
      refine m_J_run hM 3 rfl ⟨trivial, trivial, trivial, trivial⟩ ?_
      refine m_J_if (fun _ => ?_) (fun hc => absurd (nI_le (by omega) (by omega)) hc)
      refine m_J_run hM 2 rfl ⟨trivial, trivial, trivial⟩ ?_
      have hq0 : ∀ j, j < 60 → q j = nI (y_ds u gt 0 j) := hq
      have LD : ∀ (d9 e : Nat) (q : Nat → Int32) (w2 : Option Value) (w3 : Option Value) (w4 : Option Value), e + d9 = 60 → (∀ j, j < 60 → q j = nI (y_ds u gt e j)) → m_J l (m_EX E N xs) E mM_X9_far (d + 1) 0 0 (fun v H tg' => tg' = tg ∧ (v = some (.int (y_fr u gt)) ∧ ∃ q : Nat → Int32, H = (Z ++ k_M (nI 0) u so fz fs gt yr aK aO aT aH aW aS aL ls pl ps tp td pt en bg fa fv mt nx pL sg bo wa gv bw q o))) m_no tg 0 0 (42, [some (.ref 70), some (.int (nI (e + 1))), w2, w3, w4], [], (Z ++ k_M (nI 0) u so fz fs gt yr aK aO aT aH aW aS aL ls pl ps tp td pt en bg fa fv mt nx pL sg bo wa gv bw q o)) := by
        intro d9
        induction d9 with
        | zero =>
          intro e q w2 w3 w4 he hq
          have e9 : e = 60 := by omega
          rw [e9] at hq ⊢
          refine m_J_run hM 3 rfl ⟨trivial, trivial, trivial, trivial⟩ ?_
          refine m_J_if (fun _ => ?_) (fun hc => absurd (nI_lt (by omega) (by omega)) hc)
          refine m_J_run hM 4 rfl ⟨trivial, trivial, trivial, trivial, trivial⟩ ?_
          have LM : ∀ (m9 s : Nat), s + m9 = 60 → m_J l (m_EX E N xs) E mM_X9_far (d + 1) 0 0 (fun v H tg' => tg' = tg ∧ (v = some (.int (y_fr u gt)) ∧ ∃ q : Nat → Int32, H = (Z ++ k_M (nI 0) u so fz fs gt yr aK aO aT aH aW aS aL ls pl ps tp td pt en bg fa fv mt nx pL sg bo wa gv bw q o))) m_no tg 0 0 (144, [some (.ref 70), some (.int (nI (y_mx u (y_ds u gt 60) s))), some (.int (nI s)), w3, w4], [], (Z ++ k_M (nI 0) u so fz fs gt yr aK aO aT aH aW aS aL ls pl ps tp td pt en bg fa fv mt nx pL sg bo wa gv bw q o)) := by
            intro m9
            induction m9 with
            | zero =>
              intro s  hm 
              have e9 : s = 60 := by omega
              rw [e9]
              refine m_J_run hM 3 rfl ⟨trivial, trivial, trivial, trivial⟩ ?_
              refine m_J_if (fun _ => ?_) (fun hc => absurd (nI_le (by omega) (by omega)) hc)
              refine m_J_run hM 2 rfl ⟨trivial, trivial, trivial⟩ ?_
              refine m_J_run hM 1 rfl ⟨trivial, trivial⟩ ?_
              refine m_J_if (fun h5 => ?_) (fun h5 => ?_)
              ·
                rw [nI_eq (by have := y_mx_le (u := u) (D := y_ds u gt 60) (fun s => by rcases y_ds_le u gt 60 s with h | h <;> omega) 60; omega) (by have := y_mx_le (u := u) (D := y_ds u gt 60) (fun s => by rcases y_ds_le u gt 60 s with h | h <;> omega) 60; omega)] at h5
                refine m_J_run hM 1 rfl ⟨trivial, trivial⟩ ?_
                exact m_J_iret hM rfl rfl (rfl) (Nat.le_of_ble_eq_true rfl) (Nat.le_of_ble_eq_true rfl) (⟨rfl, by rw [y_fr, if_neg h5], _, rfl⟩)
              ·
                rw [nI_eq (by have := y_mx_le (u := u) (D := y_ds u gt 60) (fun s => by rcases y_ds_le u gt 60 s with h | h <;> omega) 60; omega) (by have := y_mx_le (u := u) (D := y_ds u gt 60) (fun s => by rcases y_ds_le u gt 60 s with h | h <;> omega) 60; omega)] at h5
                have h5 := Classical.not_not.mp h5
                refine m_J_run hM 2 rfl ⟨trivial, trivial, trivial⟩ ?_
                exact m_J_iret hM rfl rfl (rfl) (Nat.le_of_ble_eq_true rfl) (Nat.le_of_ble_eq_true rfl) (⟨rfl, by rw [y_fr, if_pos h5], _, rfl⟩)
            | succ m9 ihm =>
              intro s  hm 
              refine m_J_run hM 3 rfl ⟨trivial, trivial, trivial, trivial⟩ ?_
              refine m_J_if (fun hc => absurd hc (nI_ge (by omega) (by omega))) (fun _ => ?_)
              refine m_J_run hM 1 rfl ⟨trivial, trivial⟩ ?_
              refine m_J_getf hM rfl rfl (kZ hZ 0 rfl) (rfl) ?_
              refine m_J_run hM 1 rfl ⟨trivial, trivial⟩ ?_
              refine m_ialdN hM rfl (kZ hZ 1 rfl) (by omega) (by omega) ?_
              refine m_J_run hM 1 rfl ⟨trivial, trivial⟩ ?_
              refine m_J_run hM 1 rfl ⟨trivial, trivial⟩ ?_
              refine m_J_if (fun h5 => ?_) (fun h5 => ?_)
              ·
                refine m_J_run hM 2 rfl ⟨trivial, trivial, trivial⟩ ?_
                rw [nI_add s 1]
                have h9 := ihm (s + 1) (by omega)
                rw [show y_mx u (y_ds u gt 60) (s + 1) = y_mx u (y_ds u gt 60) s by rw [y_mx, if_neg h5]] at h9
                exact h9
              ·
                have h5 := Classical.not_not.mp h5
                refine m_J_run hM 2 rfl ⟨trivial, trivial, trivial⟩ ?_
                refine m_J_getf hM rfl rfl (kZ hZ 0 rfl) (rfl) ?_
                refine m_J_run hM 1 rfl ⟨trivial, trivial⟩ ?_
                refine m_ialdN hM rfl (kZ hZ 21 rfl) (by omega) (by omega) ?_
                rw [hq s (by omega)]
                have h6 := y_mx_le (u := u) (D := y_ds u gt 60) (fun s => by rcases y_ds_le u gt 60 s with h | h <;> omega) s
                have h7 : y_ds u gt 60 s ≤ 1000 := by rcases y_ds_le u gt 60 s with h | h <;> omega
                refine m_max hM rfl kw_X9_92 (Nat.le_of_ble_eq_true rfl) (Nat.le_of_ble_eq_true rfl) (Nat.le_of_ble_eq_true rfl) ?_
                rw [k_maxM (a := y_mx u (y_ds u gt 60) s) (b := y_ds u gt 60 s) (by omega) (by omega)]
                refine m_J_run hM 3 rfl ⟨trivial, trivial, trivial, trivial⟩ ?_
                rw [nI_add s 1]
                have h9 := ihm (s + 1) (by omega)
                rw [show y_mx u (y_ds u gt 60) (s + 1) = max (y_mx u (y_ds u gt 60) s) (y_ds u gt 60 s) by rw [y_mx, if_pos h5]] at h9
                exact h9
          exact LM 60 0 (by omega)
        | succ d9 ihd =>
          intro e q w2 w3 w4 he hq
          refine m_J_run hM 3 rfl ⟨trivial, trivial, trivial, trivial⟩ ?_
          refine m_J_if (fun hc => absurd hc (nI_nlt (by omega) (by omega))) (fun _ => ?_)
          refine m_J_run hM 2 rfl ⟨trivial, trivial, trivial⟩ ?_
          have LS : ∀ (s9 s : Nat) (q : Nat → Int32) (w3 : Option Value) (w4 : Option Value), s + s9 = 60 → (∀ j, j < 60 → q j = nI (y_dp u gt e s 0 j)) → m_J l (m_EX E N xs) E mM_X9_far (d + 1) 0 0 (fun v H tg' => tg' = tg ∧ (v = some (.int (y_fr u gt)) ∧ ∃ q : Nat → Int32, H = (Z ++ k_M (nI 0) u so fz fs gt yr aK aO aT aH aW aS aL ls pl ps tp td pt en bg fa fv mt nx pL sg bo wa gv bw q o))) m_no tg 0 0 (50, [some (.ref 70), some (.int (nI (e + 1))), some (.int (nI s)), w3, w4], [], (Z ++ k_M (nI 0) u so fz fs gt yr aK aO aT aH aW aS aL ls pl ps tp td pt en bg fa fv mt nx pL sg bo wa gv bw q o)) := by
            intro s9
            induction s9 with
            | zero =>
              intro s q w3 w4 hs hq
              have e9 : s = 60 := by omega
              rw [e9] at hq ⊢
              refine m_J_run hM 3 rfl ⟨trivial, trivial, trivial, trivial⟩ ?_
              refine m_J_if (fun _ => ?_) (fun hc => absurd (nI_le (by omega) (by omega)) hc)
              refine m_J_run hM 2 rfl ⟨trivial, trivial, trivial⟩ ?_
              rw [nI_add (e + 1) 1]
              have h9 := ihd (e + 1) q (some (.int (nI 60))) w3 w4 (by omega) (fun j hj => by rw [hq j hj, y_dp_60])
              exact h9
            | succ s9 ihs =>
              intro s q w3 w4 hs hq
              refine m_J_run hM 3 rfl ⟨trivial, trivial, trivial, trivial⟩ ?_
              refine m_J_if (fun hc => absurd hc (nI_ge (by omega) (by omega))) (fun _ => ?_)
              refine m_J_run hM 1 rfl ⟨trivial, trivial⟩ ?_
              refine m_J_getf hM rfl rfl (kZ hZ 0 rfl) (rfl) ?_
              refine m_J_run hM 1 rfl ⟨trivial, trivial⟩ ?_
              refine m_ialdN hM rfl (kZ hZ 21 rfl) (by omega) (by omega) ?_
              rw [hq s (by omega)]
              have h8 := y_dp_le u gt e s 0 s (by omega)
              refine m_J_run hM 3 rfl ⟨trivial, trivial, trivial, trivial⟩ ?_
              rw [show nI (e + 1) - nI 1 = nI ((e + 1) - 1) from pk_sub (by omega)]
              refine m_J_run hM 1 rfl ⟨trivial, trivial⟩ ?_
              refine m_J_if (fun h5 => ?_) (fun h5 => ?_)
              ·
                rw [nI_eq (by omega) (by omega)] at h5
                have h6 : y_ds u gt e s = e := by
                  by_cases q9 : y_ds u gt e s = 1000 ∧ ¬ u s = nI 4
                  · rw [y_dp] at h5; split at h5 <;> omega
                  · rw [y_dp_g _ _ _ _ _ _ q9] at h5; omega
                refine m_J_run hM 2 rfl ⟨trivial, trivial, trivial⟩ ?_
                have LW : ∀ (k9 w : Nat) (q : Nat → Int32) (w4 : Option Value), w + k9 = 4 → (∀ j, j < 60 → q j = nI (y_dp u gt e s w j)) → m_J l (m_EX E N xs) E mM_X9_far (d + 1) 0 0 (fun v H tg' => tg' = tg ∧ (v = some (.int (y_fr u gt)) ∧ ∃ q : Nat → Int32, H = (Z ++ k_M (nI 0) u so fz fs gt yr aK aO aT aH aW aS aL ls pl ps tp td pt en bg fa fv mt nx pL sg bo wa gv bw q o))) m_no tg 0 0 (73, [some (.ref 70), some (.int (nI (e + 1))), some (.int (nI s)), some (.int (nI w)), w4], [], (Z ++ k_M (nI 0) u so fz fs gt yr aK aO aT aH aW aS aL ls pl ps tp td pt en bg fa fv mt nx pL sg bo wa gv bw q o)) := by
                  intro k9
                  induction k9 with
                  | zero =>
                    intro w q w4 hw hq
                    have e9 : w = 4 := by omega
                    rw [e9] at hq ⊢
                    refine m_J_run hM 3 rfl ⟨trivial, trivial, trivial, trivial⟩ ?_
                    refine m_J_if (fun _ => ?_) (fun hc => absurd (nI_le (by omega) (by omega)) hc)
                    refine m_J_run hM 2 rfl ⟨trivial, trivial, trivial⟩ ?_
                    rw [nI_add s 1]
                    have h9 := ihs (s + 1) q (some (.int (nI 4))) w4 (by omega) (fun j hj => by rw [hq j hj, y_dp_4])
                    exact h9
                  | succ k9 ihw =>
                    intro w q w4 hw hq
                    refine m_J_run hM 3 rfl ⟨trivial, trivial, trivial, trivial⟩ ?_
                    refine m_J_if (fun hc => absurd hc (nI_ge (by omega) (by omega))) (fun _ => ?_)
                    refine m_J_run hM 2 rfl ⟨trivial, trivial, trivial⟩ ?_
                    refine m_cS2 hM rfl kw_X9_229 (y_bd (by omega) (by omega)) (Nat.le_of_ble_eq_true rfl) ?_
                    refine m_J_run hM 1 rfl ⟨trivial, trivial⟩ ?_
                    cases hb : k_bd s w with
                    | none =>
                      rw [k_on_n]
                      refine m_J_run hM 2 rfl ⟨trivial, trivial, trivial⟩ ?_
                      refine m_J_if (fun _ => ?_) (fun hc => absurd (by decide) hc)
                      refine m_J_run hM 2 rfl ⟨trivial, trivial, trivial⟩ ?_
                      rw [nI_add w 1]
                      have h9 := ihw (w + 1) q (some (.int (-nI 1))) (by omega) (fun j hj => by rw [hq j hj, y_dp_w]; rw [hb]; exact fun q => by cases q)
                      exact h9
                    | some t9 =>
                      rw [k_on_s]
                      have ht : t9 < 60 := k_bd_lt (by omega) hb
                      refine m_J_run hM 2 rfl ⟨trivial, trivial, trivial⟩ ?_
                      refine m_J_if (fun hc => absurd hc (nI_pos (by omega))) (fun _ => ?_)
                      refine m_J_run hM 1 rfl ⟨trivial, trivial⟩ ?_
                      refine m_J_getf hM rfl rfl (kZ hZ 0 rfl) (rfl) ?_
                      refine m_J_run hM 1 rfl ⟨trivial, trivial⟩ ?_
                      refine m_ialdN hM rfl (kZ hZ 21 rfl) (by omega) (by omega) ?_
                      rw [hq t9 ht]
                      have h8 := y_dp_le u gt e s w t9 (by omega)
                      refine m_J_run hM 1 rfl ⟨trivial, trivial⟩ ?_
                      refine m_J_run hM 1 rfl ⟨trivial, trivial⟩ ?_
                      refine m_J_if (fun h7 => ?_) (fun h7 => ?_)
                      ·
                        rw [nI_eq (by omega) (by omega)] at h7
                        refine m_J_run hM 2 rfl ⟨trivial, trivial, trivial⟩ ?_
                        rw [nI_add w 1]
                        have h9 := ihw (w + 1) q (some (.int (nI t9))) (by omega) (fun j hj => (hq j hj).trans (congrArg nI (y_dp_nx (by omega) hb (fun r => h7 r.1) j)))
                        exact h9
                      ·
                        rw [nI_eq (by omega) (by omega)] at h7
                        have h7 := Classical.not_not.mp h7
                        refine m_J_run hM 1 rfl ⟨trivial, trivial⟩ ?_
                        refine m_J_getf hM rfl rfl (kZ hZ 0 rfl) (rfl) ?_
                        refine m_J_run hM 1 rfl ⟨trivial, trivial⟩ ?_
                        refine m_ialdN hM rfl (kZ hZ 1 rfl) (by omega) (by omega) ?_
                        refine m_J_run hM 1 rfl ⟨trivial, trivial⟩ ?_
                        refine m_J_run hM 1 rfl ⟨trivial, trivial⟩ ?_
                        refine m_J_if (fun h8 => ?_) (fun h8 => ?_)
                        ·
                          refine m_J_run hM 2 rfl ⟨trivial, trivial, trivial⟩ ?_
                          rw [nI_add w 1]
                          have h9 := ihw (w + 1) q (some (.int (nI t9))) (by omega) (fun j hj => (hq j hj).trans (congrArg nI (y_dp_nx (by omega) hb (fun r => r.2 h8) j)))
                          exact h9
                        ·
                          refine m_J_run hM 1 rfl ⟨trivial, trivial⟩ ?_
                          refine m_J_getf hM rfl rfl (kZ hZ 0 rfl) (rfl) ?_
                          refine m_J_run hM 2 rfl ⟨trivial, trivial, trivial⟩ ?_
                          refine m_iastN hM rfl (kZ hZ 21 rfl) (by omega) (by omega) ?_
                          refine m_J_eqH (H' := (Z ++ k_M (nI 0) u so fz fs gt yr aK aO aT aH aW aS aL ls pl ps tp td pt en bg fa fv mt nx pL sg bo wa gv bw (upd q t9 (nI (e + 1))) o)) (kZs hZ 21 (rfl)) ?_
                          refine m_J_run hM 2 rfl ⟨trivial, trivial, trivial⟩ ?_
                          rw [nI_add w 1]
                          have h6 : y_ds u gt e s = e := h6
                          have h9 := ihw (w + 1) (upd q t9 (nI (e + 1))) (some (.int (nI t9))) (by omega) (fun j hj => if hj2 : j = t9 then by rw [hj2, pk_us, y_dp_s u gt e s w t9 h6 hb ⟨y_dp_1000 (by omega) h7, h8⟩] else (pk_un hj2).trans ((hq j hj).trans (congrArg nI (y_dp_v u gt e s w t9 j hb hj2).symm)))
                          exact h9
                exact LW 4 0 q w4 (by omega) hq
              ·
                rw [nI_eq (by omega) (by omega)] at h5
                have h6 : ¬ y_ds u gt e s = e := by
                  intro q9
                  rw [y_dp_g _ _ _ _ _ _ (fun r => by rw [q9] at r; omega)] at h5
                  omega
                refine m_J_run hM 3 rfl ⟨trivial, trivial, trivial, trivial⟩ ?_
                rw [nI_add s 1]
                have h9 := ihs (s + 1) q w3 w4 (by omega) (fun j hj => by rw [hq j hj, y_dp_n _ _ _ _ _ h6])
                exact h9
          exact LS 60 0 q w3 w4 (by omega) (fun j hj => by rw [hq j hj, y_dp_0])
      exact LD 60 0 q _ _ _ (by omega) hq0
    | succ n9 ih =>
      intro s q hi hq
      refine m_J_run hM 3 rfl ⟨trivial, trivial, trivial, trivial⟩ ?_
      refine m_J_if (fun hc => absurd hc (nI_ge (by omega) (by omega))) (fun _ => ?_)
      refine m_J_run hM 1 rfl ⟨trivial, trivial⟩ ?_
      refine m_J_getf hM rfl rfl (kZ hZ 0 rfl) (rfl) ?_
      refine m_J_run hM 3 rfl ⟨trivial, trivial, trivial, trivial⟩ ?_
      refine m_J_getf hM rfl rfl (kZ hZ 0 rfl) (rfl) ?_
      refine m_J_run hM 1 rfl ⟨trivial, trivial⟩ ?_
      refine m_J_if (fun h5 => ?_) (fun h5 => ?_)
      ·
        rw [nI_eq (by omega) (by omega)] at h5
        refine m_J_run hM 1 rfl ⟨trivial, trivial⟩ ?_
        refine m_iastN hM rfl (kZ hZ 21 rfl) (by omega) (by omega) ?_
        refine m_J_eqH (H' := (Z ++ k_M (nI 0) u so fz fs gt yr aK aO aT aH aW aS aL ls pl ps tp td pt en bg fa fv mt nx pL sg bo wa gv bw (upd q s (nI 1000)) o)) (kZs hZ 21 (rfl)) ?_
        refine m_J_run hM 2 rfl ⟨trivial, trivial, trivial⟩ ?_
        rw [nI_add s 1]
        have h9 := ih (s + 1) (upd q s (nI 1000)) (by omega) (fun j hj => if hj2 : j = s then by rw [hj2, pk_us, y_ds, if_neg h5] else by rw [pk_un hj2]; exact hq j (by omega))
        exact h9
      ·
        rw [nI_eq (by omega) (by omega)] at h5
        have h5 := Classical.not_not.mp h5
        refine m_J_run hM 2 rfl ⟨trivial, trivial, trivial⟩ ?_
        refine m_iastN hM rfl (kZ hZ 21 rfl) (by omega) (by omega) ?_
        refine m_J_eqH (H' := (Z ++ k_M (nI 0) u so fz fs gt yr aK aO aT aH aW aS aL ls pl ps tp td pt en bg fa fv mt nx pL sg bo wa gv bw (upd q s (nI 0)) o)) (kZs hZ 21 (rfl)) ?_
        refine m_J_run hM 2 rfl ⟨trivial, trivial, trivial⟩ ?_
        rw [nI_add s 1]
        have h9 := ih (s + 1) (upd q s (nI 0)) (by omega) (fun j hj => if hj2 : j = s then by rw [hj2, pk_us, y_ds, if_pos h5] else by rw [pk_un hj2]; exact hq j (by omega))
        exact h9
  exact LP 60 0 of (by omega) (fun j hj => absurd hj (by omega))
end
