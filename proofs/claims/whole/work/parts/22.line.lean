/-! LINE: one line of the book -/
/-- kind, use, other use, grown use, steps, least soil, number -/
abbrev kL : Type := Nat × Nat × Nat × Nat × Nat × Nat × Int32
abbrev k_ln (q : kL) : va_E := .inr (2, [.int (nI q.1), .int (nI q.2.1), .int (nI q.2.2.1), .int (nI q.2.2.2.1), .int (nI q.2.2.2.2.1), .int (nI q.2.2.2.2.2.1), .int q.2.2.2.2.2.2])
def k_lok (q : kL) : Prop := q.1 ≤ 6 ∧ q.2.1 < 5 ∧ q.2.2.1 < 5 ∧ q.2.2.2.1 < 5 ∧ q.2.2.2.2.1 ≤ 5 ∧ q.2.2.2.2.2.1 ≤ 9 ∧ (q.1 = 2 → 1 ≤ q.2.2.2.2.1)
def k_isl (q : kL) : Bool := decide (2 ≤ q.1 ∧ q.1 ≤ 5)
def k_lw (q : kL) (f : Nat → Int64) (so : Nat → Int32) : Int32 :=
  if q.1 = 0 then q.2.2.2.2.2.2 * k_cp f q.2.1 q.2.2.1 q.2.2.2.2.1 60 else if q.1 = 1 then q.2.2.2.2.2.2 * k_cs f so q.2.1 (nI q.2.2.2.2.2.1) 60 else nI 0
/-- new pairs by a square with these near it that gets use v -/
def k_np (q : kL) (x : Int64) (f : Nat → Int64) (v : Nat) : Int32 :=
  let p := if v = q.2.1 then nI 0 + k_pc (x &&& f q.2.2.1) else nI 0
  if v = q.2.2.1 then p + k_pc (x &&& f q.2.1) else p
def k_lwp (q : kL) (f : Nat → Int64) (so : Nat → Int32) (sq v : Nat) : Int32 :=
  if q.1 = 0 then q.2.2.2.2.2.2 * k_np q (k_ar sq q.2.2.2.2.1) f v else if q.1 = 1 ∧ v = q.2.1 ∧ ¬ so sq < nI q.2.2.2.2.2.1 then q.2.2.2.2.2.2 else nI 0
def k_bp (q : kL) (f : Nat → Int64) : Bool := decide (q.1 = 2 ∧ ¬ k_cp f q.2.1 q.2.2.1 (q.2.2.2.2.1 - 1) 60 ≤ 0)
def k_bpp (q : kL) (f : Nat → Int64) (sq v : Nat) : Bool := decide (q.1 = 2 ∧ ¬ k_np q (k_ar sq (q.2.2.2.2.1 - 1)) f v ≤ 0)
def k_bw (q : kL) (f : Nat → Int64) : Bool :=
  if q.1 = 3 then decide (¬ q.2.2.2.2.2.2 ≤ k_pc (f q.2.1)) else if q.1 = 4 then decide (¬ k_pc (f q.2.1) ≤ q.2.2.2.2.2.2) else if q.1 = 5 then !(k_jo (f q.2.1)) else false
def k_br (q : kL) (f : Nat → Int64) : Bool := if q.1 = 2 then k_bp q f else k_bw q f
def k_go (q : kL) (f : Nat → Int64) (sq : Nat) : Bool := decide (q.1 = 6 ∧ k_has (f q.2.1) sq = true ∧ ¬ k_pc (k_ar sq q.2.2.2.2.1 &&& f q.2.2.1) < q.2.2.2.2.2.2)
section
variable {l : Launch} {E : mE} {N : Nat} {xs : Nat → Int32} {d : Nat} {tg : Bool} {h : mH} {a u b s r : Nat} {w : Nat → Nat} {f : Nat → Int64} {so : Nat → Int32} {c : Nat} {q : kL}
theorem i_isLaw (hk : q.1 ≤ 6) (hq : h[c]? = some (k_ln q)) : m_Dt l (m_EX E N xs) E mM_X2_isLaw d 0 0 [.ref c] h tg (some (.int (k_z (k_isl q)))) h tg := by
  have hM := mM_X2_isLaw_ok
  obtain ⟨k, q⟩ := q
  dsimp only at hk hq
  refine m_Sp_of (by decide) (Nat.le_of_ble_eq_true rfl) ?_
  refine m_J_run hM 1 rfl ⟨trivial, trivial⟩ ?_
  refine m_J_getf hM rfl rfl (hq) (rfl) ?_
  refine m_J_run hM 2 rfl ⟨trivial, trivial, trivial⟩ ?_
  refine m_J_if (fun hc => ?_) (fun hc2 => ?_)
  · have e : k = 2 := (k_eqN (by omega) (by omega)).mp hc
    subst e
    refine m_J_run hM 2 rfl ⟨trivial, trivial, trivial⟩ ?_
    exact m_iret hM rfl rfl (by decide) (Nat.le_of_ble_eq_true rfl) (Nat.le_of_ble_eq_true rfl) (by rfl) (rfl)
  · refine m_J_run hM 1 rfl ⟨trivial, trivial⟩ ?_
    refine m_J_getf hM rfl rfl (hq) (rfl) ?_
    refine m_J_run hM 2 rfl ⟨trivial, trivial, trivial⟩ ?_
    refine m_J_if (fun hc => ?_) (fun hc3 => ?_)
    · have e : k = 3 := (k_eqN (by omega) (by omega)).mp hc
      subst e
      refine m_J_run hM 2 rfl ⟨trivial, trivial, trivial⟩ ?_
      exact m_iret hM rfl rfl (by decide) (Nat.le_of_ble_eq_true rfl) (Nat.le_of_ble_eq_true rfl) (by rfl) (rfl)
    · refine m_J_run hM 1 rfl ⟨trivial, trivial⟩ ?_
      refine m_J_getf hM rfl rfl (hq) (rfl) ?_
      refine m_J_run hM 2 rfl ⟨trivial, trivial, trivial⟩ ?_
      refine m_J_if (fun hc => ?_) (fun hc4 => ?_)
      · have e : k = 4 := (k_eqN (by omega) (by omega)).mp hc
        subst e
        refine m_J_run hM 2 rfl ⟨trivial, trivial, trivial⟩ ?_
        exact m_iret hM rfl rfl (by decide) (Nat.le_of_ble_eq_true rfl) (Nat.le_of_ble_eq_true rfl) (by rfl) (rfl)
      · refine m_J_run hM 1 rfl ⟨trivial, trivial⟩ ?_
        refine m_J_getf hM rfl rfl (hq) (rfl) ?_
        refine m_J_run hM 2 rfl ⟨trivial, trivial, trivial⟩ ?_
        refine m_J_if (fun hc5 => ?_) (fun hc5 => ?_)
        · refine m_J_run hM 1 rfl ⟨trivial, trivial⟩ ?_
          exact m_iret hM rfl rfl (by decide) (Nat.le_of_ble_eq_true rfl) (Nat.le_of_ble_eq_true rfl) (by rw [k_eqN (by omega) (by omega)] at hc2 hc3 hc4 hc5; dsimp only at hc2 hc3 hc4 hc5; have e : k_isl (k, q) = false := decide_eq_false (by dsimp only; omega); rw [e]; rfl) (rfl)
        · have e : k = 5 := (k_eqN (by omega) (by omega)).mp (Classical.not_not.mp hc5)
          subst e
          refine m_J_run hM 2 rfl ⟨trivial, trivial, trivial⟩ ?_
          exact m_iret hM rfl rfl (by decide) (Nat.le_of_ble_eq_true rfl) (Nat.le_of_ble_eq_true rfl) (by rfl) (rfl)
theorem i_np {x : Int64} {v : Nat} (hok : k_lok q) (hv : v < 5) (hq : h[c]? = some (k_ln q)) (h2 : h[u]? = some (k_uses b)) (h3 : h[b]? = some (k_la 5 f)) : m_Dt l (m_EX E N xs) E mM_X2_countNewPairs (d + 1) 0 0 [.ref c, .long x, .ref u, .int (nI v)] h tg (some (.int (k_np q x f v))) h tg := by
  have hM := mM_X2_countNewPairs_ok
  obtain ⟨-, hu, ho, -, -, -, -⟩ := hok
  refine m_Sp_of (by decide) (Nat.le_of_ble_eq_true rfl) ?_
  have part2 : ∀ p0 : Int32, m_J l (m_EX E N xs) E mM_X2_countNewPairs (d + 1) 0 0 (m_K (some (.int (if v = q.2.2.1 then p0 + k_pc (x &&& f q.2.1) else p0))) h tg) m_no tg 0 0 (31, [some (.ref c), some (.long x), none, some (.ref u), some (.int (nI v)), some (.int p0)], [], h) := by
    intro p0
    refine m_J_run hM 2 rfl ⟨trivial, trivial, trivial⟩ ?_
    refine m_J_getf hM rfl rfl (hq) (rfl) ?_
    refine m_J_run hM 1 rfl ⟨trivial, trivial⟩ ?_
    refine m_J_if (fun hc => ?_) (fun hc => ?_)
    · have hc2 : ¬ v = q.2.2.1 := fun e => hc (by rw [e])
      rw [if_neg hc2]
      refine m_J_run hM 1 rfl ⟨trivial, trivial⟩ ?_
      exact m_iret hM rfl rfl rfl (Nat.le_of_ble_eq_true rfl) (Nat.le_of_ble_eq_true rfl) (rfl) (rfl)
    · have hc2 : v = q.2.2.1 := (k_eqN (by omega) (by omega)).mp (Classical.not_not.mp hc)
      rw [if_pos hc2]
      refine m_J_run hM 3 rfl ⟨trivial, trivial, trivial, trivial⟩ ?_
      refine m_J_getf hM rfl rfl (h2) (rfl) ?_
      refine m_J_run hM 1 rfl ⟨trivial, trivial⟩ ?_
      refine m_J_getf hM rfl rfl (hq) (rfl) ?_
      refine m_laldN hM rfl (h3) (by omega) (by omega) ?_
      refine m_J_run hM 1 rfl ⟨trivial, trivial⟩ ?_
      refine m_callS (as := [.long (x &&& f q.2.1)]) (rest := [.int p0]) (m_EX_warm E N xs) hM rfl kw_X2_67 rfl (s_pc _) rfl (Nat.le_of_ble_eq_true rfl) (Nat.le_of_ble_eq_true rfl) (Nat.le_of_ble_eq_true rfl) (fun ht => ⟨ht, Nat.le_refl _⟩) ?_
      refine m_J_run hM 3 rfl ⟨trivial, trivial, trivial, trivial⟩ ?_
      exact m_iret hM rfl rfl rfl (Nat.le_of_ble_eq_true rfl) (Nat.le_of_ble_eq_true rfl) (rfl) (rfl)
  refine m_J_run hM 4 rfl ⟨trivial, trivial, trivial, trivial, trivial⟩ ?_
  refine m_J_getf hM rfl rfl (hq) (rfl) ?_
  refine m_J_run hM 1 rfl ⟨trivial, trivial⟩ ?_
  unfold k_np
  refine m_J_if (fun hc => ?_) (fun hc => ?_)
  · have hc2 : ¬ v = q.2.1 := fun e => hc (by rw [e])
    rw [if_neg hc2]
    exact part2 _
  · have hc2 : v = q.2.1 := (k_eqN (by omega) (by omega)).mp (Classical.not_not.mp hc)
    rw [if_pos hc2]
    refine m_J_run hM 3 rfl ⟨trivial, trivial, trivial, trivial⟩ ?_
    refine m_J_getf hM rfl rfl (h2) (rfl) ?_
    refine m_J_run hM 1 rfl ⟨trivial, trivial⟩ ?_
    refine m_J_getf hM rfl rfl (hq) (rfl) ?_
    refine m_laldN hM rfl (h3) (by omega) (by omega) ?_
    refine m_J_run hM 1 rfl ⟨trivial, trivial⟩ ?_
    refine m_callS (as := [.long (x &&& f q.2.2.1)]) (rest := [.int (nI 0)]) (m_EX_warm E N xs) hM rfl kw_X2_67 rfl (s_pc _) rfl (Nat.le_of_ble_eq_true rfl) (Nat.le_of_ble_eq_true rfl) (Nat.le_of_ble_eq_true rfl) (fun ht => ⟨ht, Nat.le_refl _⟩) ?_
    refine m_J_run hM 2 rfl ⟨trivial, trivial, trivial⟩ ?_
    exact part2 _
theorem i_worth (hok : k_lok q) (hq : h[c]? = some (k_ln q)) (hL : k_LD h a u b s r w f so) : m_Dt l (m_EX E N xs) E mM_X2_worthOf (d + 3) 0 0 [.ref c, .ref a] h tg (some (.int (k_lw q f so))) h tg := by
  have hM := mM_X2_worthOf_ok
  obtain ⟨hk, hu, ho, -, hst, hso, -⟩ := hok
  obtain ⟨h1, h2, h3, h4, h5, h6⟩ := id hL
  refine m_Sp_of (by decide) (Nat.le_of_ble_eq_true rfl) ?_
  refine m_J_run hM 1 rfl ⟨trivial, trivial⟩ ?_
  refine m_J_getf hM rfl rfl (hq) (rfl) ?_
  have e0 : ∀ k : Nat, q.1 = k → nI q.1 = nI k := fun k e => by rw [e]
  by_cases k0 : q.1 = 0
  · rw [e0 0 k0]
    refine m_J_run hM 1 rfl ⟨by decide, trivial⟩ ?_
    refine m_eqS (S := (32, [some (.ref c), some (.ref a)], [], h)) ?_ rfl
    unfold k_lw
    rw [if_pos k0]
    refine m_J_run hM 1 rfl ⟨trivial, trivial⟩ ?_
    refine m_J_getf hM rfl rfl (hq) (rfl) ?_
    refine m_J_run hM 2 rfl ⟨trivial, trivial, trivial⟩ ?_
    refine m_J_getf hM rfl rfl (hq) (rfl) ?_
    refine m_J_run hM 1 rfl ⟨trivial, trivial⟩ ?_
    refine m_J_getf hM rfl rfl (hq) (rfl) ?_
    refine m_J_run hM 1 rfl ⟨trivial, trivial⟩ ?_
    refine m_J_getf hM rfl rfl (hq) (rfl) ?_
    refine m_callV (as := [.int (nI q.2.1), .int (nI q.2.2.1), .int (nI q.2.2.2.2.1)]) (rest := [.int q.2.2.2.2.2.2]) (m_EX_warm E N xs) hM rfl kw_X2_25 rfl rfl (h1) ⟨_, rfl, rfl⟩ (l_pairs (by omega) hu ho hL) rfl (Nat.le_of_ble_eq_true rfl) (Nat.le_of_ble_eq_true rfl) (Nat.le_of_ble_eq_true rfl) (fun ht => ⟨ht, by simp⟩) ?_
    refine m_J_run hM 1 rfl ⟨trivial, trivial⟩ ?_
    exact m_iret hM rfl rfl rfl (Nat.le_of_ble_eq_true rfl) (Nat.le_of_ble_eq_true rfl) (rfl) (rfl)
  · by_cases k1 : q.1 = 1
    · rw [e0 1 k1]
      refine m_J_run hM 1 rfl ⟨by decide, trivial⟩ ?_
      refine m_eqS (S := (54, [some (.ref c), some (.ref a)], [], h)) ?_ rfl
      unfold k_lw
      rw [if_neg k0, if_pos k1]
      refine m_J_run hM 1 rfl ⟨trivial, trivial⟩ ?_
      refine m_J_getf hM rfl rfl (hq) (rfl) ?_
      refine m_J_run hM 2 rfl ⟨trivial, trivial, trivial⟩ ?_
      refine m_J_getf hM rfl rfl (hq) (rfl) ?_
      refine m_J_run hM 1 rfl ⟨trivial, trivial⟩ ?_
      refine m_J_getf hM rfl rfl (hq) (rfl) ?_
      refine m_callV (as := [.int (nI q.2.1), .int (nI q.2.2.2.2.2.1)]) (rest := [.int q.2.2.2.2.2.2]) (m_EX_warm E N xs) hM rfl kw_X2_34 rfl rfl (h1) ⟨_, rfl, rfl⟩ (l_onSoil hu hL) rfl (Nat.le_of_ble_eq_true rfl) (Nat.le_of_ble_eq_true rfl) (Nat.le_of_ble_eq_true rfl) (fun ht => ⟨ht, by simp⟩) ?_
      refine m_J_run hM 1 rfl ⟨trivial, trivial⟩ ?_
      exact m_iret hM rfl rfl rfl (Nat.le_of_ble_eq_true rfl) (Nat.le_of_ble_eq_true rfl) (rfl) (rfl)
    · have key : m_J l (m_EX E N xs) E mM_X2_worthOf (d + 3) 0 0 (m_K (some (.int (k_lw q f so))) h tg) m_no tg 0 0 (72, [some (.ref c), some (.ref a)], [], h) := by
        unfold k_lw
        rw [if_neg k0, if_neg k1]
        refine m_J_run hM 1 rfl ⟨trivial, trivial⟩ ?_
        exact m_iret hM rfl rfl rfl (Nat.le_of_ble_eq_true rfl) (Nat.le_of_ble_eq_true rfl) (rfl) (rfl)
      rcases (show q.1 = 2 ∨ q.1 = 3 ∨ q.1 = 4 ∨ q.1 = 5 ∨ q.1 = 6 by omega) with e | e | e | e | e
      · rw [e0 _ e]; exact m_J_run hM 1 rfl ⟨by decide, trivial⟩ (m_eqS key rfl)
      · rw [e0 _ e]; exact m_J_run hM 1 rfl ⟨by decide, trivial⟩ (m_eqS key rfl)
      · rw [e0 _ e]; exact m_J_run hM 1 rfl ⟨by decide, trivial⟩ (m_eqS key rfl)
      · rw [e0 _ e]; exact m_J_run hM 1 rfl ⟨by decide, trivial⟩ (m_eqS key rfl)
      · rw [e0 _ e]; exact m_J_run hM 1 rfl ⟨by decide, trivial⟩ (m_eqS key rfl)
theorem i_worthPut {sq v : Nat} (hok : k_lok q) (hsq : sq < 60) (hv : v < 5) (hq : h[c]? = some (k_ln q)) (hL : k_LD h a u b s r w f so) : m_Dt l (m_EX E N xs) E mM_X2_worthOfPutting (d + 2) 0 0 [.ref c, .ref a, .int (nI sq), .int (nI v)] h tg (some (.int (k_lwp q f so sq v))) h tg := by
  have hM := mM_X2_worthOfPutting_ok
  obtain ⟨hk, hu, ho, -, hst, hso, -⟩ := id hok
  obtain ⟨h1, h2, h3, h4, h5, h6⟩ := id hL
  have fin : ∀ e : k_lwp q f so sq v = nI 0, m_J l (m_EX E N xs) E mM_X2_worthOfPutting (d + 2) 0 0 (m_K (some (.int (k_lwp q f so sq v))) h tg) m_no tg 0 0 (67, [some (.ref c), some (.ref a), some (.int (nI sq)), some (.int (nI v))], [], h) := by
    intro e
    refine m_J_run hM 1 rfl ⟨trivial, trivial⟩ ?_
    exact m_iret hM rfl rfl rfl (Nat.le_of_ble_eq_true rfl) (Nat.le_of_ble_eq_true rfl) (e.symm) (rfl)
  refine m_Sp_of (by decide) (Nat.le_of_ble_eq_true rfl) ?_
  refine m_J_run hM 1 rfl ⟨trivial, trivial⟩ ?_
  refine m_J_getf hM rfl rfl (hq) (rfl) ?_
  refine m_J_run hM 1 rfl ⟨trivial, trivial⟩ ?_
  refine m_J_if (fun hc => ?_) (fun hc => ?_)
  · have k0 : ¬ q.1 = 0 := fun e => hc (by rw [e]; rfl)
    refine m_J_run hM 1 rfl ⟨trivial, trivial⟩ ?_
    refine m_J_getf hM rfl rfl (hq) (rfl) ?_
    refine m_J_run hM 2 rfl ⟨trivial, trivial, trivial⟩ ?_
    refine m_J_if (fun hc1 => ?_) (fun hc1 => ?_)
    · have k1 : ¬ q.1 = 1 := fun e => hc1 (by rw [e])
      exact fin (by unfold k_lwp; rw [if_neg k0, if_neg (fun z => k1 z.1)])
    · have k1 : q.1 = 1 := (k_eqN (by omega) (by omega)).mp (Classical.not_not.mp hc1)
      refine m_J_run hM 2 rfl ⟨trivial, trivial, trivial⟩ ?_
      refine m_J_getf hM rfl rfl (hq) (rfl) ?_
      refine m_J_run hM 1 rfl ⟨trivial, trivial⟩ ?_
      refine m_J_if (fun hc2 => ?_) (fun hc2 => ?_)
      · have k2 : ¬ v = q.2.1 := fun e => hc2 (by rw [e])
        exact fin (by unfold k_lwp; rw [if_neg k0, if_neg (fun z => k2 z.2.1)])
      · have k2 : v = q.2.1 := (k_eqN (by omega) (by omega)).mp (Classical.not_not.mp hc2)
        refine m_J_run hM 1 rfl ⟨trivial, trivial⟩ ?_
        refine m_J_getf hM rfl rfl (h1) (rfl) ?_
        refine m_J_run hM 1 rfl ⟨trivial, trivial⟩ ?_
        refine m_ialdN hM rfl (h4) (by omega) (by omega) ?_
        refine m_J_run hM 1 rfl ⟨trivial, trivial⟩ ?_
        refine m_J_getf hM rfl rfl (hq) (rfl) ?_
        refine m_J_run hM 1 rfl ⟨trivial, trivial⟩ ?_
        refine m_J_if (fun hc3 => ?_) (fun hc3 => ?_)
        · exact fin (by unfold k_lwp; rw [if_neg k0, if_neg (fun z => z.2.2 hc3)])
        · refine m_J_run hM 1 rfl ⟨trivial, trivial⟩ ?_
          refine m_J_getf hM rfl rfl (hq) (rfl) ?_
          exact m_iret hM rfl rfl rfl (Nat.le_of_ble_eq_true rfl) (Nat.le_of_ble_eq_true rfl) (by unfold k_lwp; rw [if_neg k0, if_pos ⟨k1, k2, hc3⟩]) (rfl)
  · have k0 : q.1 = 0 := (k_eqN (a := q.1) (b := 0) (by omega) (by omega)).mp (Classical.not_not.mp hc)
    refine m_J_run hM 1 rfl ⟨trivial, trivial⟩ ?_
    refine m_J_getf hM rfl rfl (hq) (rfl) ?_
    refine m_J_run hM 2 rfl ⟨trivial, trivial, trivial⟩ ?_
    refine m_J_getf hM rfl rfl (h1) (rfl) ?_
    refine m_J_run hM 1 rfl ⟨trivial, trivial⟩ ?_
    refine m_J_getf hM rfl rfl (hq) (rfl) ?_
    refine m_aaldN hM rfl (h5) rfl (if_pos (by omega)) (by omega) (by omega) ?_
    refine m_J_run hM 1 rfl ⟨trivial, trivial⟩ ?_
    refine m_laldN hM rfl (h6 _ (by omega)) (by omega) (by omega) ?_
    rw [show k_arow q.2.2.2.2.1 sq = k_ar sq q.2.2.2.2.1 from k_upto_lt _ _ hsq]
    refine m_J_run hM 1 rfl ⟨trivial, trivial⟩ ?_
    refine m_J_getf hM rfl rfl (h1) (rfl) ?_
    refine m_J_run hM 1 rfl ⟨trivial, trivial⟩ ?_
    refine m_callV (as := [.long (k_ar sq q.2.2.2.2.1), .ref u, .int (nI v)]) (rest := [.int q.2.2.2.2.2.2]) (m_EX_warm E N xs) hM rfl kw_X2_46 rfl rfl (hq) ⟨_, rfl, rfl⟩ (i_np hok hv hq h2 h3) rfl (Nat.le_of_ble_eq_true rfl) (Nat.le_of_ble_eq_true rfl) (Nat.le_of_ble_eq_true rfl) (fun ht => ⟨ht, by simp⟩) ?_
    refine m_J_run hM 1 rfl ⟨trivial, trivial⟩ ?_
    exact m_iret hM rfl rfl rfl (Nat.le_of_ble_eq_true rfl) (Nat.le_of_ble_eq_true rfl) (by unfold k_lwp; rw [if_pos k0]) (rfl)
theorem i_brokenPair (hok : k_lok q) (hq : h[c]? = some (k_ln q)) (hL : k_LD h a u b s r w f so) : m_Dt l (m_EX E N xs) E mM_X2_isBrokenByPair (d + 3) 0 0 [.ref c, .ref a] h tg (some (.int (k_z (k_bp q f)))) h tg := by
  have hM := mM_X2_isBrokenByPair_ok
  obtain ⟨hk, hu, ho, -, hst, hso, hap⟩ := id hok
  obtain ⟨h1, h2, h3, h4, h5, h6⟩ := id hL
  refine m_Sp_of (by decide) (Nat.le_of_ble_eq_true rfl) ?_
  refine m_J_run hM 1 rfl ⟨trivial, trivial⟩ ?_
  refine m_J_getf hM rfl rfl (hq) (rfl) ?_
  refine m_J_run hM 2 rfl ⟨trivial, trivial, trivial⟩ ?_
  refine m_J_if (fun hc => ?_) (fun hc => ?_)
  · have k2 : ¬ q.1 = 2 := fun e => hc (by rw [e])
    refine m_J_run hM 1 rfl ⟨trivial, trivial⟩ ?_
    exact m_iret hM rfl rfl (by decide) (Nat.le_of_ble_eq_true rfl) (Nat.le_of_ble_eq_true rfl) (by simp [k_bp, k2, k_z]) (rfl)
  · have k2 : q.1 = 2 := (k_eqN (by omega) (by omega)).mp (Classical.not_not.mp hc)
    have hs1 := hap k2
    refine m_J_run hM 2 rfl ⟨trivial, trivial, trivial⟩ ?_
    refine m_J_getf hM rfl rfl (hq) (rfl) ?_
    refine m_J_run hM 1 rfl ⟨trivial, trivial⟩ ?_
    refine m_J_getf hM rfl rfl (hq) (rfl) ?_
    refine m_J_run hM 1 rfl ⟨trivial, trivial⟩ ?_
    refine m_J_getf hM rfl rfl (hq) (rfl) ?_
    refine m_J_run hM 2 rfl ⟨trivial, trivial, trivial⟩ ?_
    rw [show nI q.2.2.2.2.1 - nI 1 = nI (q.2.2.2.2.1 - 1) from pk_sub hs1]
    refine m_callV (as := [.int (nI q.2.1), .int (nI q.2.2.1), .int (nI (q.2.2.2.2.1 - 1))]) (rest := []) (m_EX_warm E N xs) hM rfl kw_X2_25 rfl rfl (h1) ⟨_, rfl, rfl⟩ (l_pairs (by omega) hu ho hL) rfl (Nat.le_of_ble_eq_true rfl) (Nat.le_of_ble_eq_true rfl) (Nat.le_of_ble_eq_true rfl) (fun ht => ⟨ht, by simp⟩) ?_
    refine m_J_run hM 1 rfl ⟨trivial, trivial⟩ ?_
    refine m_J_if (fun hc3 => ?_) (fun hc3 => ?_)
    · refine m_J_run hM 1 rfl ⟨trivial, trivial⟩ ?_
      exact m_iret hM rfl rfl (by decide) (Nat.le_of_ble_eq_true rfl) (Nat.le_of_ble_eq_true rfl) (by simp [k_bp, k2, k_z, hc3]) (rfl)
    · refine m_J_run hM 2 rfl ⟨trivial, trivial, trivial⟩ ?_
      exact m_iret hM rfl rfl (by decide) (Nat.le_of_ble_eq_true rfl) (Nat.le_of_ble_eq_true rfl) (by simp [k_bp, k2, k_z, hc3]) (rfl)
theorem i_brokenPut {sq v : Nat} (hok : k_lok q) (hsq : sq < 60) (hv : v < 5) (hq : h[c]? = some (k_ln q)) (hL : k_LD h a u b s r w f so) : m_Dt l (m_EX E N xs) E mM_X2_isBrokenByPutting (d + 2) 0 0 [.ref c, .ref a, .int (nI sq), .int (nI v)] h tg (some (.int (k_z (k_bpp q f sq v)))) h tg := by
  have hM := mM_X2_isBrokenByPutting_ok
  obtain ⟨hk, hu, ho, -, hst, hso, hap⟩ := id hok
  obtain ⟨h1, h2, h3, h4, h5, h6⟩ := id hL
  refine m_Sp_of (by decide) (Nat.le_of_ble_eq_true rfl) ?_
  refine m_J_run hM 1 rfl ⟨trivial, trivial⟩ ?_
  refine m_J_getf hM rfl rfl (hq) (rfl) ?_
  refine m_J_run hM 2 rfl ⟨trivial, trivial, trivial⟩ ?_
  refine m_J_if (fun hc => ?_) (fun hc => ?_)
  · have k2 : ¬ q.1 = 2 := fun e => hc (by rw [e])
    refine m_J_run hM 1 rfl ⟨trivial, trivial⟩ ?_
    exact m_iret hM rfl rfl (by decide) (Nat.le_of_ble_eq_true rfl) (Nat.le_of_ble_eq_true rfl) (by simp [k_bpp, k2, k_z]) (rfl)
  · have k2 : q.1 = 2 := (k_eqN (by omega) (by omega)).mp (Classical.not_not.mp hc)
    have hs1 := hap k2
    refine m_J_run hM 2 rfl ⟨trivial, trivial, trivial⟩ ?_
    refine m_J_getf hM rfl rfl (h1) (rfl) ?_
    refine m_J_run hM 1 rfl ⟨trivial, trivial⟩ ?_
    refine m_J_getf hM rfl rfl (hq) (rfl) ?_
    refine m_J_run hM 2 rfl ⟨trivial, trivial, trivial⟩ ?_
    rw [show nI q.2.2.2.2.1 - nI 1 = nI (q.2.2.2.2.1 - 1) from pk_sub hs1]
    refine m_aaldN hM rfl (h5) rfl (if_pos (by omega)) (by omega) (by omega) ?_
    refine m_J_run hM 1 rfl ⟨trivial, trivial⟩ ?_
    refine m_laldN hM rfl (h6 _ (by omega)) (by omega) (by omega) ?_
    rw [show k_arow (q.2.2.2.2.1 - 1) sq = k_ar sq (q.2.2.2.2.1 - 1) from k_upto_lt _ _ hsq]
    refine m_J_run hM 1 rfl ⟨trivial, trivial⟩ ?_
    refine m_J_getf hM rfl rfl (h1) (rfl) ?_
    refine m_J_run hM 1 rfl ⟨trivial, trivial⟩ ?_
    refine m_callV (as := [.long (k_ar sq (q.2.2.2.2.1 - 1)), .ref u, .int (nI v)]) (rest := []) (m_EX_warm E N xs) hM rfl kw_X2_46 rfl rfl (hq) ⟨_, rfl, rfl⟩ (i_np hok hv hq h2 h3) rfl (Nat.le_of_ble_eq_true rfl) (Nat.le_of_ble_eq_true rfl) (Nat.le_of_ble_eq_true rfl) (fun ht => ⟨ht, by simp⟩) ?_
    refine m_J_run hM 1 rfl ⟨trivial, trivial⟩ ?_
    refine m_J_if (fun hc3 => ?_) (fun hc3 => ?_)
    · refine m_J_run hM 1 rfl ⟨trivial, trivial⟩ ?_
      exact m_iret hM rfl rfl (by decide) (Nat.le_of_ble_eq_true rfl) (Nat.le_of_ble_eq_true rfl) (by simp [k_bpp, k2, k_z, hc3]) (rfl)
    · refine m_J_run hM 2 rfl ⟨trivial, trivial, trivial⟩ ?_
      exact m_iret hM rfl rfl (by decide) (Nat.le_of_ble_eq_true rfl) (Nat.le_of_ble_eq_true rfl) (by simp [k_bpp, k2, k_z, hc3]) (rfl)
theorem i_brokenWhole (hok : k_lok q) (hq : h[c]? = some (k_ln q)) (hL : k_LD h a u b s r w f so) : m_Dt l (m_EX E N xs) E mM_X2_isBrokenByWhole (d + 2) 0 0 [.ref c, .ref a] h tg (some (.int (k_z (k_bw q f)))) h tg := by
  have hM := mM_X2_isBrokenByWhole_ok
  obtain ⟨hk, hu, ho, -, hst, hso, hap⟩ := id hok
  obtain ⟨h1, h2, h3, h4, h5, h6⟩ := id hL
  have e0 : ∀ k : Nat, q.1 = k → nI q.1 = nI k := fun k e => by rw [e]
  refine m_Sp_of (by decide) (Nat.le_of_ble_eq_true rfl) ?_
  refine m_J_run hM 1 rfl ⟨trivial, trivial⟩ ?_
  refine m_J_getf hM rfl rfl (h1) (rfl) ?_
  refine m_J_run hM 1 rfl ⟨trivial, trivial⟩ ?_
  refine m_J_getf hM rfl rfl (hq) (rfl) ?_
  refine m_callV (as := [.int (nI q.2.1)]) (rest := []) (m_EX_warm E N xs) hM rfl kw_X2_73 rfl rfl (h2) ⟨_, rfl, rfl⟩ (u_of hu h2 h3) rfl (Nat.le_of_ble_eq_true rfl) (Nat.le_of_ble_eq_true rfl) (Nat.le_of_ble_eq_true rfl) (fun ht => ⟨ht, by simp⟩) ?_
  refine m_J_run hM 2 rfl ⟨trivial, trivial, trivial⟩ ?_
  refine m_J_getf hM rfl rfl (hq) (rfl) ?_
  have fin : ∀ e : k_bw q f = false, m_J l (m_EX E N xs) E mM_X2_isBrokenByWhole (d + 2) 0 0 (m_K (some (.int (k_z (k_bw q f)))) h tg) m_no tg 0 0 (91, [some (.ref c), some (.ref a), some (.long (f q.2.1)), none], [], h) := by
    intro e
    refine m_J_run hM 1 rfl ⟨trivial, trivial⟩ ?_
    exact m_iret hM rfl rfl (by decide) (Nat.le_of_ble_eq_true rfl) (Nat.le_of_ble_eq_true rfl) (by rw [e]; rfl) (rfl)
  rcases (show q.1 = 0 ∨ q.1 = 1 ∨ q.1 = 2 ∨ q.1 = 3 ∨ q.1 = 4 ∨ q.1 = 5 ∨ q.1 = 6 by omega) with e | e | e | e | e | e | e
  · rw [e0 _ e]; exact m_J_run hM 1 rfl ⟨by decide, trivial⟩ (m_eqS (fin (by simp [k_bw, e])) rfl)
  · rw [e0 _ e]; exact m_J_run hM 1 rfl ⟨by decide, trivial⟩ (m_eqS (fin (by simp [k_bw, e])) rfl)
  · rw [e0 _ e]; exact m_J_run hM 1 rfl ⟨by decide, trivial⟩ (m_eqS (fin (by simp [k_bw, e])) rfl)
  · rw [e0 _ e]
    refine m_J_run hM 1 rfl ⟨by decide, trivial⟩ ?_
    refine m_eqS (S := (44, [some (.ref c), some (.ref a), some (.long (f q.2.1)), none], [], h)) ?_ rfl
    refine m_J_run hM 1 rfl ⟨trivial, trivial⟩ ?_
    refine m_callS (as := [.long (f q.2.1)]) (rest := []) (m_EX_warm E N xs) hM rfl kw_X2_67 rfl (s_pc _) rfl (Nat.le_of_ble_eq_true rfl) (Nat.le_of_ble_eq_true rfl) (Nat.le_of_ble_eq_true rfl) (fun ht => ⟨ht, Nat.le_refl _⟩) ?_
    refine m_J_run hM 1 rfl ⟨trivial, trivial⟩ ?_
    refine m_J_getf hM rfl rfl (hq) (rfl) ?_
    refine m_J_run hM 1 rfl ⟨trivial, trivial⟩ ?_
    refine m_J_if (fun hc => ?_) (fun hc => ?_)
    · refine m_J_run hM 1 rfl ⟨trivial, trivial⟩ ?_
      exact m_iret hM rfl rfl (by decide) (Nat.le_of_ble_eq_true rfl) (Nat.le_of_ble_eq_true rfl) (by simp [k_bw, e, hc, k_z]) (rfl)
    · refine m_J_run hM 2 rfl ⟨trivial, trivial, trivial⟩ ?_
      exact m_iret hM rfl rfl (by decide) (Nat.le_of_ble_eq_true rfl) (Nat.le_of_ble_eq_true rfl) (by simp [k_bw, e, hc, k_z]) (rfl)
  · rw [e0 _ e]
    refine m_J_run hM 1 rfl ⟨by decide, trivial⟩ ?_
    refine m_eqS (S := (61, [some (.ref c), some (.ref a), some (.long (f q.2.1)), none], [], h)) ?_ rfl
    refine m_J_run hM 1 rfl ⟨trivial, trivial⟩ ?_
    refine m_callS (as := [.long (f q.2.1)]) (rest := []) (m_EX_warm E N xs) hM rfl kw_X2_67 rfl (s_pc _) rfl (Nat.le_of_ble_eq_true rfl) (Nat.le_of_ble_eq_true rfl) (Nat.le_of_ble_eq_true rfl) (fun ht => ⟨ht, Nat.le_refl _⟩) ?_
    refine m_J_run hM 1 rfl ⟨trivial, trivial⟩ ?_
    refine m_J_getf hM rfl rfl (hq) (rfl) ?_
    refine m_J_run hM 1 rfl ⟨trivial, trivial⟩ ?_
    refine m_J_if (fun hc => ?_) (fun hc => ?_)
    · refine m_J_run hM 1 rfl ⟨trivial, trivial⟩ ?_
      exact m_iret hM rfl rfl (by decide) (Nat.le_of_ble_eq_true rfl) (Nat.le_of_ble_eq_true rfl) (by simp [k_bw, e, hc, k_z]) (rfl)
    · refine m_J_run hM 2 rfl ⟨trivial, trivial, trivial⟩ ?_
      exact m_iret hM rfl rfl (by decide) (Nat.le_of_ble_eq_true rfl) (Nat.le_of_ble_eq_true rfl) (by simp [k_bw, e, hc, k_z]) (rfl)
  · rw [e0 _ e]
    refine m_J_run hM 1 rfl ⟨by decide, trivial⟩ ?_
    refine m_eqS (S := (78, [some (.ref c), some (.ref a), some (.long (f q.2.1)), none], [], h)) ?_ rfl
    refine m_J_run hM 1 rfl ⟨trivial, trivial⟩ ?_
    refine m_callS (as := [.long (f q.2.1)]) (rest := []) (m_EX_warm E N xs) hM rfl kw_X2_77 rfl (s_joined _) rfl (Nat.le_of_ble_eq_true rfl) (Nat.le_of_ble_eq_true rfl) (Nat.le_of_ble_eq_true rfl) (fun ht => ⟨ht, Nat.le_refl _⟩) ?_
    refine m_J_run hM 1 rfl ⟨trivial, trivial⟩ ?_
    refine m_J_if (fun hc => ?_) (fun hc => ?_)
    · refine m_J_run hM 1 rfl ⟨trivial, trivial⟩ ?_
      exact m_iret hM rfl rfl (by decide) (Nat.le_of_ble_eq_true rfl) (Nat.le_of_ble_eq_true rfl) (by have := k_z1 hc; simp [k_bw, e, this, k_z]) (rfl)
    · refine m_J_run hM 2 rfl ⟨trivial, trivial, trivial⟩ ?_
      exact m_iret hM rfl rfl (by decide) (Nat.le_of_ble_eq_true rfl) (Nat.le_of_ble_eq_true rfl) (by have := k_z0 (Classical.not_not.mp hc); simp [k_bw, e, this, k_z]) (rfl)
  · rw [e0 _ e]; exact m_J_run hM 1 rfl ⟨by decide, trivial⟩ (m_eqS (fin (by simp [k_bw, e])) rfl)
theorem i_broken (hok : k_lok q) (hq : h[c]? = some (k_ln q)) (hL : k_LD h a u b s r w f so) : m_Dt l (m_EX E N xs) E mM_X2_isBroken (d + 4) 0 0 [.ref c, .ref a] h tg (some (.int (k_z (k_br q f)))) h tg := by
  have hM := mM_X2_isBroken_ok
  obtain ⟨hk, hu, ho, -, hst, hso, hap⟩ := id hok
  refine m_Sp_of (by decide) (Nat.le_of_ble_eq_true rfl) ?_
  refine m_J_run hM 1 rfl ⟨trivial, trivial⟩ ?_
  refine m_J_getf hM rfl rfl (hq) (rfl) ?_
  refine m_J_run hM 2 rfl ⟨trivial, trivial, trivial⟩ ?_
  unfold k_br
  refine m_J_if (fun hc => ?_) (fun hc => ?_)
  · have k2 : ¬ q.1 = 2 := fun e => hc (by rw [e])
    rw [if_neg k2]
    refine m_J_run hM 2 rfl ⟨trivial, trivial, trivial⟩ ?_
    refine m_callV (as := [.ref a]) (rest := []) (m_EX_warm E N xs) hM rfl kw_X2_58 rfl rfl (hq) ⟨_, rfl, rfl⟩ (i_brokenWhole hok hq hL) rfl (Nat.le_of_ble_eq_true rfl) (Nat.le_of_ble_eq_true rfl) (Nat.le_of_ble_eq_true rfl) (fun ht => ⟨ht, by simp⟩) ?_
    exact m_iret hM rfl rfl (k_z_nar _) (Nat.le_of_ble_eq_true rfl) (Nat.le_of_ble_eq_true rfl) (rfl) (rfl)
  · have k2 : q.1 = 2 := (k_eqN (by omega) (by omega)).mp (Classical.not_not.mp hc)
    rw [if_pos k2]
    refine m_J_run hM 2 rfl ⟨trivial, trivial, trivial⟩ ?_
    refine m_callV (as := [.ref a]) (rest := []) (m_EX_warm E N xs) hM rfl kw_X2_54 rfl rfl (hq) ⟨_, rfl, rfl⟩ (i_brokenPair hok hq hL) rfl (Nat.le_of_ble_eq_true rfl) (Nat.le_of_ble_eq_true rfl) (Nat.le_of_ble_eq_true rfl) (fun ht => ⟨ht, by simp⟩) ?_
    refine m_J_run hM 1 rfl ⟨trivial, trivial⟩ ?_
    exact m_iret hM rfl rfl (k_z_nar _) (Nat.le_of_ble_eq_true rfl) (Nat.le_of_ble_eq_true rfl) (rfl) (rfl)
theorem i_grows {sq : Nat} (hok : k_lok q) (hsq : sq < 60) (hq : h[c]? = some (k_ln q)) (hL : k_LD h a u b s r w f so) : m_Dt l (m_EX E N xs) E mM_X2_growsOn (d + 2) 0 0 [.ref c, .ref a, .int (nI sq)] h tg (some (.int (k_z (k_go q f sq)))) h tg := by
  have hM := mM_X2_growsOn_ok
  obtain ⟨hk, hu, ho, -, hst, hso, hap⟩ := id hok
  obtain ⟨h1, h2, h3, h4, h5, h6⟩ := id hL
  have fin : ∀ e : k_go q f sq = false, m_J l (m_EX E N xs) E mM_X2_growsOn (d + 2) 0 0 (m_K (some (.int (k_z (k_go q f sq)))) h tg) m_no tg 0 0 (51, [some (.ref c), some (.ref a), some (.int (nI sq))], [], h) := by
    intro e
    refine m_J_run hM 1 rfl ⟨trivial, trivial⟩ ?_
    exact m_iret hM rfl rfl (by decide) (Nat.le_of_ble_eq_true rfl) (Nat.le_of_ble_eq_true rfl) (by rw [e]; rfl) (rfl)
  refine m_Sp_of (by decide) (Nat.le_of_ble_eq_true rfl) ?_
  refine m_J_run hM 1 rfl ⟨trivial, trivial⟩ ?_
  refine m_J_getf hM rfl rfl (hq) (rfl) ?_
  refine m_J_run hM 2 rfl ⟨trivial, trivial, trivial⟩ ?_
  refine m_J_if (fun hc => ?_) (fun hc => ?_)
  · have k6 : ¬ q.1 = 6 := fun e => hc (by rw [e])
    exact fin (by simp [k_go, k6])
  · have k6 : q.1 = 6 := (k_eqN (by omega) (by omega)).mp (Classical.not_not.mp hc)
    refine m_J_run hM 1 rfl ⟨trivial, trivial⟩ ?_
    refine m_J_getf hM rfl rfl (h1) (rfl) ?_
    refine m_J_run hM 1 rfl ⟨trivial, trivial⟩ ?_
    refine m_J_getf hM rfl rfl (hq) (rfl) ?_
    refine m_callV (as := [.int (nI q.2.1)]) (rest := []) (m_EX_warm E N xs) hM rfl kw_X2_73 rfl rfl (h2) ⟨_, rfl, rfl⟩ (u_of hu h2 h3) rfl (Nat.le_of_ble_eq_true rfl) (Nat.le_of_ble_eq_true rfl) (Nat.le_of_ble_eq_true rfl) (fun ht => ⟨ht, by simp⟩) ?_
    refine m_J_run hM 1 rfl ⟨trivial, trivial⟩ ?_
    refine m_callS (as := [.long (f q.2.1), .int (nI sq)]) (rest := []) (m_EX_warm E N xs) hM rfl kw_X2_83 rfl (s_has _ _) rfl (Nat.le_of_ble_eq_true rfl) (Nat.le_of_ble_eq_true rfl) (Nat.le_of_ble_eq_true rfl) (fun ht => ⟨ht, Nat.le_refl _⟩) ?_
    refine m_J_run hM 1 rfl ⟨trivial, trivial⟩ ?_
    refine m_J_if (fun hc3 => ?_) (fun hc3 => ?_)
    · have hh := k_z0 hc3
      exact fin (by simp [k_go, hh])
    · have hh := k_z1 hc3
      refine m_J_run hM 3 rfl ⟨trivial, trivial, trivial, trivial⟩ ?_
      refine m_J_getf hM rfl rfl (hq) (rfl) ?_
      refine m_J_run hM 1 rfl ⟨trivial, trivial⟩ ?_
      refine m_J_getf hM rfl rfl (hq) (rfl) ?_
      refine m_callV (as := [.int (nI sq), .int (nI q.2.2.2.2.1), .int (nI q.2.2.1)]) (rest := []) (m_EX_warm E N xs) hM rfl kw_X2_87 rfl rfl (h1) ⟨_, rfl, rfl⟩ (l_around hsq (by omega) ho hL) rfl (Nat.le_of_ble_eq_true rfl) (Nat.le_of_ble_eq_true rfl) (Nat.le_of_ble_eq_true rfl) (fun ht => ⟨ht, by simp⟩) ?_
      refine m_J_run hM 1 rfl ⟨trivial, trivial⟩ ?_
      refine m_J_getf hM rfl rfl (hq) (rfl) ?_
      refine m_J_run hM 1 rfl ⟨trivial, trivial⟩ ?_
      refine m_J_if (fun hc4 => ?_) (fun hc4 => ?_)
      · exact fin (by simp [k_go, hc4])
      · refine m_J_run hM 2 rfl ⟨trivial, trivial, trivial⟩ ?_
        exact m_iret hM rfl rfl (by decide) (Nat.le_of_ble_eq_true rfl) (Nat.le_of_ble_eq_true rfl) (by simp [k_go, k6, hh, hc4, k_z]) (rfl)
end
