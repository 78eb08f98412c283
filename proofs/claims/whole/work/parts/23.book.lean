/-! BOOK: the lines in their order -/
def k_rws (ad : Nat → Nat) : Nat → Option Nat := fun i => if i < 14 then some (ad i) else none
def k_BK (h : mH) (a rw : Nat) (ad : Nat → Nat) (n : Nat) (q : Nat → kL) : Prop :=
  h[a]? = some (.inr (0, [.ref rw, .int (nI n)])) ∧ h[rw]? = some (k_ra 4 14 (k_rws ad)) ∧ (∀ i, i < 14 → h[ad i]? = some (k_ln (q i))) ∧ n ≤ 14 ∧ ∀ i, i < 14 → k_lok (q i)
def k_sum (g : Nat → Int32) : Nat → Int32
  | 0 => nI 0
  | n + 1 => k_sum g n + g n
def k_laws (q : Nat → kL) : Nat → Int32
  | 0 => nI 0
  | n + 1 => if k_isl (q n) then k_laws q n + nI 1 else k_laws q n
def k_fb (q : Nat → kL) (f : Nat → Int64) : Nat → Nat → Int32
  | 0, _ => -nI 1
  | n + 1, i => if k_br (q i) f then nI i else k_fb q f n (i + 1)
def k_bits (p : Nat → Bool) : Nat → Int32
  | 0 => nI 0
  | n + 1 => if p n then k_bits p n ||| (nI 1 <<< (nI n &&& 31)) else k_bits p n
/-- a square's growth: by the first line that makes it grow -/
def k_g1 (q : Nat → kL) (f g : Nat → Int64) (sq : Nat) : Nat → Nat → Nat → Int64
  | 0, _ => g
  | n + 1, i => if k_go (q i) f sq then k_put g (k_only sq) (q i).2.2.2.1 else k_g1 q f g sq n (i + 1)
def k_g60 (q : Nat → kL) (f g : Nat → Int64) (m : Nat) : Nat → Nat → Int64
  | 0 => g
  | n + 1 => k_g1 q f (k_g60 q f g m n) n m 0
theorem k_neT {h : mH} {a b : Nat} {t n t' n' : Nat} {x x' : (Nat → Int32) ⊕ (Nat → Int64) ⊕ (Nat → UInt32) ⊕ (Nat → UInt64) ⊕ (Nat → Option Nat)} (ha : h[a]? = some (.inl (t, n, x))) (hb : h[b]? = some (.inl (t', n', x'))) (hne : t ≠ t' ∨ n ≠ n') : a ≠ b := by
  intro e
  subst e
  rw [ha] at hb
  cases hb
  rcases hne with h | h <;> exact h rfl
theorem k_LD_set {h : mH} {a u b s r : Nat} {w : Nat → Nat} {f : Nat → Int64} {so : Nat → Int32} {b2 : Nat} {g : Nat → Int64} {z : va_E} (hL : k_LD h a u b s r w f so) (h2 : h[b2]? = some (k_la 5 g)) (hne : b ≠ b2) : k_LD (h.set b2 z) a u b s r w f so := by
  obtain ⟨h1, h2', h3, h4, h5, h6⟩ := hL
  exact ⟨k_sn (k_ne h1 h2) h1, k_sn (k_ne h2' h2) h2', k_sn hne h3, k_sn (k_neT h4 h2 (by simp)) h4, k_sn (k_neT h5 h2 (by simp)) h5, fun i hi => k_sn (k_neT (h6 i hi) h2 (by simp)) (h6 i hi)⟩
theorem k_BK_set {h : mH} {a rw : Nat} {ad : Nat → Nat} {n : Nat} {q : Nat → kL} {b2 k : Nat} {g : Nat → Int64} {z : va_E} (hB : k_BK h a rw ad n q) (h2 : h[b2]? = some (k_la k g)) : k_BK (h.set b2 z) a rw ad n q := by
  obtain ⟨h1, h2', h3, h4⟩ := hB
  exact ⟨k_sn (k_ne h1 h2) h1, k_sn (k_neT h2' h2 (by simp)) h2', fun i hi => k_sn (k_ne (h3 i hi) h2) (h3 i hi), h4⟩
section
variable {l : Launch} {E : mE} {N : Nat} {xs : Nat → Int32} {d : Nat} {tg : Bool} {h : mH} {a u b s r : Nat} {w : Nat → Nat} {f : Nat → Int64} {so : Nat → Int32} {bk rw : Nat} {ad : Nat → Nat} {m : Nat} {q : Nat → kL}
theorem b_laws (hB : k_BK h bk rw ad m q) : m_Dt l (m_EX E N xs) E mM_X0_countLaws (d + 1) 0 0 [.ref bk] h tg (some (.int (k_laws q m))) h tg := by
  have hM := mM_X0_countLaws_ok
  obtain ⟨h1, h2, h3, hm, hq⟩ := id hB
  refine m_Sp_of (by decide) (Nat.le_of_ble_eq_true rfl) ?_
  refine m_J_run hM 4 rfl ⟨trivial, trivial, trivial, trivial, trivial⟩ ?_
  have loop : ∀ n i : Nat, i + n = m → m_J l (m_EX E N xs) E mM_X0_countLaws (d + 1) 0 0 (m_K (some (.int (k_laws q m))) h tg) m_no tg 0 0 (4, [some (.ref bk), some (.int (k_laws q i)), some (.int (nI i))], [], h) := by
    intro n
    induction n with
    | zero =>
      intro i hi
      have e : i = m := by omega
      subst e
      refine m_J_run hM 2 rfl ⟨trivial, trivial, trivial⟩ ?_
      refine m_J_getf hM rfl rfl (h1) (rfl) ?_
      refine m_J_run hM 1 rfl ⟨trivial, trivial⟩ ?_
      refine m_J_if (fun _ => ?_) (fun hc => absurd (nI_le (Nat.le_refl _) (by omega)) hc)
      refine m_J_run hM 1 rfl ⟨trivial, trivial⟩ ?_
      exact m_iret hM rfl rfl rfl (Nat.le_of_ble_eq_true rfl) (Nat.le_of_ble_eq_true rfl) (rfl) (rfl)
    | succ n ih =>
      intro i hi
      refine m_J_run hM 2 rfl ⟨trivial, trivial, trivial⟩ ?_
      refine m_J_getf hM rfl rfl (h1) (rfl) ?_
      refine m_J_run hM 1 rfl ⟨trivial, trivial⟩ ?_
      refine m_J_if (fun hc => absurd hc (nI_ge (by omega) (by omega))) (fun _ => ?_)
      refine m_J_run hM 1 rfl ⟨trivial, trivial⟩ ?_
      refine m_J_getf hM rfl rfl (h1) (rfl) ?_
      refine m_J_run hM 1 rfl ⟨trivial, trivial⟩ ?_
      refine m_aaldN hM rfl (h2) rfl (if_pos (by omega)) (by omega) (by omega) ?_
      refine m_callV (as := []) (rest := []) (m_EX_warm E N xs) hM rfl kw_X0_22 rfl rfl (h3 i (by omega)) ⟨_, rfl, rfl⟩ (i_isLaw (hq i (by omega)).1 (h3 i (by omega))) rfl (Nat.le_of_ble_eq_true rfl) (Nat.le_of_ble_eq_true rfl) (Nat.le_of_ble_eq_true rfl) (fun ht => ⟨ht, by simp⟩) ?_
      refine m_J_run hM 1 rfl ⟨trivial, trivial⟩ ?_
      refine m_J_if (fun hc => ?_) (fun hc => ?_)
      · have hc2 := k_z0 hc
        refine m_J_run hM 2 rfl ⟨trivial, trivial, trivial⟩ ?_
        refine m_eqS (ih (i + 1) (by omega)) ?_
        rw [k_succ i, k_laws, if_neg (by rw [hc2]; decide)]
        rfl
      · have hc2 := k_z1 hc
        refine m_J_run hM 3 rfl ⟨trivial, trivial, trivial, trivial⟩ ?_
        refine m_eqS (ih (i + 1) (by omega)) ?_
        rw [k_succ i, k_laws, if_pos hc2]
        rfl
  exact loop m 0 (by omega)
theorem b_worth (hB : k_BK h bk rw ad m q) (hL : k_LD h a u b s r w f so) : m_Dt l (m_EX E N xs) E mM_X0_worthOf (d + 4) 0 0 [.ref bk, .ref a] h tg (some (.int (k_sum (fun i => k_lw (q i) f so) m))) h tg := by
  have hM := mM_X0_worthOf_ok
  obtain ⟨h1, h2, h3, hm, hq⟩ := id hB
  refine m_Sp_of (by decide) (Nat.le_of_ble_eq_true rfl) ?_
  refine m_J_run hM 4 rfl ⟨trivial, trivial, trivial, trivial, trivial⟩ ?_
  have loop : ∀ n i : Nat, i + n = m → m_J l (m_EX E N xs) E mM_X0_worthOf (d + 4) 0 0 (m_K (some (.int (k_sum (fun i => k_lw (q i) f so) m))) h tg) m_no tg 0 0 (4, [some (.ref bk), some (.ref a), some (.int (k_sum (fun i => k_lw (q i) f so) i)), some (.int (nI i))], [], h) := by
    intro n
    induction n with
    | zero =>
      intro i hi
      have e : i = m := by omega
      subst e
      refine m_J_run hM 2 rfl ⟨trivial, trivial, trivial⟩ ?_
      refine m_J_getf hM rfl rfl (h1) (rfl) ?_
      refine m_J_run hM 1 rfl ⟨trivial, trivial⟩ ?_
      refine m_J_if (fun _ => ?_) (fun hc => absurd (nI_le (Nat.le_refl _) (by omega)) hc)
      refine m_J_run hM 1 rfl ⟨trivial, trivial⟩ ?_
      exact m_iret hM rfl rfl rfl (Nat.le_of_ble_eq_true rfl) (Nat.le_of_ble_eq_true rfl) (rfl) (rfl)
    | succ n ih =>
      intro i hi
      refine m_J_run hM 2 rfl ⟨trivial, trivial, trivial⟩ ?_
      refine m_J_getf hM rfl rfl (h1) (rfl) ?_
      refine m_J_run hM 1 rfl ⟨trivial, trivial⟩ ?_
      refine m_J_if (fun hc => absurd hc (nI_ge (by omega) (by omega))) (fun _ => ?_)
      refine m_J_run hM 2 rfl ⟨trivial, trivial, trivial⟩ ?_
      refine m_J_getf hM rfl rfl (h1) (rfl) ?_
      refine m_J_run hM 1 rfl ⟨trivial, trivial⟩ ?_
      refine m_aaldN hM rfl (h2) rfl (if_pos (by omega)) (by omega) (by omega) ?_
      refine m_J_run hM 1 rfl ⟨trivial, trivial⟩ ?_
      refine m_callV (as := [.ref a]) (rest := [.int (k_sum (fun i => k_lw (q i) f so) i)]) (m_EX_warm E N xs) hM rfl kw_X0_26 rfl rfl (h3 i (by omega)) ⟨_, rfl, rfl⟩ (i_worth (hq i (by omega)) (h3 i (by omega)) hL) rfl (Nat.le_of_ble_eq_true rfl) (Nat.le_of_ble_eq_true rfl) (Nat.le_of_ble_eq_true rfl) (fun ht => ⟨ht, by simp⟩) ?_
      refine m_J_run hM 4 rfl ⟨trivial, trivial, trivial, trivial, trivial⟩ ?_
      refine m_eqS (ih (i + 1) (by omega)) ?_
      rw [k_succ i]
      rfl
  exact loop m 0 (by omega)
theorem b_worthPut {sq v : Nat} (hsq : sq < 60) (hv : v < 5) (hB : k_BK h bk rw ad m q) (hL : k_LD h a u b s r w f so) : m_Dt l (m_EX E N xs) E mM_X0_worthOfPutting (d + 3) 0 0 [.ref bk, .ref a, .int (nI sq), .int (nI v)] h tg (some (.int (k_sum (fun i => k_lwp (q i) f so sq v) m))) h tg := by
  have hM := mM_X0_worthOfPutting_ok
  obtain ⟨h1, h2, h3, hm, hq⟩ := id hB
  refine m_Sp_of (by decide) (Nat.le_of_ble_eq_true rfl) ?_
  refine m_J_run hM 4 rfl ⟨trivial, trivial, trivial, trivial, trivial⟩ ?_
  have loop : ∀ n i : Nat, i + n = m → m_J l (m_EX E N xs) E mM_X0_worthOfPutting (d + 3) 0 0 (m_K (some (.int (k_sum (fun i => k_lwp (q i) f so sq v) m))) h tg) m_no tg 0 0 (6, [some (.ref bk), some (.ref a), some (.int (nI sq)), some (.int (nI v)), some (.int (k_sum (fun i => k_lwp (q i) f so sq v) i)), some (.int (nI i))], [], h) := by
    intro n
    induction n with
    | zero =>
      intro i hi
      have e : i = m := by omega
      subst e
      refine m_J_run hM 2 rfl ⟨trivial, trivial, trivial⟩ ?_
      refine m_J_getf hM rfl rfl (h1) (rfl) ?_
      refine m_J_run hM 1 rfl ⟨trivial, trivial⟩ ?_
      refine m_J_if (fun _ => ?_) (fun hc => absurd (nI_le (Nat.le_refl _) (by omega)) hc)
      refine m_J_run hM 1 rfl ⟨trivial, trivial⟩ ?_
      exact m_iret hM rfl rfl rfl (Nat.le_of_ble_eq_true rfl) (Nat.le_of_ble_eq_true rfl) (rfl) (rfl)
    | succ n ih =>
      intro i hi
      refine m_J_run hM 2 rfl ⟨trivial, trivial, trivial⟩ ?_
      refine m_J_getf hM rfl rfl (h1) (rfl) ?_
      refine m_J_run hM 1 rfl ⟨trivial, trivial⟩ ?_
      refine m_J_if (fun hc => absurd hc (nI_ge (by omega) (by omega))) (fun _ => ?_)
      refine m_J_run hM 2 rfl ⟨trivial, trivial, trivial⟩ ?_
      refine m_J_getf hM rfl rfl (h1) (rfl) ?_
      refine m_J_run hM 1 rfl ⟨trivial, trivial⟩ ?_
      refine m_aaldN hM rfl (h2) rfl (if_pos (by omega)) (by omega) (by omega) ?_
      refine m_J_run hM 3 rfl ⟨trivial, trivial, trivial, trivial⟩ ?_
      refine m_callV (as := [.ref a, .int (nI sq), .int (nI v)]) (rest := [.int (k_sum (fun i => k_lwp (q i) f so sq v) i)]) (m_EX_warm E N xs) hM rfl kw_X0_30 rfl rfl (h3 i (by omega)) ⟨_, rfl, rfl⟩ (i_worthPut (hq i (by omega)) hsq hv (h3 i (by omega)) hL) rfl (Nat.le_of_ble_eq_true rfl) (Nat.le_of_ble_eq_true rfl) (Nat.le_of_ble_eq_true rfl) (fun ht => ⟨ht, by simp⟩) ?_
      refine m_J_run hM 4 rfl ⟨trivial, trivial, trivial, trivial, trivial⟩ ?_
      refine m_eqS (ih (i + 1) (by omega)) ?_
      rw [k_succ i]
      rfl
  exact loop m 0 (by omega)
theorem b_first (hB : k_BK h bk rw ad m q) (hL : k_LD h a u b s r w f so) : m_Dt l (m_EX E N xs) E mM_X0_firstBroken (d + 5) 0 0 [.ref bk, .ref a] h tg (some (.int (k_fb q f m 0))) h tg := by
  have hM := mM_X0_firstBroken_ok
  obtain ⟨h1, h2, h3, hm, hq⟩ := id hB
  refine m_Sp_of (by decide) (Nat.le_of_ble_eq_true rfl) ?_
  refine m_J_run hM 2 rfl ⟨trivial, trivial, trivial⟩ ?_
  have loop : ∀ n i : Nat, i + n = m → m_J l (m_EX E N xs) E mM_X0_firstBroken (d + 5) 0 0 (m_K (some (.int (k_fb q f n i))) h tg) m_no tg 0 0 (2, [some (.ref bk), some (.ref a), some (.int (nI i))], [], h) := by
    intro n
    induction n with
    | zero =>
      intro i hi
      have e : i = m := by omega
      subst e
      refine m_J_run hM 2 rfl ⟨trivial, trivial, trivial⟩ ?_
      refine m_J_getf hM rfl rfl (h1) (rfl) ?_
      refine m_J_run hM 1 rfl ⟨trivial, trivial⟩ ?_
      refine m_J_if (fun _ => ?_) (fun hc => absurd (nI_le (Nat.le_refl _) (by omega)) hc)
      refine m_J_run hM 1 rfl ⟨trivial, trivial⟩ ?_
      exact m_iret hM rfl rfl rfl (Nat.le_of_ble_eq_true rfl) (Nat.le_of_ble_eq_true rfl) (rfl) (rfl)
    | succ n ih =>
      intro i hi
      refine m_J_run hM 2 rfl ⟨trivial, trivial, trivial⟩ ?_
      refine m_J_getf hM rfl rfl (h1) (rfl) ?_
      refine m_J_run hM 1 rfl ⟨trivial, trivial⟩ ?_
      refine m_J_if (fun hc => absurd hc (nI_ge (by omega) (by omega))) (fun _ => ?_)
      refine m_J_run hM 1 rfl ⟨trivial, trivial⟩ ?_
      refine m_J_getf hM rfl rfl (h1) (rfl) ?_
      refine m_J_run hM 1 rfl ⟨trivial, trivial⟩ ?_
      refine m_aaldN hM rfl (h2) rfl (if_pos (by omega)) (by omega) (by omega) ?_
      refine m_J_run hM 1 rfl ⟨trivial, trivial⟩ ?_
      refine m_callV (as := [.ref a]) (rest := []) (m_EX_warm E N xs) hM rfl kw_X0_34 rfl rfl (h3 i (by omega)) ⟨_, rfl, rfl⟩ (i_broken (hq i (by omega)) (h3 i (by omega)) hL) rfl (Nat.le_of_ble_eq_true rfl) (Nat.le_of_ble_eq_true rfl) (Nat.le_of_ble_eq_true rfl) (fun ht => ⟨ht, by simp⟩) ?_
      refine m_J_run hM 1 rfl ⟨trivial, trivial⟩ ?_
      refine m_J_if (fun hc => ?_) (fun hc => ?_)
      · have hc2 := k_z0 hc
        rw [k_fb, if_neg (by rw [hc2]; decide)]
        refine m_J_run hM 2 rfl ⟨trivial, trivial, trivial⟩ ?_
        refine m_eqS (ih (i + 1) (by omega)) ?_
        rw [k_succ i]
        rfl
      · have hc2 := k_z1 hc
        rw [k_fb, if_pos hc2]
        refine m_J_run hM 1 rfl ⟨trivial, trivial⟩ ?_
        exact m_iret hM rfl rfl rfl (Nat.le_of_ble_eq_true rfl) (Nat.le_of_ble_eq_true rfl) (rfl) (rfl)
  exact loop m 0 (by omega)
theorem b_pair (hB : k_BK h bk rw ad m q) (hL : k_LD h a u b s r w f so) : m_Dt l (m_EX E N xs) E mM_X0_brokenByPair (d + 4) 0 0 [.ref bk, .ref a] h tg (some (.int (k_bits (fun i => k_bp (q i) f) m))) h tg := by
  have hM := mM_X0_brokenByPair_ok
  obtain ⟨h1, h2, h3, hm, hq⟩ := id hB
  refine m_Sp_of (by decide) (Nat.le_of_ble_eq_true rfl) ?_
  refine m_J_run hM 4 rfl ⟨trivial, trivial, trivial, trivial, trivial⟩ ?_
  have loop : ∀ n i : Nat, i + n = m → m_J l (m_EX E N xs) E mM_X0_brokenByPair (d + 4) 0 0 (m_K (some (.int (k_bits (fun i => k_bp (q i) f) m))) h tg) m_no tg 0 0 (4, [some (.ref bk), some (.ref a), some (.int (k_bits (fun i => k_bp (q i) f) i)), some (.int (nI i))], [], h) := by
    intro n
    induction n with
    | zero =>
      intro i hi
      have e : i = m := by omega
      subst e
      refine m_J_run hM 2 rfl ⟨trivial, trivial, trivial⟩ ?_
      refine m_J_getf hM rfl rfl (h1) (rfl) ?_
      refine m_J_run hM 1 rfl ⟨trivial, trivial⟩ ?_
      refine m_J_if (fun _ => ?_) (fun hc => absurd (nI_le (Nat.le_refl _) (by omega)) hc)
      refine m_J_run hM 1 rfl ⟨trivial, trivial⟩ ?_
      exact m_iret hM rfl rfl rfl (Nat.le_of_ble_eq_true rfl) (Nat.le_of_ble_eq_true rfl) (rfl) (rfl)
    | succ n ih =>
      intro i hi
      refine m_J_run hM 2 rfl ⟨trivial, trivial, trivial⟩ ?_
      refine m_J_getf hM rfl rfl (h1) (rfl) ?_
      refine m_J_run hM 1 rfl ⟨trivial, trivial⟩ ?_
      refine m_J_if (fun hc => absurd hc (nI_ge (by omega) (by omega))) (fun _ => ?_)
      refine m_J_run hM 1 rfl ⟨trivial, trivial⟩ ?_
      refine m_J_getf hM rfl rfl (h1) (rfl) ?_
      refine m_J_run hM 1 rfl ⟨trivial, trivial⟩ ?_
      refine m_aaldN hM rfl (h2) rfl (if_pos (by omega)) (by omega) (by omega) ?_
      refine m_J_run hM 1 rfl ⟨trivial, trivial⟩ ?_
      refine m_callV (as := [.ref a]) (rest := []) (m_EX_warm E N xs) hM rfl kw_X0_38 rfl rfl (h3 i (by omega)) ⟨_, rfl, rfl⟩ (i_brokenPair (hq i (by omega)) (h3 i (by omega)) hL) rfl (Nat.le_of_ble_eq_true rfl) (Nat.le_of_ble_eq_true rfl) (Nat.le_of_ble_eq_true rfl) (fun ht => ⟨ht, by simp⟩) ?_
      refine m_J_run hM 1 rfl ⟨trivial, trivial⟩ ?_
      refine m_J_if (fun hc => ?_) (fun hc => ?_)
      · have hc2 := k_z0 hc
        refine m_J_run hM 2 rfl ⟨trivial, trivial, trivial⟩ ?_
        refine m_eqS (ih (i + 1) (by omega)) ?_
        rw [k_succ i, k_bits, if_neg (by rw [hc2]; decide)]
        rfl
      · have hc2 := k_z1 hc
        refine m_J_run hM 8 rfl ⟨trivial, trivial, trivial, trivial, trivial, trivial, trivial, trivial, trivial⟩ ?_
        refine m_eqS (ih (i + 1) (by omega)) ?_
        rw [k_succ i, k_bits, if_pos hc2]
        rfl
  exact loop m 0 (by omega)
theorem b_whole (hB : k_BK h bk rw ad m q) (hL : k_LD h a u b s r w f so) : m_Dt l (m_EX E N xs) E mM_X0_brokenByWhole (d + 3) 0 0 [.ref bk, .ref a] h tg (some (.int (k_bits (fun i => k_bw (q i) f) m))) h tg := by
  have hM := mM_X0_brokenByWhole_ok
  obtain ⟨h1, h2, h3, hm, hq⟩ := id hB
  refine m_Sp_of (by decide) (Nat.le_of_ble_eq_true rfl) ?_
  refine m_J_run hM 4 rfl ⟨trivial, trivial, trivial, trivial, trivial⟩ ?_
  have loop : ∀ n i : Nat, i + n = m → m_J l (m_EX E N xs) E mM_X0_brokenByWhole (d + 3) 0 0 (m_K (some (.int (k_bits (fun i => k_bw (q i) f) m))) h tg) m_no tg 0 0 (4, [some (.ref bk), some (.ref a), some (.int (k_bits (fun i => k_bw (q i) f) i)), some (.int (nI i))], [], h) := by
    intro n
    induction n with
    | zero =>
      intro i hi
      have e : i = m := by omega
      subst e
      refine m_J_run hM 2 rfl ⟨trivial, trivial, trivial⟩ ?_
      refine m_J_getf hM rfl rfl (h1) (rfl) ?_
      refine m_J_run hM 1 rfl ⟨trivial, trivial⟩ ?_
      refine m_J_if (fun _ => ?_) (fun hc => absurd (nI_le (Nat.le_refl _) (by omega)) hc)
      refine m_J_run hM 1 rfl ⟨trivial, trivial⟩ ?_
      exact m_iret hM rfl rfl rfl (Nat.le_of_ble_eq_true rfl) (Nat.le_of_ble_eq_true rfl) (rfl) (rfl)
    | succ n ih =>
      intro i hi
      refine m_J_run hM 2 rfl ⟨trivial, trivial, trivial⟩ ?_
      refine m_J_getf hM rfl rfl (h1) (rfl) ?_
      refine m_J_run hM 1 rfl ⟨trivial, trivial⟩ ?_
      refine m_J_if (fun hc => absurd hc (nI_ge (by omega) (by omega))) (fun _ => ?_)
      refine m_J_run hM 1 rfl ⟨trivial, trivial⟩ ?_
      refine m_J_getf hM rfl rfl (h1) (rfl) ?_
      refine m_J_run hM 1 rfl ⟨trivial, trivial⟩ ?_
      refine m_aaldN hM rfl (h2) rfl (if_pos (by omega)) (by omega) (by omega) ?_
      refine m_J_run hM 1 rfl ⟨trivial, trivial⟩ ?_
      refine m_callV (as := [.ref a]) (rest := []) (m_EX_warm E N xs) hM rfl kw_X0_45 rfl rfl (h3 i (by omega)) ⟨_, rfl, rfl⟩ (i_brokenWhole (hq i (by omega)) (h3 i (by omega)) hL) rfl (Nat.le_of_ble_eq_true rfl) (Nat.le_of_ble_eq_true rfl) (Nat.le_of_ble_eq_true rfl) (fun ht => ⟨ht, by simp⟩) ?_
      refine m_J_run hM 1 rfl ⟨trivial, trivial⟩ ?_
      refine m_J_if (fun hc => ?_) (fun hc => ?_)
      · have hc2 := k_z0 hc
        refine m_J_run hM 2 rfl ⟨trivial, trivial, trivial⟩ ?_
        refine m_eqS (ih (i + 1) (by omega)) ?_
        rw [k_succ i, k_bits, if_neg (by rw [hc2]; decide)]
        rfl
      · have hc2 := k_z1 hc
        refine m_J_run hM 8 rfl ⟨trivial, trivial, trivial, trivial, trivial, trivial, trivial, trivial, trivial⟩ ?_
        refine m_eqS (ih (i + 1) (by omega)) ?_
        rw [k_succ i, k_bits, if_pos hc2]
        rfl
  exact loop m 0 (by omega)
theorem b_put {sq v : Nat} (hsq : sq < 60) (hv : v < 5) (hB : k_BK h bk rw ad m q) (hL : k_LD h a u b s r w f so) : m_Dt l (m_EX E N xs) E mM_X0_brokenByPutting (d + 3) 0 0 [.ref bk, .ref a, .int (nI sq), .int (nI v)] h tg (some (.int (k_bits (fun i => k_bpp (q i) f sq v) m))) h tg := by
  have hM := mM_X0_brokenByPutting_ok
  obtain ⟨h1, h2, h3, hm, hq⟩ := id hB
  refine m_Sp_of (by decide) (Nat.le_of_ble_eq_true rfl) ?_
  refine m_J_run hM 4 rfl ⟨trivial, trivial, trivial, trivial, trivial⟩ ?_
  have loop : ∀ n i : Nat, i + n = m → m_J l (m_EX E N xs) E mM_X0_brokenByPutting (d + 3) 0 0 (m_K (some (.int (k_bits (fun i => k_bpp (q i) f sq v) m))) h tg) m_no tg 0 0 (6, [some (.ref bk), some (.ref a), some (.int (nI sq)), some (.int (nI v)), some (.int (k_bits (fun i => k_bpp (q i) f sq v) i)), some (.int (nI i))], [], h) := by
    intro n
    induction n with
    | zero =>
      intro i hi
      have e : i = m := by omega
      subst e
      refine m_J_run hM 2 rfl ⟨trivial, trivial, trivial⟩ ?_
      refine m_J_getf hM rfl rfl (h1) (rfl) ?_
      refine m_J_run hM 1 rfl ⟨trivial, trivial⟩ ?_
      refine m_J_if (fun _ => ?_) (fun hc => absurd (nI_le (Nat.le_refl _) (by omega)) hc)
      refine m_J_run hM 1 rfl ⟨trivial, trivial⟩ ?_
      exact m_iret hM rfl rfl rfl (Nat.le_of_ble_eq_true rfl) (Nat.le_of_ble_eq_true rfl) (rfl) (rfl)
    | succ n ih =>
      intro i hi
      refine m_J_run hM 2 rfl ⟨trivial, trivial, trivial⟩ ?_
      refine m_J_getf hM rfl rfl (h1) (rfl) ?_
      refine m_J_run hM 1 rfl ⟨trivial, trivial⟩ ?_
      refine m_J_if (fun hc => absurd hc (nI_ge (by omega) (by omega))) (fun _ => ?_)
      refine m_J_run hM 1 rfl ⟨trivial, trivial⟩ ?_
      refine m_J_getf hM rfl rfl (h1) (rfl) ?_
      refine m_J_run hM 1 rfl ⟨trivial, trivial⟩ ?_
      refine m_aaldN hM rfl (h2) rfl (if_pos (by omega)) (by omega) (by omega) ?_
      refine m_J_run hM 3 rfl ⟨trivial, trivial, trivial, trivial⟩ ?_
      refine m_callV (as := [.ref a, .int (nI sq), .int (nI v)]) (rest := []) (m_EX_warm E N xs) hM rfl kw_X0_41 rfl rfl (h3 i (by omega)) ⟨_, rfl, rfl⟩ (i_brokenPut (hq i (by omega)) hsq hv (h3 i (by omega)) hL) rfl (Nat.le_of_ble_eq_true rfl) (Nat.le_of_ble_eq_true rfl) (Nat.le_of_ble_eq_true rfl) (fun ht => ⟨ht, by simp⟩) ?_
      refine m_J_run hM 1 rfl ⟨trivial, trivial⟩ ?_
      refine m_J_if (fun hc => ?_) (fun hc => ?_)
      · have hc2 := k_z0 hc
        refine m_J_run hM 2 rfl ⟨trivial, trivial, trivial⟩ ?_
        refine m_eqS (ih (i + 1) (by omega)) ?_
        rw [k_succ i, k_bits, if_neg (by rw [hc2]; decide)]
        rfl
      · have hc2 := k_z1 hc
        refine m_J_run hM 8 rfl ⟨trivial, trivial, trivial, trivial, trivial, trivial, trivial, trivial, trivial⟩ ?_
        refine m_eqS (ih (i + 1) (by omega)) ?_
        rw [k_succ i, k_bits, if_pos hc2]
        rfl
  exact loop m 0 (by omega)
set_option maxHeartbeats 1000000 in
theorem b_grow {a2 b2 : Nat} {g : Nat → Int64} (hB : k_BK h bk rw ad m q) (hL : k_LD h a u b s r w f so) (hU : h[a2]? = some (k_uses b2)) (hA : h[b2]? = some (k_la 5 g)) (hne : b ≠ b2) : m_Dt l (m_EX E N xs) E mM_X0_growInto (d + 3) 0 0 [.ref bk, .ref a2, .ref a] h tg none (h.set b2 (k_la 5 (k_g60 q f (k_upto f g 5) m 60))) tg := by
  have hM := mM_X0_growInto_ok
  obtain ⟨h1, h2, h3, hm, hq⟩ := id hB
  obtain ⟨g1, g2, g3, g4, g5, g6⟩ := id hL
  have hab := k_ne hU hA
  refine m_Sp_of (by decide) (Nat.le_of_ble_eq_true rfl) ?_
  refine m_J_run hM 2 rfl ⟨trivial, trivial, trivial⟩ ?_
  refine m_J_getf hM rfl rfl (g1) (rfl) ?_
  refine m_callV (as := [.ref u]) (rest := []) (m_EX_warm E N xs) hM rfl kw_X0_54 rfl rfl (hU) ⟨_, rfl, rfl⟩ (u_become hU hA g2 g3 hne) rfl (Nat.le_of_ble_eq_true rfl) (Nat.le_of_ble_eq_true rfl) (Nat.le_of_ble_eq_true rfl) (fun ht => ⟨ht, by simp⟩) ?_
  refine m_J_run hM 2 rfl ⟨trivial, trivial, trivial⟩ ?_
  -- the lines, at one square
  have inner : ∀ (sq : Nat) (hsq : sq < 60) (G : Nat → Int64) (h9 : mH) (hB9 : k_BK h9 bk rw ad m q) (hL9 : k_LD h9 a u b s r w f so) (hU9 : h9[a2]? = some (k_uses b2)) (hA9 : h9[b2]? = some (k_la 5 G)) (PRx : Option Value → mH → Bool → Prop), ∀ n i : Nat, i + n = m → (∀ v4, m_J l (m_EX E N xs) E mM_X0_growInto (d + 3) 0 0 PRx m_no tg 0 0 (71, [some (.ref bk), some (.ref a2), some (.ref a), some (.int (nI sq)), v4], [], h9.set b2 (k_la 5 (k_g1 q f G sq n i)))) →
      m_J l (m_EX E N xs) E mM_X0_growInto (d + 3) 0 0 PRx m_no tg 0 0 (19, [some (.ref bk), some (.ref a2), some (.ref a), some (.int (nI sq)), some (.int (nI i))], [], h9) := by
    intro sq hsq G h9 hB9 hL9 hU9 hA9 PRx n
    obtain ⟨h1, h2, h3, hm, hq⟩ := id hB9
    obtain ⟨g1, g2, g3, g4, g5, g6⟩ := id hL9
    induction n with
    | zero =>
      intro i hi hk
      have e : i = m := by omega
      refine m_J_run hM 2 rfl ⟨trivial, trivial, trivial⟩ ?_
      refine m_J_getf hM rfl rfl (h1) (rfl) ?_
      refine m_J_run hM 1 rfl ⟨trivial, trivial⟩ ?_
      refine m_J_if (fun _ => ?_) (fun hc => absurd (nI_le (by omega) (by omega)) hc)
      have h0 := hk (some (.int (nI i)))
      rw [k_g1, k_s0 hA9] at h0
      exact h0
    | succ n ih =>
      intro i hi hk
      have hk2 : (q i).2.2.2.1 < 5 := (hq i (by omega)).2.2.2.1
      refine m_J_run hM 2 rfl ⟨trivial, trivial, trivial⟩ ?_
      refine m_J_getf hM rfl rfl (h1) (rfl) ?_
      refine m_J_run hM 1 rfl ⟨trivial, trivial⟩ ?_
      refine m_J_if (fun hc => absurd hc (nI_ge (by omega) (by omega))) (fun _ => ?_)
      refine m_J_run hM 1 rfl ⟨trivial, trivial⟩ ?_
      refine m_J_getf hM rfl rfl (h1) (rfl) ?_
      refine m_J_run hM 1 rfl ⟨trivial, trivial⟩ ?_
      refine m_aaldN hM rfl (h2) rfl (if_pos (by omega)) (by omega) (by omega) ?_
      refine m_J_run hM 2 rfl ⟨trivial, trivial, trivial⟩ ?_
      refine m_callV (as := [.ref a, .int (nI sq)]) (rest := []) (m_EX_warm E N xs) hM rfl kw_X0_60 rfl rfl (h3 i (by omega)) ⟨_, rfl, rfl⟩ (i_grows (hq i (by omega)) hsq (h3 i (by omega)) hL9) rfl (Nat.le_of_ble_eq_true rfl) (Nat.le_of_ble_eq_true rfl) (Nat.le_of_ble_eq_true rfl) (fun ht => ⟨ht, by simp⟩) ?_
      refine m_J_run hM 1 rfl ⟨trivial, trivial⟩ ?_
      rw [k_g1] at hk
      refine m_J_if (fun hc => ?_) (fun hc => ?_)
      · have hc2 := k_z0 hc
        rw [if_neg (by rw [hc2]; decide)] at hk
        refine m_J_run hM 2 rfl ⟨trivial, trivial, trivial⟩ ?_
        refine m_eqS (ih (i + 1) (by omega) hk) ?_
        rw [k_succ i]
        rfl
      · have hc2 := k_z1 hc
        rw [if_pos hc2] at hk
        refine m_J_run hM 2 rfl ⟨trivial, trivial, trivial⟩ ?_
        refine m_callS (as := [.int (nI sq)]) (rest := [.ref a2]) (m_EX_warm E N xs) hM rfl kw_X0_64 rfl (s_only sq) rfl (Nat.le_of_ble_eq_true rfl) (Nat.le_of_ble_eq_true rfl) (Nat.le_of_ble_eq_true rfl) (fun ht => ⟨ht, Nat.le_refl _⟩) ?_
        refine m_J_run hM 1 rfl ⟨trivial, trivial⟩ ?_
        refine m_J_getf hM rfl rfl (h1) (rfl) ?_
        refine m_J_run hM 1 rfl ⟨trivial, trivial⟩ ?_
        refine m_aaldN hM rfl (h2) rfl (if_pos (by omega)) (by omega) (by omega) ?_
        refine m_J_getf hM rfl rfl (h3 i (by omega)) (rfl) ?_
        refine m_callV (as := [.long (k_only sq), .int (nI (q i).2.2.2.1)]) (rest := []) (m_EX_warm E N xs) hM rfl kw_X0_73 rfl rfl (hU9) ⟨_, rfl, rfl⟩ (u_put hk2 hU9 hA9) rfl (Nat.le_of_ble_eq_true rfl) (Nat.le_of_ble_eq_true rfl) (Nat.le_of_ble_eq_true rfl) (fun ht => ⟨ht, by simp⟩) ?_
        refine m_J_run hM 2 rfl ⟨trivial, trivial, trivial⟩ ?_
        exact hk _
  have loop : ∀ (n i : Nat) (v4 : Option Value), i + n = 60 → m_J l (m_EX E N xs) E mM_X0_growInto (d + 3) 0 0 (m_K none (h.set b2 (k_la 5 (k_g60 q f (k_upto f g 5) m 60))) tg) m_no tg 0 0 (10, [some (.ref bk), some (.ref a2), some (.ref a), some (.int (nI i)), v4], [], h.set b2 (k_la 5 (k_g60 q f (k_upto f g 5) m i))) := by
    intro n
    induction n with
    | zero =>
      intro i v4 hi
      have e : i = 60 := by omega
      subst e
      refine m_J_run hM 3 rfl ⟨trivial, trivial, trivial, trivial⟩ ?_
      refine m_J_if (fun _ => ?_) (fun hc => absurd (by decide) hc)
      exact m_vret hM rfl rfl (Nat.le_of_ble_eq_true rfl) (Nat.le_of_ble_eq_true rfl) (rfl)
    | succ n ih =>
      intro i v4 hi
      refine m_J_run hM 3 rfl ⟨trivial, trivial, trivial, trivial⟩ ?_
      refine m_J_if (fun hc => absurd hc (nI_ge (by omega) (by omega))) (fun _ => ?_)
      refine m_J_run hM 2 rfl ⟨trivial, trivial, trivial⟩ ?_
      refine inner i (by omega) (k_g60 q f (k_upto f g 5) m i) _ (k_BK_set hB hA) (k_LD_set hL hA hne) (k_sn hab hU) (k_ss hA) _ m 0 (by omega) (fun v4 => ?_)
      rw [k_s2]
      refine m_J_run hM 2 rfl ⟨trivial, trivial, trivial⟩ ?_
      refine m_eqS (ih (i + 1) v4 (by omega)) ?_
      rw [k_succ i]
      rfl
  exact loop 60 0 none rfl
end
