/-! LAND: uses, soils, which squares are near -/
theorem k_eqN {a b : Nat} (ha : a < 100000) (hb : b < 100000) : nI a = nI b ↔ a = b := nI_eq (by omega) (by omega)
theorem k_z1 {b : Bool} (h : ¬ k_z b = 0) : b = true := by
  cases b with
  | true => rfl
  | false => exact absurd (by decide) h
theorem k_z0 {b : Bool} (h : k_z b = 0) : b = false := by
  cases b with
  | false => rfl
  | true => exact absurd h (by decide)
def k_arow (i : Nat) : Nat → Int64 := k_upto (fun s => k_ar s i) (fun _ => Int64.ofNat 0) 60
def k_arows (w : Nat → Nat) : Nat → Option Nat := fun i => if i < 6 then some (w i) else none
/-- a land at a, its uses' cell at u and their sets at b, its soils at s, the rows of nearness at r and w -/
def k_LD (h : mH) (a u b s r : Nat) (w : Nat → Nat) (f : Nat → Int64) (so : Nat → Int32) : Prop :=
  h[a]? = some (.inr (1, [.ref u, .ref s, .ref r])) ∧ h[u]? = some (k_uses b) ∧ h[b]? = some (k_la 5 f) ∧ h[s]? = some (k_ia 60 so) ∧ h[r]? = some (k_ra 6 6 (k_arows w)) ∧ ∀ i, i < 6 → h[w i]? = some (k_la 60 (k_arow i))
def k_soil (so : Nat → Int32) (x : Int64) (v : Int32) : Nat → Nat → Int32
  | 0 => so
  | n + 1 => if k_has x n then upd (k_soil so x v n) n v else k_soil so x v n
def k_cp (f : Nat → Int64) (o1 o2 st : Nat) : Nat → Int32
  | 0 => nI 0
  | n + 1 => if k_has (f o1) n then k_cp f o1 o2 st n + k_pc (k_ar n st &&& f o2) else k_cp f o1 o2 st n
def k_cs (f : Nat → Int64) (so : Nat → Int32) (u : Nat) (lo : Int32) : Nat → Int32
  | 0 => nI 0
  | n + 1 => if k_has (f u) n ∧ ¬ so n < lo then k_cs f so u lo n + nI 1 else k_cs f so u lo n
section
variable {l : Launch} {E : mE} {N : Nat} {xs : Nat → Int32} {d : Nat} {tg : Bool} {h : mH} {a u b s r : Nat} {w : Nat → Nat} {f : Nat → Int64} {so : Nat → Int32}
theorem l_around {q st v : Nat} (hq : q < 60) (hs : st < 6) (hv : v < 5) (hL : k_LD h a u b s r w f so) : m_Dt l (m_EX E N xs) E mM_X1_countAround (d + 1) 0 0 [.ref a, .int (nI q), .int (nI st), .int (nI v)] h tg (some (.int (k_pc (k_ar q st &&& f v)))) h tg := by
  have hM := mM_X1_countAround_ok
  obtain ⟨h1, h2, h3, h4, h5, h6⟩ := hL
  refine m_Sp_of (by decide) (Nat.le_of_ble_eq_true rfl) ?_
  refine m_J_run hM 1 rfl ⟨trivial, trivial⟩ ?_
  refine m_J_getf hM rfl rfl (h1) (rfl) ?_
  refine m_J_run hM 1 rfl ⟨trivial, trivial⟩ ?_
  refine m_aaldN hM rfl (h5) rfl (if_pos hs) (by omega) (by omega) ?_
  refine m_J_run hM 1 rfl ⟨trivial, trivial⟩ ?_
  refine m_laldN hM rfl (h6 st hs) (by omega) (by omega) ?_
  rw [show k_arow st q = k_ar q st from k_upto_lt _ _ hq]
  refine m_J_run hM 1 rfl ⟨trivial, trivial⟩ ?_
  refine m_J_getf hM rfl rfl (h1) (rfl) ?_
  refine m_J_getf hM rfl rfl (h2) (rfl) ?_
  refine m_J_run hM 1 rfl ⟨trivial, trivial⟩ ?_
  refine m_laldN hM rfl (h3) (by omega) (by omega) ?_
  refine m_J_run hM 1 rfl ⟨trivial, trivial⟩ ?_
  refine m_callS (as := [.long (k_ar q st &&& f v)]) (rest := []) (m_EX_warm E N xs) hM rfl kw_X1_40 rfl (s_pc _) rfl (Nat.le_of_ble_eq_true rfl) (Nat.le_of_ble_eq_true rfl) (Nat.le_of_ble_eq_true rfl) (fun ht => ⟨ht, Nat.le_refl _⟩) ?_
  exact m_iret hM rfl rfl rfl (Nat.le_of_ble_eq_true rfl) (Nat.le_of_ble_eq_true rfl) (rfl) (rfl)
theorem l_pairs {o1 o2 st : Nat} (hs : st < 6) (ho1 : o1 < 5) (ho2 : o2 < 5) (hL : k_LD h a u b s r w f so) : m_Dt l (m_EX E N xs) E mM_X1_countPairs (d + 2) 0 0 [.ref a, .int (nI o1), .int (nI o2), .int (nI st)] h tg (some (.int (k_cp f o1 o2 st 60))) h tg := by
  have hM := mM_X1_countPairs_ok
  obtain ⟨h1, h2, h3, h4, h5, h6⟩ := id hL
  refine m_Sp_of (by decide) (Nat.le_of_ble_eq_true rfl) ?_
  refine m_J_run hM 1 rfl ⟨trivial, trivial⟩ ?_
  refine m_J_getf hM rfl rfl (h1) (rfl) ?_
  refine m_J_run hM 1 rfl ⟨trivial, trivial⟩ ?_
  refine m_callV (as := [.int (nI o1)]) (rest := []) (m_EX_warm E N xs) hM rfl kw_X1_46 rfl rfl (h2) ⟨_, rfl, rfl⟩ (u_of ho1 h2 h3) rfl (Nat.le_of_ble_eq_true rfl) (Nat.le_of_ble_eq_true rfl) (Nat.le_of_ble_eq_true rfl) (fun ht => ⟨ht, by simp⟩) ?_
  refine m_J_run hM 5 rfl ⟨trivial, trivial, trivial, trivial, trivial, trivial⟩ ?_
  have loop : ∀ n i : Nat, i + n = 60 → m_J l (m_EX E N xs) E mM_X1_countPairs (d + 2) 0 0 (m_K (some (.int (k_cp f o1 o2 st 60))) h tg) m_no tg 0 0 (16, [some (.ref a), some (.int (nI o1)), some (.int (nI o2)), some (.int (nI st)), some (.long (f o1)), none, some (.int (k_cp f o1 o2 st i)), some (.int (nI i))], [], h) := by
    intro n
    induction n with
    | zero =>
      intro i hi
      have e : i = 60 := by omega
      subst e
      refine m_J_run hM 3 rfl ⟨trivial, trivial, trivial, trivial⟩ ?_
      refine m_J_if (fun _ => ?_) (fun hc => absurd (by decide) hc)
      refine m_J_run hM 1 rfl ⟨trivial, trivial⟩ ?_
      exact m_iret hM rfl rfl rfl (Nat.le_of_ble_eq_true rfl) (Nat.le_of_ble_eq_true rfl) (rfl) (rfl)
    | succ n ih =>
      intro i hi
      refine m_J_run hM 3 rfl ⟨trivial, trivial, trivial, trivial⟩ ?_
      refine m_J_if (fun hc => absurd hc (nI_ge (by omega) (by omega))) (fun _ => ?_)
      refine m_J_run hM 2 rfl ⟨trivial, trivial, trivial⟩ ?_
      refine m_callS (as := [.long (f o1), .int (nI i)]) (rest := []) (m_EX_warm E N xs) hM rfl kw_X1_32 rfl (s_has _ i) rfl (Nat.le_of_ble_eq_true rfl) (Nat.le_of_ble_eq_true rfl) (Nat.le_of_ble_eq_true rfl) (fun ht => ⟨ht, Nat.le_refl _⟩) ?_
      refine m_J_run hM 1 rfl ⟨trivial, trivial⟩ ?_
      refine m_J_if (fun hc => ?_) (fun hc => ?_)
      · have hc2 := k_z0 hc
        refine m_J_run hM 2 rfl ⟨trivial, trivial, trivial⟩ ?_
        refine m_eqS (ih (i + 1) (by omega)) ?_
        rw [k_succ i, k_cp, if_neg (by rw [hc2]; decide)]
        rfl
      · have hc2 := k_z1 hc
        refine m_J_run hM 5 rfl ⟨trivial, trivial, trivial, trivial, trivial, trivial⟩ ?_
        refine m_callV (as := [.int (nI i), .int (nI st), .int (nI o2)]) (rest := [.int (k_cp f o1 o2 st i)]) (m_EX_warm E N xs) hM rfl kw_X1_50 rfl rfl (h1) ⟨_, rfl, rfl⟩ (l_around (by omega) hs ho2 hL) rfl (Nat.le_of_ble_eq_true rfl) (Nat.le_of_ble_eq_true rfl) (Nat.le_of_ble_eq_true rfl) (fun ht => ⟨ht, by simp⟩) ?_
        refine m_J_run hM 4 rfl ⟨trivial, trivial, trivial, trivial, trivial⟩ ?_
        refine m_eqS (ih (i + 1) (by omega)) ?_
        rw [k_succ i, k_cp, if_pos hc2]
        rfl
  exact loop 60 0 rfl
theorem l_onSoil {v : Nat} {lo : Int32} (hv : v < 5) (hL : k_LD h a u b s r w f so) : m_Dt l (m_EX E N xs) E mM_X1_countOnSoil (d + 2) 0 0 [.ref a, .int (nI v), .int lo] h tg (some (.int (k_cs f so v lo 60))) h tg := by
  have hM := mM_X1_countOnSoil_ok
  obtain ⟨h1, h2, h3, h4, h5, h6⟩ := id hL
  refine m_Sp_of (by decide) (Nat.le_of_ble_eq_true rfl) ?_
  refine m_J_run hM 1 rfl ⟨trivial, trivial⟩ ?_
  refine m_J_getf hM rfl rfl (h1) (rfl) ?_
  refine m_J_run hM 1 rfl ⟨trivial, trivial⟩ ?_
  refine m_callV (as := [.int (nI v)]) (rest := []) (m_EX_warm E N xs) hM rfl kw_X1_46 rfl rfl (h2) ⟨_, rfl, rfl⟩ (u_of hv h2 h3) rfl (Nat.le_of_ble_eq_true rfl) (Nat.le_of_ble_eq_true rfl) (Nat.le_of_ble_eq_true rfl) (fun ht => ⟨ht, by simp⟩) ?_
  refine m_J_run hM 5 rfl ⟨trivial, trivial, trivial, trivial, trivial, trivial⟩ ?_
  have loop : ∀ n i : Nat, i + n = 60 → m_J l (m_EX E N xs) E mM_X1_countOnSoil (d + 2) 0 0 (m_K (some (.int (k_cs f so v lo 60))) h tg) m_no tg 0 0 (15, [some (.ref a), some (.int (nI v)), some (.int lo), some (.long (f v)), none, some (.int (k_cs f so v lo i)), some (.int (nI i))], [], h) := by
    intro n
    induction n with
    | zero =>
      intro i hi
      have e : i = 60 := by omega
      subst e
      refine m_J_run hM 3 rfl ⟨trivial, trivial, trivial, trivial⟩ ?_
      refine m_J_if (fun _ => ?_) (fun hc => absurd (by decide) hc)
      refine m_J_run hM 1 rfl ⟨trivial, trivial⟩ ?_
      exact m_iret hM rfl rfl rfl (Nat.le_of_ble_eq_true rfl) (Nat.le_of_ble_eq_true rfl) (rfl) (rfl)
    | succ n ih =>
      intro i hi
      have e9 : k_cs f so v lo (i + 1) = if k_has (f v) i ∧ ¬ so i < lo then k_cs f so v lo i + nI 1 else k_cs f so v lo i := rfl
      refine m_J_run hM 3 rfl ⟨trivial, trivial, trivial, trivial⟩ ?_
      refine m_J_if (fun hc => absurd hc (nI_ge (by omega) (by omega))) (fun _ => ?_)
      refine m_J_run hM 2 rfl ⟨trivial, trivial, trivial⟩ ?_
      refine m_callS (as := [.long (f v), .int (nI i)]) (rest := []) (m_EX_warm E N xs) hM rfl kw_X1_32 rfl (s_has _ i) rfl (Nat.le_of_ble_eq_true rfl) (Nat.le_of_ble_eq_true rfl) (Nat.le_of_ble_eq_true rfl) (fun ht => ⟨ht, Nat.le_refl _⟩) ?_
      refine m_J_run hM 1 rfl ⟨trivial, trivial⟩ ?_
      refine m_J_if (fun hc => ?_) (fun hc => ?_)
      · have hc2 := k_z0 hc
        refine m_J_run hM 2 rfl ⟨trivial, trivial, trivial⟩ ?_
        refine m_eqS (ih (i + 1) (by omega)) ?_
        rw [k_succ i, e9, if_neg (by rw [hc2]; simp)]
        rfl
      · have hc2 := k_z1 hc
        refine m_J_run hM 1 rfl ⟨trivial, trivial⟩ ?_
        refine m_J_getf hM rfl rfl (h1) (rfl) ?_
        refine m_J_run hM 1 rfl ⟨trivial, trivial⟩ ?_
        refine m_ialdN hM rfl (h4) (by omega) (by omega) ?_
        refine m_J_run hM 2 rfl ⟨trivial, trivial, trivial⟩ ?_
        refine m_J_if (fun hc3 => ?_) (fun hc3 => ?_)
        · refine m_J_run hM 2 rfl ⟨trivial, trivial, trivial⟩ ?_
          refine m_eqS (ih (i + 1) (by omega)) ?_
          rw [k_succ i, e9, if_neg (fun q => q.2 hc3)]
          rfl
        · refine m_J_run hM 3 rfl ⟨trivial, trivial, trivial, trivial⟩ ?_
          refine m_eqS (ih (i + 1) (by omega)) ?_
          rw [k_succ i, e9, if_pos ⟨hc2, hc3⟩]
          rfl
  exact loop 60 0 rfl
theorem l_putSoil {x : Int64} {v : Int32} (hL : k_LD h a u b s r w f so) : m_Dt l (m_EX E N xs) E mM_X1_putSoil (d + 2) 0 0 [.ref a, .long x, .int v] h tg none (h.set s (k_ia 60 (k_soil so x v 60))) tg := by
  have hM := mM_X1_putSoil_ok
  obtain ⟨h1, h2, h3, h4, h5, h6⟩ := id hL
  have has := k_ne h1 h4
  refine m_Sp_of (by decide) (Nat.le_of_ble_eq_true rfl) ?_
  refine m_J_run hM 2 rfl ⟨trivial, trivial, trivial⟩ ?_
  have loop : ∀ n i : Nat, i + n = 60 → m_J l (m_EX E N xs) E mM_X1_putSoil (d + 2) 0 0 (m_K none (h.set s (k_ia 60 (k_soil so x v 60))) tg) m_no tg 0 0 (3, [some (.ref a), some (.long x), none, some (.int v), some (.int (nI i))], [], h.set s (k_ia 60 (k_soil so x v i))) := by
    intro n
    induction n with
    | zero =>
      intro i hi
      have e : i = 60 := by omega
      subst e
      refine m_J_run hM 3 rfl ⟨trivial, trivial, trivial, trivial⟩ ?_
      refine m_J_if (fun _ => ?_) (fun hc => absurd (by decide) hc)
      exact m_vret hM rfl rfl (Nat.le_of_ble_eq_true rfl) (Nat.le_of_ble_eq_true rfl) (rfl)
    | succ n ih =>
      intro i hi
      have e9 : k_soil so x v (i + 1) = if k_has x i then upd (k_soil so x v i) i v else k_soil so x v i := rfl
      refine m_J_run hM 3 rfl ⟨trivial, trivial, trivial, trivial⟩ ?_
      refine m_J_if (fun hc => absurd hc (nI_ge (by omega) (by omega))) (fun _ => ?_)
      refine m_J_run hM 2 rfl ⟨trivial, trivial, trivial⟩ ?_
      refine m_callS (as := [.long x, .int (nI i)]) (rest := []) (m_EX_warm E N xs) hM rfl kw_X1_32 rfl (s_has _ i) rfl (Nat.le_of_ble_eq_true rfl) (Nat.le_of_ble_eq_true rfl) (Nat.le_of_ble_eq_true rfl) (fun ht => ⟨ht, Nat.le_refl _⟩) ?_
      refine m_J_run hM 1 rfl ⟨trivial, trivial⟩ ?_
      refine m_J_if (fun hc => ?_) (fun hc => ?_)
      · have hc2 := k_z0 hc
        refine m_J_run hM 2 rfl ⟨trivial, trivial, trivial⟩ ?_
        refine m_eqS (ih (i + 1) (by omega)) ?_
        rw [k_succ i, e9, if_neg (by rw [hc2]; decide)]
        rfl
      · have hc2 := k_z1 hc
        refine m_J_run hM 1 rfl ⟨trivial, trivial⟩ ?_
        refine m_J_getf hM rfl rfl (k_sn has h1) (rfl) ?_
        refine m_J_run hM 2 rfl ⟨trivial, trivial, trivial⟩ ?_
        refine m_iastN hM rfl (k_ss h4) (by omega) (by omega) ?_
        rw [k_s2]
        refine m_J_run hM 2 rfl ⟨trivial, trivial, trivial⟩ ?_
        refine m_eqS (ih (i + 1) (by omega)) ?_
        rw [k_succ i, e9, if_pos hc2]
        rfl
  have h0 := loop 60 0 rfl
  rw [show k_soil so x v 0 = so from rfl, k_s0 h4] at h0
  exact h0
end
