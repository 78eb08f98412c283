/-! READER: words, numbers, uses -/
def k_mtf (g : Nat → Int32) (n p : Nat) (t : List Nat) : Nat → Nat → Bool
  | 0, _ => true
  | f + 1, i => if k_at g n (p + i) = nI (t.getD i 0) then k_mtf g n p t f (i + 1) else false
def k_swb (g : Nat → Int32) (n p si : Nat) : Bool := decide (k_rl g n 97 122 (k_sb g n p) = (m_tx si).length) && k_mtf g n (k_sb g n p) (m_tx si) (m_tx si).length 0
def k_swp (g : Nat → Int32) (n p si : Nat) : Nat := if k_swb g n p si then k_sb g n p + (m_tx si).length else k_sb g n p
def k_nm (g : Nat → Int32) (n p : Nat) : Nat → Int32
  | 0 => nI 0
  | i + 1 => nI 10 * k_nm g n p i + k_at g n (p + i) - nI 48
def k_nok (g : Nat → Int32) (n p lo hi : Nat) : Bool := decide (¬ k_rl g n 48 57 (k_sb g n p) < 1 ∧ k_rl g n 48 57 (k_sb g n p) ≤ 2 ∧ ¬ k_nm g n (k_sb g n p) (k_rl g n 48 57 (k_sb g n p)) < nI lo ∧ k_nm g n (k_sb g n p) (k_rl g n 48 57 (k_sb g n p)) ≤ nI hi)
def k_nu (g : Nat → Int32) (n p lo hi : Nat) : Nat := if k_nok g n p lo hi then (k_nm g n (k_sb g n p) (k_rl g n 48 57 (k_sb g n p))).toNatClampNeg else lo
abbrev kR : Type := Nat × Int32
def k_nr (g : Nat → Int32) (n lo hi : Nat) (R : kR) : kR := if k_nok g n R.1 lo hi then (k_sb g n R.1 + k_rl g n 48 57 (k_sb g n R.1), R.2) else (k_sb g n R.1, k_rf R.2 (k_sb g n R.1))
/-- a use: which, and where the reader stands then -/
def k_ru (g : Nat → Int32) (n : Nat) (R : kR) : Nat × kR :=
  let p4 := k_swp g n R.1 4
  let p5 := k_swp g n p4 5
  let p6 := k_swp g n p5 6
  let p7 := k_swp g n p6 7
  let p8 := k_swp g n p7 8
  if k_swb g n R.1 4 then (0, p4, R.2) else if k_swb g n p4 5 then (1, p5, R.2) else if k_swb g n p5 6 then (2, p6, R.2) else if k_swb g n p6 7 then (3, p7, R.2) else if k_swb g n p7 8 then (4, p8, R.2) else (0, p8, k_rf R.2 p8)
/-- a word that must be there -/
def k_rw (g : Nat → Int32) (n si : Nat) (R : kR) : kR := if k_swb g n R.1 si then (k_swp g n R.1 si, R.2) else (k_swp g n R.1 si, k_rf R.2 (k_swp g n R.1 si))
theorem k_swp_le {g : Nat → Int32} {n p si : Nat} (hp : p ≤ n) : k_swp g n p si ≤ n := by
  have h1 := k_sb_le (g := g) hp
  have h2 := k_rl_le (g := g) (a := 97) (b := 122) (by omega) h1.2
  unfold k_swp
  split
  · rename_i hc
    simp only [k_swb, Bool.and_eq_true, decide_eq_true_eq] at hc
    rw [← hc.1]
    exact h2
  · exact h1.2
theorem k_nr_le {g : Nat → Int32} {n lo hi : Nat} {R : kR} (hp : R.1 ≤ n) : (k_nr g n lo hi R).1 ≤ n := by
  have h1 := k_sb_le (g := g) hp
  have h2 := k_rl_le (g := g) (a := 48) (b := 57) (by omega) h1.2
  unfold k_nr
  split
  · exact h2
  · exact h1.2
theorem k_ru_le {g : Nat → Int32} {n : Nat} {R : kR} (hp : R.1 ≤ n) : (k_ru g n R).2.1 ≤ n ∧ (k_ru g n R).1 < 5 := by
  have h4 := k_swp_le (g := g) (si := 4) hp
  have h5 := k_swp_le (g := g) (si := 5) h4
  have h6 := k_swp_le (g := g) (si := 6) h5
  have h7 := k_swp_le (g := g) (si := 7) h6
  have h8 := k_swp_le (g := g) (si := 8) h7
  unfold k_ru
  dsimp only
  repeat' split
  all_goals exact ⟨by assumption, by simp⟩
theorem k_rw_le {g : Nat → Int32} {n si : Nat} {R : kR} (hp : R.1 ≤ n) : (k_rw g n si R).1 ≤ n := by
  have h4 := k_swp_le (g := g) (si := si) hp
  unfold k_rw
  split <;> exact h4
theorem k_nI_of {x : Int32} {b : Nat} (h0 : ¬ x < 0) (h : x ≤ nI b) (hb : b < 100000) : x = nI x.toNatClampNeg ∧ x.toNatClampNeg ≤ b := by
  obtain ⟨j, hj, e⟩ := nI_of h0
  subst e
  rw [nI_clamp hj]
  refine ⟨rfl, ?_⟩
  rcases Nat.lt_or_ge b j with q | q
  · exact absurd h (nI_ge q hj)
  · exact q
theorem k_nu_ok {g : Nat → Int32} {n p lo hi : Nat} (hlh : lo ≤ hi) (hh : hi < 1000) : lo ≤ k_nu g n p lo hi ∧ k_nu g n p lo hi ≤ hi ∧ (k_nok g n p lo hi = true → k_nm g n (k_sb g n p) (k_rl g n 48 57 (k_sb g n p)) = nI (k_nu g n p lo hi)) := by
  unfold k_nu
  by_cases hk : k_nok g n p lo hi = true
  · rw [if_pos hk]
    have hk2 := hk
    simp only [k_nok, decide_eq_true_eq] at hk2
    obtain ⟨-, -, h3, h4⟩ := hk2
    have h0 : ¬ k_nm g n (k_sb g n p) (k_rl g n 48 57 (k_sb g n p)) < 0 := fun q => h3 (Int32.lt_of_lt_of_le q (by rw [← nI_0]; exact nI_le (by omega) (by omega)))
    obtain ⟨e, he⟩ := k_nI_of h0 h4 (by omega)
    refine ⟨?_, he, fun _ => e⟩
    rcases Nat.lt_or_ge (k_nm g n (k_sb g n p) (k_rl g n 48 57 (k_sb g n p))).toNatClampNeg lo with q | q
    · exact absurd (by rw [e]; exact nI_lt q (by omega)) h3
    · exact q
  · rw [if_neg hk]
    exact ⟨Nat.le_refl _, hlh, fun h => absurd h hk⟩
section
variable {l : Launch} {E : mE} {N : Nat} {xs : Nat → Int32} {d : Nat} {tg : Bool} {h : mH} {z tp tb : Nat} {R : kR} {n : Nat} {g : Nat → Int32}
set_option maxHeartbeats 1000000 in
theorem t_sw {si : Nat} (hi : si < 42) (hp : R.1 ≤ n) (hT : k_TP h z tp tb R.1 R.2 n g) : m_Dt l (m_EX E N xs) E mM_X3_skipWord (d + 4) 0 0 [.ref z, .ref (1000001 + si)] h tg (some (.int (k_z (k_swb g n R.1 si)))) (h.set z (k_rd tp (k_swp g n R.1 si) R.2)) tg := by
  have hM := mM_X3_skipWord_ok
  obtain ⟨p, wr⟩ := R
  dsimp only at hp hT ⊢
  obtain ⟨h1, h2, h3, h4⟩ := id hT
  have hq := k_sb_le (g := g) hp
  have hr := k_rl_le (g := g) (a := 97) (b := 122) (by omega) hq.2
  have htx := (k_tx si hi).1
  refine m_Sp_of (by decide) (Nat.le_of_ble_eq_true rfl) ?_
  refine m_J_run hM 1 rfl ⟨trivial, trivial⟩ ?_
  refine m_callV (as := []) (rest := []) (m_EX_warm E N xs) hM rfl kw_X3_27 rfl rfl (h1) ⟨_, rfl, rfl⟩ (t_sb hp hT) rfl (Nat.le_of_ble_eq_true rfl) (Nat.le_of_ble_eq_true rfl) (Nat.le_of_ble_eq_true rfl) (fun ht => ⟨ht, by simp⟩) ?_
  have hT2 := k_TP_z (p' := k_sb g n p) (wr' := wr) hT
  have hs2 : ∀ c, (h.set z (k_rd tp (k_sb g n p) wr)).set z c = h.set z c := fun c => k_s2 h z _ c
  generalize h.set z (k_rd tp (k_sb g n p) wr) = H at hT2 hs2 ⊢
  obtain ⟨h1, h2, h3, h4⟩ := id hT2
  have no : k_swb g n p si = false → ∀ (L : List (Option Value)) , m_J l (m_EX E N xs) E mM_X3_skipWord (d + 4) 0 0 (m_K (some (.int (k_z (k_swb g n p si)))) (h.set z (k_rd tp (k_swp g n p si) wr)) tg) m_no tg 0 0 (22, L, [.int (nI 0)], H) ∧ m_J l (m_EX E N xs) E mM_X3_skipWord (d + 4) 0 0 (m_K (some (.int (k_z (k_swb g n p si)))) (h.set z (k_rd tp (k_swp g n p si) wr)) tg) m_no tg 0 0 (52, L, [.int (nI 0)], H) := by
    intro hb L
    have e : H = h.set z (k_rd tp (k_swp g n p si) wr) := by rw [k_swp, if_neg (by rw [hb]; decide), ← hs2, k_s0 h1]
    exact ⟨m_iret hM rfl rfl (by decide) (Nat.le_refl _) (Nat.le_refl _) (by rw [hb]; rfl) e, m_iret hM rfl rfl (by decide) (Nat.le_refl _) (Nat.le_refl _) (by rw [hb]; rfl) e⟩
  refine m_J_run hM 3 rfl ⟨trivial, trivial, trivial, trivial⟩ ?_
  refine m_callV (as := [.int (nI 97), .int (nI 122)]) (rest := []) (m_EX_warm E N xs) hM rfl kw_X3_131 rfl rfl (h1) ⟨_, rfl, rfl⟩ (t_rl (by omega) (by omega) hq.2 hT2) rfl (Nat.le_of_ble_eq_true rfl) (Nat.le_of_ble_eq_true rfl) (Nat.le_of_ble_eq_true rfl) (fun ht => ⟨ht, by simp⟩) ?_
  refine m_J_run hM 3 rfl ⟨trivial, trivial, trivial, trivial⟩ ?_
  refine m_callT (as := []) (rest := [.int (nI (k_rl g n 97 122 (k_sb g n p)))]) hM rfl kw_X3_135 rfl rfl rfl hi (s_length hi) rfl (Nat.le_of_ble_eq_true rfl) (Nat.le_refl _) (Nat.le_refl _) ?_
  refine m_J_run hM 1 rfl ⟨trivial, trivial⟩ ?_
  refine m_J_if (fun hc => ?_) (fun hc => ?_)
  · have hc2 : k_rl g n 97 122 (k_sb g n p) = (m_tx si).length := (k_eqN (by omega) (by omega)).mp hc
    rw [hc2]
    refine m_J_run hM 2 rfl ⟨trivial, trivial, trivial⟩ ?_
    have loop : ∀ f i : Nat, i + f = (m_tx si).length → (k_swb g n p si = k_mtf g n (k_sb g n p) (m_tx si) f i) → m_J l (m_EX E N xs) E mM_X3_skipWord (d + 4) 0 0 (m_K (some (.int (k_z (k_swb g n p si)))) (h.set z (k_rd tp (k_swp g n p si) wr)) tg) m_no tg 0 0 (25, [some (.ref z), some (.ref (1000001 + si)), some (.int (nI (m_tx si).length)), some (.int (nI i))], [], H) := by
      intro f
      induction f with
      | zero =>
        intro i hi9 hb
        rw [k_mtf] at hb
        refine m_J_run hM 3 rfl ⟨trivial, trivial, trivial, trivial⟩ ?_
        refine m_J_if (fun _ => ?_) (fun hc => absurd (nI_le (by omega) (by omega)) hc)
        refine m_J_run hM 2 rfl ⟨trivial, trivial, trivial⟩ ?_
        refine m_J_getf hM rfl rfl (h1) (rfl) ?_
        refine m_J_run hM 2 rfl ⟨trivial, trivial, trivial⟩ ?_
        rw [nI_add]
        refine m_J_putf hM rfl rfl (h1) (rfl) ?_
        rw [hs2]
        refine m_J_run hM 1 rfl ⟨trivial, trivial⟩ ?_
        exact m_iret hM rfl rfl (by decide) (Nat.le_of_ble_eq_true rfl) (Nat.le_of_ble_eq_true rfl) (by rw [hb]; rfl) (by rw [k_swp, if_pos hb]; rfl)
      | succ f ih =>
        intro i hi9 hb
        rw [k_mtf] at hb
        refine m_J_run hM 3 rfl ⟨trivial, trivial, trivial, trivial⟩ ?_
        refine m_J_if (fun hc => absurd hc (nI_ge (by omega) (by omega))) (fun _ => ?_)
        refine m_J_run hM 1 rfl ⟨trivial, trivial⟩ ?_
        refine m_J_getf hM rfl rfl (h1) (rfl) ?_
        refine m_J_run hM 1 rfl ⟨trivial, trivial⟩ ?_
        refine m_J_getf hM rfl rfl (h1) (rfl) ?_
        refine m_J_run hM 2 rfl ⟨trivial, trivial, trivial⟩ ?_
        rw [nI_add]
        refine m_callV (as := [.int (nI (k_sb g n p + i))]) (rest := []) (m_EX_warm E N xs) hM rfl kw_X3_30 rfl rfl (h2) ⟨_, rfl, rfl⟩ (t_at (by omega) h2 h3 h4) rfl (Nat.le_of_ble_eq_true rfl) (Nat.le_of_ble_eq_true rfl) (Nat.le_of_ble_eq_true rfl) (fun ht => ⟨ht, by simp⟩) ?_
        refine m_J_run hM 2 rfl ⟨trivial, trivial, trivial⟩ ?_
        refine m_callT (as := [.int (nI i)]) (rest := [.int (k_at g n (k_sb g n p + i))]) hM rfl kw_X3_140 rfl rfl rfl hi (s_char hi (by omega)) rfl (Nat.le_of_ble_eq_true rfl) (Nat.le_refl _) (Nat.le_refl _) ?_
        refine m_J_run hM 1 rfl ⟨trivial, trivial⟩ ?_
        refine m_J_if (fun hc3 => ?_) (fun hc3 => ?_)
        · rw [if_pos hc3] at hb
          refine m_J_run hM 2 rfl ⟨trivial, trivial, trivial⟩ ?_
          refine m_eqS (ih (i + 1) (by omega) hb) ?_
          rw [k_succ i]
          rfl
        · rw [if_neg hc3] at hb
          refine m_J_run hM 1 rfl ⟨trivial, trivial⟩ ?_
          exact (no hb _).2
    refine loop (m_tx si).length 0 (by omega) ?_
    simp [k_swb, hc2]
  · have hc2 : ¬ k_rl g n 97 122 (k_sb g n p) = (m_tx si).length := fun e => hc (by rw [e])
    refine m_J_run hM 1 rfl ⟨trivial, trivial⟩ ?_
    exact (no (by simp [k_swb, hc2]) _).1
set_option maxHeartbeats 1000000 in
theorem t_num {lo hi : Nat} (hlh : lo ≤ hi) (hh : hi < 1000) (hp : R.1 ≤ n) (hT : k_TP h z tp tb R.1 R.2 n g) : m_Dt l (m_EX E N xs) E mM_X3_readNumber (d + 2) 0 0 [.ref z, .int (nI lo), .int (nI hi)] h tg (some (.int (nI (k_nu g n R.1 lo hi)))) (h.set z (k_rd tp (k_nr g n lo hi R).1 (k_nr g n lo hi R).2)) tg := by
  have hM := mM_X3_readNumber_ok
  obtain ⟨p, wr⟩ := R
  dsimp only at hp hT ⊢
  obtain ⟨h1, h2, h3, h4⟩ := id hT
  have hq := k_sb_le (g := g) hp
  have hr := k_rl_le (g := g) (a := 48) (b := 57) (by omega) hq.2
  have hnu := k_nu_ok (g := g) (n := n) (p := p) hlh hh
  refine m_Sp_of (by decide) (Nat.le_of_ble_eq_true rfl) ?_
  refine m_J_run hM 1 rfl ⟨trivial, trivial⟩ ?_
  refine m_callV (as := []) (rest := []) (m_EX_warm E N xs) hM rfl kw_X3_27 rfl rfl (h1) ⟨_, rfl, rfl⟩ (t_sb hp hT) rfl (Nat.le_of_ble_eq_true rfl) (Nat.le_of_ble_eq_true rfl) (Nat.le_of_ble_eq_true rfl) (fun ht => ⟨ht, by simp⟩) ?_
  have hT2 := k_TP_z (p' := k_sb g n p) (wr' := wr) hT
  have hs2 : ∀ c, (h.set z (k_rd tp (k_sb g n p) wr)).set z c = h.set z c := fun c => k_s2 h z _ c
  generalize h.set z (k_rd tp (k_sb g n p) wr) = H at hT2 hs2 ⊢
  obtain ⟨h1, h2, h3, h4⟩ := id hT2
  refine m_J_run hM 3 rfl ⟨trivial, trivial, trivial, trivial⟩ ?_
  refine m_callV (as := [.int (nI 48), .int (nI 57)]) (rest := []) (m_EX_warm E N xs) hM rfl kw_X3_131 rfl rfl (h1) ⟨_, rfl, rfl⟩ (t_rl (by omega) (by omega) hq.2 hT2) rfl (Nat.le_of_ble_eq_true rfl) (Nat.le_of_ble_eq_true rfl) (Nat.le_of_ble_eq_true rfl) (fun ht => ⟨ht, by simp⟩) ?_
  have bad : k_nok g n p lo hi = false → k_nu g n p lo hi = lo ∧ k_nr g n lo hi (p, wr) = (k_sb g n p, k_rf wr (k_sb g n p)) := fun hb => ⟨by rw [k_nu, if_neg (by rw [hb]; decide)], by rw [k_nr, if_neg (by rw [hb]; decide)]⟩
  refine m_J_run hM 4 rfl ⟨trivial, trivial, trivial, trivial, trivial⟩ ?_
  refine m_J_if (fun hc1 => ?_) (fun hc1 => ?_)
  · have hb : k_nok g n p lo hi = false := by
      have : k_rl g n 48 57 (k_sb g n p) < 1 := by
        rcases Nat.lt_or_ge (k_rl g n 48 57 (k_sb g n p)) 1 with q | q
        · exact q
        · exact absurd hc1 (nI_nlt q (by omega))
      exact decide_eq_false (fun q => q.1 this)
    refine m_J_run hM 1 rfl ⟨trivial, trivial⟩ ?_
    refine m_callV (as := []) (rest := []) (m_EX_warm E N xs) hM rfl kw_X3_48 rfl rfl (h1) ⟨_, rfl, rfl⟩ (t_ref hT2) rfl (Nat.le_of_ble_eq_true rfl) (Nat.le_of_ble_eq_true rfl) (Nat.le_of_ble_eq_true rfl) (fun ht => ⟨ht, by simp⟩) ?_
    rw [hs2]
    refine m_J_run hM 1 rfl ⟨trivial, trivial⟩ ?_
    exact m_iret hM rfl rfl rfl (Nat.le_of_ble_eq_true rfl) (Nat.le_of_ble_eq_true rfl) (by rw [(bad hb).1]) (by rw [(bad hb).2])
  · have hd1 : ¬ k_rl g n 48 57 (k_sb g n p) < 1 := fun q => hc1 (nI_lt q (by omega))
    refine m_J_run hM 3 rfl ⟨trivial, trivial, trivial, trivial⟩ ?_
    refine m_J_if (fun hc2 => ?_) (fun hc2 => ?_)
    · have hd2 : k_rl g n 48 57 (k_sb g n p) ≤ 2 := by
        rcases Nat.lt_or_ge 2 (k_rl g n 48 57 (k_sb g n p)) with q | q
        · exact absurd hc2 (nI_ge q (by omega))
        · exact q
      refine m_J_run hM 4 rfl ⟨trivial, trivial, trivial, trivial, trivial⟩ ?_
      generalize hdg : k_rl g n 48 57 (k_sb g n p) = dg at *
      have loop : ∀ f i : Nat, i + f = dg → ∀ PR9 : Option Value → mH → Bool → Prop, (∀ v5, m_J l (m_EX E N xs) E mM_X3_readNumber (d + 2) 0 0 PR9 m_no tg 0 0 (72, [some (.ref z), some (.int (nI lo)), some (.int (nI hi)), some (.int (nI dg)), some (.int (k_nm g n (k_sb g n p) dg)), v5], [], H)) → m_J l (m_EX E N xs) E mM_X3_readNumber (d + 2) 0 0 PR9 m_no tg 0 0 (35, [some (.ref z), some (.int (nI lo)), some (.int (nI hi)), some (.int (nI dg)), some (.int (k_nm g n (k_sb g n p) i)), some (.int (nI i))], [], H) := by
        intro f
        induction f with
        | zero =>
          intro i hi9 PR9 hk
          have e : i = dg := by omega
          subst e
          refine m_J_run hM 3 rfl ⟨trivial, trivial, trivial, trivial⟩ ?_
          refine m_J_if (fun _ => ?_) (fun hc => absurd (nI_le (Nat.le_refl _) (by omega)) hc)
          exact hk _
        | succ f ih =>
          intro i hi9 PR9 hk
          refine m_J_run hM 3 rfl ⟨trivial, trivial, trivial, trivial⟩ ?_
          refine m_J_if (fun hc => absurd hc (nI_ge (by omega) (by omega))) (fun _ => ?_)
          refine m_J_run hM 4 rfl ⟨trivial, trivial, trivial, trivial, trivial⟩ ?_
          refine m_J_getf hM rfl rfl (h1) (rfl) ?_
          refine m_J_run hM 1 rfl ⟨trivial, trivial⟩ ?_
          refine m_J_getf hM rfl rfl (h1) (rfl) ?_
          refine m_J_run hM 2 rfl ⟨trivial, trivial, trivial⟩ ?_
          rw [nI_add]
          refine m_callV (as := [.int (nI (k_sb g n p + i))]) (rest := [.int (nI 10 * k_nm g n (k_sb g n p) i)]) (m_EX_warm E N xs) hM rfl kw_X3_30 rfl rfl (h2) ⟨_, rfl, rfl⟩ (t_at (by omega) h2 h3 h4) rfl (Nat.le_of_ble_eq_true rfl) (Nat.le_of_ble_eq_true rfl) (Nat.le_of_ble_eq_true rfl) (fun ht => ⟨ht, by simp⟩) ?_
          refine m_J_run hM 6 rfl ⟨trivial, trivial, trivial, trivial, trivial, trivial, trivial⟩ ?_
          refine m_eqS (ih (i + 1) (by omega) PR9 hk) ?_
          rw [k_succ i]
          rfl
      refine loop dg 0 (by omega) _ (fun v5 => ?_)
      clear loop
      have fail : k_nok g n p lo hi = false → m_J l (m_EX E N xs) E mM_X3_readNumber (d + 2) 0 0 (m_K (some (.int (nI (k_nu g n p lo hi)))) (h.set z (k_rd tp (k_nr g n lo hi (p, wr)).1 (k_nr g n lo hi (p, wr)).2)) tg) m_no tg 0 0 (84, [some (.ref z), some (.int (nI lo)), some (.int (nI hi)), some (.int (nI dg)), some (.int (k_nm g n (k_sb g n p) dg)), v5], [], H) := by
        intro hb
        refine m_J_run hM 1 rfl ⟨trivial, trivial⟩ ?_
        refine m_callV (as := []) (rest := []) (m_EX_warm E N xs) hM rfl kw_X3_48 rfl rfl (h1) ⟨_, rfl, rfl⟩ (t_ref hT2) rfl (Nat.le_of_ble_eq_true rfl) (Nat.le_of_ble_eq_true rfl) (Nat.le_of_ble_eq_true rfl) (fun ht => ⟨ht, by simp⟩) ?_
        rw [hs2]
        refine m_J_run hM 1 rfl ⟨trivial, trivial⟩ ?_
        exact m_iret hM rfl rfl rfl (Nat.le_of_ble_eq_true rfl) (Nat.le_of_ble_eq_true rfl) (by rw [(bad hb).1]) (by rw [(bad hb).2])
      refine m_J_run hM 3 rfl ⟨trivial, trivial, trivial, trivial⟩ ?_
      refine m_J_if (fun hc3 => ?_) (fun hc3 => ?_)
      · exact fail (decide_eq_false (fun q => q.2.2.1 (by rw [hdg]; exact hc3)))
      · refine m_J_run hM 3 rfl ⟨trivial, trivial, trivial, trivial⟩ ?_
        refine m_J_if (fun hc4 => ?_) (fun hc4 => ?_)
        · have hk : k_nok g n p lo hi = true := decide_eq_true (by rw [hdg]; exact ⟨hd1, hd2, hc3, hc4⟩)
          have hv := hnu.2.2 hk
          refine m_J_run hM 2 rfl ⟨trivial, trivial, trivial⟩ ?_
          refine m_J_getf hM rfl rfl (h1) (rfl) ?_
          refine m_J_run hM 2 rfl ⟨trivial, trivial, trivial⟩ ?_
          rw [nI_add]
          refine m_J_putf hM rfl rfl (h1) (rfl) ?_
          rw [hs2]
          refine m_J_run hM 1 rfl ⟨trivial, trivial⟩ ?_
          exact m_iret hM rfl rfl rfl (Nat.le_of_ble_eq_true rfl) (Nat.le_of_ble_eq_true rfl) (hv) (by rw [k_nr, if_pos hk]; dsimp only; rw [hdg]; rfl)
        · exact fail (decide_eq_false (fun q => hc4 (by rw [← hdg]; exact q.2.2.2)))
    · have hb : k_nok g n p lo hi = false := decide_eq_false (fun q => hc2 (nI_le q.2.1 (by omega)))
      refine m_J_run hM 1 rfl ⟨trivial, trivial⟩ ?_
      refine m_callV (as := []) (rest := []) (m_EX_warm E N xs) hM rfl kw_X3_48 rfl rfl (h1) ⟨_, rfl, rfl⟩ (t_ref hT2) rfl (Nat.le_of_ble_eq_true rfl) (Nat.le_of_ble_eq_true rfl) (Nat.le_of_ble_eq_true rfl) (fun ht => ⟨ht, by simp⟩) ?_
      rw [hs2]
      refine m_J_run hM 1 rfl ⟨trivial, trivial⟩ ?_
      exact m_iret hM rfl rfl rfl (Nat.le_of_ble_eq_true rfl) (Nat.le_of_ble_eq_true rfl) (by rw [(bad hb).1]) (by rw [(bad hb).2])
end
