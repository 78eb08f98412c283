/-! THE LAW'S ROADS: what returns (written by wip/gen_law.py) -/
section
variable {l : Launch} {E : mE} {N : Nat} {xs : Nat → Int32} {d : Nat}
set_option maxHeartbeats 4000000 in
set_option maxRecDepth 20000 in
theorem L_use {I : mH → Prop} {i kc ks : Nat} {o5 o6 : Option Value} {H H1 : mH} {fs gs : List Value} (hi : i + 5 < N) (hN : N ≤ 3072) (hkc : kc + 1 ≤ 601024) (hks : ks + 6 ≤ 7293034) (h0 : H[0]? = some (.inr (7, fs))) (h70 : H1[70]? = some (.inr (8, gs))) {bb : Int32} (hX : m_Dt l (m_EX E N xs) E mM_L_use (d + 13) 0 0 [.ref 0, .int (xs (i + 1)), .int (xs (i + 2)), .int (xs (i + 3)), .ref 92] H false (some (.int (nI 0))) H1 false) (hY : m_Sp l (m_EX E N xs) E mM_X9_use (d + 13) 0 0 [.ref 70, .int (xs (i + 1)), .int (xs (i + 2)), .int (xs (i + 3))] H1 false (fun v h9 tg9 => v = some (.int bb) ∧ tg9 = false ∧ I h9 ∧ w_T l E N xs d (nI 0) h9 ∧ ∃ w : Nat → Int64, h9[92]? = some (k_la 1 w) ∧ w 0 = bb.toInt64) m_no) (K : ∀ (H' : mH) (kc' ks' : Nat) (o5 o6 : Option Value), I H' → kc' ≤ kc + 1 → ks' ≤ ks + 6 → m_J l (m_EX E N xs) E mM_L_law (d + 14) 601024 7293034 (fun v _ _ => v = some (.int (nI 1))) m_no false kc' ks' (1133, [some (.ref 1000000), some (.ref 0), some (.ref 70), some (.ref 92), some (.int (nI i)), o5, o6], [], H')) : m_J l (m_EX E N xs) E mM_L_law (d + 14) 601024 7293034 (fun v _ _ => v = some (.int (nI 1))) m_no false kc ks (246, [some (.ref 1000000), some (.ref 0), some (.ref 70), some (.ref 92), some (.int (nI i)), o5, o6], [], H) := by
  have hM := mM_L_law_ok
  refine m_J_run hM 5 rfl ⟨trivial, trivial, trivial, trivial, trivial, trivial⟩ ?_
  rw [nI_add i 1]
  refine m_J_xld hM rfl (vp_in_nI (by omega) (by omega)) ?_
  rw [nI_clamp (show i + 1 < 2 ^ 31 by omega)]
  refine m_J_run hM 4 rfl ⟨trivial, trivial, trivial, trivial, trivial⟩ ?_
  rw [nI_add i 2]
  refine m_J_xld hM rfl (vp_in_nI (by omega) (by omega)) ?_
  rw [nI_clamp (show i + 2 < 2 ^ 31 by omega)]
  refine m_J_run hM 4 rfl ⟨trivial, trivial, trivial, trivial, trivial⟩ ?_
  rw [nI_add i 3]
  refine m_J_xld hM rfl (vp_in_nI (by omega) (by omega)) ?_
  rw [nI_clamp (show i + 3 < 2 ^ 31 by omega)]
  refine m_J_run hM 1 rfl ⟨trivial, trivial⟩ ?_
  refine m_callS (as := [.ref 0, .int (xs (i + 1)), .int (xs (i + 2)), .int (xs (i + 3)), .ref 92]) (rest := []) (m_EX_warm E N xs) hM rfl kw_L_75 rfl hX rfl (Nat.le_of_ble_eq_true rfl) (by omega) (by omega) (fun ht => absurd ht (by decide)) ?_
  refine m_J_run hM 6 rfl ⟨trivial, trivial, trivial, trivial, trivial, trivial, trivial⟩ ?_
  rw [nI_add i 1]
  refine m_J_xld hM rfl (vp_in_nI (by omega) (by omega)) ?_
  rw [nI_clamp (show i + 1 < 2 ^ 31 by omega)]
  refine m_J_run hM 4 rfl ⟨trivial, trivial, trivial, trivial, trivial⟩ ?_
  rw [nI_add i 2]
  refine m_J_xld hM rfl (vp_in_nI (by omega) (by omega)) ?_
  rw [nI_clamp (show i + 2 < 2 ^ 31 by omega)]
  refine m_J_run hM 4 rfl ⟨trivial, trivial, trivial, trivial, trivial⟩ ?_
  rw [nI_add i 3]
  refine m_J_xld hM rfl (vp_in_nI (by omega) (by omega)) ?_
  rw [nI_clamp (show i + 3 < 2 ^ 31 by omega)]
  refine m_J_callV (as := [.int (xs (i + 1)), .int (xs (i + 2)), .int (xs (i + 3))]) (rest := []) (m_EX_warm E N xs) hM rfl kw_L_80 rfl rfl rfl h70 ⟨_, rfl, rfl⟩ (Nat.le_of_ble_eq_true rfl) (by omega) (by omega) hY (fun v h9 tg9 hp => ?_) (fun nm h9 hp => hp.elim)
  obtain ⟨rfl, rfl, hI, ⟨hT, gs9, hg9⟩, w9, hw9, hv9⟩ := hp
  refine ⟨fun ht => absurd ht (by decide), ?_⟩
  refine m_J_run hM 2 rfl ⟨trivial, trivial, trivial⟩ ?_
  refine m_callV (as := []) (rest := []) (m_EX_warm E N xs) hM rfl kw_L_81 rfl rfl hg9 ⟨_, rfl, rfl⟩ hT rfl (Nat.le_of_ble_eq_true rfl) (by omega) (by omega) (fun ht => absurd ht (by decide)) ?_
  refine m_J_run hM 2 rfl ⟨trivial, trivial, trivial⟩ ?_
  refine m_J_if (fun _ => ?_) (fun hc => absurd rfl hc)
  refine m_J_run hM 2 rfl ⟨trivial, trivial, trivial⟩ ?_
  refine m_J_if (fun hc => absurd rfl hc) (fun _ => ?_)
  refine m_J_run hM 2 rfl ⟨trivial, trivial, trivial⟩ ?_
  refine m_laldN hM rfl hw9 (by omega) (by omega) ?_
  refine m_J_run hM 4 rfl ⟨trivial, trivial, trivial, trivial, trivial⟩ ?_
  refine m_J_if (fun _ => ?_) (fun hc => absurd ((k_lcmp0 _ _).mpr hv9) hc)
  refine m_J_run hM 1 rfl ⟨trivial, trivial⟩ ?_
  exact K _ _ _ _ _ hI (by omega) (by omega)
set_option maxHeartbeats 4000000 in
set_option maxRecDepth 20000 in
theorem L_soil {I : mH → Prop} {i kc ks : Nat} {o5 o6 : Option Value} {H H1 : mH} {fs gs : List Value} (hi : i + 5 < N) (hN : N ≤ 3072) (hkc : kc + 1 ≤ 601024) (hks : ks + 6 ≤ 7293034) (h0 : H[0]? = some (.inr (7, fs))) (h70 : H1[70]? = some (.inr (8, gs))) (hX : m_Dt l (m_EX E N xs) E mM_L_soil (d + 13) 0 0 [.ref 0, .int (xs (i + 1)), .int (xs (i + 2)), .int (xs (i + 3))] H false (some (.int (nI 0))) H1 false) (hY : m_Sp l (m_EX E N xs) E mM_X9_soil (d + 13) 0 0 [.ref 70, .int (xs (i + 1)), .int (xs (i + 2)), .int (xs (i + 3))] H1 false (fun v h9 tg9 => v = none ∧ tg9 = false ∧ I h9 ∧ w_T l E N xs d (nI 0) h9) m_no) (K : ∀ (H' : mH) (kc' ks' : Nat) (o5 o6 : Option Value), I H' → kc' ≤ kc + 1 → ks' ≤ ks + 6 → m_J l (m_EX E N xs) E mM_L_law (d + 14) 601024 7293034 (fun v _ _ => v = some (.int (nI 1))) m_no false kc' ks' (1133, [some (.ref 1000000), some (.ref 0), some (.ref 70), some (.ref 92), some (.int (nI i)), o5, o6], [], H')) : m_J l (m_EX E N xs) E mM_L_law (d + 14) 601024 7293034 (fun v _ _ => v = some (.int (nI 1))) m_no false kc ks (326, [some (.ref 1000000), some (.ref 0), some (.ref 70), some (.ref 92), some (.int (nI i)), o5, o6], [], H) := by
  have hM := mM_L_law_ok
  refine m_J_run hM 5 rfl ⟨trivial, trivial, trivial, trivial, trivial, trivial⟩ ?_
  rw [nI_add i 1]
  refine m_J_xld hM rfl (vp_in_nI (by omega) (by omega)) ?_
  rw [nI_clamp (show i + 1 < 2 ^ 31 by omega)]
  refine m_J_run hM 4 rfl ⟨trivial, trivial, trivial, trivial, trivial⟩ ?_
  rw [nI_add i 2]
  refine m_J_xld hM rfl (vp_in_nI (by omega) (by omega)) ?_
  rw [nI_clamp (show i + 2 < 2 ^ 31 by omega)]
  refine m_J_run hM 4 rfl ⟨trivial, trivial, trivial, trivial, trivial⟩ ?_
  rw [nI_add i 3]
  refine m_J_xld hM rfl (vp_in_nI (by omega) (by omega)) ?_
  rw [nI_clamp (show i + 3 < 2 ^ 31 by omega)]
  refine m_callS (as := [.ref 0, .int (xs (i + 1)), .int (xs (i + 2)), .int (xs (i + 3))]) (rest := []) (m_EX_warm E N xs) hM rfl kw_L_84 rfl hX rfl (Nat.le_of_ble_eq_true rfl) (by omega) (by omega) (fun ht => absurd ht (by decide)) ?_
  refine m_J_run hM 6 rfl ⟨trivial, trivial, trivial, trivial, trivial, trivial, trivial⟩ ?_
  rw [nI_add i 1]
  refine m_J_xld hM rfl (vp_in_nI (by omega) (by omega)) ?_
  rw [nI_clamp (show i + 1 < 2 ^ 31 by omega)]
  refine m_J_run hM 4 rfl ⟨trivial, trivial, trivial, trivial, trivial⟩ ?_
  rw [nI_add i 2]
  refine m_J_xld hM rfl (vp_in_nI (by omega) (by omega)) ?_
  rw [nI_clamp (show i + 2 < 2 ^ 31 by omega)]
  refine m_J_run hM 4 rfl ⟨trivial, trivial, trivial, trivial, trivial⟩ ?_
  rw [nI_add i 3]
  refine m_J_xld hM rfl (vp_in_nI (by omega) (by omega)) ?_
  rw [nI_clamp (show i + 3 < 2 ^ 31 by omega)]
  refine m_J_callV (as := [.int (xs (i + 1)), .int (xs (i + 2)), .int (xs (i + 3))]) (rest := []) (m_EX_warm E N xs) hM rfl kw_L_87 rfl rfl rfl h70 ⟨_, rfl, rfl⟩ (Nat.le_of_ble_eq_true rfl) (by omega) (by omega) hY (fun v h9 tg9 hp => ?_) (fun nm h9 hp => hp.elim)
  obtain ⟨rfl, rfl, hI, ⟨hT, gs9, hg9⟩⟩ := hp
  refine ⟨fun ht => absurd ht (by decide), ?_⟩
  refine m_J_run hM 1 rfl ⟨trivial, trivial⟩ ?_
  refine m_callV (as := []) (rest := []) (m_EX_warm E N xs) hM rfl kw_L_81 rfl rfl hg9 ⟨_, rfl, rfl⟩ hT rfl (Nat.le_of_ble_eq_true rfl) (by omega) (by omega) (fun ht => absurd ht (by decide)) ?_
  refine m_J_run hM 2 rfl ⟨trivial, trivial, trivial⟩ ?_
  refine m_J_if (fun _ => ?_) (fun hc => absurd rfl hc)
  refine m_J_run hM 1 rfl ⟨trivial, trivial⟩ ?_
  exact K _ _ _ _ _ hI (by omega) (by omega)
set_option maxHeartbeats 4000000 in
set_option maxRecDepth 20000 in
theorem L_free {I : mH → Prop} {i kc ks : Nat} {o5 o6 : Option Value} {H H1 : mH} {fs gs : List Value} (hi : i + 5 < N) (hN : N ≤ 3072) (hkc : kc + 1 ≤ 601024) (hks : ks + 6 ≤ 7293034) (h0 : H[0]? = some (.inr (7, fs))) (h70 : H1[70]? = some (.inr (8, gs))) {bb : Bool} (hX : m_Dt l (m_EX E N xs) E mM_L_free (d + 13) 0 0 [.ref 0, .int (xs (i + 1)), .int (k_z (decide (xs (i + 2) ≠ 0))), .ref 92] H false (some (.int (nI 0))) H1 false) (hY : m_Sp l (m_EX E N xs) E mM_X9_free (d + 13) 0 0 [.ref 70, .int (xs (i + 1)), .int (k_z (decide (xs (i + 2) ≠ 0)))] H1 false (fun v h9 tg9 => v = some (.int (k_z bb)) ∧ tg9 = false ∧ I h9 ∧ w_T l E N xs d (nI 0) h9 ∧ ∃ w : Nat → Int64, h9[92]? = some (k_la 1 w) ∧ w 0 = (if bb then 1 else 0)) m_no) (K : ∀ (H' : mH) (kc' ks' : Nat) (o5 o6 : Option Value), I H' → kc' ≤ kc + 1 → ks' ≤ ks + 6 → m_J l (m_EX E N xs) E mM_L_law (d + 14) 601024 7293034 (fun v _ _ => v = some (.int (nI 1))) m_no false kc' ks' (1133, [some (.ref 1000000), some (.ref 0), some (.ref 70), some (.ref 92), some (.int (nI i)), o5, o6], [], H')) : m_J l (m_EX E N xs) E mM_L_law (d + 14) 601024 7293034 (fun v _ _ => v = some (.int (nI 1))) m_no false kc ks (386, [some (.ref 1000000), some (.ref 0), some (.ref 70), some (.ref 92), some (.int (nI i)), o5, o6], [], H) := by
  have hM := mM_L_law_ok
  refine m_J_run hM 5 rfl ⟨trivial, trivial, trivial, trivial, trivial, trivial⟩ ?_
  rw [nI_add i 1]
  refine m_J_xld hM rfl (vp_in_nI (by omega) (by omega)) ?_
  rw [nI_clamp (show i + 1 < 2 ^ 31 by omega)]
  refine m_J_run hM 4 rfl ⟨trivial, trivial, trivial, trivial, trivial⟩ ?_
  rw [nI_add i 2]
  refine m_J_xld hM rfl (vp_in_nI (by omega) (by omega)) ?_
  rw [nI_clamp (show i + 2 < 2 ^ 31 by omega)]
  by_cases hz : xs (i + 2) = 0
  · have e2 : k_z (decide (xs (i + 2) ≠ 0)) = nI 0 := by rw [hz]; decide
    rw [e2] at hX hY
    refine m_J_run hM 1 rfl ⟨trivial, trivial⟩ ?_
    refine m_J_if (fun _ => ?_) (fun hc => absurd hz hc)
    refine m_J_run hM 2 rfl ⟨trivial, trivial, trivial⟩ ?_
    refine m_callS (as := [.ref 0, .int (xs (i + 1)), .int (nI 0), .ref 92]) (rest := []) (m_EX_warm E N xs) hM rfl kw_L_88 rfl hX rfl (Nat.le_of_ble_eq_true rfl) (by omega) (by omega) (fun ht => absurd ht (by decide)) ?_
    refine m_J_run hM 6 rfl ⟨trivial, trivial, trivial, trivial, trivial, trivial, trivial⟩ ?_
    rw [nI_add i 1]
    refine m_J_xld hM rfl (vp_in_nI (by omega) (by omega)) ?_
    rw [nI_clamp (show i + 1 < 2 ^ 31 by omega)]
    refine m_J_run hM 4 rfl ⟨trivial, trivial, trivial, trivial, trivial⟩ ?_
    rw [nI_add i 2]
    refine m_J_xld hM rfl (vp_in_nI (by omega) (by omega)) ?_
    rw [nI_clamp (show i + 2 < 2 ^ 31 by omega)]
    refine m_J_run hM 1 rfl ⟨trivial, trivial⟩ ?_
    refine m_J_if (fun _ => ?_) (fun hc => absurd hz hc)
    refine m_J_run hM 1 rfl ⟨trivial, trivial⟩ ?_
    refine m_J_callV (as := [.int (xs (i + 1)), .int (nI 0)]) (rest := []) (m_EX_warm E N xs) hM rfl kw_L_91 rfl rfl rfl h70 ⟨_, rfl, rfl⟩ (Nat.le_of_ble_eq_true rfl) (by omega) (by omega) hY (fun v h9 tg9 hp => ?_) (fun nm h9 hp => hp.elim)
    obtain ⟨rfl, rfl, hI, ⟨hT, gs9, hg9⟩, w9, hw9, hv9⟩ := hp
    refine ⟨fun ht => absurd ht (by decide), ?_⟩
    refine m_J_run hM 2 rfl ⟨trivial, trivial, trivial⟩ ?_
    refine m_callV (as := []) (rest := []) (m_EX_warm E N xs) hM rfl kw_L_81 rfl rfl hg9 ⟨_, rfl, rfl⟩ hT rfl (Nat.le_of_ble_eq_true rfl) (by omega) (by omega) (fun ht => absurd ht (by decide)) ?_
    refine m_J_run hM 2 rfl ⟨trivial, trivial, trivial⟩ ?_
    refine m_J_if (fun _ => ?_) (fun hc => absurd rfl hc)
    refine m_J_run hM 2 rfl ⟨trivial, trivial, trivial⟩ ?_
    refine m_J_if (fun hc => absurd rfl hc) (fun _ => ?_)
    refine m_J_run hM 2 rfl ⟨trivial, trivial, trivial⟩ ?_
    refine m_laldN hM rfl hw9 (by omega) (by omega) ?_
    refine m_J_run hM 2 rfl ⟨trivial, trivial, trivial⟩ ?_
    cases bb with
    | true =>
      refine m_J_if (fun hc => absurd hc (by decide)) (fun _ => ?_)
      refine m_J_run hM 4 rfl ⟨trivial, trivial, trivial, trivial, trivial⟩ ?_
      refine m_J_if (fun _ => ?_) (fun hc => absurd ((k_lcmp0 _ _).mpr hv9) hc)
      refine m_J_run hM 1 rfl ⟨trivial, trivial⟩ ?_
      exact K _ _ _ _ _ hI (by omega) (by omega)
    | false =>
      refine m_J_if (fun _ => ?_) (fun hc => absurd (by decide) hc)
      refine m_J_run hM 3 rfl ⟨trivial, trivial, trivial, trivial⟩ ?_
      refine m_J_if (fun _ => ?_) (fun hc => absurd ((k_lcmp0 _ _).mpr hv9) hc)
      refine m_J_run hM 1 rfl ⟨trivial, trivial⟩ ?_
      exact K _ _ _ _ _ hI (by omega) (by omega)
  · have e2 : k_z (decide (xs (i + 2) ≠ 0)) = nI 1 := by rw [decide_eq_true (show xs (i + 2) ≠ 0 from hz)]; rfl
    rw [e2] at hX hY
    refine m_J_run hM 1 rfl ⟨trivial, trivial⟩ ?_
    refine m_J_if (fun hc => absurd hc hz) (fun _ => ?_)
    refine m_J_run hM 3 rfl ⟨trivial, trivial, trivial, trivial⟩ ?_
    refine m_callS (as := [.ref 0, .int (xs (i + 1)), .int (nI 1), .ref 92]) (rest := []) (m_EX_warm E N xs) hM rfl kw_L_88 rfl hX rfl (Nat.le_of_ble_eq_true rfl) (by omega) (by omega) (fun ht => absurd ht (by decide)) ?_
    refine m_J_run hM 6 rfl ⟨trivial, trivial, trivial, trivial, trivial, trivial, trivial⟩ ?_
    rw [nI_add i 1]
    refine m_J_xld hM rfl (vp_in_nI (by omega) (by omega)) ?_
    rw [nI_clamp (show i + 1 < 2 ^ 31 by omega)]
    refine m_J_run hM 4 rfl ⟨trivial, trivial, trivial, trivial, trivial⟩ ?_
    rw [nI_add i 2]
    refine m_J_xld hM rfl (vp_in_nI (by omega) (by omega)) ?_
    rw [nI_clamp (show i + 2 < 2 ^ 31 by omega)]
    refine m_J_run hM 1 rfl ⟨trivial, trivial⟩ ?_
    refine m_J_if (fun hc => absurd hc hz) (fun _ => ?_)
    refine m_J_run hM 2 rfl ⟨trivial, trivial, trivial⟩ ?_
    refine m_J_callV (as := [.int (xs (i + 1)), .int (nI 1)]) (rest := []) (m_EX_warm E N xs) hM rfl kw_L_91 rfl rfl rfl h70 ⟨_, rfl, rfl⟩ (Nat.le_of_ble_eq_true rfl) (by omega) (by omega) hY (fun v h9 tg9 hp => ?_) (fun nm h9 hp => hp.elim)
    obtain ⟨rfl, rfl, hI, ⟨hT, gs9, hg9⟩, w9, hw9, hv9⟩ := hp
    refine ⟨fun ht => absurd ht (by decide), ?_⟩
    refine m_J_run hM 2 rfl ⟨trivial, trivial, trivial⟩ ?_
    refine m_callV (as := []) (rest := []) (m_EX_warm E N xs) hM rfl kw_L_81 rfl rfl hg9 ⟨_, rfl, rfl⟩ hT rfl (Nat.le_of_ble_eq_true rfl) (by omega) (by omega) (fun ht => absurd ht (by decide)) ?_
    refine m_J_run hM 2 rfl ⟨trivial, trivial, trivial⟩ ?_
    refine m_J_if (fun _ => ?_) (fun hc => absurd rfl hc)
    refine m_J_run hM 2 rfl ⟨trivial, trivial, trivial⟩ ?_
    refine m_J_if (fun hc => absurd rfl hc) (fun _ => ?_)
    refine m_J_run hM 2 rfl ⟨trivial, trivial, trivial⟩ ?_
    refine m_laldN hM rfl hw9 (by omega) (by omega) ?_
    refine m_J_run hM 2 rfl ⟨trivial, trivial, trivial⟩ ?_
    cases bb with
    | true =>
      refine m_J_if (fun hc => absurd hc (by decide)) (fun _ => ?_)
      refine m_J_run hM 4 rfl ⟨trivial, trivial, trivial, trivial, trivial⟩ ?_
      refine m_J_if (fun _ => ?_) (fun hc => absurd ((k_lcmp0 _ _).mpr hv9) hc)
      refine m_J_run hM 1 rfl ⟨trivial, trivial⟩ ?_
      exact K _ _ _ _ _ hI (by omega) (by omega)
    | false =>
      refine m_J_if (fun _ => ?_) (fun hc => absurd (by decide) hc)
      refine m_J_run hM 3 rfl ⟨trivial, trivial, trivial, trivial⟩ ?_
      refine m_J_if (fun _ => ?_) (fun hc => absurd ((k_lcmp0 _ _).mpr hv9) hc)
      refine m_J_run hM 1 rfl ⟨trivial, trivial⟩ ?_
      exact K _ _ _ _ _ hI (by omega) (by omega)
set_option maxHeartbeats 4000000 in
set_option maxRecDepth 20000 in
theorem L_gate {I : mH → Prop} {i kc ks : Nat} {o5 o6 : Option Value} {H H1 : mH} {fs gs : List Value} (hi : i + 5 < N) (hN : N ≤ 3072) (hkc : kc + 1 ≤ 601024) (hks : ks + 6 ≤ 7293034) (h0 : H[0]? = some (.inr (7, fs))) (h70 : H1[70]? = some (.inr (8, gs))) (hX : m_Dt l (m_EX E N xs) E mM_L_gate (d + 13) 0 0 [.ref 0, .int (xs (i + 1))] H false (some (.int (nI 0))) H1 false) (hY : m_Sp l (m_EX E N xs) E mM_X9_gate (d + 13) 0 0 [.ref 70, .int (xs (i + 1))] H1 false (fun v h9 tg9 => v = none ∧ tg9 = false ∧ I h9 ∧ w_T l E N xs d (nI 0) h9) m_no) (K : ∀ (H' : mH) (kc' ks' : Nat) (o5 o6 : Option Value), I H' → kc' ≤ kc + 1 → ks' ≤ ks + 6 → m_J l (m_EX E N xs) E mM_L_law (d + 14) 601024 7293034 (fun v _ _ => v = some (.int (nI 1))) m_no false kc' ks' (1133, [some (.ref 1000000), some (.ref 0), some (.ref 70), some (.ref 92), some (.int (nI i)), o5, o6], [], H')) : m_J l (m_EX E N xs) E mM_L_law (d + 14) 601024 7293034 (fun v _ _ => v = some (.int (nI 1))) m_no false kc ks (477, [some (.ref 1000000), some (.ref 0), some (.ref 70), some (.ref 92), some (.int (nI i)), o5, o6], [], H) := by
  have hM := mM_L_law_ok
  refine m_J_run hM 5 rfl ⟨trivial, trivial, trivial, trivial, trivial, trivial⟩ ?_
  rw [nI_add i 1]
  refine m_J_xld hM rfl (vp_in_nI (by omega) (by omega)) ?_
  rw [nI_clamp (show i + 1 < 2 ^ 31 by omega)]
  refine m_callS (as := [.ref 0, .int (xs (i + 1))]) (rest := []) (m_EX_warm E N xs) hM rfl kw_L_92 rfl hX rfl (Nat.le_of_ble_eq_true rfl) (by omega) (by omega) (fun ht => absurd ht (by decide)) ?_
  refine m_J_run hM 6 rfl ⟨trivial, trivial, trivial, trivial, trivial, trivial, trivial⟩ ?_
  rw [nI_add i 1]
  refine m_J_xld hM rfl (vp_in_nI (by omega) (by omega)) ?_
  rw [nI_clamp (show i + 1 < 2 ^ 31 by omega)]
  refine m_J_callV (as := [.int (xs (i + 1))]) (rest := []) (m_EX_warm E N xs) hM rfl kw_L_95 rfl rfl rfl h70 ⟨_, rfl, rfl⟩ (Nat.le_of_ble_eq_true rfl) (by omega) (by omega) hY (fun v h9 tg9 hp => ?_) (fun nm h9 hp => hp.elim)
  obtain ⟨rfl, rfl, hI, ⟨hT, gs9, hg9⟩⟩ := hp
  refine ⟨fun ht => absurd ht (by decide), ?_⟩
  refine m_J_run hM 1 rfl ⟨trivial, trivial⟩ ?_
  refine m_callV (as := []) (rest := []) (m_EX_warm E N xs) hM rfl kw_L_81 rfl rfl hg9 ⟨_, rfl, rfl⟩ hT rfl (Nat.le_of_ble_eq_true rfl) (by omega) (by omega) (fun ht => absurd ht (by decide)) ?_
  refine m_J_run hM 2 rfl ⟨trivial, trivial, trivial⟩ ?_
  refine m_J_if (fun _ => ?_) (fun hc => absurd rfl hc)
  refine m_J_run hM 1 rfl ⟨trivial, trivial⟩ ?_
  exact K _ _ _ _ _ hI (by omega) (by omega)
set_option maxHeartbeats 4000000 in
set_option maxRecDepth 20000 in
theorem L_book {I : mH → Prop} {i kc ks : Nat} {o5 o6 : Option Value} {H H1 : mH} {fs gs : List Value} (hi : i + 5 < N) (hN : N ≤ 3072) (hkc : kc + 1 ≤ 601024) (hks : ks + 6 ≤ 7293034) (h0 : H[0]? = some (.inr (7, fs))) (h70 : H1[70]? = some (.inr (8, gs))) {bb : Int32} (hX : m_Dt l (m_EX E N xs) E mM_L_book (d + 13) 0 0 [.ref 0, .ref 92] H false (some (.int (nI 0))) H1 false) (hY : m_Sp l (m_EX E N xs) E mM_X9_book (d + 13) 0 0 [.ref 70] H1 false (fun v h9 tg9 => v = some (.int bb) ∧ tg9 = false ∧ I h9 ∧ w_T l E N xs d (nI 0) h9 ∧ ∃ w : Nat → Int64, h9[92]? = some (k_la 1 w) ∧ w 0 = bb.toInt64) m_no) (K : ∀ (H' : mH) (kc' ks' : Nat) (o5 o6 : Option Value), I H' → kc' ≤ kc + 1 → ks' ≤ ks + 6 → m_J l (m_EX E N xs) E mM_L_law (d + 14) 601024 7293034 (fun v _ _ => v = some (.int (nI 1))) m_no false kc' ks' (1133, [some (.ref 1000000), some (.ref 0), some (.ref 70), some (.ref 92), some (.int (nI i)), o5, o6], [], H')) : m_J l (m_EX E N xs) E mM_L_law (d + 14) 601024 7293034 (fun v _ _ => v = some (.int (nI 1))) m_no false kc ks (513, [some (.ref 1000000), some (.ref 0), some (.ref 70), some (.ref 92), some (.int (nI i)), o5, o6], [], H) := by
  have hM := mM_L_law_ok
  refine m_J_run hM 2 rfl ⟨trivial, trivial, trivial⟩ ?_
  refine m_callS (as := [.ref 0, .ref 92]) (rest := []) (m_EX_warm E N xs) hM rfl kw_L_96 rfl hX rfl (Nat.le_of_ble_eq_true rfl) (by omega) (by omega) (fun ht => absurd ht (by decide)) ?_
  refine m_J_run hM 2 rfl ⟨trivial, trivial, trivial⟩ ?_
  refine m_J_callV (as := []) (rest := []) (m_EX_warm E N xs) hM rfl kw_L_99 rfl rfl rfl h70 ⟨_, rfl, rfl⟩ (Nat.le_of_ble_eq_true rfl) (by omega) (by omega) hY (fun v h9 tg9 hp => ?_) (fun nm h9 hp => hp.elim)
  obtain ⟨rfl, rfl, hI, ⟨hT, gs9, hg9⟩, w9, hw9, hv9⟩ := hp
  refine ⟨fun ht => absurd ht (by decide), ?_⟩
  refine m_J_run hM 2 rfl ⟨trivial, trivial, trivial⟩ ?_
  refine m_callV (as := []) (rest := []) (m_EX_warm E N xs) hM rfl kw_L_81 rfl rfl hg9 ⟨_, rfl, rfl⟩ hT rfl (Nat.le_of_ble_eq_true rfl) (by omega) (by omega) (fun ht => absurd ht (by decide)) ?_
  refine m_J_run hM 2 rfl ⟨trivial, trivial, trivial⟩ ?_
  refine m_J_if (fun _ => ?_) (fun hc => absurd rfl hc)
  refine m_J_run hM 2 rfl ⟨trivial, trivial, trivial⟩ ?_
  refine m_J_if (fun hc => absurd rfl hc) (fun _ => ?_)
  refine m_J_run hM 2 rfl ⟨trivial, trivial, trivial⟩ ?_
  refine m_laldN hM rfl hw9 (by omega) (by omega) ?_
  refine m_J_run hM 4 rfl ⟨trivial, trivial, trivial, trivial, trivial⟩ ?_
  refine m_J_if (fun _ => ?_) (fun hc => absurd ((k_lcmp0 _ _).mpr hv9) hc)
  refine m_J_run hM 1 rfl ⟨trivial, trivial⟩ ?_
  exact K _ _ _ _ _ hI (by omega) (by omega)
set_option maxHeartbeats 4000000 in
set_option maxRecDepth 20000 in
theorem L_adds {I : mH → Prop} {i kc ks : Nat} {o5 o6 : Option Value} {H H1 : mH} {fs gs : List Value} (hi : i + 5 < N) (hN : N ≤ 3072) (hkc : kc + 1 ≤ 601024) (hks : ks + 6 ≤ 7293034) (h0 : H[0]? = some (.inr (7, fs))) (h70 : H1[70]? = some (.inr (8, gs))) {bb : Int32} (hX : m_Dt l (m_EX E N xs) E mM_L_adds (d + 13) 0 0 [.ref 0, .int (xs (i + 1)), .ref 92] H false (some (.int (nI 0))) H1 false) (hY : m_Sp l (m_EX E N xs) E mM_X9_adds (d + 13) 0 0 [.ref 70, .int (xs (i + 1))] H1 false (fun v h9 tg9 => v = some (.int bb) ∧ tg9 = false ∧ I h9 ∧ w_T l E N xs d (nI 0) h9 ∧ ∃ w : Nat → Int64, h9[92]? = some (k_la 1 w) ∧ w 0 = bb.toInt64) m_no) (K : ∀ (H' : mH) (kc' ks' : Nat) (o5 o6 : Option Value), I H' → kc' ≤ kc + 1 → ks' ≤ ks + 6 → m_J l (m_EX E N xs) E mM_L_law (d + 14) 601024 7293034 (fun v _ _ => v = some (.int (nI 1))) m_no false kc' ks' (1133, [some (.ref 1000000), some (.ref 0), some (.ref 70), some (.ref 92), some (.int (nI i)), o5, o6], [], H')) : m_J l (m_EX E N xs) E mM_L_law (d + 14) 601024 7293034 (fun v _ _ => v = some (.int (nI 1))) m_no false kc ks (583, [some (.ref 1000000), some (.ref 0), some (.ref 70), some (.ref 92), some (.int (nI i)), o5, o6], [], H) := by
  have hM := mM_L_law_ok
  refine m_J_run hM 5 rfl ⟨trivial, trivial, trivial, trivial, trivial, trivial⟩ ?_
  rw [nI_add i 1]
  refine m_J_xld hM rfl (vp_in_nI (by omega) (by omega)) ?_
  rw [nI_clamp (show i + 1 < 2 ^ 31 by omega)]
  refine m_J_run hM 1 rfl ⟨trivial, trivial⟩ ?_
  refine m_callS (as := [.ref 0, .int (xs (i + 1)), .ref 92]) (rest := []) (m_EX_warm E N xs) hM rfl kw_L_108 rfl hX rfl (Nat.le_of_ble_eq_true rfl) (by omega) (by omega) (fun ht => absurd ht (by decide)) ?_
  refine m_J_run hM 6 rfl ⟨trivial, trivial, trivial, trivial, trivial, trivial, trivial⟩ ?_
  rw [nI_add i 1]
  refine m_J_xld hM rfl (vp_in_nI (by omega) (by omega)) ?_
  rw [nI_clamp (show i + 1 < 2 ^ 31 by omega)]
  refine m_J_callV (as := [.int (xs (i + 1))]) (rest := []) (m_EX_warm E N xs) hM rfl kw_L_111 rfl rfl rfl h70 ⟨_, rfl, rfl⟩ (Nat.le_of_ble_eq_true rfl) (by omega) (by omega) hY (fun v h9 tg9 hp => ?_) (fun nm h9 hp => hp.elim)
  obtain ⟨rfl, rfl, hI, ⟨hT, gs9, hg9⟩, w9, hw9, hv9⟩ := hp
  refine ⟨fun ht => absurd ht (by decide), ?_⟩
  refine m_J_run hM 2 rfl ⟨trivial, trivial, trivial⟩ ?_
  refine m_callV (as := []) (rest := []) (m_EX_warm E N xs) hM rfl kw_L_81 rfl rfl hg9 ⟨_, rfl, rfl⟩ hT rfl (Nat.le_of_ble_eq_true rfl) (by omega) (by omega) (fun ht => absurd ht (by decide)) ?_
  refine m_J_run hM 2 rfl ⟨trivial, trivial, trivial⟩ ?_
  refine m_J_if (fun _ => ?_) (fun hc => absurd rfl hc)
  refine m_J_run hM 2 rfl ⟨trivial, trivial, trivial⟩ ?_
  refine m_J_if (fun hc => absurd rfl hc) (fun _ => ?_)
  refine m_J_run hM 2 rfl ⟨trivial, trivial, trivial⟩ ?_
  refine m_laldN hM rfl hw9 (by omega) (by omega) ?_
  refine m_J_run hM 4 rfl ⟨trivial, trivial, trivial, trivial, trivial⟩ ?_
  refine m_J_if (fun _ => ?_) (fun hc => absurd ((k_lcmp0 _ _).mpr hv9) hc)
  refine m_J_run hM 1 rfl ⟨trivial, trivial⟩ ?_
  exact K _ _ _ _ _ hI (by omega) (by omega)
set_option maxHeartbeats 4000000 in
set_option maxRecDepth 20000 in
theorem L_years {I : mH → Prop} {i kc ks : Nat} {o5 o6 : Option Value} {H H1 : mH} {fs gs : List Value} (hi : i + 5 < N) (hN : N ≤ 3072) (hkc : kc + 1 ≤ 601024) (hks : ks + 6 ≤ 7293034) (h0 : H[0]? = some (.inr (7, fs))) (h70 : H1[70]? = some (.inr (8, gs))) {bb : Int32} (hX : m_Dt l (m_EX E N xs) E mM_L_years (d + 13) 0 0 [.ref 0, .int (xs (i + 1)), .ref 92] H false (some (.int (nI 0))) H1 false) (hY : m_Sp l (m_EX E N xs) E mM_X9_years (d + 13) 0 0 [.ref 70, .int (xs (i + 1))] H1 false (fun v h9 tg9 => v = some (.int bb) ∧ tg9 = false ∧ I h9 ∧ w_T l E N xs d (nI 0) h9 ∧ ∃ w : Nat → Int64, h9[92]? = some (k_la 1 w) ∧ w 0 = bb.toInt64) m_no) (K : ∀ (H' : mH) (kc' ks' : Nat) (o5 o6 : Option Value), I H' → kc' ≤ kc + 1 → ks' ≤ ks + 6 → m_J l (m_EX E N xs) E mM_L_law (d + 14) 601024 7293034 (fun v _ _ => v = some (.int (nI 1))) m_no false kc' ks' (1133, [some (.ref 1000000), some (.ref 0), some (.ref 70), some (.ref 92), some (.int (nI i)), o5, o6], [], H')) : m_J l (m_EX E N xs) E mM_L_law (d + 14) 601024 7293034 (fun v _ _ => v = some (.int (nI 1))) m_no false kc ks (652, [some (.ref 1000000), some (.ref 0), some (.ref 70), some (.ref 92), some (.int (nI i)), o5, o6], [], H) := by
  have hM := mM_L_law_ok
  refine m_J_run hM 5 rfl ⟨trivial, trivial, trivial, trivial, trivial, trivial⟩ ?_
  rw [nI_add i 1]
  refine m_J_xld hM rfl (vp_in_nI (by omega) (by omega)) ?_
  rw [nI_clamp (show i + 1 < 2 ^ 31 by omega)]
  refine m_J_run hM 1 rfl ⟨trivial, trivial⟩ ?_
  refine m_callS (as := [.ref 0, .int (xs (i + 1)), .ref 92]) (rest := []) (m_EX_warm E N xs) hM rfl kw_L_116 rfl hX rfl (Nat.le_of_ble_eq_true rfl) (by omega) (by omega) (fun ht => absurd ht (by decide)) ?_
  refine m_J_run hM 6 rfl ⟨trivial, trivial, trivial, trivial, trivial, trivial, trivial⟩ ?_
  rw [nI_add i 1]
  refine m_J_xld hM rfl (vp_in_nI (by omega) (by omega)) ?_
  rw [nI_clamp (show i + 1 < 2 ^ 31 by omega)]
  refine m_J_callV (as := [.int (xs (i + 1))]) (rest := []) (m_EX_warm E N xs) hM rfl kw_L_118 rfl rfl rfl h70 ⟨_, rfl, rfl⟩ (Nat.le_of_ble_eq_true rfl) (by omega) (by omega) hY (fun v h9 tg9 hp => ?_) (fun nm h9 hp => hp.elim)
  obtain ⟨rfl, rfl, hI, ⟨hT, gs9, hg9⟩, w9, hw9, hv9⟩ := hp
  refine ⟨fun ht => absurd ht (by decide), ?_⟩
  refine m_J_run hM 2 rfl ⟨trivial, trivial, trivial⟩ ?_
  refine m_callV (as := []) (rest := []) (m_EX_warm E N xs) hM rfl kw_L_81 rfl rfl hg9 ⟨_, rfl, rfl⟩ hT rfl (Nat.le_of_ble_eq_true rfl) (by omega) (by omega) (fun ht => absurd ht (by decide)) ?_
  refine m_J_run hM 2 rfl ⟨trivial, trivial, trivial⟩ ?_
  refine m_J_if (fun _ => ?_) (fun hc => absurd rfl hc)
  refine m_J_run hM 2 rfl ⟨trivial, trivial, trivial⟩ ?_
  refine m_J_if (fun hc => absurd rfl hc) (fun _ => ?_)
  refine m_J_run hM 2 rfl ⟨trivial, trivial, trivial⟩ ?_
  refine m_laldN hM rfl hw9 (by omega) (by omega) ?_
  refine m_J_run hM 4 rfl ⟨trivial, trivial, trivial, trivial, trivial⟩ ?_
  refine m_J_if (fun _ => ?_) (fun hc => absurd ((k_lcmp0 _ _).mpr hv9) hc)
  refine m_J_run hM 1 rfl ⟨trivial, trivial⟩ ?_
  exact K _ _ _ _ _ hI (by omega) (by omega)
set_option maxHeartbeats 4000000 in
set_option maxRecDepth 20000 in
theorem L_best {I : mH → Prop} {i kc ks : Nat} {o5 o6 : Option Value} {H H1 : mH} {fs gs : List Value} (hi : i + 5 < N) (hN : N ≤ 3072) (hkc : kc + 1 ≤ 601024) (hks : ks + 6 ≤ 7293034) (h0 : H[0]? = some (.inr (7, fs))) (h70 : H1[70]? = some (.inr (8, gs))) {bb : Int32} (hX : m_Dt l (m_EX E N xs) E mM_L_best (d + 13) 0 0 [.ref 0, .ref 92] H false (some (.int (nI 0))) H1 false) (hY : m_Sp l (m_EX E N xs) E mM_X9_best (d + 13) 0 0 [.ref 70] H1 false (fun v h9 tg9 => v = some (.int bb) ∧ tg9 = false ∧ I h9 ∧ w_T l E N xs d (nI 0) h9 ∧ ∃ w : Nat → Int64, h9[92]? = some (k_la 1 w) ∧ w 0 = bb.toInt64) m_no) (K : ∀ (H' : mH) (kc' ks' : Nat) (o5 o6 : Option Value), I H' → kc' ≤ kc + 1 → ks' ≤ ks + 6 → m_J l (m_EX E N xs) E mM_L_law (d + 14) 601024 7293034 (fun v _ _ => v = some (.int (nI 1))) m_no false kc' ks' (1133, [some (.ref 1000000), some (.ref 0), some (.ref 70), some (.ref 92), some (.int (nI i)), o5, o6], [], H')) : m_J l (m_EX E N xs) E mM_L_law (d + 14) 601024 7293034 (fun v _ _ => v = some (.int (nI 1))) m_no false kc ks (721, [some (.ref 1000000), some (.ref 0), some (.ref 70), some (.ref 92), some (.int (nI i)), o5, o6], [], H) := by
  have hM := mM_L_law_ok
  refine m_J_run hM 2 rfl ⟨trivial, trivial, trivial⟩ ?_
  refine m_callS (as := [.ref 0, .ref 92]) (rest := []) (m_EX_warm E N xs) hM rfl kw_L_124 rfl hX rfl (Nat.le_of_ble_eq_true rfl) (by omega) (by omega) (fun ht => absurd ht (by decide)) ?_
  refine m_J_run hM 2 rfl ⟨trivial, trivial, trivial⟩ ?_
  refine m_J_callV (as := []) (rest := []) (m_EX_warm E N xs) hM rfl kw_L_126 rfl rfl rfl h70 ⟨_, rfl, rfl⟩ (Nat.le_of_ble_eq_true rfl) (by omega) (by omega) hY (fun v h9 tg9 hp => ?_) (fun nm h9 hp => hp.elim)
  obtain ⟨rfl, rfl, hI, ⟨hT, gs9, hg9⟩, w9, hw9, hv9⟩ := hp
  refine ⟨fun ht => absurd ht (by decide), ?_⟩
  refine m_J_run hM 2 rfl ⟨trivial, trivial, trivial⟩ ?_
  refine m_callV (as := []) (rest := []) (m_EX_warm E N xs) hM rfl kw_L_81 rfl rfl hg9 ⟨_, rfl, rfl⟩ hT rfl (Nat.le_of_ble_eq_true rfl) (by omega) (by omega) (fun ht => absurd ht (by decide)) ?_
  refine m_J_run hM 2 rfl ⟨trivial, trivial, trivial⟩ ?_
  refine m_J_if (fun _ => ?_) (fun hc => absurd rfl hc)
  refine m_J_run hM 2 rfl ⟨trivial, trivial, trivial⟩ ?_
  refine m_J_if (fun hc => absurd rfl hc) (fun _ => ?_)
  refine m_J_run hM 2 rfl ⟨trivial, trivial, trivial⟩ ?_
  refine m_laldN hM rfl hw9 (by omega) (by omega) ?_
  refine m_J_run hM 4 rfl ⟨trivial, trivial, trivial, trivial, trivial⟩ ?_
  refine m_J_if (fun _ => ?_) (fun hc => absurd ((k_lcmp0 _ _).mpr hv9) hc)
  refine m_J_run hM 1 rfl ⟨trivial, trivial⟩ ?_
  exact K _ _ _ _ _ hI (by omega) (by omega)
set_option maxHeartbeats 4000000 in
set_option maxRecDepth 20000 in
theorem L_given {I : mH → Prop} {i kc ks : Nat} {o5 o6 : Option Value} {H H1 : mH} {fs gs : List Value} (hi : i + 5 < N) (hN : N ≤ 3072) (hkc : kc + 1 ≤ 601024) (hks : ks + 6 ≤ 7293034) (h0 : H[0]? = some (.inr (7, fs))) (h70 : H1[70]? = some (.inr (8, gs))) {bb : Int32} (hX : m_Dt l (m_EX E N xs) E mM_L_given (d + 13) 0 0 [.ref 0, .int (xs (i + 1)), .ref 92] H false (some (.int (nI 0))) H1 false) (hY : m_Sp l (m_EX E N xs) E mM_X9_given (d + 13) 0 0 [.ref 70, .int (xs (i + 1))] H1 false (fun v h9 tg9 => v = some (.int bb) ∧ tg9 = false ∧ I h9 ∧ w_T l E N xs d (nI 0) h9 ∧ ∃ w : Nat → Int64, h9[92]? = some (k_la 1 w) ∧ w 0 = bb.toInt64) m_no) (K : ∀ (H' : mH) (kc' ks' : Nat) (o5 o6 : Option Value), I H' → kc' ≤ kc + 1 → ks' ≤ ks + 6 → m_J l (m_EX E N xs) E mM_L_law (d + 14) 601024 7293034 (fun v _ _ => v = some (.int (nI 1))) m_no false kc' ks' (1133, [some (.ref 1000000), some (.ref 0), some (.ref 70), some (.ref 92), some (.int (nI i)), o5, o6], [], H')) : m_J l (m_EX E N xs) E mM_L_law (d + 14) 601024 7293034 (fun v _ _ => v = some (.int (nI 1))) m_no false kc ks (765, [some (.ref 1000000), some (.ref 0), some (.ref 70), some (.ref 92), some (.int (nI i)), o5, o6], [], H) := by
  have hM := mM_L_law_ok
  refine m_J_run hM 5 rfl ⟨trivial, trivial, trivial, trivial, trivial, trivial⟩ ?_
  rw [nI_add i 1]
  refine m_J_xld hM rfl (vp_in_nI (by omega) (by omega)) ?_
  rw [nI_clamp (show i + 1 < 2 ^ 31 by omega)]
  refine m_J_run hM 1 rfl ⟨trivial, trivial⟩ ?_
  refine m_callS (as := [.ref 0, .int (xs (i + 1)), .ref 92]) (rest := []) (m_EX_warm E N xs) hM rfl kw_L_127 rfl hX rfl (Nat.le_of_ble_eq_true rfl) (by omega) (by omega) (fun ht => absurd ht (by decide)) ?_
  refine m_J_run hM 6 rfl ⟨trivial, trivial, trivial, trivial, trivial, trivial, trivial⟩ ?_
  rw [nI_add i 1]
  refine m_J_xld hM rfl (vp_in_nI (by omega) (by omega)) ?_
  rw [nI_clamp (show i + 1 < 2 ^ 31 by omega)]
  refine m_J_callV (as := [.int (xs (i + 1))]) (rest := []) (m_EX_warm E N xs) hM rfl kw_L_129 rfl rfl rfl h70 ⟨_, rfl, rfl⟩ (Nat.le_of_ble_eq_true rfl) (by omega) (by omega) hY (fun v h9 tg9 hp => ?_) (fun nm h9 hp => hp.elim)
  obtain ⟨rfl, rfl, hI, ⟨hT, gs9, hg9⟩, w9, hw9, hv9⟩ := hp
  refine ⟨fun ht => absurd ht (by decide), ?_⟩
  refine m_J_run hM 2 rfl ⟨trivial, trivial, trivial⟩ ?_
  refine m_callV (as := []) (rest := []) (m_EX_warm E N xs) hM rfl kw_L_81 rfl rfl hg9 ⟨_, rfl, rfl⟩ hT rfl (Nat.le_of_ble_eq_true rfl) (by omega) (by omega) (fun ht => absurd ht (by decide)) ?_
  refine m_J_run hM 2 rfl ⟨trivial, trivial, trivial⟩ ?_
  refine m_J_if (fun _ => ?_) (fun hc => absurd rfl hc)
  refine m_J_run hM 2 rfl ⟨trivial, trivial, trivial⟩ ?_
  refine m_J_if (fun hc => absurd rfl hc) (fun _ => ?_)
  refine m_J_run hM 2 rfl ⟨trivial, trivial, trivial⟩ ?_
  refine m_laldN hM rfl hw9 (by omega) (by omega) ?_
  refine m_J_run hM 4 rfl ⟨trivial, trivial, trivial, trivial, trivial⟩ ?_
  refine m_J_if (fun _ => ?_) (fun hc => absurd ((k_lcmp0 _ _).mpr hv9) hc)
  refine m_J_run hM 1 rfl ⟨trivial, trivial⟩ ?_
  exact K _ _ _ _ _ hI (by omega) (by omega)
set_option maxHeartbeats 4000000 in
set_option maxRecDepth 20000 in
theorem L_cost {I : mH → Prop} {i kc ks : Nat} {o5 o6 : Option Value} {H H1 : mH} {fs gs : List Value} (hi : i + 5 < N) (hN : N ≤ 3072) (hkc : kc + 1 ≤ 601024) (hks : ks + 6 ≤ 7293034) (h0 : H[0]? = some (.inr (7, fs))) (h70 : H1[70]? = some (.inr (8, gs))) {bb : Int32} (hX : m_Dt l (m_EX E N xs) E mM_L_cost (d + 13) 0 0 [.ref 0, .int (xs (i + 1)), .ref 92] H false (some (.int (nI 0))) H1 false) (hY : m_Sp l (m_EX E N xs) E mM_X9_cost (d + 13) 0 0 [.ref 70, .int (xs (i + 1))] H1 false (fun v h9 tg9 => v = some (.int bb) ∧ tg9 = false ∧ I h9 ∧ w_T l E N xs d (nI 0) h9 ∧ ∃ w : Nat → Int64, h9[92]? = some (k_la 1 w) ∧ w 0 = bb.toInt64) m_no) (K : ∀ (H' : mH) (kc' ks' : Nat) (o5 o6 : Option Value), I H' → kc' ≤ kc + 1 → ks' ≤ ks + 6 → m_J l (m_EX E N xs) E mM_L_law (d + 14) 601024 7293034 (fun v _ _ => v = some (.int (nI 1))) m_no false kc' ks' (1133, [some (.ref 1000000), some (.ref 0), some (.ref 70), some (.ref 92), some (.int (nI i)), o5, o6], [], H')) : m_J l (m_EX E N xs) E mM_L_law (d + 14) 601024 7293034 (fun v _ _ => v = some (.int (nI 1))) m_no false kc ks (834, [some (.ref 1000000), some (.ref 0), some (.ref 70), some (.ref 92), some (.int (nI i)), o5, o6], [], H) := by
  have hM := mM_L_law_ok
  refine m_J_run hM 5 rfl ⟨trivial, trivial, trivial, trivial, trivial, trivial⟩ ?_
  rw [nI_add i 1]
  refine m_J_xld hM rfl (vp_in_nI (by omega) (by omega)) ?_
  rw [nI_clamp (show i + 1 < 2 ^ 31 by omega)]
  refine m_J_run hM 1 rfl ⟨trivial, trivial⟩ ?_
  refine m_callS (as := [.ref 0, .int (xs (i + 1)), .ref 92]) (rest := []) (m_EX_warm E N xs) hM rfl kw_L_134 rfl hX rfl (Nat.le_of_ble_eq_true rfl) (by omega) (by omega) (fun ht => absurd ht (by decide)) ?_
  refine m_J_run hM 6 rfl ⟨trivial, trivial, trivial, trivial, trivial, trivial, trivial⟩ ?_
  rw [nI_add i 1]
  refine m_J_xld hM rfl (vp_in_nI (by omega) (by omega)) ?_
  rw [nI_clamp (show i + 1 < 2 ^ 31 by omega)]
  refine m_J_callV (as := [.int (xs (i + 1))]) (rest := []) (m_EX_warm E N xs) hM rfl kw_L_136 rfl rfl rfl h70 ⟨_, rfl, rfl⟩ (Nat.le_of_ble_eq_true rfl) (by omega) (by omega) hY (fun v h9 tg9 hp => ?_) (fun nm h9 hp => hp.elim)
  obtain ⟨rfl, rfl, hI, ⟨hT, gs9, hg9⟩, w9, hw9, hv9⟩ := hp
  refine ⟨fun ht => absurd ht (by decide), ?_⟩
  refine m_J_run hM 2 rfl ⟨trivial, trivial, trivial⟩ ?_
  refine m_callV (as := []) (rest := []) (m_EX_warm E N xs) hM rfl kw_L_81 rfl rfl hg9 ⟨_, rfl, rfl⟩ hT rfl (Nat.le_of_ble_eq_true rfl) (by omega) (by omega) (fun ht => absurd ht (by decide)) ?_
  refine m_J_run hM 2 rfl ⟨trivial, trivial, trivial⟩ ?_
  refine m_J_if (fun _ => ?_) (fun hc => absurd rfl hc)
  refine m_J_run hM 2 rfl ⟨trivial, trivial, trivial⟩ ?_
  refine m_J_if (fun hc => absurd rfl hc) (fun _ => ?_)
  refine m_J_run hM 2 rfl ⟨trivial, trivial, trivial⟩ ?_
  refine m_laldN hM rfl hw9 (by omega) (by omega) ?_
  refine m_J_run hM 4 rfl ⟨trivial, trivial, trivial, trivial, trivial⟩ ?_
  refine m_J_if (fun _ => ?_) (fun hc => absurd ((k_lcmp0 _ _).mpr hv9) hc)
  refine m_J_run hM 1 rfl ⟨trivial, trivial⟩ ?_
  exact K _ _ _ _ _ hI (by omega) (by omega)
set_option maxHeartbeats 4000000 in
set_option maxRecDepth 20000 in
theorem L_look {I : mH → Prop} {i kc ks : Nat} {o5 o6 : Option Value} {H H1 : mH} {fs gs : List Value} (hi : i + 5 < N) (hN : N ≤ 3072) (hkc : kc + 1 ≤ 601024) (hks : ks + 6 ≤ 7293034) (h0 : H[0]? = some (.inr (7, fs))) (h70 : H1[70]? = some (.inr (8, gs))) {bb : Int32} (hX : m_Dt l (m_EX E N xs) E mM_L_look (d + 13) 0 0 [.ref 0, .int (xs (i + 1)), .int (xs (i + 2)), .ref 92] H false (some (.int (nI 0))) H1 false) (hY : m_Sp l (m_EX E N xs) E mM_X9_look (d + 13) 0 0 [.ref 70, .int (xs (i + 1)), .int (xs (i + 2))] H1 false (fun v h9 tg9 => v = some (.int bb) ∧ tg9 = false ∧ I h9 ∧ w_T l E N xs d (nI 0) h9 ∧ ∃ w : Nat → Int64, h9[92]? = some (k_la 1 w) ∧ w 0 = bb.toInt64) m_no) (K : ∀ (H' : mH) (kc' ks' : Nat) (o5 o6 : Option Value), I H' → kc' ≤ kc + 1 → ks' ≤ ks + 6 → m_J l (m_EX E N xs) E mM_L_law (d + 14) 601024 7293034 (fun v _ _ => v = some (.int (nI 1))) m_no false kc' ks' (1133, [some (.ref 1000000), some (.ref 0), some (.ref 70), some (.ref 92), some (.int (nI i)), o5, o6], [], H')) : m_J l (m_EX E N xs) E mM_L_law (d + 14) 601024 7293034 (fun v _ _ => v = some (.int (nI 1))) m_no false kc ks (890, [some (.ref 1000000), some (.ref 0), some (.ref 70), some (.ref 92), some (.int (nI i)), o5, o6], [], H) := by
  have hM := mM_L_law_ok
  refine m_J_run hM 5 rfl ⟨trivial, trivial, trivial, trivial, trivial, trivial⟩ ?_
  rw [nI_add i 1]
  refine m_J_xld hM rfl (vp_in_nI (by omega) (by omega)) ?_
  rw [nI_clamp (show i + 1 < 2 ^ 31 by omega)]
  refine m_J_run hM 4 rfl ⟨trivial, trivial, trivial, trivial, trivial⟩ ?_
  rw [nI_add i 2]
  refine m_J_xld hM rfl (vp_in_nI (by omega) (by omega)) ?_
  rw [nI_clamp (show i + 2 < 2 ^ 31 by omega)]
  refine m_J_run hM 1 rfl ⟨trivial, trivial⟩ ?_
  refine m_callS (as := [.ref 0, .int (xs (i + 1)), .int (xs (i + 2)), .ref 92]) (rest := []) (m_EX_warm E N xs) hM rfl kw_L_137 rfl hX rfl (Nat.le_of_ble_eq_true rfl) (by omega) (by omega) (fun ht => absurd ht (by decide)) ?_
  refine m_J_run hM 6 rfl ⟨trivial, trivial, trivial, trivial, trivial, trivial, trivial⟩ ?_
  rw [nI_add i 1]
  refine m_J_xld hM rfl (vp_in_nI (by omega) (by omega)) ?_
  rw [nI_clamp (show i + 1 < 2 ^ 31 by omega)]
  refine m_J_run hM 4 rfl ⟨trivial, trivial, trivial, trivial, trivial⟩ ?_
  rw [nI_add i 2]
  refine m_J_xld hM rfl (vp_in_nI (by omega) (by omega)) ?_
  rw [nI_clamp (show i + 2 < 2 ^ 31 by omega)]
  refine m_J_callV (as := [.int (xs (i + 1)), .int (xs (i + 2))]) (rest := []) (m_EX_warm E N xs) hM rfl kw_L_140 rfl rfl rfl h70 ⟨_, rfl, rfl⟩ (Nat.le_of_ble_eq_true rfl) (by omega) (by omega) hY (fun v h9 tg9 hp => ?_) (fun nm h9 hp => hp.elim)
  obtain ⟨rfl, rfl, hI, ⟨hT, gs9, hg9⟩, w9, hw9, hv9⟩ := hp
  refine ⟨fun ht => absurd ht (by decide), ?_⟩
  refine m_J_run hM 2 rfl ⟨trivial, trivial, trivial⟩ ?_
  refine m_callV (as := []) (rest := []) (m_EX_warm E N xs) hM rfl kw_L_81 rfl rfl hg9 ⟨_, rfl, rfl⟩ hT rfl (Nat.le_of_ble_eq_true rfl) (by omega) (by omega) (fun ht => absurd ht (by decide)) ?_
  refine m_J_run hM 2 rfl ⟨trivial, trivial, trivial⟩ ?_
  refine m_J_if (fun _ => ?_) (fun hc => absurd rfl hc)
  refine m_J_run hM 2 rfl ⟨trivial, trivial, trivial⟩ ?_
  refine m_J_if (fun hc => absurd rfl hc) (fun _ => ?_)
  refine m_J_run hM 2 rfl ⟨trivial, trivial, trivial⟩ ?_
  refine m_laldN hM rfl hw9 (by omega) (by omega) ?_
  refine m_J_run hM 4 rfl ⟨trivial, trivial, trivial, trivial, trivial⟩ ?_
  refine m_J_if (fun _ => ?_) (fun hc => absurd ((k_lcmp0 _ _).mpr hv9) hc)
  refine m_J_run hM 1 rfl ⟨trivial, trivial⟩ ?_
  exact K _ _ _ _ _ hI (by omega) (by omega)
set_option maxHeartbeats 4000000 in
set_option maxRecDepth 20000 in
theorem L_unlike {I : mH → Prop} {i kc ks : Nat} {o5 o6 : Option Value} {H H1 : mH} {fs gs : List Value} (hi : i + 5 < N) (hN : N ≤ 3072) (hkc : kc + 1 ≤ 601024) (hks : ks + 6 ≤ 7293034) (h0 : H[0]? = some (.inr (7, fs))) (h70 : H1[70]? = some (.inr (8, gs))) {bb : Int32} (hX : m_Dt l (m_EX E N xs) E mM_L_unlike (d + 13) 0 0 [.ref 0, .int (xs (i + 1)), .int (xs (i + 2)), .ref 92] H false (some (.int (nI 0))) H1 false) (hY : m_Sp l (m_EX E N xs) E mM_X9_unlike (d + 13) 0 0 [.ref 70, .int (xs (i + 1)), .int (xs (i + 2))] H1 false (fun v h9 tg9 => v = some (.int bb) ∧ tg9 = false ∧ I h9 ∧ w_T l E N xs d (nI 0) h9 ∧ ∃ w : Nat → Int64, h9[92]? = some (k_la 1 w) ∧ w 0 = bb.toInt64) m_no) (K : ∀ (H' : mH) (kc' ks' : Nat) (o5 o6 : Option Value), I H' → kc' ≤ kc + 1 → ks' ≤ ks + 6 → m_J l (m_EX E N xs) E mM_L_law (d + 14) 601024 7293034 (fun v _ _ => v = some (.int (nI 1))) m_no false kc' ks' (1133, [some (.ref 1000000), some (.ref 0), some (.ref 70), some (.ref 92), some (.int (nI i)), o5, o6], [], H')) : m_J l (m_EX E N xs) E mM_L_law (d + 14) 601024 7293034 (fun v _ _ => v = some (.int (nI 1))) m_no false kc ks (971, [some (.ref 1000000), some (.ref 0), some (.ref 70), some (.ref 92), some (.int (nI i)), o5, o6], [], H) := by
  have hM := mM_L_law_ok
  refine m_J_run hM 5 rfl ⟨trivial, trivial, trivial, trivial, trivial, trivial⟩ ?_
  rw [nI_add i 1]
  refine m_J_xld hM rfl (vp_in_nI (by omega) (by omega)) ?_
  rw [nI_clamp (show i + 1 < 2 ^ 31 by omega)]
  refine m_J_run hM 4 rfl ⟨trivial, trivial, trivial, trivial, trivial⟩ ?_
  rw [nI_add i 2]
  refine m_J_xld hM rfl (vp_in_nI (by omega) (by omega)) ?_
  rw [nI_clamp (show i + 2 < 2 ^ 31 by omega)]
  refine m_J_run hM 1 rfl ⟨trivial, trivial⟩ ?_
  refine m_callS (as := [.ref 0, .int (xs (i + 1)), .int (xs (i + 2)), .ref 92]) (rest := []) (m_EX_warm E N xs) hM rfl kw_L_145 rfl hX rfl (Nat.le_of_ble_eq_true rfl) (by omega) (by omega) (fun ht => absurd ht (by decide)) ?_
  refine m_J_run hM 6 rfl ⟨trivial, trivial, trivial, trivial, trivial, trivial, trivial⟩ ?_
  rw [nI_add i 1]
  refine m_J_xld hM rfl (vp_in_nI (by omega) (by omega)) ?_
  rw [nI_clamp (show i + 1 < 2 ^ 31 by omega)]
  refine m_J_run hM 4 rfl ⟨trivial, trivial, trivial, trivial, trivial⟩ ?_
  rw [nI_add i 2]
  refine m_J_xld hM rfl (vp_in_nI (by omega) (by omega)) ?_
  rw [nI_clamp (show i + 2 < 2 ^ 31 by omega)]
  refine m_J_callV (as := [.int (xs (i + 1)), .int (xs (i + 2))]) (rest := []) (m_EX_warm E N xs) hM rfl kw_L_147 rfl rfl rfl h70 ⟨_, rfl, rfl⟩ (Nat.le_of_ble_eq_true rfl) (by omega) (by omega) hY (fun v h9 tg9 hp => ?_) (fun nm h9 hp => hp.elim)
  obtain ⟨rfl, rfl, hI, ⟨hT, gs9, hg9⟩, w9, hw9, hv9⟩ := hp
  refine ⟨fun ht => absurd ht (by decide), ?_⟩
  refine m_J_run hM 2 rfl ⟨trivial, trivial, trivial⟩ ?_
  refine m_callV (as := []) (rest := []) (m_EX_warm E N xs) hM rfl kw_L_81 rfl rfl hg9 ⟨_, rfl, rfl⟩ hT rfl (Nat.le_of_ble_eq_true rfl) (by omega) (by omega) (fun ht => absurd ht (by decide)) ?_
  refine m_J_run hM 2 rfl ⟨trivial, trivial, trivial⟩ ?_
  refine m_J_if (fun _ => ?_) (fun hc => absurd rfl hc)
  refine m_J_run hM 2 rfl ⟨trivial, trivial, trivial⟩ ?_
  refine m_J_if (fun hc => absurd rfl hc) (fun _ => ?_)
  refine m_J_run hM 2 rfl ⟨trivial, trivial, trivial⟩ ?_
  refine m_laldN hM rfl hw9 (by omega) (by omega) ?_
  refine m_J_run hM 4 rfl ⟨trivial, trivial, trivial, trivial, trivial⟩ ?_
  refine m_J_if (fun _ => ?_) (fun hc => absurd ((k_lcmp0 _ _).mpr hv9) hc)
  refine m_J_run hM 1 rfl ⟨trivial, trivial⟩ ?_
  exact K _ _ _ _ _ hI (by omega) (by omega)
set_option maxHeartbeats 4000000 in
set_option maxRecDepth 20000 in
theorem L_back {I : mH → Prop} {i kc ks : Nat} {o5 o6 : Option Value} {H H1 : mH} {fs gs : List Value} (hi : i + 5 < N) (hN : N ≤ 3072) (hkc : kc + 1 ≤ 601024) (hks : ks + 6 ≤ 7293034) (h0 : H[0]? = some (.inr (7, fs))) (h70 : H1[70]? = some (.inr (8, gs))) {bb : Int32} (hX : m_Dt l (m_EX E N xs) E mM_L_back (d + 13) 0 0 [.ref 0, .int (xs (i + 1)), .ref 92] H false (some (.int (nI 0))) H1 false) (hY : m_Sp l (m_EX E N xs) E mM_X9_back (d + 13) 0 0 [.ref 70, .int (xs (i + 1))] H1 false (fun v h9 tg9 => v = some (.int bb) ∧ tg9 = false ∧ I h9 ∧ w_T l E N xs d (nI 0) h9 ∧ ∃ w : Nat → Int64, h9[92]? = some (k_la 1 w) ∧ w 0 = bb.toInt64) m_no) (K : ∀ (H' : mH) (kc' ks' : Nat) (o5 o6 : Option Value), I H' → kc' ≤ kc + 1 → ks' ≤ ks + 6 → m_J l (m_EX E N xs) E mM_L_law (d + 14) 601024 7293034 (fun v _ _ => v = some (.int (nI 1))) m_no false kc' ks' (1133, [some (.ref 1000000), some (.ref 0), some (.ref 70), some (.ref 92), some (.int (nI i)), o5, o6], [], H')) : m_J l (m_EX E N xs) E mM_L_law (d + 14) 601024 7293034 (fun v _ _ => v = some (.int (nI 1))) m_no false kc ks (1039, [some (.ref 1000000), some (.ref 0), some (.ref 70), some (.ref 92), some (.int (nI i)), o5, o6], [], H) := by
  have hM := mM_L_law_ok
  refine m_J_run hM 5 rfl ⟨trivial, trivial, trivial, trivial, trivial, trivial⟩ ?_
  rw [nI_add i 1]
  refine m_J_xld hM rfl (vp_in_nI (by omega) (by omega)) ?_
  rw [nI_clamp (show i + 1 < 2 ^ 31 by omega)]
  refine m_J_run hM 1 rfl ⟨trivial, trivial⟩ ?_
  refine m_callS (as := [.ref 0, .int (xs (i + 1)), .ref 92]) (rest := []) (m_EX_warm E N xs) hM rfl kw_L_148 rfl hX rfl (Nat.le_of_ble_eq_true rfl) (by omega) (by omega) (fun ht => absurd ht (by decide)) ?_
  refine m_J_run hM 6 rfl ⟨trivial, trivial, trivial, trivial, trivial, trivial, trivial⟩ ?_
  rw [nI_add i 1]
  refine m_J_xld hM rfl (vp_in_nI (by omega) (by omega)) ?_
  rw [nI_clamp (show i + 1 < 2 ^ 31 by omega)]
  refine m_J_callV (as := [.int (xs (i + 1))]) (rest := []) (m_EX_warm E N xs) hM rfl kw_L_150 rfl rfl rfl h70 ⟨_, rfl, rfl⟩ (Nat.le_of_ble_eq_true rfl) (by omega) (by omega) hY (fun v h9 tg9 hp => ?_) (fun nm h9 hp => hp.elim)
  obtain ⟨rfl, rfl, hI, ⟨hT, gs9, hg9⟩, w9, hw9, hv9⟩ := hp
  refine ⟨fun ht => absurd ht (by decide), ?_⟩
  refine m_J_run hM 2 rfl ⟨trivial, trivial, trivial⟩ ?_
  refine m_callV (as := []) (rest := []) (m_EX_warm E N xs) hM rfl kw_L_81 rfl rfl hg9 ⟨_, rfl, rfl⟩ hT rfl (Nat.le_of_ble_eq_true rfl) (by omega) (by omega) (fun ht => absurd ht (by decide)) ?_
  refine m_J_run hM 2 rfl ⟨trivial, trivial, trivial⟩ ?_
  refine m_J_if (fun _ => ?_) (fun hc => absurd rfl hc)
  refine m_J_run hM 2 rfl ⟨trivial, trivial, trivial⟩ ?_
  refine m_J_if (fun hc => absurd rfl hc) (fun _ => ?_)
  refine m_J_run hM 2 rfl ⟨trivial, trivial, trivial⟩ ?_
  refine m_laldN hM rfl hw9 (by omega) (by omega) ?_
  refine m_J_run hM 4 rfl ⟨trivial, trivial, trivial, trivial, trivial⟩ ?_
  refine m_J_if (fun _ => ?_) (fun hc => absurd ((k_lcmp0 _ _).mpr hv9) hc)
  refine m_J_run hM 1 rfl ⟨trivial, trivial⟩ ?_
  exact K _ _ _ _ _ hI (by omega) (by omega)
end
