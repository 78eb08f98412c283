/-! THE LAW'S ROADS: what is compared at once (written by wip/gen_law.py) -/
/-- the model says that k was thrown -/
def w_T (l : Launch) (E : mE) (N : Nat) (xs : Nat → Int32) (d : Nat) (k : Int32) (h : mH) : Prop := m_Dt l (m_EX E N xs) E mM_X9_thrown (d + 13) 0 0 [.ref 70] h false (some (.int k)) h false ∧ ∃ gs, h[70]? = some (.inr (8, gs))
section
variable {l : Launch} {E : mE} {N : Nat} {xs : Nat → Int32} {d : Nat}
set_option maxHeartbeats 4000000 in
set_option maxRecDepth 20000 in
theorem L_feed {I : mH → Prop} {i kc ks : Nat} {o5 o6 : Option Value} {H H1 : mH} {fs gs : List Value} (hi : i + 5 < N) (hN : N ≤ 3072) (hkc : kc + 1 ≤ 601024) (hks : ks + 6 ≤ 7293034) (h0 : H[0]? = some (.inr (7, fs))) (h70 : H1[70]? = some (.inr (8, gs))) {r : Int32} (hX : m_Dt l (m_EX E N xs) E mM_X8_feed (d + 13) 0 0 [.ref 0, .int (xs (i + 1)), .int (xs (i + 2)), .int (xs (i + 3)), .int (xs (i + 4)), .int (xs (i + 5))] H false (some (.int r)) H1 false) (hY : m_Sp l (m_EX E N xs) E mM_X9_feed (d + 13) 0 0 [.ref 70, .int (xs (i + 1)), .int (xs (i + 2)), .int (xs (i + 3)), .int (xs (i + 4)), .int (xs (i + 5))] H1 false (fun v h9 tg9 => v = some (.int r) ∧ tg9 = false ∧ I h9) m_no) (K : ∀ (H' : mH) (kc' ks' : Nat) (o5 o6 : Option Value), I H' → kc' ≤ kc + 1 → ks' ≤ ks + 6 → m_J l (m_EX E N xs) E mM_L_law (d + 14) 601024 7293034 (fun v _ _ => v = some (.int (nI 1))) m_no false kc' ks' (1133, [some (.ref 1000000), some (.ref 0), some (.ref 70), some (.ref 92), some (.int (nI i)), o5, o6], [], H')) : m_J l (m_EX E N xs) E mM_L_law (d + 14) 601024 7293034 (fun v _ _ => v = some (.int (nI 1))) m_no false kc ks (148, [some (.ref 1000000), some (.ref 0), some (.ref 70), some (.ref 92), some (.int (nI i)), o5, o6], [], H) := by
  have hM := mM_L_law_ok
  refine m_J_run hM 5 rfl ⟨trivial, trivial, trivial, trivial, trivial, trivial⟩ ?_
  rw [nI_add i 1]
  refine m_J_xld hM rfl (vp_in_nI (by omega) (by omega)) ?_
  rw [nI_clamp (show i + 1 < 2 ^ 31 by omega)]
  refine m_J_run hM 4 rfl ⟨trivial, trivial, trivial, trivial, trivial⟩ ?_
  rw [nI_add i 2]
  refine m_J_xld hM rfl (vp_in_nI (by omega) (by omega)) ?_
  rw [nI_clamp (show i + 2 < 2 ^ 31 by omega)]
  refine m_J_run hM 4 rfl ⟨trivial, trivial, trivial, trivial, trivial⟩ ?_
  rw [nI_add i 3]
  refine m_J_xld hM rfl (vp_in_nI (by omega) (by omega)) ?_
  rw [nI_clamp (show i + 3 < 2 ^ 31 by omega)]
  refine m_J_run hM 4 rfl ⟨trivial, trivial, trivial, trivial, trivial⟩ ?_
  rw [nI_add i 4]
  refine m_J_xld hM rfl (vp_in_nI (by omega) (by omega)) ?_
  rw [nI_clamp (show i + 4 < 2 ^ 31 by omega)]
  refine m_J_run hM 4 rfl ⟨trivial, trivial, trivial, trivial, trivial⟩ ?_
  rw [nI_add i 5]
  refine m_J_xld hM rfl (vp_in_nI (by omega) (by omega)) ?_
  rw [nI_clamp (show i + 5 < 2 ^ 31 by omega)]
  refine m_callV (as := [.int (xs (i + 1)), .int (xs (i + 2)), .int (xs (i + 3)), .int (xs (i + 4)), .int (xs (i + 5))]) (rest := []) (m_EX_warm E N xs) hM rfl kw_L_65 rfl rfl h0 ⟨_, rfl, rfl⟩ hX rfl (Nat.le_of_ble_eq_true rfl) (by omega) (by omega) (fun ht => absurd ht (by decide)) ?_
  refine m_J_run hM 5 rfl ⟨trivial, trivial, trivial, trivial, trivial, trivial⟩ ?_
  rw [nI_add i 1]
  refine m_J_xld hM rfl (vp_in_nI (by omega) (by omega)) ?_
  rw [nI_clamp (show i + 1 < 2 ^ 31 by omega)]
  refine m_J_run hM 4 rfl ⟨trivial, trivial, trivial, trivial, trivial⟩ ?_
  rw [nI_add i 2]
  refine m_J_xld hM rfl (vp_in_nI (by omega) (by omega)) ?_
  rw [nI_clamp (show i + 2 < 2 ^ 31 by omega)]
  refine m_J_run hM 4 rfl ⟨trivial, trivial, trivial, trivial, trivial⟩ ?_
  rw [nI_add i 3]
  refine m_J_xld hM rfl (vp_in_nI (by omega) (by omega)) ?_
  rw [nI_clamp (show i + 3 < 2 ^ 31 by omega)]
  refine m_J_run hM 4 rfl ⟨trivial, trivial, trivial, trivial, trivial⟩ ?_
  rw [nI_add i 4]
  refine m_J_xld hM rfl (vp_in_nI (by omega) (by omega)) ?_
  rw [nI_clamp (show i + 4 < 2 ^ 31 by omega)]
  refine m_J_run hM 4 rfl ⟨trivial, trivial, trivial, trivial, trivial⟩ ?_
  rw [nI_add i 5]
  refine m_J_xld hM rfl (vp_in_nI (by omega) (by omega)) ?_
  rw [nI_clamp (show i + 5 < 2 ^ 31 by omega)]
  refine m_J_callV (as := [.int (xs (i + 1)), .int (xs (i + 2)), .int (xs (i + 3)), .int (xs (i + 4)), .int (xs (i + 5))]) (rest := [.int r]) (m_EX_warm E N xs) hM rfl kw_L_69 rfl rfl rfl h70 ⟨_, rfl, rfl⟩ (Nat.le_of_ble_eq_true rfl) (by omega) (by omega) hY (fun v h9 tg9 hp => ?_) (fun nm h9 hp => hp.elim)
  obtain ⟨rfl, rfl, hI⟩ := hp
  refine ⟨fun ht => absurd ht (by decide), ?_⟩
  refine m_J_run hM 1 rfl ⟨trivial, trivial⟩ ?_
  refine m_J_if (fun _ => ?_) (fun hc => absurd rfl hc)
  exact K _ _ _ _ _ hI (by omega) (by omega)
set_option maxHeartbeats 4000000 in
set_option maxRecDepth 20000 in
theorem L_end {I : mH → Prop} {i kc ks : Nat} {o5 o6 : Option Value} {H H1 : mH} {fs gs : List Value} (hi : i + 5 < N) (hN : N ≤ 3072) (hkc : kc + 1 ≤ 601024) (hks : ks + 6 ≤ 7293034) (h0 : H[0]? = some (.inr (7, fs))) (h70 : H1[70]? = some (.inr (8, gs))) {r : Int32} (hX : m_Dt l (m_EX E N xs) E mM_X8_end (d + 13) 0 0 [.ref 0, .int (xs (i + 1))] H false (some (.int r)) H1 false) (hY : m_Sp l (m_EX E N xs) E mM_X9_end (d + 13) 0 0 [.ref 70, .int (xs (i + 1))] H1 false (fun v h9 tg9 => v = some (.int r) ∧ tg9 = false ∧ I h9) m_no) (K : ∀ (H' : mH) (kc' ks' : Nat) (o5 o6 : Option Value), I H' → kc' ≤ kc + 1 → ks' ≤ ks + 6 → m_J l (m_EX E N xs) E mM_L_law (d + 14) 601024 7293034 (fun v _ _ => v = some (.int (nI 1))) m_no false kc' ks' (1133, [some (.ref 1000000), some (.ref 0), some (.ref 70), some (.ref 92), some (.int (nI i)), o5, o6], [], H')) : m_J l (m_EX E N xs) E mM_L_law (d + 14) 601024 7293034 (fun v _ _ => v = some (.int (nI 1))) m_no false kc ks (221, [some (.ref 1000000), some (.ref 0), some (.ref 70), some (.ref 92), some (.int (nI i)), o5, o6], [], H) := by
  have hM := mM_L_law_ok
  refine m_J_run hM 5 rfl ⟨trivial, trivial, trivial, trivial, trivial, trivial⟩ ?_
  rw [nI_add i 1]
  refine m_J_xld hM rfl (vp_in_nI (by omega) (by omega)) ?_
  rw [nI_clamp (show i + 1 < 2 ^ 31 by omega)]
  refine m_callV (as := [.int (xs (i + 1))]) (rest := []) (m_EX_warm E N xs) hM rfl kw_L_70 rfl rfl h0 ⟨_, rfl, rfl⟩ hX rfl (Nat.le_of_ble_eq_true rfl) (by omega) (by omega) (fun ht => absurd ht (by decide)) ?_
  refine m_J_run hM 5 rfl ⟨trivial, trivial, trivial, trivial, trivial, trivial⟩ ?_
  rw [nI_add i 1]
  refine m_J_xld hM rfl (vp_in_nI (by omega) (by omega)) ?_
  rw [nI_clamp (show i + 1 < 2 ^ 31 by omega)]
  refine m_J_callV (as := [.int (xs (i + 1))]) (rest := [.int r]) (m_EX_warm E N xs) hM rfl kw_L_74 rfl rfl rfl h70 ⟨_, rfl, rfl⟩ (Nat.le_of_ble_eq_true rfl) (by omega) (by omega) hY (fun v h9 tg9 hp => ?_) (fun nm h9 hp => hp.elim)
  obtain ⟨rfl, rfl, hI⟩ := hp
  refine ⟨fun ht => absurd ht (by decide), ?_⟩
  refine m_J_run hM 1 rfl ⟨trivial, trivial⟩ ?_
  refine m_J_if (fun _ => ?_) (fun hc => absurd rfl hc)
  exact K _ _ _ _ _ hI (by omega) (by omega)
set_option maxHeartbeats 4000000 in
set_option maxRecDepth 20000 in
theorem L_fault {I : mH → Prop} {i kc ks : Nat} {o5 o6 : Option Value} {H H1 : mH} {fs gs : List Value} (hi : i + 5 < N) (hN : N ≤ 3072) (hkc : kc + 1 ≤ 601024) (hks : ks + 6 ≤ 7293034) (h0 : H[0]? = some (.inr (7, fs))) (h70 : H1[70]? = some (.inr (8, gs))) {r : Int32} (hX : m_Dt l (m_EX E N xs) E mM_X8_fault (d + 13) 0 0 [.ref 0] H false (some (.int r)) H1 false) (hY : m_Sp l (m_EX E N xs) E mM_X9_fault (d + 13) 0 0 [.ref 70] H1 false (fun v h9 tg9 => v = some (.int r) ∧ tg9 = false ∧ I h9) m_no) (K : ∀ (H' : mH) (kc' ks' : Nat) (o5 o6 : Option Value), I H' → kc' ≤ kc + 1 → ks' ≤ ks + 6 → m_J l (m_EX E N xs) E mM_L_law (d + 14) 601024 7293034 (fun v _ _ => v = some (.int (nI 1))) m_no false kc' ks' (1133, [some (.ref 1000000), some (.ref 0), some (.ref 70), some (.ref 92), some (.int (nI i)), o5, o6], [], H')) : m_J l (m_EX E N xs) E mM_L_law (d + 14) 601024 7293034 (fun v _ _ => v = some (.int (nI 1))) m_no false kc ks (557, [some (.ref 1000000), some (.ref 0), some (.ref 70), some (.ref 92), some (.int (nI i)), o5, o6], [], H) := by
  have hM := mM_L_law_ok
  refine m_J_run hM 1 rfl ⟨trivial, trivial⟩ ?_
  refine m_callV (as := []) (rest := []) (m_EX_warm E N xs) hM rfl kw_L_100 rfl rfl h0 ⟨_, rfl, rfl⟩ hX rfl (Nat.le_of_ble_eq_true rfl) (by omega) (by omega) (fun ht => absurd ht (by decide)) ?_
  refine m_J_run hM 1 rfl ⟨trivial, trivial⟩ ?_
  refine m_J_callV (as := []) (rest := [.int r]) (m_EX_warm E N xs) hM rfl kw_L_103 rfl rfl rfl h70 ⟨_, rfl, rfl⟩ (Nat.le_of_ble_eq_true rfl) (by omega) (by omega) hY (fun v h9 tg9 hp => ?_) (fun nm h9 hp => hp.elim)
  obtain ⟨rfl, rfl, hI⟩ := hp
  refine ⟨fun ht => absurd ht (by decide), ?_⟩
  refine m_J_run hM 1 rfl ⟨trivial, trivial⟩ ?_
  refine m_J_if (fun _ => ?_) (fun hc => absurd rfl hc)
  exact K _ _ _ _ _ hI (by omega) (by omega)
set_option maxHeartbeats 4000000 in
set_option maxRecDepth 20000 in
theorem L_worth {I : mH → Prop} {i kc ks : Nat} {o5 o6 : Option Value} {H H1 : mH} {fs gs : List Value} (hi : i + 5 < N) (hN : N ≤ 3072) (hkc : kc + 1 ≤ 601024) (hks : ks + 6 ≤ 7293034) (h0 : H[0]? = some (.inr (7, fs))) (h70 : H1[70]? = some (.inr (8, gs))) {r : Int32} (hX : m_Dt l (m_EX E N xs) E mM_X8_worth (d + 13) 0 0 [.ref 0] H false (some (.int r)) H1 false) (hY : m_Sp l (m_EX E N xs) E mM_X9_worth (d + 13) 0 0 [.ref 70] H1 false (fun v h9 tg9 => v = some (.int r) ∧ tg9 = false ∧ I h9) m_no) (K : ∀ (H' : mH) (kc' ks' : Nat) (o5 o6 : Option Value), I H' → kc' ≤ kc + 1 → ks' ≤ ks + 6 → m_J l (m_EX E N xs) E mM_L_law (d + 14) 601024 7293034 (fun v _ _ => v = some (.int (nI 1))) m_no false kc' ks' (1133, [some (.ref 1000000), some (.ref 0), some (.ref 70), some (.ref 92), some (.int (nI i)), o5, o6], [], H')) : m_J l (m_EX E N xs) E mM_L_law (d + 14) 601024 7293034 (fun v _ _ => v = some (.int (nI 1))) m_no false kc ks (570, [some (.ref 1000000), some (.ref 0), some (.ref 70), some (.ref 92), some (.int (nI i)), o5, o6], [], H) := by
  have hM := mM_L_law_ok
  refine m_J_run hM 1 rfl ⟨trivial, trivial⟩ ?_
  refine m_callV (as := []) (rest := []) (m_EX_warm E N xs) hM rfl kw_L_104 rfl rfl h0 ⟨_, rfl, rfl⟩ hX rfl (Nat.le_of_ble_eq_true rfl) (by omega) (by omega) (fun ht => absurd ht (by decide)) ?_
  refine m_J_run hM 1 rfl ⟨trivial, trivial⟩ ?_
  refine m_J_callV (as := []) (rest := [.int r]) (m_EX_warm E N xs) hM rfl kw_L_107 rfl rfl rfl h70 ⟨_, rfl, rfl⟩ (Nat.le_of_ble_eq_true rfl) (by omega) (by omega) hY (fun v h9 tg9 hp => ?_) (fun nm h9 hp => hp.elim)
  obtain ⟨rfl, rfl, hI⟩ := hp
  refine ⟨fun ht => absurd ht (by decide), ?_⟩
  refine m_J_run hM 1 rfl ⟨trivial, trivial⟩ ?_
  refine m_J_if (fun _ => ?_) (fun hc => absurd rfl hc)
  exact K _ _ _ _ _ hI (by omega) (by omega)
set_option maxHeartbeats 4000000 in
set_option maxRecDepth 20000 in
theorem L_broken {I : mH → Prop} {i kc ks : Nat} {o5 o6 : Option Value} {H H1 : mH} {fs gs : List Value} (hi : i + 5 < N) (hN : N ≤ 3072) (hkc : kc + 1 ≤ 601024) (hks : ks + 6 ≤ 7293034) (h0 : H[0]? = some (.inr (7, fs))) (h70 : H1[70]? = some (.inr (8, gs))) {r : Int32} (hX : m_Dt l (m_EX E N xs) E mM_X8_broken (d + 13) 0 0 [.ref 0] H false (some (.int r)) H1 false) (hY : m_Sp l (m_EX E N xs) E mM_X9_broken (d + 13) 0 0 [.ref 70] H1 false (fun v h9 tg9 => v = some (.int r) ∧ tg9 = false ∧ I h9) m_no) (K : ∀ (H' : mH) (kc' ks' : Nat) (o5 o6 : Option Value), I H' → kc' ≤ kc + 1 → ks' ≤ ks + 6 → m_J l (m_EX E N xs) E mM_L_law (d + 14) 601024 7293034 (fun v _ _ => v = some (.int (nI 1))) m_no false kc' ks' (1133, [some (.ref 1000000), some (.ref 0), some (.ref 70), some (.ref 92), some (.int (nI i)), o5, o6], [], H')) : m_J l (m_EX E N xs) E mM_L_law (d + 14) 601024 7293034 (fun v _ _ => v = some (.int (nI 1))) m_no false kc ks (639, [some (.ref 1000000), some (.ref 0), some (.ref 70), some (.ref 92), some (.int (nI i)), o5, o6], [], H) := by
  have hM := mM_L_law_ok
  refine m_J_run hM 1 rfl ⟨trivial, trivial⟩ ?_
  refine m_callV (as := []) (rest := []) (m_EX_warm E N xs) hM rfl kw_L_112 rfl rfl h0 ⟨_, rfl, rfl⟩ hX rfl (Nat.le_of_ble_eq_true rfl) (by omega) (by omega) (fun ht => absurd ht (by decide)) ?_
  refine m_J_run hM 1 rfl ⟨trivial, trivial⟩ ?_
  refine m_J_callV (as := []) (rest := [.int r]) (m_EX_warm E N xs) hM rfl kw_L_115 rfl rfl rfl h70 ⟨_, rfl, rfl⟩ (Nat.le_of_ble_eq_true rfl) (by omega) (by omega) hY (fun v h9 tg9 hp => ?_) (fun nm h9 hp => hp.elim)
  obtain ⟨rfl, rfl, hI⟩ := hp
  refine ⟨fun ht => absurd ht (by decide), ?_⟩
  refine m_J_run hM 1 rfl ⟨trivial, trivial⟩ ?_
  refine m_J_if (fun _ => ?_) (fun hc => absurd rfl hc)
  exact K _ _ _ _ _ hI (by omega) (by omega)
set_option maxHeartbeats 4000000 in
set_option maxRecDepth 20000 in
theorem L_can {I : mH → Prop} {i kc ks : Nat} {o5 o6 : Option Value} {H H1 : mH} {fs gs : List Value} (hi : i + 5 < N) (hN : N ≤ 3072) (hkc : kc + 1 ≤ 601024) (hks : ks + 6 ≤ 7293034) (h0 : H[0]? = some (.inr (7, fs))) (h70 : H1[70]? = some (.inr (8, gs))) {r : Int32} (hX : m_Dt l (m_EX E N xs) E mM_X8_can (d + 13) 0 0 [.ref 0] H false (some (.int r)) H1 false) (hY : m_Sp l (m_EX E N xs) E mM_X9_can (d + 13) 0 0 [.ref 70] H1 false (fun v h9 tg9 => v = some (.int r) ∧ tg9 = false ∧ I h9) m_no) (K : ∀ (H' : mH) (kc' ks' : Nat) (o5 o6 : Option Value), I H' → kc' ≤ kc + 1 → ks' ≤ ks + 6 → m_J l (m_EX E N xs) E mM_L_law (d + 14) 601024 7293034 (fun v _ _ => v = some (.int (nI 1))) m_no false kc' ks' (1133, [some (.ref 1000000), some (.ref 0), some (.ref 70), some (.ref 92), some (.int (nI i)), o5, o6], [], H')) : m_J l (m_EX E N xs) E mM_L_law (d + 14) 601024 7293034 (fun v _ _ => v = some (.int (nI 1))) m_no false kc ks (708, [some (.ref 1000000), some (.ref 0), some (.ref 70), some (.ref 92), some (.int (nI i)), o5, o6], [], H) := by
  have hM := mM_L_law_ok
  refine m_J_run hM 1 rfl ⟨trivial, trivial⟩ ?_
  refine m_callV (as := []) (rest := []) (m_EX_warm E N xs) hM rfl kw_L_119 rfl rfl h0 ⟨_, rfl, rfl⟩ hX rfl (Nat.le_of_ble_eq_true rfl) (by omega) (by omega) (fun ht => absurd ht (by decide)) ?_
  refine m_J_run hM 1 rfl ⟨trivial, trivial⟩ ?_
  refine m_J_callV (as := []) (rest := [.int r]) (m_EX_warm E N xs) hM rfl kw_L_123 rfl rfl rfl h70 ⟨_, rfl, rfl⟩ (Nat.le_of_ble_eq_true rfl) (by omega) (by omega) hY (fun v h9 tg9 hp => ?_) (fun nm h9 hp => hp.elim)
  obtain ⟨rfl, rfl, hI⟩ := hp
  refine ⟨fun ht => absurd ht (by decide), ?_⟩
  refine m_J_run hM 1 rfl ⟨trivial, trivial⟩ ?_
  refine m_J_if (fun _ => ?_) (fun hc => absurd rfl hc)
  exact K _ _ _ _ _ hI (by omega) (by omega)
set_option maxHeartbeats 4000000 in
set_option maxRecDepth 20000 in
theorem L_take {I : mH → Prop} {i kc ks : Nat} {o5 o6 : Option Value} {H H1 : mH} {fs gs : List Value} (hi : i + 5 < N) (hN : N ≤ 3072) (hkc : kc + 1 ≤ 601024) (hks : ks + 6 ≤ 7293034) (h0 : H[0]? = some (.inr (7, fs))) (h70 : H1[70]? = some (.inr (8, gs))) {r : Int32} (hX : m_Dt l (m_EX E N xs) E mM_X8_take (d + 13) 0 0 [.ref 0] H false (some (.int r)) H1 false) (hY : m_Sp l (m_EX E N xs) E mM_X9_take (d + 13) 0 0 [.ref 70] H1 false (fun v h9 tg9 => v = some (.int r) ∧ tg9 = false ∧ I h9) m_no) (K : ∀ (H' : mH) (kc' ks' : Nat) (o5 o6 : Option Value), I H' → kc' ≤ kc + 1 → ks' ≤ ks + 6 → m_J l (m_EX E N xs) E mM_L_law (d + 14) 601024 7293034 (fun v _ _ => v = some (.int (nI 1))) m_no false kc' ks' (1133, [some (.ref 1000000), some (.ref 0), some (.ref 70), some (.ref 92), some (.int (nI i)), o5, o6], [], H')) : m_J l (m_EX E N xs) E mM_L_law (d + 14) 601024 7293034 (fun v _ _ => v = some (.int (nI 1))) m_no false kc ks (821, [some (.ref 1000000), some (.ref 0), some (.ref 70), some (.ref 92), some (.int (nI i)), o5, o6], [], H) := by
  have hM := mM_L_law_ok
  refine m_J_run hM 1 rfl ⟨trivial, trivial⟩ ?_
  refine m_callV (as := []) (rest := []) (m_EX_warm E N xs) hM rfl kw_L_130 rfl rfl h0 ⟨_, rfl, rfl⟩ hX rfl (Nat.le_of_ble_eq_true rfl) (by omega) (by omega) (fun ht => absurd ht (by decide)) ?_
  refine m_J_run hM 1 rfl ⟨trivial, trivial⟩ ?_
  refine m_J_callV (as := []) (rest := [.int r]) (m_EX_warm E N xs) hM rfl kw_L_133 rfl rfl rfl h70 ⟨_, rfl, rfl⟩ (Nat.le_of_ble_eq_true rfl) (by omega) (by omega) hY (fun v h9 tg9 hp => ?_) (fun nm h9 hp => hp.elim)
  obtain ⟨rfl, rfl, hI⟩ := hp
  refine ⟨fun ht => absurd ht (by decide), ?_⟩
  refine m_J_run hM 1 rfl ⟨trivial, trivial⟩ ?_
  refine m_J_if (fun _ => ?_) (fun hc => absurd rfl hc)
  exact K _ _ _ _ _ hI (by omega) (by omega)
set_option maxHeartbeats 4000000 in
set_option maxRecDepth 20000 in
theorem L_keep {I : mH → Prop} {i kc ks : Nat} {o5 o6 : Option Value} {H H1 : mH} {fs gs : List Value} (hi : i + 5 < N) (hN : N ≤ 3072) (hkc : kc + 1 ≤ 601024) (hks : ks + 6 ≤ 7293034) (h0 : H[0]? = some (.inr (7, fs))) (h70 : H1[70]? = some (.inr (8, gs))) {r : Int32} (hX : m_Dt l (m_EX E N xs) E mM_X8_keep (d + 13) 0 0 [.ref 0] H false (some (.int r)) H1 false) (hY : m_Sp l (m_EX E N xs) E mM_X9_keep (d + 13) 0 0 [.ref 70] H1 false (fun v h9 tg9 => v = some (.int r) ∧ tg9 = false ∧ I h9) m_no) (K : ∀ (H' : mH) (kc' ks' : Nat) (o5 o6 : Option Value), I H' → kc' ≤ kc + 1 → ks' ≤ ks + 6 → m_J l (m_EX E N xs) E mM_L_law (d + 14) 601024 7293034 (fun v _ _ => v = some (.int (nI 1))) m_no false kc' ks' (1133, [some (.ref 1000000), some (.ref 0), some (.ref 70), some (.ref 92), some (.int (nI i)), o5, o6], [], H')) : m_J l (m_EX E N xs) E mM_L_law (d + 14) 601024 7293034 (fun v _ _ => v = some (.int (nI 1))) m_no false kc ks (958, [some (.ref 1000000), some (.ref 0), some (.ref 70), some (.ref 92), some (.int (nI i)), o5, o6], [], H) := by
  have hM := mM_L_law_ok
  refine m_J_run hM 1 rfl ⟨trivial, trivial⟩ ?_
  refine m_callV (as := []) (rest := []) (m_EX_warm E N xs) hM rfl kw_L_141 rfl rfl h0 ⟨_, rfl, rfl⟩ hX rfl (Nat.le_of_ble_eq_true rfl) (by omega) (by omega) (fun ht => absurd ht (by decide)) ?_
  refine m_J_run hM 1 rfl ⟨trivial, trivial⟩ ?_
  refine m_J_callV (as := []) (rest := [.int r]) (m_EX_warm E N xs) hM rfl kw_L_144 rfl rfl rfl h70 ⟨_, rfl, rfl⟩ (Nat.le_of_ble_eq_true rfl) (by omega) (by omega) hY (fun v h9 tg9 hp => ?_) (fun nm h9 hp => hp.elim)
  obtain ⟨rfl, rfl, hI⟩ := hp
  refine ⟨fun ht => absurd ht (by decide), ?_⟩
  refine m_J_run hM 1 rfl ⟨trivial, trivial⟩ ?_
  refine m_J_if (fun _ => ?_) (fun hc => absurd rfl hc)
  exact K _ _ _ _ _ hI (by omega) (by omega)
set_option maxHeartbeats 4000000 in
set_option maxRecDepth 20000 in
theorem L_far {I : mH → Prop} {i kc ks : Nat} {o5 o6 : Option Value} {H H1 : mH} {fs gs : List Value} (hi : i + 5 < N) (hN : N ≤ 3072) (hkc : kc + 1 ≤ 601024) (hks : ks + 6 ≤ 7293034) (h0 : H[0]? = some (.inr (7, fs))) (h70 : H1[70]? = some (.inr (8, gs))) {r : Int32} (hX : m_Dt l (m_EX E N xs) E mM_X8_far (d + 13) 0 0 [.ref 0] H false (some (.int r)) H1 false) (hY : m_Sp l (m_EX E N xs) E mM_X9_far (d + 13) 0 0 [.ref 70] H1 false (fun v h9 tg9 => v = some (.int r) ∧ tg9 = false ∧ I h9) m_no) (K : ∀ (H' : mH) (kc' ks' : Nat) (o5 o6 : Option Value), I H' → kc' ≤ kc + 1 → ks' ≤ ks + 6 → m_J l (m_EX E N xs) E mM_L_law (d + 14) 601024 7293034 (fun v _ _ => v = some (.int (nI 1))) m_no false kc' ks' (1133, [some (.ref 1000000), some (.ref 0), some (.ref 70), some (.ref 92), some (.int (nI i)), o5, o6], [], H')) : m_J l (m_EX E N xs) E mM_L_law (d + 14) 601024 7293034 (fun v _ _ => v = some (.int (nI 1))) m_no false kc ks (1095, [some (.ref 1000000), some (.ref 0), some (.ref 70), some (.ref 92), some (.int (nI i)), o5, o6], [], H) := by
  have hM := mM_L_law_ok
  refine m_J_run hM 1 rfl ⟨trivial, trivial⟩ ?_
  refine m_callV (as := []) (rest := []) (m_EX_warm E N xs) hM rfl kw_L_151 rfl rfl h0 ⟨_, rfl, rfl⟩ hX rfl (Nat.le_of_ble_eq_true rfl) (by omega) (by omega) (fun ht => absurd ht (by decide)) ?_
  refine m_J_run hM 1 rfl ⟨trivial, trivial⟩ ?_
  refine m_J_callV (as := []) (rest := [.int r]) (m_EX_warm E N xs) hM rfl kw_L_154 rfl rfl rfl h70 ⟨_, rfl, rfl⟩ (Nat.le_of_ble_eq_true rfl) (by omega) (by omega) hY (fun v h9 tg9 hp => ?_) (fun nm h9 hp => hp.elim)
  obtain ⟨rfl, rfl, hI⟩ := hp
  refine ⟨fun ht => absurd ht (by decide), ?_⟩
  refine m_J_run hM 1 rfl ⟨trivial, trivial⟩ ?_
  refine m_J_if (fun _ => ?_) (fun hc => absurd rfl hc)
  exact K _ _ _ _ _ hI (by omega) (by omega)
set_option maxHeartbeats 4000000 in
set_option maxRecDepth 20000 in
theorem L_count {I : mH → Prop} {i kc ks : Nat} {o5 o6 : Option Value} {H H1 : mH} {fs gs : List Value} (hi : i + 5 < N) (hN : N ≤ 3072) (hkc : kc + 1 ≤ 601024) (hks : ks + 6 ≤ 7293034) (h0 : H[0]? = some (.inr (7, fs))) (h70 : H1[70]? = some (.inr (8, gs))) {r : Int32} (hX : m_Dt l (m_EX E N xs) E mM_X8_count (d + 13) 0 0 [.ref 0, .int (xs (i + 1))] H false (some (.int r)) H1 false) (hY : m_Sp l (m_EX E N xs) E mM_X9_count (d + 13) 0 0 [.ref 70, .int (xs (i + 1))] H1 false (fun v h9 tg9 => v = some (.int r) ∧ tg9 = false ∧ I h9) m_no) (K : ∀ (H' : mH) (kc' ks' : Nat) (o5 o6 : Option Value), I H' → kc' ≤ kc + 1 → ks' ≤ ks + 6 → m_J l (m_EX E N xs) E mM_L_law (d + 14) 601024 7293034 (fun v _ _ => v = some (.int (nI 1))) m_no false kc' ks' (1133, [some (.ref 1000000), some (.ref 0), some (.ref 70), some (.ref 92), some (.int (nI i)), o5, o6], [], H')) : m_J l (m_EX E N xs) E mM_L_law (d + 14) 601024 7293034 (fun v _ _ => v = some (.int (nI 1))) m_no false kc ks (1108, [some (.ref 1000000), some (.ref 0), some (.ref 70), some (.ref 92), some (.int (nI i)), o5, o6], [], H) := by
  have hM := mM_L_law_ok
  refine m_J_run hM 5 rfl ⟨trivial, trivial, trivial, trivial, trivial, trivial⟩ ?_
  rw [nI_add i 1]
  refine m_J_xld hM rfl (vp_in_nI (by omega) (by omega)) ?_
  rw [nI_clamp (show i + 1 < 2 ^ 31 by omega)]
  refine m_callV (as := [.int (xs (i + 1))]) (rest := []) (m_EX_warm E N xs) hM rfl kw_L_155 rfl rfl h0 ⟨_, rfl, rfl⟩ hX rfl (Nat.le_of_ble_eq_true rfl) (by omega) (by omega) (fun ht => absurd ht (by decide)) ?_
  refine m_J_run hM 5 rfl ⟨trivial, trivial, trivial, trivial, trivial, trivial⟩ ?_
  rw [nI_add i 1]
  refine m_J_xld hM rfl (vp_in_nI (by omega) (by omega)) ?_
  rw [nI_clamp (show i + 1 < 2 ^ 31 by omega)]
  refine m_J_callV (as := [.int (xs (i + 1))]) (rest := [.int r]) (m_EX_warm E N xs) hM rfl kw_L_158 rfl rfl rfl h70 ⟨_, rfl, rfl⟩ (Nat.le_of_ble_eq_true rfl) (by omega) (by omega) hY (fun v h9 tg9 hp => ?_) (fun nm h9 hp => hp.elim)
  obtain ⟨rfl, rfl, hI⟩ := hp
  refine ⟨fun ht => absurd ht (by decide), ?_⟩
  refine m_J_run hM 1 rfl ⟨trivial, trivial⟩ ?_
  refine m_J_if (fun _ => ?_) (fun hc => absurd rfl hc)
  exact K _ _ _ _ _ hI (by omega) (by omega)
end
