/-! THE LAW'S HELPERS: calls with their catches (written by wip/gen_help.py) -/
theorem kx_13 : m_in (.classLink RL 13 "java/lang/IndexOutOfBoundsException") = true := by decide +kernel
theorem ky_13 : m_in (.castable "java/lang/IndexOutOfBoundsException" "java/lang/IndexOutOfBoundsException") = true := by decide +kernel
theorem kx_15 : m_in (.classLink RL 15 "java/lang/IllegalArgumentException") = true := by decide +kernel
theorem ky_15 : m_in (.castable "java/lang/IllegalArgumentException" "java/lang/IllegalArgumentException") = true := by decide +kernel
theorem kx_43 : m_in (.classLink RL 43 "java/util/NoSuchElementException") = true := by decide +kernel
theorem ky_43 : m_in (.castable "java/util/NoSuchElementException" "java/util/NoSuchElementException") = true := by decide +kernel
section
variable {l : Launch} {E : mE} {N : Nat} {xs : Nat → Int32} {M : mM} {d mc ms : Nat} {PR : Option Value → mH → Bool → Prop} {PX : String → mH → Prop} {kc ks : Nat} {pc : Nat} {L : List (Option Value)} {h : mH}
set_option maxHeartbeats 1000000 in
/-- a handler: store by a short form, a number, return -/
theorem m_JX_catchN {EX : State → Prop} {nm cn : String} {pre suf : List (Nat × Nat × Nat × Nat)} {sp ep hp ct t1 t2 t3 : Nat} {k : Fin 4} {v : Int32} {n : Int} (hM : m_okM M = true) (hE : ∀ U, EX U → m_EX E N xs U) (hh : M.2.2.2.2.1 = pre ++ (sp, ep, hp, ct) :: suf) (hcov : Nat.ble sp pc && Nat.blt pc ep = true) (hnm : nm ∈ m_exc) (hct : ct ≠ 0)
    (hpre : ∀ q ∈ pre, q.2.2.2 ≠ 0 ∧ ∃ x ∈ m_exc, x ≠ nm ∧ m_in (.classLink M.1.cls q.2.2.2 x) = true) (hlk : m_in (.classLink M.1.cls ct cn) = true) (hcast : m_in (.castable nm cn) = true)
    (f0 : (m_tb M).lookup hp = some (.astore_n k, t1)) (f1 : (m_tb M).lookup (hp + 1) = some (.iconst n, t2)) (f2 : (m_tb M).lookup (hp + 2) = some (.ireturn, t3)) (hk : k.val < M.2.2.1) (hv : Int32.ofInt n = v) (hr : M.2.2.2.1 = some .int) (hc : kc ≤ mc) (hs : ks ≤ ms) (hpr : PR (some (.int v)) h false) : m_JX l EX E M d mc ms PR PX kc ks nm pc L h := by
  intro p e s m args below meth c H locs ls q ce rest hX hR hz1 hlo hL hq hcv hcl
  obtain ⟨x1, x2, x3, x4, x5, x6, x7, x8, x9, x10, x11, x12, x13⟩ := hX
  have hx11 := hE s x11
  simp only [Bool.and_eq_true] at hcov
  refine vx_catch (own := M.1.cls) (name := cn) (E := nm) (ce := ce) x5 (tableOf pre) { startPc := sp, endPc := ep, handlerPc := hp, catchType := ct } (tableOf suf) (by rw [x10, hh]; simp [tableOf]) (fun z hz => ?_) ?_ hct (x6 _ (m_in_mem hlk)) (x6 _ (m_in_mem hcast)) hq hcv hcl ?_
  · simp only [tableOf, List.mem_map] at hz
    obtain ⟨w, hw, rfl⟩ := hz
    obtain ⟨a1, x, hx, hxn, hxl⟩ := hpre w hw
    exact Or.inr ⟨a1, x, x6 _ (m_in_mem hxl), hx11.2.2.2.2.1 nm hnm x hx (Ne.symm hxn)⟩
  · simp only [covers, Bool.and_eq_true, decide_eq_true_eq]
    refine ⟨?_, ?_⟩
    · simpa using hcov.1
    · simpa [Nat.blt_eq] using hcov.2
  · refine lv_astore_n x1 x2 (m_dec1 hM f0 rfl) rfl (m_al_has hL) hk rfl (fun ls2 h2 => ?_)
    refine lv_iconst x1 x2 (m_dec1 hM f1 rfl) hv ?_
    refine W.widen (k := mc) (n := ms) hc hs (vx_ret ?_)
    exact W.zret x1 x2 (x3.trans hr) rfl (fun t ht _ => ⟨⟨some (.int v), h, false, rfl, hpr, by rw [ht]; exact hR⟩, by rw [ht]; exact hz1⟩) hlo (m_dec1 hM f2 rfl) x8
end
section
variable {l : Launch} {E : mE} {N : Nat} {xs : Nat → Int32} {d : Nat} {h h1 : mH} {fs : List Value}
set_option maxHeartbeats 1000000 in
theorem l_use {a0 : Int32} {a1 : Int32} {a2 : Int32} {r : Int32} {w : Nat → Int64} (h0 : h[0]? = some (.inr (7, fs))) (hB : m_Dt l (m_EX E N xs) E mM_X8_use (d + 12) 0 0 [.ref 0, .int a0, .int a1, .int a2] h false (some (.int r)) h1 false) (hw : h1[92]? = some (k_la 1 w)) : m_Dt l (m_EX E N xs) E mM_L_use (d + 13) 0 0 [.ref 0, .int a0, .int a1, .int a2, .ref 92] h false (some (.int (nI 0))) (h1.set 92 (k_la 1 (vp_updL w 0 r.toInt64))) false := by
  have hM := mM_L_use_ok
  refine m_Sp_of (by decide) (Nat.le_of_ble_eq_true rfl) ?_
  refine m_J_run hM 6 rfl ⟨trivial, trivial, trivial, trivial, trivial, trivial, trivial⟩ ?_
  refine m_callV (as := [.int a0, .int a1, .int a2]) (rest := [.int (nI 0), .ref 92]) (m_EX_warm E N xs) hM rfl kw_L_7 rfl rfl h0 ⟨_, rfl, rfl⟩ hB rfl (Nat.le_of_ble_eq_true rfl) (Nat.le_of_ble_eq_true rfl) (Nat.le_of_ble_eq_true rfl) (fun ht => absurd ht (by decide)) ?_
  refine m_J_run hM 1 rfl ⟨trivial, trivial⟩ ?_
  refine m_lastN hM rfl hw (by omega) (by omega) ?_
  refine m_J_run hM 2 rfl ⟨trivial, trivial, trivial⟩ ?_
  exact m_iret hM rfl rfl rfl (Nat.le_of_ble_eq_true rfl) (Nat.le_of_ble_eq_true rfl) rfl rfl
set_option maxHeartbeats 1000000 in
theorem l_use_i {a0 : Int32} {a1 : Int32} {a2 : Int32} (h0 : h[0]? = some (.inr (7, fs))) (hB : m_Dx l (m_EX E N xs) E mM_X8_use (d + 12) 1 6 [.ref 0, .int a0, .int a1, .int a2] h false "java/lang/IndexOutOfBoundsException" h1) : m_Dt l (m_EX E N xs) E mM_L_use (d + 13) 1 6 [.ref 0, .int a0, .int a1, .int a2, .ref 92] h false (some (.int (nI 1))) h1 false := by
  have hM := mM_L_use_ok
  refine m_Sp_of (by decide) (Nat.le_of_ble_eq_true rfl) ?_
  refine m_J_run hM 6 rfl ⟨trivial, trivial, trivial, trivial, trivial, trivial, trivial⟩ ?_
  refine m_J_callV (as := [.int a0, .int a1, .int a2]) (rest := [.int (nI 0), .ref 92]) (m_EX_warm E N xs) hM rfl kw_L_7 rfl rfl rfl h0 ⟨_, rfl, rfl⟩ (Nat.le_of_ble_eq_true rfl) (Nat.le_of_ble_eq_true rfl) (Nat.le_of_ble_eq_true rfl) hB (fun v h9 tg9 hp => hp.elim) (fun nm h9 hp => ?_)
  obtain ⟨rfl, rfl⟩ := hp
  exact m_JX_catch (pv := 0) (pre := []) (suf := [(0, 12, 19, 15)]) (n := 1) hM (fun U hU => hU) rfl rfl (by decide) (by decide) (fun q hq => nomatch hq) kx_13 ky_13 rfl rfl rfl (by decide) (by decide) rfl (Nat.le_of_ble_eq_true rfl) (Nat.le_of_ble_eq_true rfl) ⟨rfl, rfl, rfl⟩
set_option maxHeartbeats 1000000 in
theorem l_use_a {a0 : Int32} {a1 : Int32} {a2 : Int32} (h0 : h[0]? = some (.inr (7, fs))) (hB : m_Dx l (m_EX E N xs) E mM_X8_use (d + 12) 1 6 [.ref 0, .int a0, .int a1, .int a2] h false "java/lang/IllegalArgumentException" h1) : m_Dt l (m_EX E N xs) E mM_L_use (d + 13) 1 6 [.ref 0, .int a0, .int a1, .int a2, .ref 92] h false (some (.int (nI 2))) h1 false := by
  have hM := mM_L_use_ok
  refine m_Sp_of (by decide) (Nat.le_of_ble_eq_true rfl) ?_
  refine m_J_run hM 6 rfl ⟨trivial, trivial, trivial, trivial, trivial, trivial, trivial⟩ ?_
  refine m_J_callV (as := [.int a0, .int a1, .int a2]) (rest := [.int (nI 0), .ref 92]) (m_EX_warm E N xs) hM rfl kw_L_7 rfl rfl rfl h0 ⟨_, rfl, rfl⟩ (Nat.le_of_ble_eq_true rfl) (Nat.le_of_ble_eq_true rfl) (Nat.le_of_ble_eq_true rfl) hB (fun v h9 tg9 hp => hp.elim) (fun nm h9 hp => ?_)
  obtain ⟨rfl, rfl⟩ := hp
  exact m_JX_catch (pv := 0) (pre := [(0, 12, 15, 13)]) (suf := []) (n := 2) hM (fun U hU => hU) rfl rfl (by decide) (by decide) (fun q hq => by rw [List.mem_singleton.mp hq]; exact ⟨by decide, "java/lang/IndexOutOfBoundsException", by decide, by decide, kx_13⟩) kx_15 ky_15 rfl rfl rfl (by decide) (by decide) rfl (Nat.le_of_ble_eq_true rfl) (Nat.le_of_ble_eq_true rfl) ⟨rfl, rfl, rfl⟩
set_option maxHeartbeats 1000000 in
theorem l_soil {a0 : Int32} {a1 : Int32} {a2 : Int32} (h0 : h[0]? = some (.inr (7, fs))) (hB : m_Dt l (m_EX E N xs) E mM_X8_soil (d + 12) 0 0 [.ref 0, .int a0, .int a1, .int a2] h false none h1 false) : m_Dt l (m_EX E N xs) E mM_L_soil (d + 13) 0 0 [.ref 0, .int a0, .int a1, .int a2] h false (some (.int (nI 0))) h1 false := by
  have hM := mM_L_soil_ok
  refine m_Sp_of (by decide) (Nat.le_of_ble_eq_true rfl) ?_
  refine m_J_run hM 4 rfl ⟨trivial, trivial, trivial, trivial, trivial⟩ ?_
  refine m_callV (as := [.int a0, .int a1, .int a2]) (rest := []) (m_EX_warm E N xs) hM rfl kw_L_17 rfl rfl h0 ⟨_, rfl, rfl⟩ hB rfl (Nat.le_of_ble_eq_true rfl) (Nat.le_of_ble_eq_true rfl) (Nat.le_of_ble_eq_true rfl) (fun ht => absurd ht (by decide)) ?_
  refine m_J_run hM 2 rfl ⟨trivial, trivial, trivial⟩ ?_
  exact m_iret hM rfl rfl rfl (Nat.le_of_ble_eq_true rfl) (Nat.le_of_ble_eq_true rfl) rfl rfl
set_option maxHeartbeats 1000000 in
theorem l_soil_i {a0 : Int32} {a1 : Int32} {a2 : Int32} (h0 : h[0]? = some (.inr (7, fs))) (hB : m_Dx l (m_EX E N xs) E mM_X8_soil (d + 12) 1 6 [.ref 0, .int a0, .int a1, .int a2] h false "java/lang/IndexOutOfBoundsException" h1) : m_Dt l (m_EX E N xs) E mM_L_soil (d + 13) 1 6 [.ref 0, .int a0, .int a1, .int a2] h false (some (.int (nI 1))) h1 false := by
  have hM := mM_L_soil_ok
  refine m_Sp_of (by decide) (Nat.le_of_ble_eq_true rfl) ?_
  refine m_J_run hM 4 rfl ⟨trivial, trivial, trivial, trivial, trivial⟩ ?_
  refine m_J_callV (as := [.int a0, .int a1, .int a2]) (rest := []) (m_EX_warm E N xs) hM rfl kw_L_17 rfl rfl rfl h0 ⟨_, rfl, rfl⟩ (Nat.le_of_ble_eq_true rfl) (Nat.le_of_ble_eq_true rfl) (Nat.le_of_ble_eq_true rfl) hB (fun v h9 tg9 hp => hp.elim) (fun nm h9 hp => ?_)
  obtain ⟨rfl, rfl⟩ := hp
  exact m_JX_catch (pv := 0) (pre := []) (suf := [(0, 7, 14, 15)]) (n := 1) hM (fun U hU => hU) rfl rfl (by decide) (by decide) (fun q hq => nomatch hq) kx_13 ky_13 rfl rfl rfl (by decide) (by decide) rfl (Nat.le_of_ble_eq_true rfl) (Nat.le_of_ble_eq_true rfl) ⟨rfl, rfl, rfl⟩
set_option maxHeartbeats 1000000 in
theorem l_soil_a {a0 : Int32} {a1 : Int32} {a2 : Int32} (h0 : h[0]? = some (.inr (7, fs))) (hB : m_Dx l (m_EX E N xs) E mM_X8_soil (d + 12) 1 6 [.ref 0, .int a0, .int a1, .int a2] h false "java/lang/IllegalArgumentException" h1) : m_Dt l (m_EX E N xs) E mM_L_soil (d + 13) 1 6 [.ref 0, .int a0, .int a1, .int a2] h false (some (.int (nI 2))) h1 false := by
  have hM := mM_L_soil_ok
  refine m_Sp_of (by decide) (Nat.le_of_ble_eq_true rfl) ?_
  refine m_J_run hM 4 rfl ⟨trivial, trivial, trivial, trivial, trivial⟩ ?_
  refine m_J_callV (as := [.int a0, .int a1, .int a2]) (rest := []) (m_EX_warm E N xs) hM rfl kw_L_17 rfl rfl rfl h0 ⟨_, rfl, rfl⟩ (Nat.le_of_ble_eq_true rfl) (Nat.le_of_ble_eq_true rfl) (Nat.le_of_ble_eq_true rfl) hB (fun v h9 tg9 hp => hp.elim) (fun nm h9 hp => ?_)
  obtain ⟨rfl, rfl⟩ := hp
  exact m_JX_catch (pv := 0) (pre := [(0, 7, 10, 13)]) (suf := []) (n := 2) hM (fun U hU => hU) rfl rfl (by decide) (by decide) (fun q hq => by rw [List.mem_singleton.mp hq]; exact ⟨by decide, "java/lang/IndexOutOfBoundsException", by decide, by decide, kx_13⟩) kx_15 ky_15 rfl rfl rfl (by decide) (by decide) rfl (Nat.le_of_ble_eq_true rfl) (Nat.le_of_ble_eq_true rfl) ⟨rfl, rfl, rfl⟩
set_option maxHeartbeats 1000000 in
theorem l_free_t {a0 : Int32} {a1 : Bool} {w : Nat → Int64} (h0 : h[0]? = some (.inr (7, fs))) (hB : m_Dt l (m_EX E N xs) E mM_X8_free (d + 12) 0 0 [.ref 0, .int a0, .int (k_z a1)] h false (some (.int (nI 1))) h1 false) (hw : h1[92]? = some (k_la 1 w)) : m_Dt l (m_EX E N xs) E mM_L_free (d + 13) 0 0 [.ref 0, .int a0, .int (k_z a1), .ref 92] h false (some (.int (nI 0))) (h1.set 92 (k_la 1 (vp_updL w 0 1))) false := by
  have hM := mM_L_free_ok
  refine m_Sp_of (by decide) (Nat.le_of_ble_eq_true rfl) ?_
  refine m_J_run hM 5 rfl ⟨trivial, trivial, trivial, trivial, trivial, trivial⟩ ?_
  refine m_callV (as := [.int a0, .int (k_z a1)]) (rest := [.int (nI 0), .ref 92]) (m_EX_warm E N xs) hM rfl kw_L_21 rfl rfl h0 ⟨_, rfl, rfl⟩ hB rfl (Nat.le_of_ble_eq_true rfl) (Nat.le_of_ble_eq_true rfl) (Nat.le_of_ble_eq_true rfl) (fun ht => absurd ht (by decide)) ?_
  refine m_J_run hM 1 rfl ⟨trivial, trivial⟩ ?_
  refine m_J_if (fun hc => absurd hc (by decide)) (fun _ => ?_)
  refine m_J_run hM 2 rfl ⟨trivial, trivial, trivial⟩ ?_
  refine m_lastN hM rfl hw (by omega) (by omega) ?_
  refine m_J_run hM 2 rfl ⟨trivial, trivial, trivial⟩ ?_
  exact m_iret hM rfl rfl rfl (Nat.le_of_ble_eq_true rfl) (Nat.le_of_ble_eq_true rfl) rfl rfl
set_option maxHeartbeats 1000000 in
theorem l_free_f {a0 : Int32} {a1 : Bool} {w : Nat → Int64} (h0 : h[0]? = some (.inr (7, fs))) (hB : m_Dt l (m_EX E N xs) E mM_X8_free (d + 12) 0 0 [.ref 0, .int a0, .int (k_z a1)] h false (some (.int (nI 0))) h1 false) (hw : h1[92]? = some (k_la 1 w)) : m_Dt l (m_EX E N xs) E mM_L_free (d + 13) 0 0 [.ref 0, .int a0, .int (k_z a1), .ref 92] h false (some (.int (nI 0))) (h1.set 92 (k_la 1 (vp_updL w 0 0))) false := by
  have hM := mM_L_free_ok
  refine m_Sp_of (by decide) (Nat.le_of_ble_eq_true rfl) ?_
  refine m_J_run hM 5 rfl ⟨trivial, trivial, trivial, trivial, trivial, trivial⟩ ?_
  refine m_callV (as := [.int a0, .int (k_z a1)]) (rest := [.int (nI 0), .ref 92]) (m_EX_warm E N xs) hM rfl kw_L_21 rfl rfl h0 ⟨_, rfl, rfl⟩ hB rfl (Nat.le_of_ble_eq_true rfl) (Nat.le_of_ble_eq_true rfl) (Nat.le_of_ble_eq_true rfl) (fun ht => absurd ht (by decide)) ?_
  refine m_J_run hM 1 rfl ⟨trivial, trivial⟩ ?_
  refine m_J_if (fun _ => ?_) (fun hc => absurd (by decide) hc)
  refine m_J_run hM 1 rfl ⟨trivial, trivial⟩ ?_
  refine m_lastN hM rfl hw (by omega) (by omega) ?_
  refine m_J_run hM 2 rfl ⟨trivial, trivial, trivial⟩ ?_
  exact m_iret hM rfl rfl rfl (Nat.le_of_ble_eq_true rfl) (Nat.le_of_ble_eq_true rfl) rfl rfl
set_option maxHeartbeats 1000000 in
theorem l_free_i {a0 : Int32} {a1 : Bool} (h0 : h[0]? = some (.inr (7, fs))) (hB : m_Dx l (m_EX E N xs) E mM_X8_free (d + 12) 1 6 [.ref 0, .int a0, .int (k_z a1)] h false "java/lang/IndexOutOfBoundsException" h1) : m_Dt l (m_EX E N xs) E mM_L_free (d + 13) 1 6 [.ref 0, .int a0, .int (k_z a1), .ref 92] h false (some (.int (nI 1))) h1 false := by
  have hM := mM_L_free_ok
  refine m_Sp_of (by decide) (Nat.le_of_ble_eq_true rfl) ?_
  refine m_J_run hM 5 rfl ⟨trivial, trivial, trivial, trivial, trivial, trivial⟩ ?_
  refine m_J_callV (as := [.int a0, .int (k_z a1)]) (rest := [.int (nI 0), .ref 92]) (m_EX_warm E N xs) hM rfl kw_L_21 rfl rfl rfl h0 ⟨_, rfl, rfl⟩ (Nat.le_of_ble_eq_true rfl) (Nat.le_of_ble_eq_true rfl) (Nat.le_of_ble_eq_true rfl) hB (fun v h9 tg9 hp => hp.elim) (fun nm h9 hp => ?_)
  obtain ⟨rfl, rfl⟩ := hp
  exact m_JX_catch (pv := 0) (pre := []) (suf := []) (n := 1) hM (fun U hU => hU) rfl rfl (by decide) (by decide) (fun q hq => nomatch hq) kx_13 ky_13 rfl rfl rfl (by decide) (by decide) rfl (Nat.le_of_ble_eq_true rfl) (Nat.le_of_ble_eq_true rfl) ⟨rfl, rfl, rfl⟩
set_option maxHeartbeats 1000000 in
theorem l_gate {a0 : Int32} (h0 : h[0]? = some (.inr (7, fs))) (hB : m_Dt l (m_EX E N xs) E mM_X8_gate (d + 12) 0 0 [.ref 0, .int a0] h false none h1 false) : m_Dt l (m_EX E N xs) E mM_L_gate (d + 13) 0 0 [.ref 0, .int a0] h false (some (.int (nI 0))) h1 false := by
  have hM := mM_L_gate_ok
  refine m_Sp_of (by decide) (Nat.le_of_ble_eq_true rfl) ?_
  refine m_J_run hM 2 rfl ⟨trivial, trivial, trivial⟩ ?_
  refine m_callV (as := [.int a0]) (rest := []) (m_EX_warm E N xs) hM rfl kw_L_25 rfl rfl h0 ⟨_, rfl, rfl⟩ hB rfl (Nat.le_of_ble_eq_true rfl) (Nat.le_of_ble_eq_true rfl) (Nat.le_of_ble_eq_true rfl) (fun ht => absurd ht (by decide)) ?_
  refine m_J_run hM 2 rfl ⟨trivial, trivial, trivial⟩ ?_
  exact m_iret hM rfl rfl rfl (Nat.le_of_ble_eq_true rfl) (Nat.le_of_ble_eq_true rfl) rfl rfl
set_option maxHeartbeats 1000000 in
theorem l_gate_i {a0 : Int32} (h0 : h[0]? = some (.inr (7, fs))) (hB : m_Dx l (m_EX E N xs) E mM_X8_gate (d + 12) 1 6 [.ref 0, .int a0] h false "java/lang/IndexOutOfBoundsException" h1) : m_Dt l (m_EX E N xs) E mM_L_gate (d + 13) 1 6 [.ref 0, .int a0] h false (some (.int (nI 1))) h1 false := by
  have hM := mM_L_gate_ok
  refine m_Sp_of (by decide) (Nat.le_of_ble_eq_true rfl) ?_
  refine m_J_run hM 2 rfl ⟨trivial, trivial, trivial⟩ ?_
  refine m_J_callV (as := [.int a0]) (rest := []) (m_EX_warm E N xs) hM rfl kw_L_25 rfl rfl rfl h0 ⟨_, rfl, rfl⟩ (Nat.le_of_ble_eq_true rfl) (Nat.le_of_ble_eq_true rfl) (Nat.le_of_ble_eq_true rfl) hB (fun v h9 tg9 hp => hp.elim) (fun nm h9 hp => ?_)
  obtain ⟨rfl, rfl⟩ := hp
  exact m_JX_catchN (pre := []) (suf := []) (n := 1) hM (fun U hU => hU) rfl rfl (by decide) (by decide) (fun q hq => nomatch hq) kx_13 ky_13 rfl rfl rfl (by decide) (by decide) rfl (Nat.le_of_ble_eq_true rfl) (Nat.le_of_ble_eq_true rfl) ⟨rfl, rfl, rfl⟩
set_option maxHeartbeats 1000000 in
theorem l_book  {r : Int32} {w : Nat → Int64} (h0 : h[0]? = some (.inr (7, fs))) (hB : m_Dt l (m_EX E N xs) E mM_X8_book (d + 12) 0 0 [.ref 0] h false (some (.int r)) h1 false) (hw : h1[92]? = some (k_la 1 w)) : m_Dt l (m_EX E N xs) E mM_L_book (d + 13) 0 0 [.ref 0, .ref 92] h false (some (.int (nI 0))) (h1.set 92 (k_la 1 (vp_updL w 0 r.toInt64))) false := by
  have hM := mM_L_book_ok
  refine m_Sp_of (by decide) (Nat.le_of_ble_eq_true rfl) ?_
  refine m_J_run hM 3 rfl ⟨trivial, trivial, trivial, trivial⟩ ?_
  refine m_callV (as := []) (rest := [.int (nI 0), .ref 92]) (m_EX_warm E N xs) hM rfl kw_L_29 rfl rfl h0 ⟨_, rfl, rfl⟩ hB rfl (Nat.le_of_ble_eq_true rfl) (Nat.le_of_ble_eq_true rfl) (Nat.le_of_ble_eq_true rfl) (fun ht => absurd ht (by decide)) ?_
  refine m_J_run hM 1 rfl ⟨trivial, trivial⟩ ?_
  refine m_lastN hM rfl hw (by omega) (by omega) ?_
  refine m_J_run hM 2 rfl ⟨trivial, trivial, trivial⟩ ?_
  exact m_iret hM rfl rfl rfl (Nat.le_of_ble_eq_true rfl) (Nat.le_of_ble_eq_true rfl) rfl rfl
set_option maxHeartbeats 1000000 in
theorem l_book_a  (h0 : h[0]? = some (.inr (7, fs))) (hB : m_Dx l (m_EX E N xs) E mM_X8_book (d + 12) 1 6 [.ref 0] h false "java/lang/IllegalArgumentException" h1) : m_Dt l (m_EX E N xs) E mM_L_book (d + 13) 1 6 [.ref 0, .ref 92] h false (some (.int (nI 1))) h1 false := by
  have hM := mM_L_book_ok
  refine m_Sp_of (by decide) (Nat.le_of_ble_eq_true rfl) ?_
  refine m_J_run hM 3 rfl ⟨trivial, trivial, trivial, trivial⟩ ?_
  refine m_J_callV (as := []) (rest := [.int (nI 0), .ref 92]) (m_EX_warm E N xs) hM rfl kw_L_29 rfl rfl rfl h0 ⟨_, rfl, rfl⟩ (Nat.le_of_ble_eq_true rfl) (Nat.le_of_ble_eq_true rfl) (Nat.le_of_ble_eq_true rfl) hB (fun v h9 tg9 hp => hp.elim) (fun nm h9 hp => ?_)
  obtain ⟨rfl, rfl⟩ := hp
  exact m_JX_catchN (pre := []) (suf := []) (n := 1) hM (fun U hU => hU) rfl rfl (by decide) (by decide) (fun q hq => nomatch hq) kx_15 ky_15 rfl rfl rfl (by decide) (by decide) rfl (Nat.le_of_ble_eq_true rfl) (Nat.le_of_ble_eq_true rfl) ⟨rfl, rfl, rfl⟩
set_option maxHeartbeats 1000000 in
theorem l_adds {a0 : Int32} {r : Int32} {w : Nat → Int64} (h0 : h[0]? = some (.inr (7, fs))) (hB : m_Dt l (m_EX E N xs) E mM_X8_adds (d + 12) 0 0 [.ref 0, .int a0] h false (some (.int r)) h1 false) (hw : h1[92]? = some (k_la 1 w)) : m_Dt l (m_EX E N xs) E mM_L_adds (d + 13) 0 0 [.ref 0, .int a0, .ref 92] h false (some (.int (nI 0))) (h1.set 92 (k_la 1 (vp_updL w 0 r.toInt64))) false := by
  have hM := mM_L_adds_ok
  refine m_Sp_of (by decide) (Nat.le_of_ble_eq_true rfl) ?_
  refine m_J_run hM 4 rfl ⟨trivial, trivial, trivial, trivial, trivial⟩ ?_
  refine m_callV (as := [.int a0]) (rest := [.int (nI 0), .ref 92]) (m_EX_warm E N xs) hM rfl kw_L_33 rfl rfl h0 ⟨_, rfl, rfl⟩ hB rfl (Nat.le_of_ble_eq_true rfl) (Nat.le_of_ble_eq_true rfl) (Nat.le_of_ble_eq_true rfl) (fun ht => absurd ht (by decide)) ?_
  refine m_J_run hM 1 rfl ⟨trivial, trivial⟩ ?_
  refine m_lastN hM rfl hw (by omega) (by omega) ?_
  refine m_J_run hM 2 rfl ⟨trivial, trivial, trivial⟩ ?_
  exact m_iret hM rfl rfl rfl (Nat.le_of_ble_eq_true rfl) (Nat.le_of_ble_eq_true rfl) rfl rfl
set_option maxHeartbeats 1000000 in
theorem l_adds_i {a0 : Int32} (h0 : h[0]? = some (.inr (7, fs))) (hB : m_Dx l (m_EX E N xs) E mM_X8_adds (d + 12) 1 6 [.ref 0, .int a0] h false "java/lang/IndexOutOfBoundsException" h1) : m_Dt l (m_EX E N xs) E mM_L_adds (d + 13) 1 6 [.ref 0, .int a0, .ref 92] h false (some (.int (nI 1))) h1 false := by
  have hM := mM_L_adds_ok
  refine m_Sp_of (by decide) (Nat.le_of_ble_eq_true rfl) ?_
  refine m_J_run hM 4 rfl ⟨trivial, trivial, trivial, trivial, trivial⟩ ?_
  refine m_J_callV (as := [.int a0]) (rest := [.int (nI 0), .ref 92]) (m_EX_warm E N xs) hM rfl kw_L_33 rfl rfl rfl h0 ⟨_, rfl, rfl⟩ (Nat.le_of_ble_eq_true rfl) (Nat.le_of_ble_eq_true rfl) (Nat.le_of_ble_eq_true rfl) hB (fun v h9 tg9 hp => hp.elim) (fun nm h9 hp => ?_)
  obtain ⟨rfl, rfl⟩ := hp
  exact m_JX_catchN (pre := []) (suf := []) (n := 1) hM (fun U hU => hU) rfl rfl (by decide) (by decide) (fun q hq => nomatch hq) kx_13 ky_13 rfl rfl rfl (by decide) (by decide) rfl (Nat.le_of_ble_eq_true rfl) (Nat.le_of_ble_eq_true rfl) ⟨rfl, rfl, rfl⟩
set_option maxHeartbeats 1000000 in
theorem l_years {a0 : Int32} {r : Int32} {w : Nat → Int64} (h0 : h[0]? = some (.inr (7, fs))) (hB : m_Dt l (m_EX E N xs) E mM_X8_years (d + 12) 0 0 [.ref 0, .int a0] h false (some (.int r)) h1 false) (hw : h1[92]? = some (k_la 1 w)) : m_Dt l (m_EX E N xs) E mM_L_years (d + 13) 0 0 [.ref 0, .int a0, .ref 92] h false (some (.int (nI 0))) (h1.set 92 (k_la 1 (vp_updL w 0 r.toInt64))) false := by
  have hM := mM_L_years_ok
  refine m_Sp_of (by decide) (Nat.le_of_ble_eq_true rfl) ?_
  refine m_J_run hM 4 rfl ⟨trivial, trivial, trivial, trivial, trivial⟩ ?_
  refine m_callV (as := [.int a0]) (rest := [.int (nI 0), .ref 92]) (m_EX_warm E N xs) hM rfl kw_L_37 rfl rfl h0 ⟨_, rfl, rfl⟩ hB rfl (Nat.le_of_ble_eq_true rfl) (Nat.le_of_ble_eq_true rfl) (Nat.le_of_ble_eq_true rfl) (fun ht => absurd ht (by decide)) ?_
  refine m_J_run hM 1 rfl ⟨trivial, trivial⟩ ?_
  refine m_lastN hM rfl hw (by omega) (by omega) ?_
  refine m_J_run hM 2 rfl ⟨trivial, trivial, trivial⟩ ?_
  exact m_iret hM rfl rfl rfl (Nat.le_of_ble_eq_true rfl) (Nat.le_of_ble_eq_true rfl) rfl rfl
set_option maxHeartbeats 1000000 in
theorem l_years_a {a0 : Int32} (h0 : h[0]? = some (.inr (7, fs))) (hB : m_Dx l (m_EX E N xs) E mM_X8_years (d + 12) 1 6 [.ref 0, .int a0] h false "java/lang/IllegalArgumentException" h1) : m_Dt l (m_EX E N xs) E mM_L_years (d + 13) 1 6 [.ref 0, .int a0, .ref 92] h false (some (.int (nI 1))) h1 false := by
  have hM := mM_L_years_ok
  refine m_Sp_of (by decide) (Nat.le_of_ble_eq_true rfl) ?_
  refine m_J_run hM 4 rfl ⟨trivial, trivial, trivial, trivial, trivial⟩ ?_
  refine m_J_callV (as := [.int a0]) (rest := [.int (nI 0), .ref 92]) (m_EX_warm E N xs) hM rfl kw_L_37 rfl rfl rfl h0 ⟨_, rfl, rfl⟩ (Nat.le_of_ble_eq_true rfl) (Nat.le_of_ble_eq_true rfl) (Nat.le_of_ble_eq_true rfl) hB (fun v h9 tg9 hp => hp.elim) (fun nm h9 hp => ?_)
  obtain ⟨rfl, rfl⟩ := hp
  exact m_JX_catchN (pre := []) (suf := []) (n := 1) hM (fun U hU => hU) rfl rfl (by decide) (by decide) (fun q hq => nomatch hq) kx_15 ky_15 rfl rfl rfl (by decide) (by decide) rfl (Nat.le_of_ble_eq_true rfl) (Nat.le_of_ble_eq_true rfl) ⟨rfl, rfl, rfl⟩
set_option maxHeartbeats 1000000 in
theorem l_best  {r : Int32} {w : Nat → Int64} (h0 : h[0]? = some (.inr (7, fs))) (hB : m_Dt l (m_EX E N xs) E mM_X8_best (d + 12) 0 0 [.ref 0] h false (some (.int r)) h1 false) (hw : h1[92]? = some (k_la 1 w)) : m_Dt l (m_EX E N xs) E mM_L_best (d + 13) 0 0 [.ref 0, .ref 92] h false (some (.int (nI 0))) (h1.set 92 (k_la 1 (vp_updL w 0 r.toInt64))) false := by
  have hM := mM_L_best_ok
  refine m_Sp_of (by decide) (Nat.le_of_ble_eq_true rfl) ?_
  refine m_J_run hM 3 rfl ⟨trivial, trivial, trivial, trivial⟩ ?_
  refine m_callV (as := []) (rest := [.int (nI 0), .ref 92]) (m_EX_warm E N xs) hM rfl kw_L_40 rfl rfl h0 ⟨_, rfl, rfl⟩ hB rfl (Nat.le_of_ble_eq_true rfl) (Nat.le_of_ble_eq_true rfl) (Nat.le_of_ble_eq_true rfl) (fun ht => absurd ht (by decide)) ?_
  refine m_J_run hM 1 rfl ⟨trivial, trivial⟩ ?_
  refine m_lastN hM rfl hw (by omega) (by omega) ?_
  refine m_J_run hM 2 rfl ⟨trivial, trivial, trivial⟩ ?_
  exact m_iret hM rfl rfl rfl (Nat.le_of_ble_eq_true rfl) (Nat.le_of_ble_eq_true rfl) rfl rfl
set_option maxHeartbeats 1000000 in
theorem l_best_n  (h0 : h[0]? = some (.inr (7, fs))) (hB : m_Dx l (m_EX E N xs) E mM_X8_best (d + 12) 1 6 [.ref 0] h false "java/util/NoSuchElementException" h1) : m_Dt l (m_EX E N xs) E mM_L_best (d + 13) 1 6 [.ref 0, .ref 92] h false (some (.int (nI 1))) h1 false := by
  have hM := mM_L_best_ok
  refine m_Sp_of (by decide) (Nat.le_of_ble_eq_true rfl) ?_
  refine m_J_run hM 3 rfl ⟨trivial, trivial, trivial, trivial⟩ ?_
  refine m_J_callV (as := []) (rest := [.int (nI 0), .ref 92]) (m_EX_warm E N xs) hM rfl kw_L_40 rfl rfl rfl h0 ⟨_, rfl, rfl⟩ (Nat.le_of_ble_eq_true rfl) (Nat.le_of_ble_eq_true rfl) (Nat.le_of_ble_eq_true rfl) hB (fun v h9 tg9 hp => hp.elim) (fun nm h9 hp => ?_)
  obtain ⟨rfl, rfl⟩ := hp
  exact m_JX_catchN (pre := []) (suf := []) (n := 1) hM (fun U hU => hU) rfl rfl (by decide) (by decide) (fun q hq => nomatch hq) kx_43 ky_43 rfl rfl rfl (by decide) (by decide) rfl (Nat.le_of_ble_eq_true rfl) (Nat.le_of_ble_eq_true rfl) ⟨rfl, rfl, rfl⟩
set_option maxHeartbeats 1000000 in
theorem l_given {a0 : Int32} {r : Int32} {w : Nat → Int64} (h0 : h[0]? = some (.inr (7, fs))) (hB : m_Dt l (m_EX E N xs) E mM_X8_given (d + 12) 0 0 [.ref 0, .int a0] h false (some (.int r)) h1 false) (hw : h1[92]? = some (k_la 1 w)) : m_Dt l (m_EX E N xs) E mM_L_given (d + 13) 0 0 [.ref 0, .int a0, .ref 92] h false (some (.int (nI 0))) (h1.set 92 (k_la 1 (vp_updL w 0 r.toInt64))) false := by
  have hM := mM_L_given_ok
  refine m_Sp_of (by decide) (Nat.le_of_ble_eq_true rfl) ?_
  refine m_J_run hM 4 rfl ⟨trivial, trivial, trivial, trivial, trivial⟩ ?_
  refine m_callV (as := [.int a0]) (rest := [.int (nI 0), .ref 92]) (m_EX_warm E N xs) hM rfl kw_L_45 rfl rfl h0 ⟨_, rfl, rfl⟩ hB rfl (Nat.le_of_ble_eq_true rfl) (Nat.le_of_ble_eq_true rfl) (Nat.le_of_ble_eq_true rfl) (fun ht => absurd ht (by decide)) ?_
  refine m_J_run hM 1 rfl ⟨trivial, trivial⟩ ?_
  refine m_lastN hM rfl hw (by omega) (by omega) ?_
  refine m_J_run hM 2 rfl ⟨trivial, trivial, trivial⟩ ?_
  exact m_iret hM rfl rfl rfl (Nat.le_of_ble_eq_true rfl) (Nat.le_of_ble_eq_true rfl) rfl rfl
set_option maxHeartbeats 1000000 in
theorem l_given_i {a0 : Int32} (h0 : h[0]? = some (.inr (7, fs))) (hB : m_Dx l (m_EX E N xs) E mM_X8_given (d + 12) 1 6 [.ref 0, .int a0] h false "java/lang/IndexOutOfBoundsException" h1) : m_Dt l (m_EX E N xs) E mM_L_given (d + 13) 1 6 [.ref 0, .int a0, .ref 92] h false (some (.int (nI 1))) h1 false := by
  have hM := mM_L_given_ok
  refine m_Sp_of (by decide) (Nat.le_of_ble_eq_true rfl) ?_
  refine m_J_run hM 4 rfl ⟨trivial, trivial, trivial, trivial, trivial⟩ ?_
  refine m_J_callV (as := [.int a0]) (rest := [.int (nI 0), .ref 92]) (m_EX_warm E N xs) hM rfl kw_L_45 rfl rfl rfl h0 ⟨_, rfl, rfl⟩ (Nat.le_of_ble_eq_true rfl) (Nat.le_of_ble_eq_true rfl) (Nat.le_of_ble_eq_true rfl) hB (fun v h9 tg9 hp => hp.elim) (fun nm h9 hp => ?_)
  obtain ⟨rfl, rfl⟩ := hp
  exact m_JX_catchN (pre := []) (suf := []) (n := 1) hM (fun U hU => hU) rfl rfl (by decide) (by decide) (fun q hq => nomatch hq) kx_13 ky_13 rfl rfl rfl (by decide) (by decide) rfl (Nat.le_of_ble_eq_true rfl) (Nat.le_of_ble_eq_true rfl) ⟨rfl, rfl, rfl⟩
set_option maxHeartbeats 1000000 in
theorem l_cost {a0 : Int32} {r : Int32} {w : Nat → Int64} (h0 : h[0]? = some (.inr (7, fs))) (hB : m_Dt l (m_EX E N xs) E mM_X8_cost (d + 12) 0 0 [.ref 0, .int a0] h false (some (.int r)) h1 false) (hw : h1[92]? = some (k_la 1 w)) : m_Dt l (m_EX E N xs) E mM_L_cost (d + 13) 0 0 [.ref 0, .int a0, .ref 92] h false (some (.int (nI 0))) (h1.set 92 (k_la 1 (vp_updL w 0 r.toInt64))) false := by
  have hM := mM_L_cost_ok
  refine m_Sp_of (by decide) (Nat.le_of_ble_eq_true rfl) ?_
  refine m_J_run hM 4 rfl ⟨trivial, trivial, trivial, trivial, trivial⟩ ?_
  refine m_callV (as := [.int a0]) (rest := [.int (nI 0), .ref 92]) (m_EX_warm E N xs) hM rfl kw_L_48 rfl rfl h0 ⟨_, rfl, rfl⟩ hB rfl (Nat.le_of_ble_eq_true rfl) (Nat.le_of_ble_eq_true rfl) (Nat.le_of_ble_eq_true rfl) (fun ht => absurd ht (by decide)) ?_
  refine m_J_run hM 1 rfl ⟨trivial, trivial⟩ ?_
  refine m_lastN hM rfl hw (by omega) (by omega) ?_
  refine m_J_run hM 2 rfl ⟨trivial, trivial, trivial⟩ ?_
  exact m_iret hM rfl rfl rfl (Nat.le_of_ble_eq_true rfl) (Nat.le_of_ble_eq_true rfl) rfl rfl
set_option maxHeartbeats 1000000 in
theorem l_cost_i {a0 : Int32} (h0 : h[0]? = some (.inr (7, fs))) (hB : m_Dx l (m_EX E N xs) E mM_X8_cost (d + 12) 1 6 [.ref 0, .int a0] h false "java/lang/IndexOutOfBoundsException" h1) : m_Dt l (m_EX E N xs) E mM_L_cost (d + 13) 1 6 [.ref 0, .int a0, .ref 92] h false (some (.int (nI 1))) h1 false := by
  have hM := mM_L_cost_ok
  refine m_Sp_of (by decide) (Nat.le_of_ble_eq_true rfl) ?_
  refine m_J_run hM 4 rfl ⟨trivial, trivial, trivial, trivial, trivial⟩ ?_
  refine m_J_callV (as := [.int a0]) (rest := [.int (nI 0), .ref 92]) (m_EX_warm E N xs) hM rfl kw_L_48 rfl rfl rfl h0 ⟨_, rfl, rfl⟩ (Nat.le_of_ble_eq_true rfl) (Nat.le_of_ble_eq_true rfl) (Nat.le_of_ble_eq_true rfl) hB (fun v h9 tg9 hp => hp.elim) (fun nm h9 hp => ?_)
  obtain ⟨rfl, rfl⟩ := hp
  exact m_JX_catchN (pre := []) (suf := [(0, 9, 15, 43)]) (n := 1) hM (fun U hU => hU) rfl rfl (by decide) (by decide) (fun q hq => nomatch hq) kx_13 ky_13 rfl rfl rfl (by decide) (by decide) rfl (Nat.le_of_ble_eq_true rfl) (Nat.le_of_ble_eq_true rfl) ⟨rfl, rfl, rfl⟩
set_option maxHeartbeats 1000000 in
theorem l_cost_n {a0 : Int32} (h0 : h[0]? = some (.inr (7, fs))) (hB : m_Dx l (m_EX E N xs) E mM_X8_cost (d + 12) 1 6 [.ref 0, .int a0] h false "java/util/NoSuchElementException" h1) : m_Dt l (m_EX E N xs) E mM_L_cost (d + 13) 1 6 [.ref 0, .int a0, .ref 92] h false (some (.int (nI 2))) h1 false := by
  have hM := mM_L_cost_ok
  refine m_Sp_of (by decide) (Nat.le_of_ble_eq_true rfl) ?_
  refine m_J_run hM 4 rfl ⟨trivial, trivial, trivial, trivial, trivial⟩ ?_
  refine m_J_callV (as := [.int a0]) (rest := [.int (nI 0), .ref 92]) (m_EX_warm E N xs) hM rfl kw_L_48 rfl rfl rfl h0 ⟨_, rfl, rfl⟩ (Nat.le_of_ble_eq_true rfl) (Nat.le_of_ble_eq_true rfl) (Nat.le_of_ble_eq_true rfl) hB (fun v h9 tg9 hp => hp.elim) (fun nm h9 hp => ?_)
  obtain ⟨rfl, rfl⟩ := hp
  exact m_JX_catchN (pre := [(0, 9, 12, 13)]) (suf := []) (n := 2) hM (fun U hU => hU) rfl rfl (by decide) (by decide) (fun q hq => by rw [List.mem_singleton.mp hq]; exact ⟨by decide, "java/lang/IndexOutOfBoundsException", by decide, by decide, kx_13⟩) kx_43 ky_43 rfl rfl rfl (by decide) (by decide) rfl (Nat.le_of_ble_eq_true rfl) (Nat.le_of_ble_eq_true rfl) ⟨rfl, rfl, rfl⟩
set_option maxHeartbeats 1000000 in
theorem l_look {a0 : Int32} {a1 : Int32} {r : Int32} {w : Nat → Int64} (h0 : h[0]? = some (.inr (7, fs))) (hB : m_Dt l (m_EX E N xs) E mM_X8_look (d + 12) 0 0 [.ref 0, .int a0, .int a1] h false (some (.int r)) h1 false) (hw : h1[92]? = some (k_la 1 w)) : m_Dt l (m_EX E N xs) E mM_L_look (d + 13) 0 0 [.ref 0, .int a0, .int a1, .ref 92] h false (some (.int (nI 0))) (h1.set 92 (k_la 1 (vp_updL w 0 r.toInt64))) false := by
  have hM := mM_L_look_ok
  refine m_Sp_of (by decide) (Nat.le_of_ble_eq_true rfl) ?_
  refine m_J_run hM 5 rfl ⟨trivial, trivial, trivial, trivial, trivial, trivial⟩ ?_
  refine m_callV (as := [.int a0, .int a1]) (rest := [.int (nI 0), .ref 92]) (m_EX_warm E N xs) hM rfl kw_L_51 rfl rfl h0 ⟨_, rfl, rfl⟩ hB rfl (Nat.le_of_ble_eq_true rfl) (Nat.le_of_ble_eq_true rfl) (Nat.le_of_ble_eq_true rfl) (fun ht => absurd ht (by decide)) ?_
  refine m_J_run hM 1 rfl ⟨trivial, trivial⟩ ?_
  refine m_lastN hM rfl hw (by omega) (by omega) ?_
  refine m_J_run hM 2 rfl ⟨trivial, trivial, trivial⟩ ?_
  exact m_iret hM rfl rfl rfl (Nat.le_of_ble_eq_true rfl) (Nat.le_of_ble_eq_true rfl) rfl rfl
set_option maxHeartbeats 1000000 in
theorem l_look_i {a0 : Int32} {a1 : Int32} (h0 : h[0]? = some (.inr (7, fs))) (hB : m_Dx l (m_EX E N xs) E mM_X8_look (d + 12) 1 6 [.ref 0, .int a0, .int a1] h false "java/lang/IndexOutOfBoundsException" h1) : m_Dt l (m_EX E N xs) E mM_L_look (d + 13) 1 6 [.ref 0, .int a0, .int a1, .ref 92] h false (some (.int (nI 1))) h1 false := by
  have hM := mM_L_look_ok
  refine m_Sp_of (by decide) (Nat.le_of_ble_eq_true rfl) ?_
  refine m_J_run hM 5 rfl ⟨trivial, trivial, trivial, trivial, trivial, trivial⟩ ?_
  refine m_J_callV (as := [.int a0, .int a1]) (rest := [.int (nI 0), .ref 92]) (m_EX_warm E N xs) hM rfl kw_L_51 rfl rfl rfl h0 ⟨_, rfl, rfl⟩ (Nat.le_of_ble_eq_true rfl) (Nat.le_of_ble_eq_true rfl) (Nat.le_of_ble_eq_true rfl) hB (fun v h9 tg9 hp => hp.elim) (fun nm h9 hp => ?_)
  obtain ⟨rfl, rfl⟩ := hp
  exact m_JX_catch (pv := 0) (pre := []) (suf := [(0, 10, 17, 43)]) (n := 1) hM (fun U hU => hU) rfl rfl (by decide) (by decide) (fun q hq => nomatch hq) kx_13 ky_13 rfl rfl rfl (by decide) (by decide) rfl (Nat.le_of_ble_eq_true rfl) (Nat.le_of_ble_eq_true rfl) ⟨rfl, rfl, rfl⟩
set_option maxHeartbeats 1000000 in
theorem l_look_n {a0 : Int32} {a1 : Int32} (h0 : h[0]? = some (.inr (7, fs))) (hB : m_Dx l (m_EX E N xs) E mM_X8_look (d + 12) 1 6 [.ref 0, .int a0, .int a1] h false "java/util/NoSuchElementException" h1) : m_Dt l (m_EX E N xs) E mM_L_look (d + 13) 1 6 [.ref 0, .int a0, .int a1, .ref 92] h false (some (.int (nI 2))) h1 false := by
  have hM := mM_L_look_ok
  refine m_Sp_of (by decide) (Nat.le_of_ble_eq_true rfl) ?_
  refine m_J_run hM 5 rfl ⟨trivial, trivial, trivial, trivial, trivial, trivial⟩ ?_
  refine m_J_callV (as := [.int a0, .int a1]) (rest := [.int (nI 0), .ref 92]) (m_EX_warm E N xs) hM rfl kw_L_51 rfl rfl rfl h0 ⟨_, rfl, rfl⟩ (Nat.le_of_ble_eq_true rfl) (Nat.le_of_ble_eq_true rfl) (Nat.le_of_ble_eq_true rfl) hB (fun v h9 tg9 hp => hp.elim) (fun nm h9 hp => ?_)
  obtain ⟨rfl, rfl⟩ := hp
  exact m_JX_catch (pv := 0) (pre := [(0, 10, 13, 13)]) (suf := []) (n := 2) hM (fun U hU => hU) rfl rfl (by decide) (by decide) (fun q hq => by rw [List.mem_singleton.mp hq]; exact ⟨by decide, "java/lang/IndexOutOfBoundsException", by decide, by decide, kx_13⟩) kx_43 ky_43 rfl rfl rfl (by decide) (by decide) rfl (Nat.le_of_ble_eq_true rfl) (Nat.le_of_ble_eq_true rfl) ⟨rfl, rfl, rfl⟩
set_option maxHeartbeats 1000000 in
theorem l_unlike {a0 : Int32} {a1 : Int32} {r : Int32} {w : Nat → Int64} (h0 : h[0]? = some (.inr (7, fs))) (hB : m_Dt l (m_EX E N xs) E mM_X8_unlike (d + 12) 0 0 [.ref 0, .int a0, .int a1] h false (some (.int r)) h1 false) (hw : h1[92]? = some (k_la 1 w)) : m_Dt l (m_EX E N xs) E mM_L_unlike (d + 13) 0 0 [.ref 0, .int a0, .int a1, .ref 92] h false (some (.int (nI 0))) (h1.set 92 (k_la 1 (vp_updL w 0 r.toInt64))) false := by
  have hM := mM_L_unlike_ok
  refine m_Sp_of (by decide) (Nat.le_of_ble_eq_true rfl) ?_
  refine m_J_run hM 5 rfl ⟨trivial, trivial, trivial, trivial, trivial, trivial⟩ ?_
  refine m_callV (as := [.int a0, .int a1]) (rest := [.int (nI 0), .ref 92]) (m_EX_warm E N xs) hM rfl kw_L_55 rfl rfl h0 ⟨_, rfl, rfl⟩ hB rfl (Nat.le_of_ble_eq_true rfl) (Nat.le_of_ble_eq_true rfl) (Nat.le_of_ble_eq_true rfl) (fun ht => absurd ht (by decide)) ?_
  refine m_J_run hM 1 rfl ⟨trivial, trivial⟩ ?_
  refine m_lastN hM rfl hw (by omega) (by omega) ?_
  refine m_J_run hM 2 rfl ⟨trivial, trivial, trivial⟩ ?_
  exact m_iret hM rfl rfl rfl (Nat.le_of_ble_eq_true rfl) (Nat.le_of_ble_eq_true rfl) rfl rfl
set_option maxHeartbeats 1000000 in
theorem l_unlike_i {a0 : Int32} {a1 : Int32} (h0 : h[0]? = some (.inr (7, fs))) (hB : m_Dx l (m_EX E N xs) E mM_X8_unlike (d + 12) 1 6 [.ref 0, .int a0, .int a1] h false "java/lang/IndexOutOfBoundsException" h1) : m_Dt l (m_EX E N xs) E mM_L_unlike (d + 13) 1 6 [.ref 0, .int a0, .int a1, .ref 92] h false (some (.int (nI 1))) h1 false := by
  have hM := mM_L_unlike_ok
  refine m_Sp_of (by decide) (Nat.le_of_ble_eq_true rfl) ?_
  refine m_J_run hM 5 rfl ⟨trivial, trivial, trivial, trivial, trivial, trivial⟩ ?_
  refine m_J_callV (as := [.int a0, .int a1]) (rest := [.int (nI 0), .ref 92]) (m_EX_warm E N xs) hM rfl kw_L_55 rfl rfl rfl h0 ⟨_, rfl, rfl⟩ (Nat.le_of_ble_eq_true rfl) (Nat.le_of_ble_eq_true rfl) (Nat.le_of_ble_eq_true rfl) hB (fun v h9 tg9 hp => hp.elim) (fun nm h9 hp => ?_)
  obtain ⟨rfl, rfl⟩ := hp
  exact m_JX_catch (pv := 0) (pre := []) (suf := []) (n := 1) hM (fun U hU => hU) rfl rfl (by decide) (by decide) (fun q hq => nomatch hq) kx_13 ky_13 rfl rfl rfl (by decide) (by decide) rfl (Nat.le_of_ble_eq_true rfl) (Nat.le_of_ble_eq_true rfl) ⟨rfl, rfl, rfl⟩
set_option maxHeartbeats 1000000 in
theorem l_back {a0 : Int32} {r : Int32} {w : Nat → Int64} (h0 : h[0]? = some (.inr (7, fs))) (hB : m_Dt l (m_EX E N xs) E mM_X8_back (d + 12) 0 0 [.ref 0, .int a0] h false (some (.int r)) h1 false) (hw : h1[92]? = some (k_la 1 w)) : m_Dt l (m_EX E N xs) E mM_L_back (d + 13) 0 0 [.ref 0, .int a0, .ref 92] h false (some (.int (nI 0))) (h1.set 92 (k_la 1 (vp_updL w 0 r.toInt64))) false := by
  have hM := mM_L_back_ok
  refine m_Sp_of (by decide) (Nat.le_of_ble_eq_true rfl) ?_
  refine m_J_run hM 4 rfl ⟨trivial, trivial, trivial, trivial, trivial⟩ ?_
  refine m_callV (as := [.int a0]) (rest := [.int (nI 0), .ref 92]) (m_EX_warm E N xs) hM rfl kw_L_58 rfl rfl h0 ⟨_, rfl, rfl⟩ hB rfl (Nat.le_of_ble_eq_true rfl) (Nat.le_of_ble_eq_true rfl) (Nat.le_of_ble_eq_true rfl) (fun ht => absurd ht (by decide)) ?_
  refine m_J_run hM 1 rfl ⟨trivial, trivial⟩ ?_
  refine m_lastN hM rfl hw (by omega) (by omega) ?_
  refine m_J_run hM 2 rfl ⟨trivial, trivial, trivial⟩ ?_
  exact m_iret hM rfl rfl rfl (Nat.le_of_ble_eq_true rfl) (Nat.le_of_ble_eq_true rfl) rfl rfl
set_option maxHeartbeats 1000000 in
theorem l_back_i {a0 : Int32} (h0 : h[0]? = some (.inr (7, fs))) (hB : m_Dx l (m_EX E N xs) E mM_X8_back (d + 12) 1 6 [.ref 0, .int a0] h false "java/lang/IndexOutOfBoundsException" h1) : m_Dt l (m_EX E N xs) E mM_L_back (d + 13) 1 6 [.ref 0, .int a0, .ref 92] h false (some (.int (nI 1))) h1 false := by
  have hM := mM_L_back_ok
  refine m_Sp_of (by decide) (Nat.le_of_ble_eq_true rfl) ?_
  refine m_J_run hM 4 rfl ⟨trivial, trivial, trivial, trivial, trivial⟩ ?_
  refine m_J_callV (as := [.int a0]) (rest := [.int (nI 0), .ref 92]) (m_EX_warm E N xs) hM rfl kw_L_58 rfl rfl rfl h0 ⟨_, rfl, rfl⟩ (Nat.le_of_ble_eq_true rfl) (Nat.le_of_ble_eq_true rfl) (Nat.le_of_ble_eq_true rfl) hB (fun v h9 tg9 hp => hp.elim) (fun nm h9 hp => ?_)
  obtain ⟨rfl, rfl⟩ := hp
  exact m_JX_catchN (pre := []) (suf := []) (n := 1) hM (fun U hU => hU) rfl rfl (by decide) (by decide) (fun q hq => nomatch hq) kx_13 ky_13 rfl rfl rfl (by decide) (by decide) rfl (Nat.le_of_ble_eq_true rfl) (Nat.le_of_ble_eq_true rfl) ⟨rfl, rfl, rfl⟩
end
