/-! THE LAW'S LOOP (written by wip/gen_loop.py) -/
theorem w_and31 (x : Int32) : ∃ k, k < 32 ∧ x &&& nI 31 = nI k := by
  refine ⟨x.toBitVec.toNat % 32, Nat.mod_lt _ (by omega), ?_⟩
  apply Int32.toBitVec_inj.mp
  rw [Int32.toBitVec_and]
  apply BitVec.eq_of_toNat_eq
  rw [BitVec.toNat_and]
  show x.toBitVec.toNat &&& (BitVec.ofNat 32 31).toNat = (BitVec.ofNat 32 (x.toBitVec.toNat % 32)).toNat
  rw [BitVec.toNat_ofNat, BitVec.toNat_ofNat, show 31 % 2 ^ 32 = 2 ^ 5 - 1 by decide, Nat.and_two_pow_sub_one_eq_mod]
  omega
theorem m_J_loose {l : Launch} {EX : State → Prop} {E : mE} {M : mM} {d mc ms : Nat} {PR : Option Value → mH → Bool → Prop} {PX : String → mH → Prop} {kc ks : Nat} {S : mS} (h : m_J l EX E M d mc ms PR PX false kc ks S) : m_J l EX E M d mc ms PR PX true kc ks S := by
  intro p e s m args below meth c H locs ls hX hR hz1 hz2 hlo hL
  exact h p e s m args below meth c H locs ls hX ⟨hR.1, hR.2.1, (fun q => by cases q), hR.2.2.2.1, hR.2.2.2.2⟩ hz1 (fun q => by cases q) hlo hL
section
variable {l : Launch} {E : mE} {N : Nat} {xs : Nat → Int32} {d : Nat}
set_option maxHeartbeats 4000000 in
set_option maxRecDepth 20000 in
theorem Lw_case (hl : l.stackTraces = false) (hN : N ≤ 3072) {i kc ks : Nat} {o5 o6 : Option Value} {H : mH} (hi : i + 5 < N) (hkc : kc + 1 ≤ 601024) (hks : ks + 6 ≤ 7293034) (hI : w_I H) (K : ∀ (H' : mH) (kc' ks' : Nat) (o5 o6 : Option Value), w_I H' → kc' ≤ kc + 1 → ks' ≤ ks + 6 → m_J l (m_EX E N xs) E mM_L_law (d + 14) 601024 7293034 (fun v _ _ => v = some (.int (nI 1))) m_no false kc' ks' (1133, [some (.ref 1000000), some (.ref 0), some (.ref 70), some (.ref 92), some (.int (nI i)), o5, o6], [], H')) : m_J l (m_EX E N xs) E mM_L_law (d + 14) 601024 7293034 (fun v _ _ => v = some (.int (nI 1))) m_no false kc ks (33, [some (.ref 1000000), some (.ref 0), some (.ref 70), some (.ref 92), some (.int (nI i)), o5, o6], [], H) := by
  have hM := mM_L_law_ok
  refine m_J_run hM 2 rfl ⟨trivial, trivial, trivial⟩ ?_
  refine m_J_xld hM rfl (vp_in_nI (by omega) (by omega)) ?_
  rw [nI_clamp (show i < 2 ^ 31 by omega)]
  refine m_J_run hM 2 rfl ⟨trivial, trivial, trivial⟩ ?_
  obtain ⟨k, hk, e⟩ := w_and31 (xs i)
  rw [e]
  obtain ⟨fr, gt, pn, yr, wg, se, sw, n, g, rp, rq, f, so, nx, pl, mL, qL, mS, qS, sb, cnt, fd, bw, F, sqs, bu, wb, th, U, aK, aO, aT, aH, aW, aS, aL, pm, pt, en, bg, fv, mt, ny, pL, sg, bo, wa, gv, bv, of, w, rfl, hC⟩ := hI
  rcases (show k = 0 ∨ k = 1 ∨ k = 2 ∨ k = 3 ∨ k = 4 ∨ k = 5 ∨ k = 6 ∨ k = 7 ∨ k = 8 ∨ k = 9 ∨ k = 10 ∨ k = 11 ∨ k = 12 ∨ k = 13 ∨ k = 14 ∨ k = 15 ∨ k = 16 ∨ k = 17 ∨ k = 18 ∨ k = 19 ∨ k = 20 ∨ k = 21 ∨ k = 22 ∨ k = 23 ∨ k = 24 ∨ k = 25 ∨ k = 26 ∨ k = 27 ∨ k = 28 ∨ k = 29 ∨ k = 30 ∨ k = 31 by omega) with rfl | rfl | rfl | rfl | rfl | rfl | rfl | rfl | rfl | rfl | rfl | rfl | rfl | rfl | rfl | rfl | rfl | rfl | rfl | rfl | rfl | rfl | rfl | rfl | rfl | rfl | rfl | rfl | rfl | rfl | rfl | rfl
  · refine m_J_run hM 1 rfl ⟨by decide, trivial⟩ ?_
    exact C_feed hl hi hN hkc hks hC K
  · refine m_J_run hM 1 rfl ⟨by decide, trivial⟩ ?_
    exact C_end hl hi hN hkc hks hC K
  · refine m_J_run hM 1 rfl ⟨by decide, trivial⟩ ?_
    exact C_use hl hi hN hkc hks hC K
  · refine m_J_run hM 1 rfl ⟨by decide, trivial⟩ ?_
    exact C_soil hl hi hN hkc hks hC K
  · refine m_J_run hM 1 rfl ⟨by decide, trivial⟩ ?_
    exact C_free hl hi hN hkc hks hC K
  · refine m_J_run hM 1 rfl ⟨by decide, trivial⟩ ?_
    exact C_gate hl hi hN hkc hks hC K
  · refine m_J_run hM 1 rfl ⟨by decide, trivial⟩ ?_
    exact C_book hl hi hN hkc hks hC K
  · refine m_J_run hM 1 rfl ⟨by decide, trivial⟩ ?_
    exact C_fault hl hi hN hkc hks hC K
  · refine m_J_run hM 1 rfl ⟨by decide, trivial⟩ ?_
    exact C_worth hl hi hN hkc hks hC K
  · refine m_J_run hM 1 rfl ⟨by decide, trivial⟩ ?_
    exact C_adds hl hi hN hkc hks hC K
  · refine m_J_run hM 1 rfl ⟨by decide, trivial⟩ ?_
    exact C_broken hl hi hN hkc hks hC K
  · refine m_J_run hM 1 rfl ⟨by decide, trivial⟩ ?_
    exact C_years hl hi hN hkc hks hC K
  · refine m_J_run hM 1 rfl ⟨by decide, trivial⟩ ?_
    exact C_can hl hi hN hkc hks hC K
  · refine m_J_run hM 1 rfl ⟨by decide, trivial⟩ ?_
    exact C_best hl hi hN hkc hks hC K
  · refine m_J_run hM 1 rfl ⟨by decide, trivial⟩ ?_
    exact C_given hl hi hN hkc hks hC K
  · refine m_J_run hM 1 rfl ⟨by decide, trivial⟩ ?_
    exact C_take hl hi hN hkc hks hC K
  · refine m_J_run hM 1 rfl ⟨by decide, trivial⟩ ?_
    exact C_cost hl hi hN hkc hks hC K
  · refine m_J_run hM 1 rfl ⟨by decide, trivial⟩ ?_
    exact C_look hl hi hN hkc hks hC K
  · refine m_J_run hM 1 rfl ⟨by decide, trivial⟩ ?_
    exact C_keep hl hi hN hkc hks hC K
  · refine m_J_run hM 1 rfl ⟨by decide, trivial⟩ ?_
    exact C_unlike hl hi hN hkc hks hC K
  · refine m_J_run hM 1 rfl ⟨by decide, trivial⟩ ?_
    exact C_back hl hi hN hkc hks hC K
  · refine m_J_run hM 1 rfl ⟨by decide, trivial⟩ ?_
    exact C_far hl hi hN hkc hks hC K
  · refine m_J_run hM 1 rfl ⟨by decide, trivial⟩ ?_
    exact C_count hl hi hN hkc hks hC K
  · refine m_J_run hM 1 rfl ⟨by decide, trivial⟩ ?_
    exact K _ _ _ _ _ (w_I_mk hC) (by omega) (by omega)
  · refine m_J_run hM 1 rfl ⟨by decide, trivial⟩ ?_
    exact K _ _ _ _ _ (w_I_mk hC) (by omega) (by omega)
  · refine m_J_run hM 1 rfl ⟨by decide, trivial⟩ ?_
    exact K _ _ _ _ _ (w_I_mk hC) (by omega) (by omega)
  · refine m_J_run hM 1 rfl ⟨by decide, trivial⟩ ?_
    exact K _ _ _ _ _ (w_I_mk hC) (by omega) (by omega)
  · refine m_J_run hM 1 rfl ⟨by decide, trivial⟩ ?_
    exact K _ _ _ _ _ (w_I_mk hC) (by omega) (by omega)
  · refine m_J_run hM 1 rfl ⟨by decide, trivial⟩ ?_
    exact K _ _ _ _ _ (w_I_mk hC) (by omega) (by omega)
  · refine m_J_run hM 1 rfl ⟨by decide, trivial⟩ ?_
    exact K _ _ _ _ _ (w_I_mk hC) (by omega) (by omega)
  · refine m_J_run hM 1 rfl ⟨by decide, trivial⟩ ?_
    exact K _ _ _ _ _ (w_I_mk hC) (by omega) (by omega)
  · refine m_J_run hM 1 rfl ⟨by decide, trivial⟩ ?_
    exact K _ _ _ _ _ (w_I_mk hC) (by omega) (by omega)
set_option maxHeartbeats 4000000 in
set_option maxRecDepth 20000 in
theorem Lw_loop (hl : l.stackTraces = false) (hN : N ≤ 3072) : ∀ (m i kc ks : Nat) (o5 o6 : Option Value) (H : mH), N < i + 6 * m + 6 → i ≤ 4000 → kc + m + 1 ≤ 601024 → ks + 6 * m + 6 ≤ 7293034 → w_I H → m_J l (m_EX E N xs) E mM_L_law (d + 14) 601024 7293034 (fun v _ _ => v = some (.int (nI 1))) m_no false kc ks (23, [some (.ref 1000000), some (.ref 0), some (.ref 70), some (.ref 92), some (.int (nI i)), o5, o6], [], H) := by
  have hM := mM_L_law_ok
  intro m
  have EX : ∀ (i kc ks : Nat) (o5 o6 : Option Value) (H : mH), N < i + 6 → i ≤ 4000 → kc ≤ 601024 → ks ≤ 7293034 → m_J l (m_EX E N xs) E mM_L_law (d + 14) 601024 7293034 (fun v _ _ => v = some (.int (nI 1))) m_no false kc ks (23, [some (.ref 1000000), some (.ref 0), some (.ref 70), some (.ref 92), some (.int (nI i)), o5, o6], [], H) := by
    intro i kc ks o5 o6 H h1 h2 h3 h4
    refine m_J_run hM 2 rfl ⟨trivial, trivial, trivial⟩ ?_
    refine m_J_xlen hM rfl ?_
    refine m_J_run hM 3 rfl ⟨trivial, trivial, trivial, trivial⟩ ?_
    have hlt : nI N - nI 6 < nI i := by
      by_cases h6 : 6 ≤ N
      · rw [show nI N - nI 6 = nI (N - 6) from pk_sub h6]; exact nI_lt (by omega) (by omega)
      · have h7 : nI N - nI 6 < 0 := by
          have := (show ∀ n, n < 6 → nI n - nI 6 < 0 by decide +kernel) N (by omega)
          exact this
        exact Int32.lt_of_lt_of_le h7 (nI_pos' (by omega))
    refine m_J_if (fun _ => ?_) (fun hc => absurd hlt hc)
    refine m_J_run hM 1 rfl ⟨trivial, trivial⟩ ?_
    exact m_J_iret hM rfl rfl (by decide) h3 h4 rfl
  induction m with
  | zero => intro i kc ks o5 o6 H h1 h2 h3 h4 hI; exact EX i kc ks o5 o6 H (by omega) h2 (by omega) (by omega)
  | succ m ih =>
    intro i kc ks o5 o6 H h1 h2 h3 h4 hI
    by_cases h6 : N < i + 6
    · exact EX i kc ks o5 o6 H h6 h2 (by omega) (by omega)
    · refine m_J_run hM 2 rfl ⟨trivial, trivial, trivial⟩ ?_
      refine m_J_xlen hM rfl ?_
      refine m_J_run hM 3 rfl ⟨trivial, trivial, trivial, trivial⟩ ?_
      refine m_J_if (fun hc => ?_) (fun _ => ?_)
      · rw [show nI N - nI 6 = nI (N - 6) from pk_sub (by omega)] at hc
        exact absurd hc (nI_nlt (by omega) (by omega))
      · refine Lw_case hl hN (by omega) (by omega) (by omega) hI (fun H' kc' ks' o5 o6 hI' k1 k2 => ?_)
        refine m_J_run hM 2 rfl ⟨trivial, trivial, trivial⟩ ?_
        rw [nI_add i 6]
        exact ih (i + 6) kc' ks' o5 o6 H' (by omega) (by omega) (by omega) (by omega) hI'
theorem w_fu0 : w_fu k_u0 (fun _ => 0) := fun v hv => by
  unfold k_u0
  by_cases e : v = 0
  · subst e
    rw [k_updL_s]
    refine ⟨fun j hj => ?_, fun s hs => ?_⟩
    · by_cases h : j < 64
      · rw [w_b_all h]; exact decide_eq_false (by omega)
      · exact w_b_ge _ (by omega)
    · rw [w_b_all (by omega), decide_eq_true hs]; rfl
  · rw [k_updL_n _ _ e]
    exact ⟨w_ok_0, fun s hs => by rw [w_b_0]; exact (decide_eq_false (fun h => e h.symm)).symm⟩
theorem w_I0 : w_I ((k_U 0 0 0 0 (-nI 1) false false 0 (fun _ => nI 0) 0 (-nI 1) k_u0 (fun _ => nI 0) k_u0 (fun _ => k_u0) 0 (fun _ => k_q0) 0 (fun _ => k_q0) 30 0 false (nI 0) k_u0 (fun _ => 0) k_u0 (fun _ => nI 0) []) ++ k_M (nI 0) (fun _ => nI 0) (fun _ => nI 0) (fun _ => false) 0 0 0 (fun _ => nI 0) (fun _ => nI 0) (fun _ => nI 0) (fun _ => nI 0) (fun _ => nI 0) (fun _ => nI 0) (fun _ => nI 0) 0 (fun _ => nI 0) 0 (fun _ => nI 0) 0 0 0 0 (-nI 1) (fun _ => nI 0) (fun _ => false) (fun _ => nI 0) (fun _ => 0) (fun _ => nI 0) (fun _ => nI 0) (fun _ => nI 0) (fun _ => nI 0) (nI 0) (fun _ => nI 0) [k_la 1 (fun _ => 0)]) := by
  have e1 : (fun _ : Nat => false) = w_b 0 := funext (fun s => (w_b_0 s).symm)
  have e2 : fb_ct (w_b 0) 60 = 0 := fb_ct_zero.mpr (fun k _ => w_b_0 k)
  have hq : k_lok k_q0 := by unfold k_lok k_q0; decide
  have h : w_I ((k_U 0 0 0 0 (-nI 1) false false 0 (fun _ => nI 0) 0 (-nI 1) k_u0 (fun _ => nI 0) k_u0 (fun _ => k_u0) 0 (fun _ => k_q0) 0 (fun _ => k_q0) 30 0 false (nI 0) k_u0 (fun _ => 0) k_u0 (fun _ => nI 0) []) ++ k_M (nI 0) (fun _ => nI 0) (fun _ => nI 0) (w_b 0) (fb_ct (w_b 0) 60) 0 0 (fun _ => nI 0) (fun _ => nI 0) (fun _ => nI 0) (fun _ => nI 0) (fun _ => nI 0) (fun _ => nI 0) (fun _ => nI 0) 0 (fun _ => nI 0) 0 (fun _ => nI 0) 0 0 0 0 (-nI 1) (fun _ => nI 0) (fun _ => false) (fun _ => nI 0) (fun _ => 0) (fun _ => nI 0) (fun _ => nI 0) (fun _ => nI 0) (fun _ => nI 0) (nI 0) (fun _ => nI 0) [k_la 1 (fun _ => 0)]) := w_I_mk (U := fun _ => 0) ⟨⟨w_ok_0, by rw [e2]; omega⟩, by omega, ⟨by omega, fun i hi => absurd hi (Nat.not_lt_zero i)⟩, by omega, ⟨by omega, fun p _ => show k_isb (nI 0) by unfold k_isb; decide⟩, ⟨w_fu0, fun s _ => Nat.zero_lt_succ 4⟩, ⟨⟨by omega, fun i hi => absurd hi (Nat.not_lt_zero i)⟩, fun i _ => hq⟩, ⟨by omega, fun i _ => hq⟩, fun h => absurd h (by decide)⟩
  rw [e2, ← e1] at h
  exact h
set_option maxHeartbeats 8000000 in
set_option maxRecDepth 20000 in
theorem Lw_J (hl : l.stackTraces = false) (hN : N ≤ 3072) : m_J l (m_EX E N xs) E mM_L_law (d + 14) 601024 7293034 (fun v _ _ => v = some (.int (nI 1))) m_no true 0 0 (0, m_ent [.ref 1000000] 7, [], []) := by
  have hM := mM_L_law_ok
  refine m_newC (ci := 7) (K := 14) (fs := [.null, .null, .null, .null, .null, .null, .null, .null, .long 0, .int (nI 0), .int (nI 0), .int (nI 0), .int (nI 0), .int (nI 0)]) hM rfl kn_L_8 rfl rfl rfl (Nat.le_of_ble_eq_true rfl) (Nat.le_of_ble_eq_true rfl) (Nat.le_of_ble_eq_true rfl) ?_
  refine m_J_run hM 1 rfl ⟨trivial, trivial⟩ ?_
  refine m_callI false (as := []) (rest := [.ref 0]) (m_EX_warm E N xs) hM rfl kw_L_61 rfl rfl (c_unit (d := d + 10)) rfl (Nat.le_of_ble_eq_true rfl) (Nat.le_of_ble_eq_true rfl) (Nat.le_of_ble_eq_true rfl) (fun _ => ⟨rfl, by decide⟩) ?_
  refine m_J_run hM 1 rfl ⟨trivial, trivial⟩ ?_
  refine m_newC (ci := 8) (K := 33) (fs := [.int (nI 0), .null, .null, .null, .int (nI 0), .int (nI 0), .int (nI 0), .null, .null, .null, .null, .null, .null, .null, .int (nI 0), .null, .int (nI 0), .null, .int (nI 0), .int (nI 0), .int (nI 0), .int (nI 0), .int (nI 0), .null, .null, .null, .null, .null, .null, .null, .null, .int (nI 0), .null]) hM rfl kn_L_62 rfl rfl rfl (by rw [k_U_len]; decide) (Nat.le_of_ble_eq_true rfl) (Nat.le_of_ble_eq_true rfl) ?_
  rw [k_U_len]
  refine m_J_run hM 1 rfl ⟨trivial, trivial⟩ ?_
  refine m_callI false (as := []) (rest := [.ref 70]) (m_EX_warm E N xs) hM rfl kw_L_64 rfl rfl (y_init (d := d + 13) k_U_len) rfl (Nat.le_of_ble_eq_true rfl) (Nat.le_of_ble_eq_true rfl) (Nat.le_of_ble_eq_true rfl) (fun _ => ⟨rfl, by simp only [List.length_append, k_U_len]; decide⟩) ?_
  refine m_J_run hM 2 rfl ⟨trivial, trivial, trivial⟩ ?_
  refine m_newL (K := 1) hM rfl (by decide) (by rw [List.length_append, k_U_len]; decide) (Nat.le_of_ble_eq_true rfl) (Nat.le_of_ble_eq_true rfl) ?_
  refine m_J_S (S2 := (19, [some (.ref 1000000), some (.ref 0), some (.ref 70), none, none, none, none], [.ref 92], (k_U 0 0 0 0 (-nI 1) false false 0 (fun _ => nI 0) 0 (-nI 1) k_u0 (fun _ => nI 0) k_u0 (fun _ => k_u0) 0 (fun _ => k_q0) 0 (fun _ => k_q0) 30 0 false (nI 0) k_u0 (fun _ => 0) k_u0 (fun _ => nI 0) []) ++ k_M (nI 0) (fun _ => nI 0) (fun _ => nI 0) (fun _ => false) 0 0 0 (fun _ => nI 0) (fun _ => nI 0) (fun _ => nI 0) (fun _ => nI 0) (fun _ => nI 0) (fun _ => nI 0) (fun _ => nI 0) 0 (fun _ => nI 0) 0 (fun _ => nI 0) 0 0 0 0 (-nI 1) (fun _ => nI 0) (fun _ => false) (fun _ => nI 0) (fun _ => 0) (fun _ => nI 0) (fun _ => nI 0) (fun _ => nI 0) (fun _ => nI 0) (nI 0) (fun _ => nI 0) [k_la 1 (fun _ => 0)])) (by rw [List.length_append, k_U_len, List.append_assoc]; rfl) ?_
  refine m_J_run hM 3 rfl ⟨trivial, trivial, trivial, trivial⟩ ?_
  refine m_J_loose ?_
  exact Lw_loop hl hN 600 0 _ _ _ _ _ (by omega) (by omega) (Nat.le_of_ble_eq_true rfl) (Nat.le_of_ble_eq_true rfl) w_I0
end
